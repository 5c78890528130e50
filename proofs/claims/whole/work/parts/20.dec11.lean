theorem dX9_duel_0 : decode cX9_duel 0 = .ok (.aload_n 0, 1) := by decide +kernel
theorem dX9_duel_1 : decode cX9_duel 1 = .ok (.iconst 0, 1) := by decide +kernel
theorem dX9_duel_2 : decode cX9_duel 2 = .ok (.putfield 128, 3) := by decide +kernel
theorem dX9_duel_5 : decode cX9_duel 5 = .ok (.aload_n 0, 1) := by decide +kernel
theorem dX9_duel_6 : decode cX9_duel 6 = .ok (.iload_n 1, 1) := by decide +kernel
theorem dX9_duel_7 : decode cX9_duel 7 = .ok (.iconst 0, 1) := by decide +kernel
theorem dX9_duel_8 : decode cX9_duel 8 = .ok (.bipush 99, 2) := by decide +kernel
theorem dX9_duel_10 : decode cX9_duel 10 = .ok (.invokestatic 162, 3) := by decide +kernel
theorem dX9_duel_13 : decode cX9_duel 13 = .ok (.ifCond .eq 22, 3) := by decide +kernel
theorem dX9_duel_16 : decode cX9_duel 16 = .ok (.iload_n 2, 1) := by decide +kernel
theorem dX9_duel_17 : decode cX9_duel 17 = .ok (.iconst 0, 1) := by decide +kernel
theorem dX9_duel_18 : decode cX9_duel 18 = .ok (.bipush 99, 2) := by decide +kernel
theorem dX9_duel_20 : decode cX9_duel 20 = .ok (.invokestatic 162, 3) := by decide +kernel
theorem dX9_duel_23 : decode cX9_duel 23 = .ok (.ifCond .eq 12, 3) := by decide +kernel
theorem dX9_duel_26 : decode cX9_duel 26 = .ok (.iload_n 3, 1) := by decide +kernel
theorem dX9_duel_27 : decode cX9_duel 27 = .ok (.iconst 0, 1) := by decide +kernel
theorem dX9_duel_28 : decode cX9_duel 28 = .ok (.iconst 2, 1) := by decide +kernel
theorem dX9_duel_29 : decode cX9_duel 29 = .ok (.invokestatic 162, 3) := by decide +kernel
theorem dX9_duel_32 : decode cX9_duel 32 = .ok (.ifCond .ne 7, 3) := by decide +kernel
theorem dX9_duel_35 : decode cX9_duel 35 = .ok (.iconst 1, 1) := by decide +kernel
theorem dX9_duel_36 : decode cX9_duel 36 = .ok (.goto 4, 3) := by decide +kernel
theorem dX9_duel_39 : decode cX9_duel 39 = .ok (.iconst 0, 1) := by decide +kernel
theorem dX9_duel_40 : decode cX9_duel 40 = .ok (.iconst 1, 1) := by decide +kernel
theorem dX9_duel_41 : decode cX9_duel 41 = .ok (.iconst 1, 1) := by decide +kernel
theorem dX9_duel_42 : decode cX9_duel 42 = .ok (.invokevirtual 207, 3) := by decide +kernel
theorem dX9_duel_45 : decode cX9_duel 45 = .ok (.ifCond .eq 5, 3) := by decide +kernel
theorem dX9_duel_48 : decode cX9_duel 48 = .ok (.iconst 0, 1) := by decide +kernel
theorem dX9_duel_49 : decode cX9_duel 49 = .ok (.ireturn, 1) := by decide +kernel
theorem dX9_duel_50 : decode cX9_duel 50 = .ok (.iconst 0, 1) := by decide +kernel
theorem dX9_duel_51 : decode cX9_duel 51 = .ok (.istore 4, 2) := by decide +kernel
theorem dX9_duel_53 : decode cX9_duel 53 = .ok (.iconst (-1), 1) := by decide +kernel
theorem dX9_duel_54 : decode cX9_duel 54 = .ok (.istore 5, 2) := by decide +kernel
theorem dX9_duel_56 : decode cX9_duel 56 = .ok (.iconst 0, 1) := by decide +kernel
theorem dX9_duel_57 : decode cX9_duel 57 = .ok (.istore 6, 2) := by decide +kernel
theorem dX9_duel_59 : decode cX9_duel 59 = .ok (.iconst 0, 1) := by decide +kernel
theorem dX9_duel_60 : decode cX9_duel 60 = .ok (.istore 7, 2) := by decide +kernel
theorem dX9_duel_62 : decode cX9_duel 62 = .ok (.iload 7, 2) := by decide +kernel
theorem dX9_duel_64 : decode cX9_duel 64 = .ok (.iconst 2, 1) := by decide +kernel
theorem dX9_duel_65 : decode cX9_duel 65 = .ok (.if_icmp .ge 105, 3) := by decide +kernel
theorem dX9_duel_68 : decode cX9_duel 68 = .ok (.iconst 0, 1) := by decide +kernel
theorem dX9_duel_69 : decode cX9_duel 69 = .ok (.istore 8, 2) := by decide +kernel
theorem dX9_duel_71 : decode cX9_duel 71 = .ok (.iload 8, 2) := by decide +kernel
theorem dX9_duel_73 : decode cX9_duel 73 = .ok (.iconst 2, 1) := by decide +kernel
theorem dX9_duel_74 : decode cX9_duel 74 = .ok (.if_icmp .ge 90, 3) := by decide +kernel
theorem dX9_duel_77 : decode cX9_duel 77 = .ok (.iload 7, 2) := by decide +kernel
theorem dX9_duel_79 : decode cX9_duel 79 = .ok (.iload 8, 2) := by decide +kernel
theorem dX9_duel_81 : decode cX9_duel 81 = .ok (.iload_n 1, 1) := by decide +kernel
theorem dX9_duel_82 : decode cX9_duel 82 = .ok (.iload_n 2, 1) := by decide +kernel
theorem dX9_duel_83 : decode cX9_duel 83 = .ok (.invokestatic 413, 3) := by decide +kernel
theorem dX9_duel_86 : decode cX9_duel 86 = .ok (.ifCond .eq 72, 3) := by decide +kernel
theorem dX9_duel_89 : decode cX9_duel 89 = .ok (.iload 8, 2) := by decide +kernel
theorem dX9_duel_91 : decode cX9_duel 91 = .ok (.iload 7, 2) := by decide +kernel
theorem dX9_duel_93 : decode cX9_duel 93 = .ok (.iload_n 1, 1) := by decide +kernel
theorem dX9_duel_94 : decode cX9_duel 94 = .ok (.iload_n 2, 1) := by decide +kernel
theorem dX9_duel_95 : decode cX9_duel 95 = .ok (.invokestatic 413, 3) := by decide +kernel
theorem dX9_duel_98 : decode cX9_duel 98 = .ok (.ifCond .ne 6, 3) := by decide +kernel
theorem dX9_duel_101 : decode cX9_duel 101 = .ok (.goto 57, 3) := by decide +kernel
theorem dX9_duel_104 : decode cX9_duel 104 = .ok (.iload 4, 2) := by decide +kernel
theorem dX9_duel_106 : decode cX9_duel 106 = .ok (.ifCond .ne 25, 3) := by decide +kernel
theorem dX9_duel_109 : decode cX9_duel 109 = .ok (.iload 7, 2) := by decide +kernel
theorem dX9_duel_111 : decode cX9_duel 111 = .ok (.iload 8, 2) := by decide +kernel
theorem dX9_duel_113 : decode cX9_duel 113 = .ok (.iload_n 1, 1) := by decide +kernel
theorem dX9_duel_114 : decode cX9_duel 114 = .ok (.iload_n 2, 1) := by decide +kernel
theorem dX9_duel_115 : decode cX9_duel 115 = .ok (.invokestatic 409, 3) := by decide +kernel
theorem dX9_duel_118 : decode cX9_duel 118 = .ok (.iload 8, 2) := by decide +kernel
theorem dX9_duel_120 : decode cX9_duel 120 = .ok (.iload 7, 2) := by decide +kernel
theorem dX9_duel_122 : decode cX9_duel 122 = .ok (.iload_n 1, 1) := by decide +kernel
theorem dX9_duel_123 : decode cX9_duel 123 = .ok (.iload_n 2, 1) := by decide +kernel
theorem dX9_duel_124 : decode cX9_duel 124 = .ok (.invokestatic 409, 3) := by decide +kernel
theorem dX9_duel_127 : decode cX9_duel 127 = .ok (.iadd, 1) := by decide +kernel
theorem dX9_duel_128 : decode cX9_duel 128 = .ok (.goto 5, 3) := by decide +kernel
theorem dX9_duel_131 : decode cX9_duel 131 = .ok (.iload 6, 2) := by decide +kernel
theorem dX9_duel_133 : decode cX9_duel 133 = .ok (.istore 6, 2) := by decide +kernel
theorem dX9_duel_135 : decode cX9_duel 135 = .ok (.iload 4, 2) := by decide +kernel
theorem dX9_duel_137 : decode cX9_duel 137 = .ok (.ifCond .ne 14, 3) := by decide +kernel
theorem dX9_duel_140 : decode cX9_duel 140 = .ok (.bipush 10, 2) := by decide +kernel
theorem dX9_duel_142 : decode cX9_duel 142 = .ok (.iload 7, 2) := by decide +kernel
theorem dX9_duel_144 : decode cX9_duel 144 = .ok (.imul, 1) := by decide +kernel
theorem dX9_duel_145 : decode cX9_duel 145 = .ok (.iload 8, 2) := by decide +kernel
theorem dX9_duel_147 : decode cX9_duel 147 = .ok (.iadd, 1) := by decide +kernel
theorem dX9_duel_148 : decode cX9_duel 148 = .ok (.goto 5, 3) := by decide +kernel
theorem dX9_duel_151 : decode cX9_duel 151 = .ok (.iload 5, 2) := by decide +kernel
theorem dX9_duel_153 : decode cX9_duel 153 = .ok (.istore 5, 2) := by decide +kernel
theorem dX9_duel_155 : decode cX9_duel 155 = .ok (.iinc 4 1, 3) := by decide +kernel
theorem dX9_duel_158 : decode cX9_duel 158 = .ok (.iinc 8 1, 3) := by decide +kernel
theorem dX9_duel_161 : decode cX9_duel 161 = .ok (.goto (-90), 3) := by decide +kernel
theorem dX9_duel_164 : decode cX9_duel 164 = .ok (.iinc 7 1, 3) := by decide +kernel
theorem dX9_duel_167 : decode cX9_duel 167 = .ok (.goto (-105), 3) := by decide +kernel
theorem dX9_duel_170 : decode cX9_duel 170 = .ok (.iload_n 3, 1) := by decide +kernel
theorem dX9_duel_171 : decode cX9_duel 171 = .ok (.ifCond .ne 8, 3) := by decide +kernel
theorem dX9_duel_174 : decode cX9_duel 174 = .ok (.iload 4, 2) := by decide +kernel
theorem dX9_duel_176 : decode cX9_duel 176 = .ok (.goto 15, 3) := by decide +kernel
theorem dX9_duel_179 : decode cX9_duel 179 = .ok (.iload_n 3, 1) := by decide +kernel
theorem dX9_duel_180 : decode cX9_duel 180 = .ok (.iconst 1, 1) := by decide +kernel
theorem dX9_duel_181 : decode cX9_duel 181 = .ok (.if_icmp .ne 8, 3) := by decide +kernel
theorem dX9_duel_184 : decode cX9_duel 184 = .ok (.iload 5, 2) := by decide +kernel
theorem dX9_duel_186 : decode cX9_duel 186 = .ok (.goto 5, 3) := by decide +kernel
theorem dX9_duel_189 : decode cX9_duel 189 = .ok (.iload 6, 2) := by decide +kernel
theorem dX9_duel_191 : decode cX9_duel 191 = .ok (.ireturn, 1) := by decide +kernel
theorem dX9_chance_0 : decode cX9_chance 0 = .ok (.aload_n 0, 1) := by decide +kernel
theorem dX9_chance_1 : decode cX9_chance 1 = .ok (.iconst 0, 1) := by decide +kernel
theorem dX9_chance_2 : decode cX9_chance 2 = .ok (.putfield 128, 3) := by decide +kernel
theorem dX9_chance_5 : decode cX9_chance 5 = .ok (.aload_n 0, 1) := by decide +kernel
theorem dX9_chance_6 : decode cX9_chance 6 = .ok (.iload_n 1, 1) := by decide +kernel
theorem dX9_chance_7 : decode cX9_chance 7 = .ok (.iconst 0, 1) := by decide +kernel
theorem dX9_chance_8 : decode cX9_chance 8 = .ok (.bipush 12, 2) := by decide +kernel
theorem dX9_chance_10 : decode cX9_chance 10 = .ok (.invokestatic 162, 3) := by decide +kernel
theorem dX9_chance_13 : decode cX9_chance 13 = .ok (.ifCond .eq 33, 3) := by decide +kernel
theorem dX9_chance_16 : decode cX9_chance 16 = .ok (.iload_n 2, 1) := by decide +kernel
theorem dX9_chance_17 : decode cX9_chance 17 = .ok (.iconst 0, 1) := by decide +kernel
theorem dX9_chance_18 : decode cX9_chance 18 = .ok (.bipush 13, 2) := by decide +kernel
theorem dX9_chance_20 : decode cX9_chance 20 = .ok (.invokestatic 162, 3) := by decide +kernel
theorem dX9_chance_23 : decode cX9_chance 23 = .ok (.ifCond .eq 23, 3) := by decide +kernel
theorem dX9_chance_26 : decode cX9_chance 26 = .ok (.iload_n 3, 1) := by decide +kernel
theorem dX9_chance_27 : decode cX9_chance 27 = .ok (.iconst 0, 1) := by decide +kernel
theorem dX9_chance_28 : decode cX9_chance 28 = .ok (.bipush 16, 2) := by decide +kernel
theorem dX9_chance_30 : decode cX9_chance 30 = .ok (.invokestatic 162, 3) := by decide +kernel
theorem dX9_chance_33 : decode cX9_chance 33 = .ok (.ifCond .eq 13, 3) := by decide +kernel
theorem dX9_chance_36 : decode cX9_chance 36 = .ok (.iload 4, 2) := by decide +kernel
theorem dX9_chance_38 : decode cX9_chance 38 = .ok (.iconst 0, 1) := by decide +kernel
theorem dX9_chance_39 : decode cX9_chance 39 = .ok (.iconst 1, 1) := by decide +kernel
theorem dX9_chance_40 : decode cX9_chance 40 = .ok (.invokestatic 162, 3) := by decide +kernel
theorem dX9_chance_43 : decode cX9_chance 43 = .ok (.ifCond .ne 7, 3) := by decide +kernel
theorem dX9_chance_46 : decode cX9_chance 46 = .ok (.iconst 1, 1) := by decide +kernel
theorem dX9_chance_47 : decode cX9_chance 47 = .ok (.goto 4, 3) := by decide +kernel
theorem dX9_chance_50 : decode cX9_chance 50 = .ok (.iconst 0, 1) := by decide +kernel
theorem dX9_chance_51 : decode cX9_chance 51 = .ok (.iconst 1, 1) := by decide +kernel
theorem dX9_chance_52 : decode cX9_chance 52 = .ok (.iconst 1, 1) := by decide +kernel
theorem dX9_chance_53 : decode cX9_chance 53 = .ok (.invokevirtual 207, 3) := by decide +kernel
theorem dX9_chance_56 : decode cX9_chance 56 = .ok (.ifCond .eq 5, 3) := by decide +kernel
theorem dX9_chance_59 : decode cX9_chance 59 = .ok (.lconst 0, 1) := by decide +kernel
theorem dX9_chance_60 : decode cX9_chance 60 = .ok (.lreturn, 1) := by decide +kernel
theorem dX9_chance_61 : decode cX9_chance 61 = .ok (.iconst 0, 1) := by decide +kernel
theorem dX9_chance_62 : decode cX9_chance 62 = .ok (.istore 5, 2) := by decide +kernel
theorem dX9_chance_64 : decode cX9_chance 64 = .ok (.iload 5, 2) := by decide +kernel
theorem dX9_chance_66 : decode cX9_chance 66 = .ok (.bipush 14, 2) := by decide +kernel
theorem dX9_chance_68 : decode cX9_chance 68 = .ok (.if_icmp .ge 26, 3) := by decide +kernel
theorem dX9_chance_71 : decode cX9_chance 71 = .ok (.aload_n 0, 1) := by decide +kernel
theorem dX9_chance_72 : decode cX9_chance 72 = .ok (.getfield 110, 3) := by decide +kernel
theorem dX9_chance_75 : decode cX9_chance 75 = .ok (.iload 5, 2) := by decide +kernel
theorem dX9_chance_77 : decode cX9_chance 77 = .ok (.iload 5, 2) := by decide +kernel
theorem dX9_chance_79 : decode cX9_chance 79 = .ok (.ifCond .ne 7, 3) := by decide +kernel
theorem dX9_chance_82 : decode cX9_chance 82 = .ok (.lconst 1, 1) := by decide +kernel
theorem dX9_chance_83 : decode cX9_chance 83 = .ok (.goto 4, 3) := by decide +kernel
theorem dX9_chance_86 : decode cX9_chance 86 = .ok (.lconst 0, 1) := by decide +kernel
theorem dX9_chance_87 : decode cX9_chance 87 = .ok (.lastore, 1) := by decide +kernel
theorem dX9_chance_88 : decode cX9_chance 88 = .ok (.iinc 5 1, 3) := by decide +kernel
theorem dX9_chance_91 : decode cX9_chance 91 = .ok (.goto (-27), 3) := by decide +kernel
theorem dX9_chance_94 : decode cX9_chance 94 = .ok (.iconst 0, 1) := by decide +kernel
theorem dX9_chance_95 : decode cX9_chance 95 = .ok (.istore 5, 2) := by decide +kernel
theorem dX9_chance_97 : decode cX9_chance 97 = .ok (.iload 5, 2) := by decide +kernel
theorem dX9_chance_99 : decode cX9_chance 99 = .ok (.iload_n 1, 1) := by decide +kernel
theorem dX9_chance_100 : decode cX9_chance 100 = .ok (.if_icmp .ge 66, 3) := by decide +kernel
theorem dX9_chance_103 : decode cX9_chance 103 = .ok (.bipush 13, 2) := by decide +kernel
theorem dX9_chance_105 : decode cX9_chance 105 = .ok (.istore 6, 2) := by decide +kernel
theorem dX9_chance_107 : decode cX9_chance 107 = .ok (.iload 6, 2) := by decide +kernel
theorem dX9_chance_109 : decode cX9_chance 109 = .ok (.ifCond .lt 51, 3) := by decide +kernel
theorem dX9_chance_112 : decode cX9_chance 112 = .ok (.aload_n 0, 1) := by decide +kernel
theorem dX9_chance_113 : decode cX9_chance 113 = .ok (.getfield 110, 3) := by decide +kernel
theorem dX9_chance_116 : decode cX9_chance 116 = .ok (.iload 6, 2) := by decide +kernel
theorem dX9_chance_118 : decode cX9_chance 118 = .ok (.aload_n 0, 1) := by decide +kernel
theorem dX9_chance_119 : decode cX9_chance 119 = .ok (.getfield 110, 3) := by decide +kernel
theorem dX9_chance_122 : decode cX9_chance 122 = .ok (.iload 6, 2) := by decide +kernel
theorem dX9_chance_124 : decode cX9_chance 124 = .ok (.laload, 1) := by decide +kernel
theorem dX9_chance_125 : decode cX9_chance 125 = .ok (.iload_n 3, 1) := by decide +kernel
theorem dX9_chance_126 : decode cX9_chance 126 = .ok (.i2l, 1) := by decide +kernel
theorem dX9_chance_127 : decode cX9_chance 127 = .ok (.lmul, 1) := by decide +kernel
theorem dX9_chance_128 : decode cX9_chance 128 = .ok (.iload 6, 2) := by decide +kernel
theorem dX9_chance_130 : decode cX9_chance 130 = .ok (.ifCond .le 21, 3) := by decide +kernel
theorem dX9_chance_133 : decode cX9_chance 133 = .ok (.aload_n 0, 1) := by decide +kernel
theorem dX9_chance_134 : decode cX9_chance 134 = .ok (.getfield 110, 3) := by decide +kernel
theorem dX9_chance_137 : decode cX9_chance 137 = .ok (.iload 6, 2) := by decide +kernel
theorem dX9_chance_139 : decode cX9_chance 139 = .ok (.iconst 1, 1) := by decide +kernel
theorem dX9_chance_140 : decode cX9_chance 140 = .ok (.isub, 1) := by decide +kernel
theorem dX9_chance_141 : decode cX9_chance 141 = .ok (.laload, 1) := by decide +kernel
theorem dX9_chance_142 : decode cX9_chance 142 = .ok (.bipush 16, 2) := by decide +kernel
theorem dX9_chance_144 : decode cX9_chance 144 = .ok (.iload_n 3, 1) := by decide +kernel
theorem dX9_chance_145 : decode cX9_chance 145 = .ok (.isub, 1) := by decide +kernel
theorem dX9_chance_146 : decode cX9_chance 146 = .ok (.i2l, 1) := by decide +kernel
theorem dX9_chance_147 : decode cX9_chance 147 = .ok (.lmul, 1) := by decide +kernel
theorem dX9_chance_148 : decode cX9_chance 148 = .ok (.goto 4, 3) := by decide +kernel
theorem dX9_chance_151 : decode cX9_chance 151 = .ok (.lconst 0, 1) := by decide +kernel
theorem dX9_chance_152 : decode cX9_chance 152 = .ok (.ladd, 1) := by decide +kernel
theorem dX9_chance_153 : decode cX9_chance 153 = .ok (.lastore, 1) := by decide +kernel
theorem dX9_chance_154 : decode cX9_chance 154 = .ok (.iinc 6 (-1), 3) := by decide +kernel
theorem dX9_chance_157 : decode cX9_chance 157 = .ok (.goto (-50), 3) := by decide +kernel
theorem dX9_chance_160 : decode cX9_chance 160 = .ok (.iinc 5 1, 3) := by decide +kernel
theorem dX9_chance_163 : decode cX9_chance 163 = .ok (.goto (-66), 3) := by decide +kernel
theorem dX9_chance_166 : decode cX9_chance 166 = .ok (.lconst 0, 1) := by decide +kernel
theorem dX9_chance_167 : decode cX9_chance 167 = .ok (.lstore 5, 2) := by decide +kernel
theorem dX9_chance_169 : decode cX9_chance 169 = .ok (.lconst 1, 1) := by decide +kernel
theorem dX9_chance_170 : decode cX9_chance 170 = .ok (.iconst 4, 1) := by decide +kernel
theorem dX9_chance_171 : decode cX9_chance 171 = .ok (.iload_n 1, 1) := by decide +kernel
theorem dX9_chance_172 : decode cX9_chance 172 = .ok (.imul, 1) := by decide +kernel
theorem dX9_chance_173 : decode cX9_chance 173 = .ok (.lshl, 1) := by decide +kernel
theorem dX9_chance_174 : decode cX9_chance 174 = .ok (.lstore 7, 2) := by decide +kernel
theorem dX9_chance_176 : decode cX9_chance 176 = .ok (.iload_n 2, 1) := by decide +kernel
theorem dX9_chance_177 : decode cX9_chance 177 = .ok (.istore 9, 2) := by decide +kernel
theorem dX9_chance_179 : decode cX9_chance 179 = .ok (.iload 9, 2) := by decide +kernel
theorem dX9_chance_181 : decode cX9_chance 181 = .ok (.bipush 14, 2) := by decide +kernel
theorem dX9_chance_183 : decode cX9_chance 183 = .ok (.if_icmp .ge 21, 3) := by decide +kernel
theorem dX9_chance_186 : decode cX9_chance 186 = .ok (.lload 5, 2) := by decide +kernel
theorem dX9_chance_188 : decode cX9_chance 188 = .ok (.aload_n 0, 1) := by decide +kernel
theorem dX9_chance_189 : decode cX9_chance 189 = .ok (.getfield 110, 3) := by decide +kernel
theorem dX9_chance_192 : decode cX9_chance 192 = .ok (.iload 9, 2) := by decide +kernel
theorem dX9_chance_194 : decode cX9_chance 194 = .ok (.laload, 1) := by decide +kernel
theorem dX9_chance_195 : decode cX9_chance 195 = .ok (.ladd, 1) := by decide +kernel
theorem dX9_chance_196 : decode cX9_chance 196 = .ok (.lstore 5, 2) := by decide +kernel
theorem dX9_chance_198 : decode cX9_chance 198 = .ok (.iinc 9 1, 3) := by decide +kernel
theorem dX9_chance_201 : decode cX9_chance 201 = .ok (.goto (-22), 3) := by decide +kernel
theorem dX9_chance_204 : decode cX9_chance 204 = .ok (.lload 7, 2) := by decide +kernel
theorem dX9_chance_206 : decode cX9_chance 206 = .ok (.lstore 9, 2) := by decide +kernel
theorem dX9_chance_208 : decode cX9_chance 208 = .ok (.lload 5, 2) := by decide +kernel
theorem dX9_chance_210 : decode cX9_chance 210 = .ok (.lstore 11, 2) := by decide +kernel
theorem dX9_chance_212 : decode cX9_chance 212 = .ok (.lload 11, 2) := by decide +kernel
theorem dX9_chance_214 : decode cX9_chance 214 = .ok (.lconst 0, 1) := by decide +kernel
theorem dX9_chance_215 : decode cX9_chance 215 = .ok (.lcmp, 1) := by decide +kernel
theorem dX9_chance_216 : decode cX9_chance 216 = .ok (.ifCond .eq 21, 3) := by decide +kernel
theorem dX9_chance_219 : decode cX9_chance 219 = .ok (.lload 9, 2) := by decide +kernel
theorem dX9_chance_221 : decode cX9_chance 221 = .ok (.lload 11, 2) := by decide +kernel
theorem dX9_chance_223 : decode cX9_chance 223 = .ok (.lrem, 1) := by decide +kernel
theorem dX9_chance_224 : decode cX9_chance 224 = .ok (.lstore 13, 2) := by decide +kernel
theorem dX9_chance_226 : decode cX9_chance 226 = .ok (.lload 11, 2) := by decide +kernel
theorem dX9_chance_228 : decode cX9_chance 228 = .ok (.lstore 9, 2) := by decide +kernel
theorem dX9_chance_230 : decode cX9_chance 230 = .ok (.lload 13, 2) := by decide +kernel
theorem dX9_chance_232 : decode cX9_chance 232 = .ok (.lstore 11, 2) := by decide +kernel
theorem dX9_chance_234 : decode cX9_chance 234 = .ok (.goto (-22), 3) := by decide +kernel
theorem dX9_chance_237 : decode cX9_chance 237 = .ok (.iload 4, 2) := by decide +kernel
theorem dX9_chance_239 : decode cX9_chance 239 = .ok (.ifCond .ne 11, 3) := by decide +kernel
theorem dX9_chance_242 : decode cX9_chance 242 = .ok (.lload 5, 2) := by decide +kernel
theorem dX9_chance_244 : decode cX9_chance 244 = .ok (.lload 9, 2) := by decide +kernel
theorem dX9_chance_246 : decode cX9_chance 246 = .ok (.ldiv, 1) := by decide +kernel
theorem dX9_chance_247 : decode cX9_chance 247 = .ok (.goto 8, 3) := by decide +kernel
theorem dX9_chance_250 : decode cX9_chance 250 = .ok (.lload 7, 2) := by decide +kernel
theorem dX9_chance_252 : decode cX9_chance 252 = .ok (.lload 9, 2) := by decide +kernel
theorem dX9_chance_254 : decode cX9_chance 254 = .ok (.ldiv, 1) := by decide +kernel
theorem dX9_chance_255 : decode cX9_chance 255 = .ok (.lreturn, 1) := by decide +kernel
theorem dX9_givenBy_0 : decode cX9_givenBy 0 = .ok (.iconst 0, 1) := by decide +kernel
theorem dX9_givenBy_1 : decode cX9_givenBy 1 = .ok (.istore_n 3, 1) := by decide +kernel
theorem dX9_givenBy_2 : decode cX9_givenBy 2 = .ok (.iconst 0, 1) := by decide +kernel
theorem dX9_givenBy_3 : decode cX9_givenBy 3 = .ok (.istore 4, 2) := by decide +kernel
theorem dX9_givenBy_5 : decode cX9_givenBy 5 = .ok (.iload 4, 2) := by decide +kernel
theorem dX9_givenBy_7 : decode cX9_givenBy 7 = .ok (.aload_n 0, 1) := by decide +kernel
theorem dX9_givenBy_8 : decode cX9_givenBy 8 = .ok (.getfield 223, 3) := by decide +kernel
theorem dX9_givenBy_11 : decode cX9_givenBy 11 = .ok (.if_icmp .ge 39, 3) := by decide +kernel
theorem dX9_givenBy_14 : decode cX9_givenBy 14 = .ok (.iload_n 3, 1) := by decide +kernel
theorem dX9_givenBy_15 : decode cX9_givenBy 15 = .ok (.iload_n 1, 1) := by decide +kernel
theorem dX9_givenBy_16 : decode cX9_givenBy 16 = .ok (.iload 4, 2) := by decide +kernel
theorem dX9_givenBy_18 : decode cX9_givenBy 18 = .ok (.invokestatic 317, 3) := by decide +kernel
theorem dX9_givenBy_21 : decode cX9_givenBy 21 = .ok (.ifCond .eq 20, 3) := by decide +kernel
theorem dX9_givenBy_24 : decode cX9_givenBy 24 = .ok (.iload_n 2, 1) := by decide +kernel
theorem dX9_givenBy_25 : decode cX9_givenBy 25 = .ok (.aload_n 0, 1) := by decide +kernel
theorem dX9_givenBy_26 : decode cX9_givenBy 26 = .ok (.aload_n 0, 1) := by decide +kernel
theorem dX9_givenBy_27 : decode cX9_givenBy 27 = .ok (.getfield 58, 3) := by decide +kernel
theorem dX9_givenBy_30 : decode cX9_givenBy 30 = .ok (.iload 4, 2) := by decide +kernel
theorem dX9_givenBy_32 : decode cX9_givenBy 32 = .ok (.invokevirtual 298, 3) := by decide +kernel
theorem dX9_givenBy_35 : decode cX9_givenBy 35 = .ok (.invokestatic 273, 3) := by decide +kernel
theorem dX9_givenBy_38 : decode cX9_givenBy 38 = .ok (.goto 4, 3) := by decide +kernel
theorem dX9_givenBy_41 : decode cX9_givenBy 41 = .ok (.iconst 0, 1) := by decide +kernel
theorem dX9_givenBy_42 : decode cX9_givenBy 42 = .ok (.iadd, 1) := by decide +kernel
theorem dX9_givenBy_43 : decode cX9_givenBy 43 = .ok (.istore_n 3, 1) := by decide +kernel
theorem dX9_givenBy_44 : decode cX9_givenBy 44 = .ok (.iinc 4 1, 3) := by decide +kernel
theorem dX9_givenBy_47 : decode cX9_givenBy 47 = .ok (.goto (-42), 3) := by decide +kernel
theorem dX9_givenBy_50 : decode cX9_givenBy 50 = .ok (.iload_n 3, 1) := by decide +kernel
theorem dX9_givenBy_51 : decode cX9_givenBy 51 = .ok (.ireturn, 1) := by decide +kernel
theorem dX9_share_0 : decode cX9_share 0 = .ok (.aload_n 0, 1) := by decide +kernel
theorem dX9_share_1 : decode cX9_share 1 = .ok (.iconst 0, 1) := by decide +kernel
theorem dX9_share_2 : decode cX9_share 2 = .ok (.putfield 128, 3) := by decide +kernel
theorem dX9_share_5 : decode cX9_share 5 = .ok (.aload_n 0, 1) := by decide +kernel
theorem dX9_share_6 : decode cX9_share 6 = .ok (.aload_n 0, 1) := by decide +kernel
theorem dX9_share_7 : decode cX9_share 7 = .ok (.iload_n 1, 1) := by decide +kernel
theorem dX9_share_8 : decode cX9_share 8 = .ok (.invokevirtual 377, 3) := by decide +kernel
theorem dX9_share_11 : decode cX9_share 11 = .ok (.ifCond .ne 7, 3) := by decide +kernel
theorem dX9_share_14 : decode cX9_share 14 = .ok (.iconst 1, 1) := by decide +kernel
theorem dX9_share_15 : decode cX9_share 15 = .ok (.goto 4, 3) := by decide +kernel
theorem dX9_share_18 : decode cX9_share 18 = .ok (.iconst 0, 1) := by decide +kernel
theorem dX9_share_19 : decode cX9_share 19 = .ok (.iconst 1, 1) := by decide +kernel
theorem dX9_share_20 : decode cX9_share 20 = .ok (.iconst 0, 1) := by decide +kernel
theorem dX9_share_21 : decode cX9_share 21 = .ok (.invokevirtual 207, 3) := by decide +kernel
theorem dX9_share_24 : decode cX9_share 24 = .ok (.ifCond .ne 40, 3) := by decide +kernel
theorem dX9_share_27 : decode cX9_share 27 = .ok (.aload_n 0, 1) := by decide +kernel
theorem dX9_share_28 : decode cX9_share 28 = .ok (.iload_n 2, 1) := by decide +kernel
theorem dX9_share_29 : decode cX9_share 29 = .ok (.iconst 0, 1) := by decide +kernel
theorem dX9_share_30 : decode cX9_share 30 = .ok (.aload_n 0, 1) := by decide +kernel
theorem dX9_share_31 : decode cX9_share 31 = .ok (.invokevirtual 403, 3) := by decide +kernel
theorem dX9_share_34 : decode cX9_share 34 = .ok (.invokestatic 162, 3) := by decide +kernel
theorem dX9_share_37 : decode cX9_share 37 = .ok (.ifCond .eq 14, 3) := by decide +kernel
theorem dX9_share_40 : decode cX9_share 40 = .ok (.iload_n 3, 1) := by decide +kernel
theorem dX9_share_41 : decode cX9_share 41 = .ok (.iconst 0, 1) := by decide +kernel
theorem dX9_share_42 : decode cX9_share 42 = .ok (.sipush 200, 3) := by decide +kernel
theorem dX9_share_45 : decode cX9_share 45 = .ok (.invokestatic 162, 3) := by decide +kernel
theorem dX9_share_48 : decode cX9_share 48 = .ok (.ifCond .ne 7, 3) := by decide +kernel
theorem dX9_share_51 : decode cX9_share 51 = .ok (.iconst 1, 1) := by decide +kernel
theorem dX9_share_52 : decode cX9_share 52 = .ok (.goto 4, 3) := by decide +kernel
theorem dX9_share_55 : decode cX9_share 55 = .ok (.iconst 0, 1) := by decide +kernel
theorem dX9_share_56 : decode cX9_share 56 = .ok (.iconst 2, 1) := by decide +kernel
theorem dX9_share_57 : decode cX9_share 57 = .ok (.iconst 1, 1) := by decide +kernel
theorem dX9_share_58 : decode cX9_share 58 = .ok (.invokevirtual 207, 3) := by decide +kernel
theorem dX9_share_61 : decode cX9_share 61 = .ok (.ifCond .eq 5, 3) := by decide +kernel
theorem dX9_share_64 : decode cX9_share 64 = .ok (.iconst 0, 1) := by decide +kernel
theorem dX9_share_65 : decode cX9_share 65 = .ok (.ireturn, 1) := by decide +kernel
theorem dX9_share_66 : decode cX9_share 66 = .ok (.iconst 0, 1) := by decide +kernel
theorem dX9_share_67 : decode cX9_share 67 = .ok (.istore 4, 2) := by decide +kernel
theorem dX9_share_69 : decode cX9_share 69 = .ok (.iload 4, 2) := by decide +kernel
theorem dX9_share_71 : decode cX9_share 71 = .ok (.bipush 8, 2) := by decide +kernel
theorem dX9_share_73 : decode cX9_share 73 = .ok (.if_icmp .ge 22, 3) := by decide +kernel
theorem dX9_share_76 : decode cX9_share 76 = .ok (.aload_n 0, 1) := by decide +kernel
theorem dX9_share_77 : decode cX9_share 77 = .ok (.iload_n 2, 1) := by decide +kernel
theorem dX9_share_78 : decode cX9_share 78 = .ok (.iload 4, 2) := by decide +kernel
theorem dX9_share_80 : decode cX9_share 80 = .ok (.iconst 1, 1) := by decide +kernel
theorem dX9_share_81 : decode cX9_share 81 = .ok (.iadd, 1) := by decide +kernel
theorem dX9_share_82 : decode cX9_share 82 = .ok (.invokevirtual 417, 3) := by decide +kernel
theorem dX9_share_85 : decode cX9_share 85 = .ok (.iload_n 3, 1) := by decide +kernel
theorem dX9_share_86 : decode cX9_share 86 = .ok (.if_icmp .gt 9, 3) := by decide +kernel
theorem dX9_share_89 : decode cX9_share 89 = .ok (.iinc 4 1, 3) := by decide +kernel
theorem dX9_share_92 : decode cX9_share 92 = .ok (.goto (-23), 3) := by decide +kernel
theorem dX9_share_95 : decode cX9_share 95 = .ok (.iload_n 2, 1) := by decide +kernel
theorem dX9_share_96 : decode cX9_share 96 = .ok (.iload_n 1, 1) := by decide +kernel
theorem dX9_share_97 : decode cX9_share 97 = .ok (.invokestatic 317, 3) := by decide +kernel
theorem dX9_share_100 : decode cX9_share 100 = .ok (.ifCond .eq 20, 3) := by decide +kernel
theorem dX9_share_103 : decode cX9_share 103 = .ok (.iload 4, 2) := by decide +kernel
theorem dX9_share_105 : decode cX9_share 105 = .ok (.aload_n 0, 1) := by decide +kernel
theorem dX9_share_106 : decode cX9_share 106 = .ok (.aload_n 0, 1) := by decide +kernel
theorem dX9_share_107 : decode cX9_share 107 = .ok (.getfield 58, 3) := by decide +kernel
theorem dX9_share_110 : decode cX9_share 110 = .ok (.iload_n 1, 1) := by decide +kernel
theorem dX9_share_111 : decode cX9_share 111 = .ok (.invokevirtual 298, 3) := by decide +kernel
theorem dX9_share_114 : decode cX9_share 114 = .ok (.invokestatic 273, 3) := by decide +kernel
theorem dX9_share_117 : decode cX9_share 117 = .ok (.goto 4, 3) := by decide +kernel
theorem dX9_share_120 : decode cX9_share 120 = .ok (.iconst 0, 1) := by decide +kernel
theorem dX9_share_121 : decode cX9_share 121 = .ok (.ireturn, 1) := by decide +kernel
theorem dX9_often_0 : decode cX9_often 0 = .ok (.aload_n 0, 1) := by decide +kernel
theorem dX9_often_1 : decode cX9_often 1 = .ok (.iconst 0, 1) := by decide +kernel
theorem dX9_often_2 : decode cX9_often 2 = .ok (.putfield 128, 3) := by decide +kernel
theorem dX9_often_5 : decode cX9_often 5 = .ok (.aload_n 0, 1) := by decide +kernel
theorem dX9_often_6 : decode cX9_often 6 = .ok (.iload_n 1, 1) := by decide +kernel
theorem dX9_often_7 : decode cX9_often 7 = .ok (.iconst 0, 1) := by decide +kernel
theorem dX9_often_8 : decode cX9_often 8 = .ok (.iconst 1, 1) := by decide +kernel
theorem dX9_often_9 : decode cX9_often 9 = .ok (.invokestatic 162, 3) := by decide +kernel
theorem dX9_often_12 : decode cX9_often 12 = .ok (.ifCond .ne 7, 3) := by decide +kernel
theorem dX9_often_15 : decode cX9_often 15 = .ok (.iconst 1, 1) := by decide +kernel
theorem dX9_often_16 : decode cX9_often 16 = .ok (.goto 4, 3) := by decide +kernel
theorem dX9_often_19 : decode cX9_often 19 = .ok (.iconst 0, 1) := by decide +kernel
theorem dX9_often_20 : decode cX9_often 20 = .ok (.iconst 1, 1) := by decide +kernel
theorem dX9_often_21 : decode cX9_often 21 = .ok (.iconst 1, 1) := by decide +kernel
theorem dX9_often_22 : decode cX9_often 22 = .ok (.invokevirtual 207, 3) := by decide +kernel
theorem dX9_often_25 : decode cX9_often 25 = .ok (.ifCond .eq 5, 3) := by decide +kernel
theorem dX9_often_28 : decode cX9_often 28 = .ok (.iconst 0, 1) := by decide +kernel
theorem dX9_often_29 : decode cX9_often 29 = .ok (.ireturn, 1) := by decide +kernel
theorem dX9_often_30 : decode cX9_often 30 = .ok (.iconst 0, 1) := by decide +kernel
theorem dX9_often_31 : decode cX9_often 31 = .ok (.istore_n 2, 1) := by decide +kernel
theorem dX9_often_32 : decode cX9_often 32 = .ok (.iload_n 2, 1) := by decide +kernel
theorem dX9_often_33 : decode cX9_often 33 = .ok (.bipush 16, 2) := by decide +kernel
theorem dX9_often_35 : decode cX9_often 35 = .ok (.if_icmp .ge 16, 3) := by decide +kernel
theorem dX9_often_38 : decode cX9_often 38 = .ok (.aload_n 0, 1) := by decide +kernel
theorem dX9_often_39 : decode cX9_often 39 = .ok (.getfield 113, 3) := by decide +kernel
theorem dX9_often_42 : decode cX9_often 42 = .ok (.iload_n 2, 1) := by decide +kernel
theorem dX9_often_43 : decode cX9_often 43 = .ok (.iconst 0, 1) := by decide +kernel
theorem dX9_often_44 : decode cX9_often 44 = .ok (.iastore, 1) := by decide +kernel
theorem dX9_often_45 : decode cX9_often 45 = .ok (.iinc 2 1, 3) := by decide +kernel
theorem dX9_often_48 : decode cX9_often 48 = .ok (.goto (-16), 3) := by decide +kernel
theorem dX9_often_51 : decode cX9_often 51 = .ok (.aload_n 0, 1) := by decide +kernel
theorem dX9_often_52 : decode cX9_often 52 = .ok (.invokevirtual 380, 3) := by decide +kernel
theorem dX9_often_55 : decode cX9_often 55 = .ok (.istore_n 2, 1) := by decide +kernel
theorem dX9_often_56 : decode cX9_often 56 = .ok (.iconst (-1), 1) := by decide +kernel
theorem dX9_often_57 : decode cX9_often 57 = .ok (.istore_n 3, 1) := by decide +kernel
theorem dX9_often_58 : decode cX9_often 58 = .ok (.iconst 0, 1) := by decide +kernel
theorem dX9_often_59 : decode cX9_often 59 = .ok (.istore 4, 2) := by decide +kernel
theorem dX9_often_61 : decode cX9_often 61 = .ok (.iload 4, 2) := by decide +kernel
theorem dX9_often_63 : decode cX9_often 63 = .ok (.iload_n 2, 1) := by decide +kernel
theorem dX9_often_64 : decode cX9_often 64 = .ok (.if_icmp .ge 33, 3) := by decide +kernel
theorem dX9_often_67 : decode cX9_often 67 = .ok (.aload_n 0, 1) := by decide +kernel
theorem dX9_often_68 : decode cX9_often 68 = .ok (.getfield 113, 3) := by decide +kernel
theorem dX9_often_71 : decode cX9_often 71 = .ok (.aload_n 0, 1) := by decide +kernel
theorem dX9_often_72 : decode cX9_often 72 = .ok (.getfield 70, 3) := by decide +kernel
theorem dX9_often_75 : decode cX9_often 75 = .ok (.iload 4, 2) := by decide +kernel
theorem dX9_often_77 : decode cX9_often 77 = .ok (.iaload, 1) := by decide +kernel
theorem dX9_often_78 : decode cX9_often 78 = .ok (.dup2, 1) := by decide +kernel
theorem dX9_often_79 : decode cX9_often 79 = .ok (.iaload, 1) := by decide +kernel
theorem dX9_often_80 : decode cX9_often 80 = .ok (.iconst 1, 1) := by decide +kernel
theorem dX9_often_81 : decode cX9_often 81 = .ok (.aload_n 0, 1) := by decide +kernel
theorem dX9_often_82 : decode cX9_often 82 = .ok (.getfield 73, 3) := by decide +kernel
theorem dX9_often_85 : decode cX9_often 85 = .ok (.iload 4, 2) := by decide +kernel
theorem dX9_often_87 : decode cX9_often 87 = .ok (.iaload, 1) := by decide +kernel
theorem dX9_often_88 : decode cX9_often 88 = .ok (.isub, 1) := by decide +kernel
theorem dX9_often_89 : decode cX9_often 89 = .ok (.iadd, 1) := by decide +kernel
theorem dX9_often_90 : decode cX9_often 90 = .ok (.iastore, 1) := by decide +kernel
theorem dX9_often_91 : decode cX9_often 91 = .ok (.iinc 4 1, 3) := by decide +kernel
theorem dX9_often_94 : decode cX9_often 94 = .ok (.goto (-33), 3) := by decide +kernel
theorem dX9_often_97 : decode cX9_often 97 = .ok (.iconst 0, 1) := by decide +kernel
theorem dX9_often_98 : decode cX9_often 98 = .ok (.istore 4, 2) := by decide +kernel
theorem dX9_often_100 : decode cX9_often 100 = .ok (.iload 4, 2) := by decide +kernel
theorem dX9_often_102 : decode cX9_often 102 = .ok (.bipush 16, 2) := by decide +kernel
theorem dX9_often_104 : decode cX9_often 104 = .ok (.if_icmp .ge 47, 3) := by decide +kernel
theorem dX9_often_107 : decode cX9_often 107 = .ok (.aload_n 0, 1) := by decide +kernel
theorem dX9_often_108 : decode cX9_often 108 = .ok (.getfield 113, 3) := by decide +kernel
theorem dX9_often_111 : decode cX9_often 111 = .ok (.iload 4, 2) := by decide +kernel
theorem dX9_often_113 : decode cX9_often 113 = .ok (.iaload, 1) := by decide +kernel
theorem dX9_often_114 : decode cX9_often 114 = .ok (.ifCond .le 29, 3) := by decide +kernel
theorem dX9_often_117 : decode cX9_often 117 = .ok (.iload_n 3, 1) := by decide +kernel
theorem dX9_often_118 : decode cX9_often 118 = .ok (.iconst (-1), 1) := by decide +kernel
theorem dX9_often_119 : decode cX9_often 119 = .ok (.if_icmp .eq 19, 3) := by decide +kernel
theorem dX9_often_122 : decode cX9_often 122 = .ok (.aload_n 0, 1) := by decide +kernel
theorem dX9_often_123 : decode cX9_often 123 = .ok (.getfield 113, 3) := by decide +kernel
theorem dX9_often_126 : decode cX9_often 126 = .ok (.iload 4, 2) := by decide +kernel
theorem dX9_often_128 : decode cX9_often 128 = .ok (.iaload, 1) := by decide +kernel
theorem dX9_often_129 : decode cX9_often 129 = .ok (.aload_n 0, 1) := by decide +kernel
theorem dX9_often_130 : decode cX9_often 130 = .ok (.getfield 113, 3) := by decide +kernel
theorem dX9_often_133 : decode cX9_often 133 = .ok (.iload_n 3, 1) := by decide +kernel
theorem dX9_often_134 : decode cX9_often 134 = .ok (.iaload, 1) := by decide +kernel
theorem dX9_often_135 : decode cX9_often 135 = .ok (.if_icmp .le 8, 3) := by decide +kernel
theorem dX9_often_138 : decode cX9_often 138 = .ok (.iload 4, 2) := by decide +kernel
theorem dX9_often_140 : decode cX9_often 140 = .ok (.goto 4, 3) := by decide +kernel
theorem dX9_often_143 : decode cX9_often 143 = .ok (.iload_n 3, 1) := by decide +kernel
theorem dX9_often_144 : decode cX9_often 144 = .ok (.istore_n 3, 1) := by decide +kernel
theorem dX9_often_145 : decode cX9_often 145 = .ok (.iinc 4 1, 3) := by decide +kernel
theorem dX9_often_148 : decode cX9_often 148 = .ok (.goto (-48), 3) := by decide +kernel
theorem dX9_often_151 : decode cX9_often 151 = .ok (.iload_n 1, 1) := by decide +kernel
theorem dX9_often_152 : decode cX9_often 152 = .ok (.ifCond .eq 8, 3) := by decide +kernel
theorem dX9_often_155 : decode cX9_often 155 = .ok (.iload_n 3, 1) := by decide +kernel
theorem dX9_often_156 : decode cX9_often 156 = .ok (.iconst (-1), 1) := by decide +kernel
theorem dX9_often_157 : decode cX9_often 157 = .ok (.if_icmp .ne 7, 3) := by decide +kernel
theorem dX9_often_160 : decode cX9_often 160 = .ok (.iload_n 3, 1) := by decide +kernel
theorem dX9_often_161 : decode cX9_often 161 = .ok (.goto 9, 3) := by decide +kernel
theorem dX9_often_164 : decode cX9_often 164 = .ok (.aload_n 0, 1) := by decide +kernel
theorem dX9_often_165 : decode cX9_often 165 = .ok (.getfield 113, 3) := by decide +kernel
theorem dX9_often_168 : decode cX9_often 168 = .ok (.iload_n 3, 1) := by decide +kernel
theorem dX9_often_169 : decode cX9_often 169 = .ok (.iaload, 1) := by decide +kernel
theorem dX9_often_170 : decode cX9_often 170 = .ok (.ireturn, 1) := by decide +kernel
theorem dX9_deeds_0 : decode cX9_deeds 0 = .ok (.aload_n 0, 1) := by decide +kernel
theorem dX9_deeds_1 : decode cX9_deeds 1 = .ok (.iconst 0, 1) := by decide +kernel
theorem dX9_deeds_2 : decode cX9_deeds 2 = .ok (.putfield 128, 3) := by decide +kernel
theorem dX9_deeds_5 : decode cX9_deeds 5 = .ok (.aload_n 0, 1) := by decide +kernel
theorem dX9_deeds_6 : decode cX9_deeds 6 = .ok (.iload_n 1, 1) := by decide +kernel
theorem dX9_deeds_7 : decode cX9_deeds 7 = .ok (.iconst 0, 1) := by decide +kernel
theorem dX9_deeds_8 : decode cX9_deeds 8 = .ok (.bipush 15, 2) := by decide +kernel
theorem dX9_deeds_10 : decode cX9_deeds 10 = .ok (.invokestatic 162, 3) := by decide +kernel
theorem dX9_deeds_13 : decode cX9_deeds 13 = .ok (.ifCond .ne 7, 3) := by decide +kernel
theorem dX9_deeds_16 : decode cX9_deeds 16 = .ok (.iconst 1, 1) := by decide +kernel
theorem dX9_deeds_17 : decode cX9_deeds 17 = .ok (.goto 4, 3) := by decide +kernel
theorem dX9_deeds_20 : decode cX9_deeds 20 = .ok (.iconst 0, 1) := by decide +kernel
theorem dX9_deeds_21 : decode cX9_deeds 21 = .ok (.iconst 1, 1) := by decide +kernel
theorem dX9_deeds_22 : decode cX9_deeds 22 = .ok (.iconst 1, 1) := by decide +kernel
theorem dX9_deeds_23 : decode cX9_deeds 23 = .ok (.invokevirtual 207, 3) := by decide +kernel
theorem dX9_deeds_26 : decode cX9_deeds 26 = .ok (.ifCond .eq 5, 3) := by decide +kernel
theorem dX9_deeds_29 : decode cX9_deeds 29 = .ok (.iconst 0, 1) := by decide +kernel
theorem dX9_deeds_30 : decode cX9_deeds 30 = .ok (.ireturn, 1) := by decide +kernel
theorem dX9_deeds_31 : decode cX9_deeds 31 = .ok (.iconst 0, 1) := by decide +kernel
theorem dX9_deeds_32 : decode cX9_deeds 32 = .ok (.istore_n 2, 1) := by decide +kernel
theorem dX9_deeds_33 : decode cX9_deeds 33 = .ok (.iconst 0, 1) := by decide +kernel
theorem dX9_deeds_34 : decode cX9_deeds 34 = .ok (.istore_n 3, 1) := by decide +kernel
theorem dX9_deeds_35 : decode cX9_deeds 35 = .ok (.iload_n 3, 1) := by decide +kernel
theorem dX9_deeds_36 : decode cX9_deeds 36 = .ok (.aload_n 0, 1) := by decide +kernel
theorem dX9_deeds_37 : decode cX9_deeds 37 = .ok (.getfield 223, 3) := by decide +kernel
theorem dX9_deeds_40 : decode cX9_deeds 40 = .ok (.if_icmp .ge 33, 3) := by decide +kernel
theorem dX9_deeds_43 : decode cX9_deeds 43 = .ok (.iload_n 2, 1) := by decide +kernel
theorem dX9_deeds_44 : decode cX9_deeds 44 = .ok (.aload_n 0, 1) := by decide +kernel
theorem dX9_deeds_45 : decode cX9_deeds 45 = .ok (.aload_n 0, 1) := by decide +kernel
theorem dX9_deeds_46 : decode cX9_deeds 46 = .ok (.getfield 58, 3) := by decide +kernel
theorem dX9_deeds_49 : decode cX9_deeds 49 = .ok (.iload_n 3, 1) := by decide +kernel
theorem dX9_deeds_50 : decode cX9_deeds 50 = .ok (.iconst 0, 1) := by decide +kernel
theorem dX9_deeds_51 : decode cX9_deeds 51 = .ok (.invokevirtual 321, 3) := by decide +kernel
theorem dX9_deeds_54 : decode cX9_deeds 54 = .ok (.iload_n 1, 1) := by decide +kernel
theorem dX9_deeds_55 : decode cX9_deeds 55 = .ok (.if_icmp .ne 9, 3) := by decide +kernel
theorem dX9_deeds_58 : decode cX9_deeds 58 = .ok (.iconst 1, 1) := by decide +kernel
theorem dX9_deeds_59 : decode cX9_deeds 59 = .ok (.iload_n 3, 1) := by decide +kernel
theorem dX9_deeds_60 : decode cX9_deeds 60 = .ok (.ishl, 1) := by decide +kernel
theorem dX9_deeds_61 : decode cX9_deeds 61 = .ok (.goto 4, 3) := by decide +kernel
theorem dX9_deeds_64 : decode cX9_deeds 64 = .ok (.iconst 0, 1) := by decide +kernel
theorem dX9_deeds_65 : decode cX9_deeds 65 = .ok (.ior, 1) := by decide +kernel
theorem dX9_deeds_66 : decode cX9_deeds 66 = .ok (.istore_n 2, 1) := by decide +kernel
theorem dX9_deeds_67 : decode cX9_deeds 67 = .ok (.iinc 3 1, 3) := by decide +kernel
theorem dX9_deeds_70 : decode cX9_deeds 70 = .ok (.goto (-35), 3) := by decide +kernel
theorem dX9_deeds_73 : decode cX9_deeds 73 = .ok (.iload_n 2, 1) := by decide +kernel
theorem dX9_deeds_74 : decode cX9_deeds 74 = .ok (.ireturn, 1) := by decide +kernel
theorem dX9_longest_0 : decode cX9_longest 0 = .ok (.aload_n 0, 1) := by decide +kernel
theorem dX9_longest_1 : decode cX9_longest 1 = .ok (.iconst 0, 1) := by decide +kernel
theorem dX9_longest_2 : decode cX9_longest 2 = .ok (.putfield 128, 3) := by decide +kernel
theorem dX9_longest_5 : decode cX9_longest 5 = .ok (.aload_n 0, 1) := by decide +kernel
theorem dX9_longest_6 : decode cX9_longest 6 = .ok (.iload_n 1, 1) := by decide +kernel
theorem dX9_longest_7 : decode cX9_longest 7 = .ok (.iconst 0, 1) := by decide +kernel
theorem dX9_longest_8 : decode cX9_longest 8 = .ok (.iconst 1, 1) := by decide +kernel
theorem dX9_longest_9 : decode cX9_longest 9 = .ok (.invokestatic 162, 3) := by decide +kernel
theorem dX9_longest_12 : decode cX9_longest 12 = .ok (.ifCond .ne 7, 3) := by decide +kernel
theorem dX9_longest_15 : decode cX9_longest 15 = .ok (.iconst 1, 1) := by decide +kernel
theorem dX9_longest_16 : decode cX9_longest 16 = .ok (.goto 4, 3) := by decide +kernel
theorem dX9_longest_19 : decode cX9_longest 19 = .ok (.iconst 0, 1) := by decide +kernel
theorem dX9_longest_20 : decode cX9_longest 20 = .ok (.iconst 1, 1) := by decide +kernel
theorem dX9_longest_21 : decode cX9_longest 21 = .ok (.iconst 1, 1) := by decide +kernel
theorem dX9_longest_22 : decode cX9_longest 22 = .ok (.invokevirtual 207, 3) := by decide +kernel
theorem dX9_longest_25 : decode cX9_longest 25 = .ok (.ifCond .eq 5, 3) := by decide +kernel
theorem dX9_longest_28 : decode cX9_longest 28 = .ok (.iconst 0, 1) := by decide +kernel
theorem dX9_longest_29 : decode cX9_longest 29 = .ok (.ireturn, 1) := by decide +kernel
theorem dX9_longest_30 : decode cX9_longest 30 = .ok (.iconst (-1), 1) := by decide +kernel
theorem dX9_longest_31 : decode cX9_longest 31 = .ok (.istore_n 2, 1) := by decide +kernel
theorem dX9_longest_32 : decode cX9_longest 32 = .ok (.iconst 0, 1) := by decide +kernel
theorem dX9_longest_33 : decode cX9_longest 33 = .ok (.istore_n 3, 1) := by decide +kernel
theorem dX9_longest_34 : decode cX9_longest 34 = .ok (.iload_n 3, 1) := by decide +kernel
theorem dX9_longest_35 : decode cX9_longest 35 = .ok (.aload_n 0, 1) := by decide +kernel
theorem dX9_longest_36 : decode cX9_longest 36 = .ok (.getfield 223, 3) := by decide +kernel
theorem dX9_longest_39 : decode cX9_longest 39 = .ok (.if_icmp .ge 41, 3) := by decide +kernel
theorem dX9_longest_42 : decode cX9_longest 42 = .ok (.iload_n 2, 1) := by decide +kernel
theorem dX9_longest_43 : decode cX9_longest 43 = .ok (.iconst (-1), 1) := by decide +kernel
theorem dX9_longest_44 : decode cX9_longest 44 = .ok (.if_icmp .eq 24, 3) := by decide +kernel
theorem dX9_longest_47 : decode cX9_longest 47 = .ok (.aload_n 0, 1) := by decide +kernel
theorem dX9_longest_48 : decode cX9_longest 48 = .ok (.aload_n 0, 1) := by decide +kernel
theorem dX9_longest_49 : decode cX9_longest 49 = .ok (.getfield 58, 3) := by decide +kernel
theorem dX9_longest_52 : decode cX9_longest 52 = .ok (.iload_n 3, 1) := by decide +kernel
theorem dX9_longest_53 : decode cX9_longest 53 = .ok (.invokevirtual 298, 3) := by decide +kernel
theorem dX9_longest_56 : decode cX9_longest 56 = .ok (.aload_n 0, 1) := by decide +kernel
theorem dX9_longest_57 : decode cX9_longest 57 = .ok (.aload_n 0, 1) := by decide +kernel
theorem dX9_longest_58 : decode cX9_longest 58 = .ok (.getfield 58, 3) := by decide +kernel
theorem dX9_longest_61 : decode cX9_longest 61 = .ok (.iload_n 2, 1) := by decide +kernel
theorem dX9_longest_62 : decode cX9_longest 62 = .ok (.invokevirtual 298, 3) := by decide +kernel
theorem dX9_longest_65 : decode cX9_longest 65 = .ok (.if_icmp .le 7, 3) := by decide +kernel
theorem dX9_longest_68 : decode cX9_longest 68 = .ok (.iload_n 3, 1) := by decide +kernel
theorem dX9_longest_69 : decode cX9_longest 69 = .ok (.goto 4, 3) := by decide +kernel
theorem dX9_longest_72 : decode cX9_longest 72 = .ok (.iload_n 2, 1) := by decide +kernel
theorem dX9_longest_73 : decode cX9_longest 73 = .ok (.istore_n 2, 1) := by decide +kernel
theorem dX9_longest_74 : decode cX9_longest 74 = .ok (.iinc 3 1, 3) := by decide +kernel
theorem dX9_longest_77 : decode cX9_longest 77 = .ok (.goto (-43), 3) := by decide +kernel
theorem dX9_longest_80 : decode cX9_longest 80 = .ok (.iload_n 1, 1) := by decide +kernel
theorem dX9_longest_81 : decode cX9_longest 81 = .ok (.ifCond .eq 8, 3) := by decide +kernel
theorem dX9_longest_84 : decode cX9_longest 84 = .ok (.iload_n 2, 1) := by decide +kernel
theorem dX9_longest_85 : decode cX9_longest 85 = .ok (.iconst (-1), 1) := by decide +kernel
theorem dX9_longest_86 : decode cX9_longest 86 = .ok (.if_icmp .ne 7, 3) := by decide +kernel
theorem dX9_longest_89 : decode cX9_longest 89 = .ok (.iload_n 2, 1) := by decide +kernel
theorem dX9_longest_90 : decode cX9_longest 90 = .ok (.goto 12, 3) := by decide +kernel
theorem dX9_longest_93 : decode cX9_longest 93 = .ok (.aload_n 0, 1) := by decide +kernel
theorem dX9_longest_94 : decode cX9_longest 94 = .ok (.aload_n 0, 1) := by decide +kernel
theorem dX9_longest_95 : decode cX9_longest 95 = .ok (.getfield 58, 3) := by decide +kernel
theorem dX9_longest_98 : decode cX9_longest 98 = .ok (.iload_n 2, 1) := by decide +kernel
theorem dX9_longest_99 : decode cX9_longest 99 = .ok (.invokevirtual 298, 3) := by decide +kernel
theorem dX9_longest_102 : decode cX9_longest 102 = .ok (.ireturn, 1) := by decide +kernel
theorem dX9_draw_0 : decode cX9_draw 0 = .ok (.aload_n 0, 1) := by decide +kernel
theorem dX9_draw_1 : decode cX9_draw 1 = .ok (.aload_n 0, 1) := by decide +kernel
theorem dX9_draw_2 : decode cX9_draw 2 = .ok (.getfield 420, 3) := by decide +kernel
theorem dX9_draw_5 : decode cX9_draw 5 = .ok (.ldc_w 423, 3) := by decide +kernel
theorem dX9_draw_8 : decode cX9_draw 8 = .ok (.imul, 1) := by decide +kernel
theorem dX9_draw_9 : decode cX9_draw 9 = .ok (.sipush 12345, 3) := by decide +kernel
theorem dX9_draw_12 : decode cX9_draw 12 = .ok (.iadd, 1) := by decide +kernel
theorem dX9_draw_13 : decode cX9_draw 13 = .ok (.putfield 420, 3) := by decide +kernel
theorem dX9_draw_16 : decode cX9_draw 16 = .ok (.aload_n 0, 1) := by decide +kernel
theorem dX9_draw_17 : decode cX9_draw 17 = .ok (.getfield 420, 3) := by decide +kernel
theorem dX9_draw_20 : decode cX9_draw 20 = .ok (.bipush 16, 2) := by decide +kernel
theorem dX9_draw_22 : decode cX9_draw 22 = .ok (.ishr, 1) := by decide +kernel
theorem dX9_draw_23 : decode cX9_draw 23 = .ok (.sipush 32767, 3) := by decide +kernel
theorem dX9_draw_26 : decode cX9_draw 26 = .ok (.iand, 1) := by decide +kernel
theorem dX9_draw_27 : decode cX9_draw 27 = .ok (.iload_n 1, 1) := by decide +kernel
theorem dX9_draw_28 : decode cX9_draw 28 = .ok (.irem, 1) := by decide +kernel
theorem dX9_draw_29 : decode cX9_draw 29 = .ok (.ireturn, 1) := by decide +kernel
theorem dX9_handBy_0 : decode cX9_handBy 0 = .ok (.aload_n 0, 1) := by decide +kernel
theorem dX9_handBy_1 : decode cX9_handBy 1 = .ok (.getfield 58, 3) := by decide +kernel
theorem dX9_handBy_4 : decode cX9_handBy 4 = .ok (.aload_n 0, 1) := by decide +kernel
theorem dX9_handBy_5 : decode cX9_handBy 5 = .ok (.getfield 61, 3) := by decide +kernel
theorem dX9_handBy_8 : decode cX9_handBy 8 = .ok (.invokestatic 370, 3) := by decide +kernel
theorem dX9_handBy_11 : decode cX9_handBy 11 = .ok (.aload_n 0, 1) := by decide +kernel
theorem dX9_handBy_12 : decode cX9_handBy 12 = .ok (.iload_n 1, 1) := by decide +kernel
theorem dX9_handBy_13 : decode cX9_handBy 13 = .ok (.putfield 420, 3) := by decide +kernel
theorem dX9_handBy_16 : decode cX9_handBy 16 = .ok (.iconst 0, 1) := by decide +kernel
theorem dX9_handBy_17 : decode cX9_handBy 17 = .ok (.istore 4, 2) := by decide +kernel
theorem dX9_handBy_19 : decode cX9_handBy 19 = .ok (.iload 4, 2) := by decide +kernel
theorem dX9_handBy_21 : decode cX9_handBy 21 = .ok (.iload_n 2, 1) := by decide +kernel
theorem dX9_handBy_22 : decode cX9_handBy 22 = .ok (.if_icmp .ge 108, 3) := by decide +kernel
theorem dX9_handBy_25 : decode cX9_handBy 25 = .ok (.aload_n 0, 1) := by decide +kernel
theorem dX9_handBy_26 : decode cX9_handBy 26 = .ok (.getfield 223, 3) := by decide +kernel
theorem dX9_handBy_29 : decode cX9_handBy 29 = .ok (.ifCond .le 101, 3) := by decide +kernel
theorem dX9_handBy_32 : decode cX9_handBy 32 = .ok (.aload_n 0, 1) := by decide +kernel
theorem dX9_handBy_33 : decode cX9_handBy 33 = .ok (.aload_n 0, 1) := by decide +kernel
theorem dX9_handBy_34 : decode cX9_handBy 34 = .ok (.getfield 223, 3) := by decide +kernel
theorem dX9_handBy_37 : decode cX9_handBy 37 = .ok (.invokevirtual 424, 3) := by decide +kernel
theorem dX9_handBy_40 : decode cX9_handBy 40 = .ok (.istore 5, 2) := by decide +kernel
theorem dX9_handBy_42 : decode cX9_handBy 42 = .ok (.aload_n 0, 1) := by decide +kernel
theorem dX9_handBy_43 : decode cX9_handBy 43 = .ok (.aload_n 0, 1) := by decide +kernel
theorem dX9_handBy_44 : decode cX9_handBy 44 = .ok (.getfield 26, 3) := by decide +kernel
theorem dX9_handBy_47 : decode cX9_handBy 47 = .ok (.iload 5, 2) := by decide +kernel
theorem dX9_handBy_49 : decode cX9_handBy 49 = .ok (.iaload, 1) := by decide +kernel
theorem dX9_handBy_50 : decode cX9_handBy 50 = .ok (.invokevirtual 424, 3) := by decide +kernel
theorem dX9_handBy_53 : decode cX9_handBy 53 = .ok (.istore 6, 2) := by decide +kernel
theorem dX9_handBy_55 : decode cX9_handBy 55 = .ok (.aload_n 0, 1) := by decide +kernel
theorem dX9_handBy_56 : decode cX9_handBy 56 = .ok (.aload_n 0, 1) := by decide +kernel
theorem dX9_handBy_57 : decode cX9_handBy 57 = .ok (.getfield 26, 3) := by decide +kernel
theorem dX9_handBy_60 : decode cX9_handBy 60 = .ok (.iload 5, 2) := by decide +kernel
theorem dX9_handBy_62 : decode cX9_handBy 62 = .ok (.iaload, 1) := by decide +kernel
theorem dX9_handBy_63 : decode cX9_handBy 63 = .ok (.invokevirtual 424, 3) := by decide +kernel
theorem dX9_handBy_66 : decode cX9_handBy 66 = .ok (.istore 7, 2) := by decide +kernel
theorem dX9_handBy_68 : decode cX9_handBy 68 = .ok (.aload_n 0, 1) := by decide +kernel
theorem dX9_handBy_69 : decode cX9_handBy 69 = .ok (.aload_n 0, 1) := by decide +kernel
theorem dX9_handBy_70 : decode cX9_handBy 70 = .ok (.getfield 61, 3) := by decide +kernel
theorem dX9_handBy_73 : decode cX9_handBy 73 = .ok (.iload 5, 2) := by decide +kernel
theorem dX9_handBy_75 : decode cX9_handBy 75 = .ok (.iload 6, 2) := by decide +kernel
theorem dX9_handBy_77 : decode cX9_handBy 77 = .ok (.iload 7, 2) := by decide +kernel
theorem dX9_handBy_79 : decode cX9_handBy 79 = .ok (.invokestatic 273, 3) := by decide +kernel
theorem dX9_handBy_82 : decode cX9_handBy 82 = .ok (.iload 6, 2) := by decide +kernel
theorem dX9_handBy_84 : decode cX9_handBy 84 = .ok (.iload 7, 2) := by decide +kernel
theorem dX9_handBy_86 : decode cX9_handBy 86 = .ok (.invokestatic 276, 3) := by decide +kernel
theorem dX9_handBy_89 : decode cX9_handBy 89 = .ok (.invokevirtual 339, 3) := by decide +kernel
theorem dX9_handBy_92 : decode cX9_handBy 92 = .ok (.pop, 1) := by decide +kernel
theorem dX9_handBy_93 : decode cX9_handBy 93 = .ok (.aload_n 0, 1) := by decide +kernel
theorem dX9_handBy_94 : decode cX9_handBy 94 = .ok (.bipush 16, 2) := by decide +kernel
theorem dX9_handBy_96 : decode cX9_handBy 96 = .ok (.invokevirtual 424, 3) := by decide +kernel
theorem dX9_handBy_99 : decode cX9_handBy 99 = .ok (.iload_n 3, 1) := by decide +kernel
theorem dX9_handBy_100 : decode cX9_handBy 100 = .ok (.if_icmp .ge 24, 3) := by decide +kernel
theorem dX9_handBy_103 : decode cX9_handBy 103 = .ok (.aload_n 0, 1) := by decide +kernel
theorem dX9_handBy_104 : decode cX9_handBy 104 = .ok (.aload_n 0, 1) := by decide +kernel
theorem dX9_handBy_105 : decode cX9_handBy 105 = .ok (.getfield 61, 3) := by decide +kernel
theorem dX9_handBy_108 : decode cX9_handBy 108 = .ok (.iconst 3, 1) := by decide +kernel
theorem dX9_handBy_109 : decode cX9_handBy 109 = .ok (.invokevirtual 343, 3) := by decide +kernel
theorem dX9_handBy_112 : decode cX9_handBy 112 = .ok (.ifCond .ne 12, 3) := by decide +kernel
theorem dX9_handBy_115 : decode cX9_handBy 115 = .ok (.aload_n 0, 1) := by decide +kernel
theorem dX9_handBy_116 : decode cX9_handBy 116 = .ok (.aload_n 0, 1) := by decide +kernel
theorem dX9_handBy_117 : decode cX9_handBy 117 = .ok (.getfield 61, 3) := by decide +kernel
theorem dX9_handBy_120 : decode cX9_handBy 120 = .ok (.invokevirtual 347, 3) := by decide +kernel
theorem dX9_handBy_123 : decode cX9_handBy 123 = .ok (.pop, 1) := by decide +kernel
theorem dX9_handBy_124 : decode cX9_handBy 124 = .ok (.iinc 4 1, 3) := by decide +kernel
theorem dX9_handBy_127 : decode cX9_handBy 127 = .ok (.goto (-108), 3) := by decide +kernel
theorem dX9_handBy_130 : decode cX9_handBy 130 = .ok (.return_, 1) := by decide +kernel
theorem dX9_isHand_0 : decode cX9_isHand 0 = .ok (.iload_n 0, 1) := by decide +kernel
theorem dX9_isHand_1 : decode cX9_isHand 1 = .ok (.iconst 1, 1) := by decide +kernel
theorem dX9_isHand_2 : decode cX9_isHand 2 = .ok (.bipush 96, 2) := by decide +kernel
theorem dX9_isHand_4 : decode cX9_isHand 4 = .ok (.invokestatic 162, 3) := by decide +kernel
theorem dX9_isHand_7 : decode cX9_isHand 7 = .ok (.ifCond .eq 17, 3) := by decide +kernel
theorem dX9_isHand_10 : decode cX9_isHand 10 = .ok (.iload_n 1, 1) := by decide +kernel
theorem dX9_isHand_11 : decode cX9_isHand 11 = .ok (.iconst 0, 1) := by decide +kernel
theorem dX9_isHand_12 : decode cX9_isHand 12 = .ok (.bipush 16, 2) := by decide +kernel
theorem dX9_isHand_14 : decode cX9_isHand 14 = .ok (.invokestatic 162, 3) := by decide +kernel
theorem dX9_isHand_17 : decode cX9_isHand 17 = .ok (.ifCond .eq 7, 3) := by decide +kernel
theorem dX9_isHand_20 : decode cX9_isHand 20 = .ok (.iconst 1, 1) := by decide +kernel
theorem dX9_isHand_21 : decode cX9_isHand 21 = .ok (.goto 4, 3) := by decide +kernel
theorem dX9_isHand_24 : decode cX9_isHand 24 = .ok (.iconst 0, 1) := by decide +kernel
theorem dX9_isHand_25 : decode cX9_isHand 25 = .ok (.ireturn, 1) := by decide +kernel
theorem dX9_hand_0 : decode cX9_hand 0 = .ok (.aload_n 0, 1) := by decide +kernel
theorem dX9_hand_1 : decode cX9_hand 1 = .ok (.iconst 0, 1) := by decide +kernel
theorem dX9_hand_2 : decode cX9_hand 2 = .ok (.putfield 128, 3) := by decide +kernel
theorem dX9_hand_5 : decode cX9_hand 5 = .ok (.aload_n 0, 1) := by decide +kernel
theorem dX9_hand_6 : decode cX9_hand 6 = .ok (.iload_n 2, 1) := by decide +kernel
theorem dX9_hand_7 : decode cX9_hand 7 = .ok (.iload_n 3, 1) := by decide +kernel
theorem dX9_hand_8 : decode cX9_hand 8 = .ok (.invokestatic 427, 3) := by decide +kernel
theorem dX9_hand_11 : decode cX9_hand 11 = .ok (.ifCond .eq 13, 3) := by decide +kernel
theorem dX9_hand_14 : decode cX9_hand 14 = .ok (.iload 4, 2) := by decide +kernel
theorem dX9_hand_16 : decode cX9_hand 16 = .ok (.iconst 0, 1) := by decide +kernel
theorem dX9_hand_17 : decode cX9_hand 17 = .ok (.iconst 3, 1) := by decide +kernel
theorem dX9_hand_18 : decode cX9_hand 18 = .ok (.invokestatic 162, 3) := by decide +kernel
theorem dX9_hand_21 : decode cX9_hand 21 = .ok (.ifCond .ne 7, 3) := by decide +kernel
theorem dX9_hand_24 : decode cX9_hand 24 = .ok (.iconst 1, 1) := by decide +kernel
theorem dX9_hand_25 : decode cX9_hand 25 = .ok (.goto 4, 3) := by decide +kernel
theorem dX9_hand_28 : decode cX9_hand 28 = .ok (.iconst 0, 1) := by decide +kernel
theorem dX9_hand_29 : decode cX9_hand 29 = .ok (.iconst 1, 1) := by decide +kernel
theorem dX9_hand_30 : decode cX9_hand 30 = .ok (.iconst 1, 1) := by decide +kernel
theorem dX9_hand_31 : decode cX9_hand 31 = .ok (.invokevirtual 207, 3) := by decide +kernel
theorem dX9_hand_34 : decode cX9_hand 34 = .ok (.ifCond .eq 5, 3) := by decide +kernel
theorem dX9_hand_37 : decode cX9_hand 37 = .ok (.iconst 0, 1) := by decide +kernel
theorem dX9_hand_38 : decode cX9_hand 38 = .ok (.ireturn, 1) := by decide +kernel
theorem dX9_hand_39 : decode cX9_hand 39 = .ok (.aload_n 0, 1) := by decide +kernel
theorem dX9_hand_40 : decode cX9_hand 40 = .ok (.iload_n 1, 1) := by decide +kernel
theorem dX9_hand_41 : decode cX9_hand 41 = .ok (.iload_n 2, 1) := by decide +kernel
theorem dX9_hand_42 : decode cX9_hand 42 = .ok (.iload_n 3, 1) := by decide +kernel
theorem dX9_hand_43 : decode cX9_hand 43 = .ok (.invokevirtual 430, 3) := by decide +kernel
theorem dX9_hand_46 : decode cX9_hand 46 = .ok (.iload 4, 2) := by decide +kernel
theorem dX9_hand_48 : decode cX9_hand 48 = .ok (.ifCond .ne 14, 3) := by decide +kernel
theorem dX9_hand_51 : decode cX9_hand 51 = .ok (.aload_n 0, 1) := by decide +kernel
theorem dX9_hand_52 : decode cX9_hand 52 = .ok (.aload_n 0, 1) := by decide +kernel
theorem dX9_hand_53 : decode cX9_hand 53 = .ok (.getfield 61, 3) := by decide +kernel
theorem dX9_hand_56 : decode cX9_hand 56 = .ok (.invokevirtual 305, 3) := by decide +kernel
theorem dX9_hand_59 : decode cX9_hand 59 = .ok (.goto 50, 3) := by decide +kernel
theorem dX9_hand_62 : decode cX9_hand 62 = .ok (.iload 4, 2) := by decide +kernel
theorem dX9_hand_64 : decode cX9_hand 64 = .ok (.iconst 1, 1) := by decide +kernel
theorem dX9_hand_65 : decode cX9_hand 65 = .ok (.if_icmp .ne 13, 3) := by decide +kernel
theorem dX9_hand_68 : decode cX9_hand 68 = .ok (.aload_n 0, 1) := by decide +kernel
theorem dX9_hand_69 : decode cX9_hand 69 = .ok (.getfield 61, 3) := by decide +kernel
theorem dX9_hand_72 : decode cX9_hand 72 = .ok (.bipush 10, 2) := by decide +kernel
theorem dX9_hand_74 : decode cX9_hand 74 = .ok (.iaload, 1) := by decide +kernel
theorem dX9_hand_75 : decode cX9_hand 75 = .ok (.goto 34, 3) := by decide +kernel
theorem dX9_hand_78 : decode cX9_hand 78 = .ok (.iload 4, 2) := by decide +kernel
theorem dX9_hand_80 : decode cX9_hand 80 = .ok (.iconst 2, 1) := by decide +kernel
theorem dX9_hand_81 : decode cX9_hand 81 = .ok (.if_icmp .ne 21, 3) := by decide +kernel
theorem dX9_hand_84 : decode cX9_hand 84 = .ok (.aload_n 0, 1) := by decide +kernel
theorem dX9_hand_85 : decode cX9_hand 85 = .ok (.getfield 61, 3) := by decide +kernel
theorem dX9_hand_88 : decode cX9_hand 88 = .ok (.bipush 12, 2) := by decide +kernel
theorem dX9_hand_90 : decode cX9_hand 90 = .ok (.iaload, 1) := by decide +kernel
theorem dX9_hand_91 : decode cX9_hand 91 = .ok (.aload_n 0, 1) := by decide +kernel
theorem dX9_hand_92 : decode cX9_hand 92 = .ok (.getfield 58, 3) := by decide +kernel
theorem dX9_hand_95 : decode cX9_hand 95 = .ok (.bipush 12, 2) := by decide +kernel
theorem dX9_hand_97 : decode cX9_hand 97 = .ok (.iaload, 1) := by decide +kernel
theorem dX9_hand_98 : decode cX9_hand 98 = .ok (.isub, 1) := by decide +kernel
theorem dX9_hand_99 : decode cX9_hand 99 = .ok (.goto 10, 3) := by decide +kernel
theorem dX9_hand_102 : decode cX9_hand 102 = .ok (.aload_n 0, 1) := by decide +kernel
theorem dX9_hand_103 : decode cX9_hand 103 = .ok (.getfield 61, 3) := by decide +kernel
theorem dX9_hand_106 : decode cX9_hand 106 = .ok (.invokestatic 374, 3) := by decide +kernel
theorem dX9_hand_109 : decode cX9_hand 109 = .ok (.ireturn, 1) := by decide +kernel
theorem dX9_span_0 : decode cX9_span 0 = .ok (.aload_n 0, 1) := by decide +kernel
theorem dX9_span_1 : decode cX9_span 1 = .ok (.iconst 0, 1) := by decide +kernel
theorem dX9_span_2 : decode cX9_span 2 = .ok (.putfield 128, 3) := by decide +kernel
theorem dX9_span_5 : decode cX9_span 5 = .ok (.aload_n 0, 1) := by decide +kernel
theorem dX9_span_6 : decode cX9_span 6 = .ok (.iload_n 2, 1) := by decide +kernel
theorem dX9_span_7 : decode cX9_span 7 = .ok (.iconst 1, 1) := by decide +kernel
theorem dX9_span_8 : decode cX9_span 8 = .ok (.bipush 20, 2) := by decide +kernel
theorem dX9_span_10 : decode cX9_span 10 = .ok (.invokestatic 162, 3) := by decide +kernel
theorem dX9_span_13 : decode cX9_span 13 = .ok (.ifCond .eq 31, 3) := by decide +kernel
theorem dX9_span_16 : decode cX9_span 16 = .ok (.iload_n 3, 1) := by decide +kernel
theorem dX9_span_17 : decode cX9_span 17 = .ok (.iload 4, 2) := by decide +kernel
theorem dX9_span_19 : decode cX9_span 19 = .ok (.invokestatic 427, 3) := by decide +kernel
theorem dX9_span_22 : decode cX9_span 22 = .ok (.ifCond .eq 22, 3) := by decide +kernel
theorem dX9_span_25 : decode cX9_span 25 = .ok (.iload 5, 2) := by decide +kernel
theorem dX9_span_27 : decode cX9_span 27 = .ok (.iconst 0, 1) := by decide +kernel
theorem dX9_span_28 : decode cX9_span 28 = .ok (.iconst 2, 1) := by decide +kernel
theorem dX9_span_29 : decode cX9_span 29 = .ok (.invokestatic 162, 3) := by decide +kernel
theorem dX9_span_32 : decode cX9_span 32 = .ok (.ifCond .eq 12, 3) := by decide +kernel
theorem dX9_span_35 : decode cX9_span 35 = .ok (.aload_n 0, 1) := by decide +kernel
theorem dX9_span_36 : decode cX9_span 36 = .ok (.iload 6, 2) := by decide +kernel
theorem dX9_span_38 : decode cX9_span 38 = .ok (.invokevirtual 377, 3) := by decide +kernel
theorem dX9_span_41 : decode cX9_span 41 = .ok (.ifCond .ne 7, 3) := by decide +kernel
theorem dX9_span_44 : decode cX9_span 44 = .ok (.iconst 1, 1) := by decide +kernel
theorem dX9_span_45 : decode cX9_span 45 = .ok (.goto 4, 3) := by decide +kernel
theorem dX9_span_48 : decode cX9_span 48 = .ok (.iconst 0, 1) := by decide +kernel
theorem dX9_span_49 : decode cX9_span 49 = .ok (.iconst 1, 1) := by decide +kernel
theorem dX9_span_50 : decode cX9_span 50 = .ok (.iconst 1, 1) := by decide +kernel
theorem dX9_span_51 : decode cX9_span 51 = .ok (.invokevirtual 207, 3) := by decide +kernel
theorem dX9_span_54 : decode cX9_span 54 = .ok (.ifCond .eq 5, 3) := by decide +kernel
theorem dX9_span_57 : decode cX9_span 57 = .ok (.iconst 0, 1) := by decide +kernel
theorem dX9_span_58 : decode cX9_span 58 = .ok (.ireturn, 1) := by decide +kernel
theorem dX9_span_59 : decode cX9_span 59 = .ok (.iconst (-1), 1) := by decide +kernel
theorem dX9_span_60 : decode cX9_span 60 = .ok (.istore 7, 2) := by decide +kernel
theorem dX9_span_62 : decode cX9_span 62 = .ok (.iconst 0, 1) := by decide +kernel
theorem dX9_span_63 : decode cX9_span 63 = .ok (.istore 8, 2) := by decide +kernel
theorem dX9_span_65 : decode cX9_span 65 = .ok (.iconst 0, 1) := by decide +kernel
theorem dX9_span_66 : decode cX9_span 66 = .ok (.istore 9, 2) := by decide +kernel
theorem dX9_span_68 : decode cX9_span 68 = .ok (.iconst 0, 1) := by decide +kernel
theorem dX9_span_69 : decode cX9_span 69 = .ok (.istore 10, 2) := by decide +kernel
theorem dX9_span_71 : decode cX9_span 71 = .ok (.iload 10, 2) := by decide +kernel
theorem dX9_span_73 : decode cX9_span 73 = .ok (.iload_n 2, 1) := by decide +kernel
theorem dX9_span_74 : decode cX9_span 74 = .ok (.if_icmp .ge 82, 3) := by decide +kernel
theorem dX9_span_77 : decode cX9_span 77 = .ok (.aload_n 0, 1) := by decide +kernel
theorem dX9_span_78 : decode cX9_span 78 = .ok (.iload_n 1, 1) := by decide +kernel
theorem dX9_span_79 : decode cX9_span 79 = .ok (.iload 10, 2) := by decide +kernel
theorem dX9_span_81 : decode cX9_span 81 = .ok (.iadd, 1) := by decide +kernel
theorem dX9_span_82 : decode cX9_span 82 = .ok (.iload_n 3, 1) := by decide +kernel
theorem dX9_span_83 : decode cX9_span 83 = .ok (.iload 4, 2) := by decide +kernel
theorem dX9_span_85 : decode cX9_span 85 = .ok (.invokevirtual 430, 3) := by decide +kernel
theorem dX9_span_88 : decode cX9_span 88 = .ok (.aload_n 0, 1) := by decide +kernel
theorem dX9_span_89 : decode cX9_span 89 = .ok (.aload_n 0, 1) := by decide +kernel
theorem dX9_span_90 : decode cX9_span 90 = .ok (.getfield 61, 3) := by decide +kernel
theorem dX9_span_93 : decode cX9_span 93 = .ok (.invokevirtual 305, 3) := by decide +kernel
theorem dX9_span_96 : decode cX9_span 96 = .ok (.istore 11, 2) := by decide +kernel
theorem dX9_span_98 : decode cX9_span 98 = .ok (.iload 7, 2) := by decide +kernel
theorem dX9_span_100 : decode cX9_span 100 = .ok (.iconst (-1), 1) := by decide +kernel
theorem dX9_span_101 : decode cX9_span 101 = .ok (.if_icmp .ne 8, 3) := by decide +kernel
theorem dX9_span_104 : decode cX9_span 104 = .ok (.iload 11, 2) := by decide +kernel
theorem dX9_span_106 : decode cX9_span 106 = .ok (.goto 10, 3) := by decide +kernel
theorem dX9_span_109 : decode cX9_span 109 = .ok (.iload 7, 2) := by decide +kernel
theorem dX9_span_111 : decode cX9_span 111 = .ok (.iload 11, 2) := by decide +kernel
theorem dX9_span_113 : decode cX9_span 113 = .ok (.invokestatic 273, 3) := by decide +kernel
theorem dX9_span_116 : decode cX9_span 116 = .ok (.istore 7, 2) := by decide +kernel
theorem dX9_span_118 : decode cX9_span 118 = .ok (.iload 8, 2) := by decide +kernel
theorem dX9_span_120 : decode cX9_span 120 = .ok (.iload 11, 2) := by decide +kernel
theorem dX9_span_122 : decode cX9_span 122 = .ok (.invokestatic 276, 3) := by decide +kernel
theorem dX9_span_125 : decode cX9_span 125 = .ok (.istore 8, 2) := by decide +kernel
theorem dX9_span_127 : decode cX9_span 127 = .ok (.iload 9, 2) := by decide +kernel
theorem dX9_span_129 : decode cX9_span 129 = .ok (.aload_n 0, 1) := by decide +kernel
theorem dX9_span_130 : decode cX9_span 130 = .ok (.aload_n 0, 1) := by decide +kernel
theorem dX9_span_131 : decode cX9_span 131 = .ok (.getfield 61, 3) := by decide +kernel
theorem dX9_span_134 : decode cX9_span 134 = .ok (.iload 6, 2) := by decide +kernel
theorem dX9_span_136 : decode cX9_span 136 = .ok (.invokevirtual 298, 3) := by decide +kernel
theorem dX9_span_139 : decode cX9_span 139 = .ok (.ifCond .ne 7, 3) := by decide +kernel
theorem dX9_span_142 : decode cX9_span 142 = .ok (.iconst 1, 1) := by decide +kernel
theorem dX9_span_143 : decode cX9_span 143 = .ok (.goto 4, 3) := by decide +kernel
theorem dX9_span_146 : decode cX9_span 146 = .ok (.iconst 0, 1) := by decide +kernel
theorem dX9_span_147 : decode cX9_span 147 = .ok (.iadd, 1) := by decide +kernel
theorem dX9_span_148 : decode cX9_span 148 = .ok (.istore 9, 2) := by decide +kernel
theorem dX9_span_150 : decode cX9_span 150 = .ok (.iinc 10 1, 3) := by decide +kernel
theorem dX9_span_153 : decode cX9_span 153 = .ok (.goto (-82), 3) := by decide +kernel
theorem dX9_span_156 : decode cX9_span 156 = .ok (.iload 5, 2) := by decide +kernel
theorem dX9_span_158 : decode cX9_span 158 = .ok (.ifCond .ne 8, 3) := by decide +kernel
theorem dX9_span_161 : decode cX9_span 161 = .ok (.iload 7, 2) := by decide +kernel
theorem dX9_span_163 : decode cX9_span 163 = .ok (.goto 16, 3) := by decide +kernel
theorem dX9_span_166 : decode cX9_span 166 = .ok (.iload 5, 2) := by decide +kernel
theorem dX9_span_168 : decode cX9_span 168 = .ok (.iconst 1, 1) := by decide +kernel
theorem dX9_span_169 : decode cX9_span 169 = .ok (.if_icmp .ne 8, 3) := by decide +kernel
theorem dX9_span_172 : decode cX9_span 172 = .ok (.iload 8, 2) := by decide +kernel
theorem dX9_span_174 : decode cX9_span 174 = .ok (.goto 5, 3) := by decide +kernel
theorem dX9_span_177 : decode cX9_span 177 = .ok (.iload 9, 2) := by decide +kernel
theorem dX9_span_179 : decode cX9_span 179 = .ok (.ireturn, 1) := by decide +kernel
theorem dX9_puts_0 : decode cX9_puts 0 = .ok (.iload_n 3, 1) := by decide +kernel
theorem dX9_puts_1 : decode cX9_puts 1 = .ok (.ifCond .ne 10, 3) := by decide +kernel
theorem dX9_puts_4 : decode cX9_puts 4 = .ok (.aload_n 1, 1) := by decide +kernel
theorem dX9_puts_5 : decode cX9_puts 5 = .ok (.aload_n 0, 1) := by decide +kernel
theorem dX9_puts_6 : decode cX9_puts 6 = .ok (.getfield 434, 3) := by decide +kernel
theorem dX9_puts_9 : decode cX9_puts 9 = .ok (.iload_n 2, 1) := by decide +kernel
theorem dX9_puts_10 : decode cX9_puts 10 = .ok (.iastore, 1) := by decide +kernel
theorem dX9_puts_11 : decode cX9_puts 11 = .ok (.aload_n 0, 1) := by decide +kernel
theorem dX9_puts_12 : decode cX9_puts 12 = .ok (.dup, 1) := by decide +kernel
theorem dX9_puts_13 : decode cX9_puts 13 = .ok (.getfield 434, 3) := by decide +kernel
theorem dX9_puts_16 : decode cX9_puts 16 = .ok (.iconst 1, 1) := by decide +kernel
theorem dX9_puts_17 : decode cX9_puts 17 = .ok (.iadd, 1) := by decide +kernel
theorem dX9_puts_18 : decode cX9_puts 18 = .ok (.putfield 434, 3) := by decide +kernel
theorem dX9_puts_21 : decode cX9_puts 21 = .ok (.aload_n 1, 1) := by decide +kernel
theorem dX9_puts_22 : decode cX9_puts 22 = .ok (.aload_n 0, 1) := by decide +kernel
theorem dX9_puts_23 : decode cX9_puts 23 = .ok (.getfield 434, 3) := by decide +kernel
theorem dX9_puts_26 : decode cX9_puts 26 = .ok (.iconst 1, 1) := by decide +kernel
theorem dX9_puts_27 : decode cX9_puts 27 = .ok (.isub, 1) := by decide +kernel
theorem dX9_puts_28 : decode cX9_puts 28 = .ok (.iaload, 1) := by decide +kernel
theorem dX9_puts_29 : decode cX9_puts 29 = .ok (.ireturn, 1) := by decide +kernel
theorem dX9_putsAll_0 : decode cX9_putsAll 0 = .ok (.aload_n 0, 1) := by decide +kernel
theorem dX9_putsAll_1 : decode cX9_putsAll 1 = .ok (.iconst 0, 1) := by decide +kernel
theorem dX9_putsAll_2 : decode cX9_putsAll 2 = .ok (.putfield 434, 3) := by decide +kernel
theorem dX9_putsAll_5 : decode cX9_putsAll 5 = .ok (.aload_n 0, 1) := by decide +kernel
theorem dX9_putsAll_6 : decode cX9_putsAll 6 = .ok (.aload_n 0, 1) := by decide +kernel
theorem dX9_putsAll_7 : decode cX9_putsAll 7 = .ok (.aload_n 1, 1) := by decide +kernel
theorem dX9_putsAll_8 : decode cX9_putsAll 8 = .ok (.aload_n 0, 1) := by decide +kernel
theorem dX9_putsAll_9 : decode cX9_putsAll 9 = .ok (.getfield 236, 3) := by decide +kernel
theorem dX9_putsAll_12 : decode cX9_putsAll 12 = .ok (.iload_n 2, 1) := by decide +kernel
theorem dX9_putsAll_13 : decode cX9_putsAll 13 = .ok (.invokevirtual 437, 3) := by decide +kernel
theorem dX9_putsAll_16 : decode cX9_putsAll 16 = .ok (.putfield 236, 3) := by decide +kernel
theorem dX9_putsAll_19 : decode cX9_putsAll 19 = .ok (.iconst 0, 1) := by decide +kernel
theorem dX9_putsAll_20 : decode cX9_putsAll 20 = .ok (.istore_n 3, 1) := by decide +kernel
theorem dX9_putsAll_21 : decode cX9_putsAll 21 = .ok (.iload_n 3, 1) := by decide +kernel
theorem dX9_putsAll_22 : decode cX9_putsAll 22 = .ok (.bipush 14, 2) := by decide +kernel
theorem dX9_putsAll_24 : decode cX9_putsAll 24 = .ok (.if_icmp .ge 27, 3) := by decide +kernel
theorem dX9_putsAll_27 : decode cX9_putsAll 27 = .ok (.aload_n 0, 1) := by decide +kernel
theorem dX9_putsAll_28 : decode cX9_putsAll 28 = .ok (.getfield 58, 3) := by decide +kernel
theorem dX9_putsAll_31 : decode cX9_putsAll 31 = .ok (.iload_n 3, 1) := by decide +kernel
theorem dX9_putsAll_32 : decode cX9_putsAll 32 = .ok (.aload_n 0, 1) := by decide +kernel
theorem dX9_putsAll_33 : decode cX9_putsAll 33 = .ok (.aload_n 1, 1) := by decide +kernel
theorem dX9_putsAll_34 : decode cX9_putsAll 34 = .ok (.aload_n 0, 1) := by decide +kernel
theorem dX9_putsAll_35 : decode cX9_putsAll 35 = .ok (.getfield 58, 3) := by decide +kernel
theorem dX9_putsAll_38 : decode cX9_putsAll 38 = .ok (.iload_n 3, 1) := by decide +kernel
theorem dX9_putsAll_39 : decode cX9_putsAll 39 = .ok (.iaload, 1) := by decide +kernel
theorem dX9_putsAll_40 : decode cX9_putsAll 40 = .ok (.iload_n 2, 1) := by decide +kernel
theorem dX9_putsAll_41 : decode cX9_putsAll 41 = .ok (.invokevirtual 437, 3) := by decide +kernel
theorem dX9_putsAll_44 : decode cX9_putsAll 44 = .ok (.iastore, 1) := by decide +kernel
theorem dX9_putsAll_45 : decode cX9_putsAll 45 = .ok (.iinc 3 1, 3) := by decide +kernel
theorem dX9_putsAll_48 : decode cX9_putsAll 48 = .ok (.goto (-27), 3) := by decide +kernel
theorem dX9_putsAll_51 : decode cX9_putsAll 51 = .ok (.iconst 0, 1) := by decide +kernel
theorem dX9_putsAll_52 : decode cX9_putsAll 52 = .ok (.istore_n 3, 1) := by decide +kernel
theorem dX9_putsAll_53 : decode cX9_putsAll 53 = .ok (.iload_n 3, 1) := by decide +kernel
theorem dX9_putsAll_54 : decode cX9_putsAll 54 = .ok (.bipush 16, 2) := by decide +kernel
theorem dX9_putsAll_56 : decode cX9_putsAll 56 = .ok (.if_icmp .ge 49, 3) := by decide +kernel
theorem dX9_putsAll_59 : decode cX9_putsAll 59 = .ok (.iconst 0, 1) := by decide +kernel
theorem dX9_putsAll_60 : decode cX9_putsAll 60 = .ok (.istore 4, 2) := by decide +kernel
theorem dX9_putsAll_62 : decode cX9_putsAll 62 = .ok (.iload 4, 2) := by decide +kernel
theorem dX9_putsAll_64 : decode cX9_putsAll 64 = .ok (.bipush 14, 2) := by decide +kernel
theorem dX9_putsAll_66 : decode cX9_putsAll 66 = .ok (.if_icmp .ge 33, 3) := by decide +kernel
theorem dX9_putsAll_69 : decode cX9_putsAll 69 = .ok (.aload_n 0, 1) := by decide +kernel
theorem dX9_putsAll_70 : decode cX9_putsAll 70 = .ok (.getfield 64, 3) := by decide +kernel
theorem dX9_putsAll_73 : decode cX9_putsAll 73 = .ok (.iload_n 3, 1) := by decide +kernel
theorem dX9_putsAll_74 : decode cX9_putsAll 74 = .ok (.aaload, 1) := by decide +kernel
theorem dX9_putsAll_75 : decode cX9_putsAll 75 = .ok (.iload 4, 2) := by decide +kernel
theorem dX9_putsAll_77 : decode cX9_putsAll 77 = .ok (.aload_n 0, 1) := by decide +kernel
theorem dX9_putsAll_78 : decode cX9_putsAll 78 = .ok (.aload_n 1, 1) := by decide +kernel
theorem dX9_putsAll_79 : decode cX9_putsAll 79 = .ok (.aload_n 0, 1) := by decide +kernel
theorem dX9_putsAll_80 : decode cX9_putsAll 80 = .ok (.getfield 64, 3) := by decide +kernel
theorem dX9_putsAll_83 : decode cX9_putsAll 83 = .ok (.iload_n 3, 1) := by decide +kernel
theorem dX9_putsAll_84 : decode cX9_putsAll 84 = .ok (.aaload, 1) := by decide +kernel
theorem dX9_putsAll_85 : decode cX9_putsAll 85 = .ok (.iload 4, 2) := by decide +kernel
theorem dX9_putsAll_87 : decode cX9_putsAll 87 = .ok (.iaload, 1) := by decide +kernel
theorem dX9_putsAll_88 : decode cX9_putsAll 88 = .ok (.iload_n 2, 1) := by decide +kernel
theorem dX9_putsAll_89 : decode cX9_putsAll 89 = .ok (.invokevirtual 437, 3) := by decide +kernel
theorem dX9_putsAll_92 : decode cX9_putsAll 92 = .ok (.iastore, 1) := by decide +kernel
theorem dX9_putsAll_93 : decode cX9_putsAll 93 = .ok (.iinc 4 1, 3) := by decide +kernel
theorem dX9_putsAll_96 : decode cX9_putsAll 96 = .ok (.goto (-34), 3) := by decide +kernel
theorem dX9_putsAll_99 : decode cX9_putsAll 99 = .ok (.iinc 3 1, 3) := by decide +kernel
theorem dX9_putsAll_102 : decode cX9_putsAll 102 = .ok (.goto (-49), 3) := by decide +kernel
theorem dX9_putsAll_105 : decode cX9_putsAll 105 = .ok (.return_, 1) := by decide +kernel
theorem dX9_image_0 : decode cX9_image 0 = .ok (.aload_n 0, 1) := by decide +kernel
theorem dX9_image_1 : decode cX9_image 1 = .ok (.iconst 0, 1) := by decide +kernel
theorem dX9_image_2 : decode cX9_image 2 = .ok (.putfield 128, 3) := by decide +kernel
theorem dX9_image_5 : decode cX9_image 5 = .ok (.aload_n 0, 1) := by decide +kernel
theorem dX9_image_6 : decode cX9_image 6 = .ok (.getfield 242, 3) := by decide +kernel
theorem dX9_image_9 : decode cX9_image 9 = .ok (.iconst 3, 1) := by decide +kernel
theorem dX9_image_10 : decode cX9_image 10 = .ok (.if_icmp .ne 5, 3) := by decide +kernel
theorem dX9_image_13 : decode cX9_image 13 = .ok (.iconst (-1), 1) := by decide +kernel
theorem dX9_image_14 : decode cX9_image 14 = .ok (.ireturn, 1) := by decide +kernel
theorem dX9_image_15 : decode cX9_image 15 = .ok (.aload_n 0, 1) := by decide +kernel
theorem dX9_image_16 : decode cX9_image 16 = .ok (.aload_n 0, 1) := by decide +kernel
theorem dX9_image_17 : decode cX9_image 17 = .ok (.getfield 67, 3) := by decide +kernel
theorem dX9_image_20 : decode cX9_image 20 = .ok (.aload_n 0, 1) := by decide +kernel
theorem dX9_image_21 : decode cX9_image 21 = .ok (.getfield 242, 3) := by decide +kernel
theorem dX9_image_24 : decode cX9_image 24 = .ok (.aaload, 1) := by decide +kernel
theorem dX9_image_25 : decode cX9_image 25 = .ok (.iconst 0, 1) := by decide +kernel
theorem dX9_image_26 : decode cX9_image 26 = .ok (.invokevirtual 441, 3) := by decide +kernel
theorem dX9_image_29 : decode cX9_image 29 = .ok (.aload_n 0, 1) := by decide +kernel
theorem dX9_image_30 : decode cX9_image 30 = .ok (.dup, 1) := by decide +kernel
theorem dX9_image_31 : decode cX9_image 31 = .ok (.getfield 242, 3) := by decide +kernel
theorem dX9_image_34 : decode cX9_image 34 = .ok (.iconst 1, 1) := by decide +kernel
theorem dX9_image_35 : decode cX9_image 35 = .ok (.iadd, 1) := by decide +kernel
theorem dX9_image_36 : decode cX9_image 36 = .ok (.putfield 242, 3) := by decide +kernel
theorem dX9_image_39 : decode cX9_image 39 = .ok (.aload_n 0, 1) := by decide +kernel
theorem dX9_image_40 : decode cX9_image 40 = .ok (.getfield 242, 3) := by decide +kernel
theorem dX9_image_43 : decode cX9_image 43 = .ok (.ireturn, 1) := by decide +kernel
