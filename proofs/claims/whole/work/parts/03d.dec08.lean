theorem dX9_does2_40 : decode cX9_does2 40 = .ok (.irem, 1) := by decide +kernel
theorem dX9_does2_41 : decode cX9_does2 41 = .ok (.iadd, 1) := by decide +kernel
theorem dX9_does2_42 : decode cX9_does2 42 = .ok (.iaload, 1) := by decide +kernel
theorem dX9_does2_43 : decode cX9_does2 43 = .ok (.istore 6, 2) := by decide +kernel
theorem dX9_does2_45 : decode cX9_does2 45 = .ok (.iload_n 3, 1) := by decide +kernel
theorem dX9_does2_46 : decode cX9_does2 46 = .ok (.tableswitch 169 0 7 #[46, 50, 66, 82, 102, 116, 119, 164], 46) := by decide +kernel
theorem dX9_does2_92 : decode cX9_does2 92 = .ok (.iload_n 2, 1) := by decide +kernel
theorem dX9_does2_93 : decode cX9_does2 93 = .ok (.iconst 1, 1) := by decide +kernel
theorem dX9_does2_94 : decode cX9_does2 94 = .ok (.iadd, 1) := by decide +kernel
theorem dX9_does2_95 : decode cX9_does2 95 = .ok (.ireturn, 1) := by decide +kernel
theorem dX9_does2_96 : decode cX9_does2 96 = .ok (.aload_n 0, 1) := by decide +kernel
theorem dX9_does2_97 : decode cX9_does2 97 = .ok (.aload_n 1, 1) := by decide +kernel
theorem dX9_does2_98 : decode cX9_does2 98 = .ok (.iload 4, 2) := by decide +kernel
theorem dX9_does2_100 : decode cX9_does2 100 = .ok (.iload 6, 2) := by decide +kernel
theorem dX9_does2_102 : decode cX9_does2 102 = .ok (.iload 5, 2) := by decide +kernel
theorem dX9_does2_104 : decode cX9_does2 104 = .ok (.iadd, 1) := by decide +kernel
theorem dX9_does2_105 : decode cX9_does2 105 = .ok (.invokevirtual 325, 3) := by decide +kernel
theorem dX9_does2_108 : decode cX9_does2 108 = .ok (.iload_n 2, 1) := by decide +kernel
theorem dX9_does2_109 : decode cX9_does2 109 = .ok (.iconst 1, 1) := by decide +kernel
theorem dX9_does2_110 : decode cX9_does2 110 = .ok (.iadd, 1) := by decide +kernel
theorem dX9_does2_111 : decode cX9_does2 111 = .ok (.ireturn, 1) := by decide +kernel
theorem dX9_does2_112 : decode cX9_does2 112 = .ok (.aload_n 0, 1) := by decide +kernel
theorem dX9_does2_113 : decode cX9_does2 113 = .ok (.aload_n 1, 1) := by decide +kernel
theorem dX9_does2_114 : decode cX9_does2 114 = .ok (.iload 4, 2) := by decide +kernel
theorem dX9_does2_116 : decode cX9_does2 116 = .ok (.iload 6, 2) := by decide +kernel
theorem dX9_does2_118 : decode cX9_does2 118 = .ok (.iload 5, 2) := by decide +kernel
theorem dX9_does2_120 : decode cX9_does2 120 = .ok (.isub, 1) := by decide +kernel
theorem dX9_does2_121 : decode cX9_does2 121 = .ok (.invokevirtual 325, 3) := by decide +kernel
theorem dX9_does2_124 : decode cX9_does2 124 = .ok (.iload_n 2, 1) := by decide +kernel
theorem dX9_does2_125 : decode cX9_does2 125 = .ok (.iconst 1, 1) := by decide +kernel
theorem dX9_does2_126 : decode cX9_does2 126 = .ok (.iadd, 1) := by decide +kernel
theorem dX9_does2_127 : decode cX9_does2 127 = .ok (.ireturn, 1) := by decide +kernel
theorem dX9_does2_128 : decode cX9_does2 128 = .ok (.aload_n 0, 1) := by decide +kernel
theorem dX9_does2_129 : decode cX9_does2 129 = .ok (.aload_n 1, 1) := by decide +kernel
theorem dX9_does2_130 : decode cX9_does2 130 = .ok (.iload 4, 2) := by decide +kernel
theorem dX9_does2_132 : decode cX9_does2 132 = .ok (.aload_n 1, 1) := by decide +kernel
theorem dX9_does2_133 : decode cX9_does2 133 = .ok (.bipush 6, 2) := by decide +kernel
theorem dX9_does2_135 : decode cX9_does2 135 = .ok (.iload 5, 2) := by decide +kernel
theorem dX9_does2_137 : decode cX9_does2 137 = .ok (.iconst 4, 1) := by decide +kernel
theorem dX9_does2_138 : decode cX9_does2 138 = .ok (.irem, 1) := by decide +kernel
theorem dX9_does2_139 : decode cX9_does2 139 = .ok (.iadd, 1) := by decide +kernel
theorem dX9_does2_140 : decode cX9_does2 140 = .ok (.iaload, 1) := by decide +kernel
theorem dX9_does2_141 : decode cX9_does2 141 = .ok (.invokevirtual 325, 3) := by decide +kernel
theorem dX9_does2_144 : decode cX9_does2 144 = .ok (.iload_n 2, 1) := by decide +kernel
theorem dX9_does2_145 : decode cX9_does2 145 = .ok (.iconst 1, 1) := by decide +kernel
theorem dX9_does2_146 : decode cX9_does2 146 = .ok (.iadd, 1) := by decide +kernel
theorem dX9_does2_147 : decode cX9_does2 147 = .ok (.ireturn, 1) := by decide +kernel
theorem dX9_does2_148 : decode cX9_does2 148 = .ok (.iload 6, 2) := by decide +kernel
theorem dX9_does2_150 : decode cX9_does2 150 = .ok (.ifCond .ne 8, 3) := by decide +kernel
theorem dX9_does2_153 : decode cX9_does2 153 = .ok (.iload 5, 2) := by decide +kernel
theorem dX9_does2_155 : decode cX9_does2 155 = .ok (.goto 6, 3) := by decide +kernel
theorem dX9_does2_158 : decode cX9_does2 158 = .ok (.iload_n 2, 1) := by decide +kernel
theorem dX9_does2_159 : decode cX9_does2 159 = .ok (.iconst 1, 1) := by decide +kernel
theorem dX9_does2_160 : decode cX9_does2 160 = .ok (.iadd, 1) := by decide +kernel
theorem dX9_does2_161 : decode cX9_does2 161 = .ok (.ireturn, 1) := by decide +kernel
theorem dX9_does2_162 : decode cX9_does2 162 = .ok (.iload 4, 2) := by decide +kernel
theorem dX9_does2_164 : decode cX9_does2 164 = .ok (.ireturn, 1) := by decide +kernel
theorem dX9_does2_165 : decode cX9_does2 165 = .ok (.aload_n 1, 1) := by decide +kernel
theorem dX9_does2_166 : decode cX9_does2 166 = .ok (.iconst 0, 1) := by decide +kernel
theorem dX9_does2_167 : decode cX9_does2 167 = .ok (.iload 4, 2) := by decide +kernel
theorem dX9_does2_169 : decode cX9_does2 169 = .ok (.bipush 6, 2) := by decide +kernel
theorem dX9_does2_171 : decode cX9_does2 171 = .ok (.irem, 1) := by decide +kernel
theorem dX9_does2_172 : decode cX9_does2 172 = .ok (.iadd, 1) := by decide +kernel
theorem dX9_does2_173 : decode cX9_does2 173 = .ok (.dup2, 1) := by decide +kernel
theorem dX9_does2_174 : decode cX9_does2 174 = .ok (.iaload, 1) := by decide +kernel
theorem dX9_does2_175 : decode cX9_does2 175 = .ok (.iload 4, 2) := by decide +kernel
theorem dX9_does2_177 : decode cX9_does2 177 = .ok (.aload_n 0, 1) := by decide +kernel
theorem dX9_does2_178 : decode cX9_does2 178 = .ok (.getfield 223, 3) := by decide +kernel
theorem dX9_does2_181 : decode cX9_does2 181 = .ok (.if_icmp .ge 22, 3) := by decide +kernel
theorem dX9_does2_184 : decode cX9_does2 184 = .ok (.iload 5, 2) := by decide +kernel
theorem dX9_does2_186 : decode cX9_does2 186 = .ok (.aload_n 0, 1) := by decide +kernel
theorem dX9_does2_187 : decode cX9_does2 187 = .ok (.getfield 26, 3) := by decide +kernel
theorem dX9_does2_190 : decode cX9_does2 190 = .ok (.iload 4, 2) := by decide +kernel
theorem dX9_does2_192 : decode cX9_does2 192 = .ok (.iaload, 1) := by decide +kernel
theorem dX9_does2_193 : decode cX9_does2 193 = .ok (.if_icmp .ge 10, 3) := by decide +kernel
theorem dX9_does2_196 : decode cX9_does2 196 = .ok (.iconst 1, 1) := by decide +kernel
theorem dX9_does2_197 : decode cX9_does2 197 = .ok (.iload 5, 2) := by decide +kernel
theorem dX9_does2_199 : decode cX9_does2 199 = .ok (.ishl, 1) := by decide +kernel
theorem dX9_does2_200 : decode cX9_does2 200 = .ok (.goto 4, 3) := by decide +kernel
theorem dX9_does2_203 : decode cX9_does2 203 = .ok (.iconst 0, 1) := by decide +kernel
theorem dX9_does2_204 : decode cX9_does2 204 = .ok (.ixor, 1) := by decide +kernel
theorem dX9_does2_205 : decode cX9_does2 205 = .ok (.iastore, 1) := by decide +kernel
theorem dX9_does2_206 : decode cX9_does2 206 = .ok (.iload_n 2, 1) := by decide +kernel
theorem dX9_does2_207 : decode cX9_does2 207 = .ok (.iconst 1, 1) := by decide +kernel
theorem dX9_does2_208 : decode cX9_does2 208 = .ok (.iadd, 1) := by decide +kernel
theorem dX9_does2_209 : decode cX9_does2 209 = .ok (.ireturn, 1) := by decide +kernel
theorem dX9_does2_210 : decode cX9_does2 210 = .ok (.aload_n 0, 1) := by decide +kernel
theorem dX9_does2_211 : decode cX9_does2 211 = .ok (.getfield 223, 3) := by decide +kernel
theorem dX9_does2_214 : decode cX9_does2 214 = .ok (.ireturn, 1) := by decide +kernel
theorem dX9_does2_215 : decode cX9_does2 215 = .ok (.aload_n 0, 1) := by decide +kernel
theorem dX9_does2_216 : decode cX9_does2 216 = .ok (.aload_n 1, 1) := by decide +kernel
theorem dX9_does2_217 : decode cX9_does2 217 = .ok (.iload_n 3, 1) := by decide +kernel
theorem dX9_does2_218 : decode cX9_does2 218 = .ok (.aload_n 1, 1) := by decide +kernel
theorem dX9_does2_219 : decode cX9_does2 219 = .ok (.bipush 6, 2) := by decide +kernel
theorem dX9_does2_221 : decode cX9_does2 221 = .ok (.iload_n 3, 1) := by decide +kernel
theorem dX9_does2_222 : decode cX9_does2 222 = .ok (.iconst 4, 1) := by decide +kernel
theorem dX9_does2_223 : decode cX9_does2 223 = .ok (.irem, 1) := by decide +kernel
theorem dX9_does2_224 : decode cX9_does2 224 = .ok (.iadd, 1) := by decide +kernel
theorem dX9_does2_225 : decode cX9_does2 225 = .ok (.iaload, 1) := by decide +kernel
theorem dX9_does2_226 : decode cX9_does2 226 = .ok (.iconst 1, 1) := by decide +kernel
theorem dX9_does2_227 : decode cX9_does2 227 = .ok (.iadd, 1) := by decide +kernel
theorem dX9_does2_228 : decode cX9_does2 228 = .ok (.invokevirtual 325, 3) := by decide +kernel
theorem dX9_does2_231 : decode cX9_does2 231 = .ok (.iload_n 2, 1) := by decide +kernel
theorem dX9_does2_232 : decode cX9_does2 232 = .ok (.iconst 1, 1) := by decide +kernel
theorem dX9_does2_233 : decode cX9_does2 233 = .ok (.iadd, 1) := by decide +kernel
theorem dX9_does2_234 : decode cX9_does2 234 = .ok (.ireturn, 1) := by decide +kernel
theorem dX9_deed_0 : decode cX9_deed 0 = .ok (.aload_n 0, 1) := by decide +kernel
theorem dX9_deed_1 : decode cX9_deed 1 = .ok (.aload_n 1, 1) := by decide +kernel
theorem dX9_deed_2 : decode cX9_deed 2 = .ok (.invokevirtual 329, 3) := by decide +kernel
theorem dX9_deed_5 : decode cX9_deed 5 = .ok (.istore_n 2, 1) := by decide +kernel
theorem dX9_deed_6 : decode cX9_deed 6 = .ok (.aload_n 1, 1) := by decide +kernel
theorem dX9_deed_7 : decode cX9_deed 7 = .ok (.bipush 11, 2) := by decide +kernel
theorem dX9_deed_9 : decode cX9_deed 9 = .ok (.iload_n 2, 1) := by decide +kernel
theorem dX9_deed_10 : decode cX9_deed 10 = .ok (.iconst (-1), 1) := by decide +kernel
theorem dX9_deed_11 : decode cX9_deed 11 = .ok (.if_icmp .ne 10, 3) := by decide +kernel
theorem dX9_deed_14 : decode cX9_deed 14 = .ok (.aload_n 0, 1) := by decide +kernel
theorem dX9_deed_15 : decode cX9_deed 15 = .ok (.getfield 223, 3) := by decide +kernel
theorem dX9_deed_18 : decode cX9_deed 18 = .ok (.goto 16, 3) := by decide +kernel
theorem dX9_deed_21 : decode cX9_deed 21 = .ok (.aload_n 0, 1) := by decide +kernel
theorem dX9_deed_22 : decode cX9_deed 22 = .ok (.getfield 223, 3) := by decide +kernel
theorem dX9_deed_25 : decode cX9_deed 25 = .ok (.aload_n 0, 1) := by decide +kernel
theorem dX9_deed_26 : decode cX9_deed 26 = .ok (.aload_n 1, 1) := by decide +kernel
theorem dX9_deed_27 : decode cX9_deed 27 = .ok (.iload_n 2, 1) := by decide +kernel
theorem dX9_deed_28 : decode cX9_deed 28 = .ok (.invokevirtual 332, 3) := by decide +kernel
theorem dX9_deed_31 : decode cX9_deed 31 = .ok (.invokestatic 273, 3) := by decide +kernel
theorem dX9_deed_34 : decode cX9_deed 34 = .ok (.iastore, 1) := by decide +kernel
theorem dX9_deed_35 : decode cX9_deed 35 = .ok (.aload_n 1, 1) := by decide +kernel
theorem dX9_deed_36 : decode cX9_deed 36 = .ok (.bipush 13, 2) := by decide +kernel
theorem dX9_deed_38 : decode cX9_deed 38 = .ok (.dup2, 1) := by decide +kernel
theorem dX9_deed_39 : decode cX9_deed 39 = .ok (.iaload, 1) := by decide +kernel
theorem dX9_deed_40 : decode cX9_deed 40 = .ok (.iload_n 2, 1) := by decide +kernel
theorem dX9_deed_41 : decode cX9_deed 41 = .ok (.iconst (-1), 1) := by decide +kernel
theorem dX9_deed_42 : decode cX9_deed 42 = .ok (.if_icmp .ne 7, 3) := by decide +kernel
theorem dX9_deed_45 : decode cX9_deed 45 = .ok (.iconst 0, 1) := by decide +kernel
theorem dX9_deed_46 : decode cX9_deed 46 = .ok (.goto 4, 3) := by decide +kernel
theorem dX9_deed_49 : decode cX9_deed 49 = .ok (.iconst 1, 1) := by decide +kernel
theorem dX9_deed_50 : decode cX9_deed 50 = .ok (.iadd, 1) := by decide +kernel
theorem dX9_deed_51 : decode cX9_deed 51 = .ok (.iastore, 1) := by decide +kernel
theorem dX9_deed_52 : decode cX9_deed 52 = .ok (.iload_n 2, 1) := by decide +kernel
theorem dX9_deed_53 : decode cX9_deed 53 = .ok (.iconst (-1), 1) := by decide +kernel
theorem dX9_deed_54 : decode cX9_deed 54 = .ok (.if_icmp .eq 7, 3) := by decide +kernel
theorem dX9_deed_57 : decode cX9_deed 57 = .ok (.iconst 1, 1) := by decide +kernel
theorem dX9_deed_58 : decode cX9_deed 58 = .ok (.goto 4, 3) := by decide +kernel
theorem dX9_deed_61 : decode cX9_deed 61 = .ok (.iconst 0, 1) := by decide +kernel
theorem dX9_deed_62 : decode cX9_deed 62 = .ok (.ireturn, 1) := by decide +kernel
theorem dX9_runs_0 : decode cX9_runs 0 = .ok (.aload_n 1, 1) := by decide +kernel
theorem dX9_runs_1 : decode cX9_runs 1 = .ok (.bipush 11, 2) := by decide +kernel
theorem dX9_runs_3 : decode cX9_runs 3 = .ok (.iaload, 1) := by decide +kernel
theorem dX9_runs_4 : decode cX9_runs 4 = .ok (.aload_n 0, 1) := by decide +kernel
theorem dX9_runs_5 : decode cX9_runs 5 = .ok (.getfield 223, 3) := by decide +kernel
theorem dX9_runs_8 : decode cX9_runs 8 = .ok (.if_icmp .lt 5, 3) := by decide +kernel
theorem dX9_runs_11 : decode cX9_runs 11 = .ok (.iconst 0, 1) := by decide +kernel
theorem dX9_runs_12 : decode cX9_runs 12 = .ok (.ireturn, 1) := by decide +kernel
theorem dX9_runs_13 : decode cX9_runs 13 = .ok (.iconst 0, 1) := by decide +kernel
theorem dX9_runs_14 : decode cX9_runs 14 = .ok (.istore_n 3, 1) := by decide +kernel
theorem dX9_runs_15 : decode cX9_runs 15 = .ok (.iload_n 3, 1) := by decide +kernel
theorem dX9_runs_16 : decode cX9_runs 16 = .ok (.iload_n 2, 1) := by decide +kernel
theorem dX9_runs_17 : decode cX9_runs 17 = .ok (.if_icmp .ge 26, 3) := by decide +kernel
theorem dX9_runs_20 : decode cX9_runs 20 = .ok (.aload_n 1, 1) := by decide +kernel
theorem dX9_runs_21 : decode cX9_runs 21 = .ok (.bipush 11, 2) := by decide +kernel
theorem dX9_runs_23 : decode cX9_runs 23 = .ok (.iaload, 1) := by decide +kernel
theorem dX9_runs_24 : decode cX9_runs 24 = .ok (.aload_n 0, 1) := by decide +kernel
theorem dX9_runs_25 : decode cX9_runs 25 = .ok (.getfield 223, 3) := by decide +kernel
theorem dX9_runs_28 : decode cX9_runs 28 = .ok (.if_icmp .ge 15, 3) := by decide +kernel
theorem dX9_runs_31 : decode cX9_runs 31 = .ok (.aload_n 0, 1) := by decide +kernel
theorem dX9_runs_32 : decode cX9_runs 32 = .ok (.aload_n 1, 1) := by decide +kernel
theorem dX9_runs_33 : decode cX9_runs 33 = .ok (.invokevirtual 335, 3) := by decide +kernel
theorem dX9_runs_36 : decode cX9_runs 36 = .ok (.pop, 1) := by decide +kernel
theorem dX9_runs_37 : decode cX9_runs 37 = .ok (.iinc 3 1, 3) := by decide +kernel
theorem dX9_runs_40 : decode cX9_runs 40 = .ok (.goto (-25), 3) := by decide +kernel
theorem dX9_runs_43 : decode cX9_runs 43 = .ok (.iconst 1, 1) := by decide +kernel
theorem dX9_runs_44 : decode cX9_runs 44 = .ok (.ireturn, 1) := by decide +kernel
theorem dX9_begins_0 : decode cX9_begins 0 = .ok (.aload_n 1, 1) := by decide +kernel
theorem dX9_begins_1 : decode cX9_begins 1 = .ok (.bipush 11, 2) := by decide +kernel
theorem dX9_begins_3 : decode cX9_begins 3 = .ok (.iaload, 1) := by decide +kernel
theorem dX9_begins_4 : decode cX9_begins 4 = .ok (.ifCond .eq 10, 3) := by decide +kernel
theorem dX9_begins_7 : decode cX9_begins 7 = .ok (.aload_n 0, 1) := by decide +kernel
theorem dX9_begins_8 : decode cX9_begins 8 = .ok (.getfield 223, 3) := by decide +kernel
theorem dX9_begins_11 : decode cX9_begins 11 = .ok (.ifCond .ne 5, 3) := by decide +kernel
theorem dX9_begins_14 : decode cX9_begins 14 = .ok (.iconst 0, 1) := by decide +kernel
theorem dX9_begins_15 : decode cX9_begins 15 = .ok (.ireturn, 1) := by decide +kernel
theorem dX9_begins_16 : decode cX9_begins 16 = .ok (.aload_n 1, 1) := by decide +kernel
theorem dX9_begins_17 : decode cX9_begins 17 = .ok (.bipush 11, 2) := by decide +kernel
theorem dX9_begins_19 : decode cX9_begins 19 = .ok (.iconst 0, 1) := by decide +kernel
theorem dX9_begins_20 : decode cX9_begins 20 = .ok (.iastore, 1) := by decide +kernel
theorem dX9_begins_21 : decode cX9_begins 21 = .ok (.iconst 1, 1) := by decide +kernel
theorem dX9_begins_22 : decode cX9_begins 22 = .ok (.ireturn, 1) := by decide +kernel
theorem dX9_wipes_0 : decode cX9_wipes 0 = .ok (.iconst 0, 1) := by decide +kernel
theorem dX9_wipes_1 : decode cX9_wipes 1 = .ok (.istore_n 2, 1) := by decide +kernel
theorem dX9_wipes_2 : decode cX9_wipes 2 = .ok (.iconst 0, 1) := by decide +kernel
theorem dX9_wipes_3 : decode cX9_wipes 3 = .ok (.istore_n 3, 1) := by decide +kernel
theorem dX9_wipes_4 : decode cX9_wipes 4 = .ok (.iload_n 3, 1) := by decide +kernel
theorem dX9_wipes_5 : decode cX9_wipes 5 = .ok (.aload_n 0, 1) := by decide +kernel
theorem dX9_wipes_6 : decode cX9_wipes 6 = .ok (.getfield 223, 3) := by decide +kernel
theorem dX9_wipes_9 : decode cX9_wipes 9 = .ok (.if_icmp .ge 31, 3) := by decide +kernel
theorem dX9_wipes_12 : decode cX9_wipes 12 = .ok (.iload_n 2, 1) := by decide +kernel
theorem dX9_wipes_13 : decode cX9_wipes 13 = .ok (.aload_n 1, 1) := by decide +kernel
theorem dX9_wipes_14 : decode cX9_wipes 14 = .ok (.iconst 0, 1) := by decide +kernel
theorem dX9_wipes_15 : decode cX9_wipes 15 = .ok (.iload_n 3, 1) := by decide +kernel
theorem dX9_wipes_16 : decode cX9_wipes 16 = .ok (.iadd, 1) := by decide +kernel
theorem dX9_wipes_17 : decode cX9_wipes 17 = .ok (.iaload, 1) := by decide +kernel
theorem dX9_wipes_18 : decode cX9_wipes 18 = .ok (.ifCond .eq 7, 3) := by decide +kernel
theorem dX9_wipes_21 : decode cX9_wipes 21 = .ok (.iconst 1, 1) := by decide +kernel
theorem dX9_wipes_22 : decode cX9_wipes 22 = .ok (.goto 4, 3) := by decide +kernel
theorem dX9_wipes_25 : decode cX9_wipes 25 = .ok (.iconst 0, 1) := by decide +kernel
theorem dX9_wipes_26 : decode cX9_wipes 26 = .ok (.ior, 1) := by decide +kernel
theorem dX9_wipes_27 : decode cX9_wipes 27 = .ok (.istore_n 2, 1) := by decide +kernel
theorem dX9_wipes_28 : decode cX9_wipes 28 = .ok (.aload_n 1, 1) := by decide +kernel
theorem dX9_wipes_29 : decode cX9_wipes 29 = .ok (.iconst 0, 1) := by decide +kernel
theorem dX9_wipes_30 : decode cX9_wipes 30 = .ok (.iload_n 3, 1) := by decide +kernel
theorem dX9_wipes_31 : decode cX9_wipes 31 = .ok (.iadd, 1) := by decide +kernel
theorem dX9_wipes_32 : decode cX9_wipes 32 = .ok (.iconst 0, 1) := by decide +kernel
theorem dX9_wipes_33 : decode cX9_wipes 33 = .ok (.iastore, 1) := by decide +kernel
theorem dX9_wipes_34 : decode cX9_wipes 34 = .ok (.iinc 3 1, 3) := by decide +kernel
theorem dX9_wipes_37 : decode cX9_wipes 37 = .ok (.goto (-33), 3) := by decide +kernel
theorem dX9_wipes_40 : decode cX9_wipes 40 = .ok (.iload_n 2, 1) := by decide +kernel
theorem dX9_wipes_41 : decode cX9_wipes 41 = .ok (.ireturn, 1) := by decide +kernel
theorem dX9_becomes_0 : decode cX9_becomes 0 = .ok (.aload_n 0, 1) := by decide +kernel
theorem dX9_becomes_1 : decode cX9_becomes 1 = .ok (.iload_n 1, 1) := by decide +kernel
theorem dX9_becomes_2 : decode cX9_becomes 2 = .ok (.iaload, 1) := by decide +kernel
theorem dX9_becomes_3 : decode cX9_becomes 3 = .ok (.iload_n 2, 1) := by decide +kernel
theorem dX9_becomes_4 : decode cX9_becomes 4 = .ok (.if_icmp .ne 5, 3) := by decide +kernel
theorem dX9_becomes_7 : decode cX9_becomes 7 = .ok (.iconst 0, 1) := by decide +kernel
theorem dX9_becomes_8 : decode cX9_becomes 8 = .ok (.ireturn, 1) := by decide +kernel
theorem dX9_becomes_9 : decode cX9_becomes 9 = .ok (.aload_n 0, 1) := by decide +kernel
theorem dX9_becomes_10 : decode cX9_becomes 10 = .ok (.iload_n 1, 1) := by decide +kernel
theorem dX9_becomes_11 : decode cX9_becomes 11 = .ok (.iload_n 2, 1) := by decide +kernel
theorem dX9_becomes_12 : decode cX9_becomes 12 = .ok (.iastore, 1) := by decide +kernel
theorem dX9_becomes_13 : decode cX9_becomes 13 = .ok (.iconst 1, 1) := by decide +kernel
theorem dX9_becomes_14 : decode cX9_becomes 14 = .ok (.ireturn, 1) := by decide +kernel
theorem dX9_does_0 : decode cX9_does 0 = .ok (.aload_n 2, 1) := by decide +kernel
theorem dX9_does_1 : decode cX9_does 1 = .ok (.iconst 0, 1) := by decide +kernel
theorem dX9_does_2 : decode cX9_does 2 = .ok (.iaload, 1) := by decide +kernel
theorem dX9_does_3 : decode cX9_does 3 = .ok (.tableswitch 90 0 4 #[33, 48, 57, 63, 84], 33) := by decide +kernel
theorem dX9_does_36 : decode cX9_does 36 = .ok (.aload_n 0, 1) := by decide +kernel
theorem dX9_does_37 : decode cX9_does 37 = .ok (.aload_n 1, 1) := by decide +kernel
theorem dX9_does_38 : decode cX9_does 38 = .ok (.aload_n 2, 1) := by decide +kernel
theorem dX9_does_39 : decode cX9_does 39 = .ok (.iconst 1, 1) := by decide +kernel
theorem dX9_does_40 : decode cX9_does 40 = .ok (.iaload, 1) := by decide +kernel
theorem dX9_does_41 : decode cX9_does 41 = .ok (.aload_n 2, 1) := by decide +kernel
theorem dX9_does_42 : decode cX9_does 42 = .ok (.iconst 2, 1) := by decide +kernel
theorem dX9_does_43 : decode cX9_does 43 = .ok (.iaload, 1) := by decide +kernel
theorem dX9_does_44 : decode cX9_does 44 = .ok (.aload_n 2, 1) := by decide +kernel
theorem dX9_does_45 : decode cX9_does 45 = .ok (.iconst 3, 1) := by decide +kernel
theorem dX9_does_46 : decode cX9_does 46 = .ok (.iaload, 1) := by decide +kernel
theorem dX9_does_47 : decode cX9_does 47 = .ok (.invokevirtual 339, 3) := by decide +kernel
theorem dX9_does_50 : decode cX9_does 50 = .ok (.ireturn, 1) := by decide +kernel
theorem dX9_does_51 : decode cX9_does 51 = .ok (.aload_n 0, 1) := by decide +kernel
theorem dX9_does_52 : decode cX9_does 52 = .ok (.aload_n 1, 1) := by decide +kernel
theorem dX9_does_53 : decode cX9_does 53 = .ok (.aload_n 2, 1) := by decide +kernel
theorem dX9_does_54 : decode cX9_does 54 = .ok (.iconst 1, 1) := by decide +kernel
theorem dX9_does_55 : decode cX9_does 55 = .ok (.iaload, 1) := by decide +kernel
theorem dX9_does_56 : decode cX9_does 56 = .ok (.invokevirtual 343, 3) := by decide +kernel
theorem dX9_does_59 : decode cX9_does 59 = .ok (.ireturn, 1) := by decide +kernel
theorem dX9_does_60 : decode cX9_does 60 = .ok (.aload_n 0, 1) := by decide +kernel
theorem dX9_does_61 : decode cX9_does 61 = .ok (.aload_n 1, 1) := by decide +kernel
theorem dX9_does_62 : decode cX9_does 62 = .ok (.invokevirtual 347, 3) := by decide +kernel
theorem dX9_does_65 : decode cX9_does 65 = .ok (.ireturn, 1) := by decide +kernel
theorem dX9_does_66 : decode cX9_does 66 = .ok (.aload_n 1, 1) := by decide +kernel
theorem dX9_does_67 : decode cX9_does 67 = .ok (.bipush 10, 2) := by decide +kernel
theorem dX9_does_69 : decode cX9_does 69 = .ok (.sipush 200, 3) := by decide +kernel
theorem dX9_does_72 : decode cX9_does 72 = .ok (.aload_n 1, 1) := by decide +kernel
theorem dX9_does_73 : decode cX9_does 73 = .ok (.bipush 10, 2) := by decide +kernel
theorem dX9_does_75 : decode cX9_does 75 = .ok (.iaload, 1) := by decide +kernel
theorem dX9_does_76 : decode cX9_does 76 = .ok (.aload_n 2, 1) := by decide +kernel
theorem dX9_does_77 : decode cX9_does 77 = .ok (.iconst 1, 1) := by decide +kernel
theorem dX9_does_78 : decode cX9_does 78 = .ok (.iaload, 1) := by decide +kernel
theorem dX9_does_79 : decode cX9_does 79 = .ok (.iadd, 1) := by decide +kernel
theorem dX9_does_80 : decode cX9_does 80 = .ok (.invokestatic 273, 3) := by decide +kernel
theorem dX9_does_83 : decode cX9_does 83 = .ok (.invokestatic 350, 3) := by decide +kernel
theorem dX9_does_86 : decode cX9_does 86 = .ok (.ireturn, 1) := by decide +kernel
theorem dX9_does_87 : decode cX9_does 87 = .ok (.aload_n 0, 1) := by decide +kernel
theorem dX9_does_88 : decode cX9_does 88 = .ok (.aload_n 1, 1) := by decide +kernel
theorem dX9_does_89 : decode cX9_does 89 = .ok (.invokevirtual 354, 3) := by decide +kernel
theorem dX9_does_92 : decode cX9_does 92 = .ok (.ireturn, 1) := by decide +kernel
theorem dX9_does_93 : decode cX9_does 93 = .ok (.aload_n 1, 1) := by decide +kernel
theorem dX9_does_94 : decode cX9_does 94 = .ok (.bipush 6, 2) := by decide +kernel
theorem dX9_does_96 : decode cX9_does 96 = .ok (.aload_n 2, 1) := by decide +kernel
theorem dX9_does_97 : decode cX9_does 97 = .ok (.iconst 1, 1) := by decide +kernel
theorem dX9_does_98 : decode cX9_does 98 = .ok (.iaload, 1) := by decide +kernel
theorem dX9_does_99 : decode cX9_does 99 = .ok (.iadd, 1) := by decide +kernel
theorem dX9_does_100 : decode cX9_does 100 = .ok (.aload_n 2, 1) := by decide +kernel
theorem dX9_does_101 : decode cX9_does 101 = .ok (.iconst 2, 1) := by decide +kernel
theorem dX9_does_102 : decode cX9_does 102 = .ok (.iaload, 1) := by decide +kernel
theorem dX9_does_103 : decode cX9_does 103 = .ok (.invokestatic 350, 3) := by decide +kernel
theorem dX9_does_106 : decode cX9_does 106 = .ok (.ireturn, 1) := by decide +kernel
theorem dX9_goes_0 : decode cX9_goes 0 = .ok (.iload_n 1, 1) := by decide +kernel
theorem dX9_goes_1 : decode cX9_goes 1 = .ok (.istore_n 3, 1) := by decide +kernel
theorem dX9_goes_2 : decode cX9_goes 2 = .ok (.iload_n 3, 1) := by decide +kernel
theorem dX9_goes_3 : decode cX9_goes 3 = .ok (.iload_n 2, 1) := by decide +kernel
theorem dX9_goes_4 : decode cX9_goes 4 = .ok (.if_icmp .ge 152, 3) := by decide +kernel
theorem dX9_goes_7 : decode cX9_goes 7 = .ok (.aload_n 0, 1) := by decide +kernel
theorem dX9_goes_8 : decode cX9_goes 8 = .ok (.getfield 357, 3) := by decide +kernel
theorem dX9_goes_11 : decode cX9_goes 11 = .ok (.sipush 200, 3) := by decide +kernel
theorem dX9_goes_14 : decode cX9_goes 14 = .ok (.if_icmp .ge 142, 3) := by decide +kernel
theorem dX9_goes_17 : decode cX9_goes 17 = .ok (.aload_n 0, 1) := by decide +kernel
theorem dX9_goes_18 : decode cX9_goes 18 = .ok (.dup, 1) := by decide +kernel
theorem dX9_goes_19 : decode cX9_goes 19 = .ok (.getfield 357, 3) := by decide +kernel
theorem dX9_goes_22 : decode cX9_goes 22 = .ok (.iconst 1, 1) := by decide +kernel
theorem dX9_goes_23 : decode cX9_goes 23 = .ok (.iadd, 1) := by decide +kernel
theorem dX9_goes_24 : decode cX9_goes 24 = .ok (.putfield 357, 3) := by decide +kernel
theorem dX9_goes_27 : decode cX9_goes 27 = .ok (.aload_n 0, 1) := by decide +kernel
theorem dX9_goes_28 : decode cX9_goes 28 = .ok (.getfield 55, 3) := by decide +kernel
theorem dX9_goes_31 : decode cX9_goes 31 = .ok (.iload_n 3, 1) := by decide +kernel
theorem dX9_goes_32 : decode cX9_goes 32 = .ok (.aaload, 1) := by decide +kernel
theorem dX9_goes_33 : decode cX9_goes 33 = .ok (.iconst 0, 1) := by decide +kernel
theorem dX9_goes_34 : decode cX9_goes 34 = .ok (.iaload, 1) := by decide +kernel
theorem dX9_goes_35 : decode cX9_goes 35 = .ok (.bipush 6, 2) := by decide +kernel
theorem dX9_goes_37 : decode cX9_goes 37 = .ok (.if_icmp .ne 53, 3) := by decide +kernel
theorem dX9_goes_40 : decode cX9_goes 40 = .ok (.iconst 0, 1) := by decide +kernel
theorem dX9_goes_41 : decode cX9_goes 41 = .ok (.istore 4, 2) := by decide +kernel
theorem dX9_goes_43 : decode cX9_goes 43 = .ok (.iload 4, 2) := by decide +kernel
theorem dX9_goes_45 : decode cX9_goes 45 = .ok (.aload_n 0, 1) := by decide +kernel
theorem dX9_goes_46 : decode cX9_goes 46 = .ok (.getfield 55, 3) := by decide +kernel
theorem dX9_goes_49 : decode cX9_goes 49 = .ok (.iload_n 3, 1) := by decide +kernel
theorem dX9_goes_50 : decode cX9_goes 50 = .ok (.aaload, 1) := by decide +kernel
theorem dX9_goes_51 : decode cX9_goes 51 = .ok (.iconst 1, 1) := by decide +kernel
theorem dX9_goes_52 : decode cX9_goes 52 = .ok (.iaload, 1) := by decide +kernel
theorem dX9_goes_53 : decode cX9_goes 53 = .ok (.if_icmp .ge 34, 3) := by decide +kernel
theorem dX9_goes_56 : decode cX9_goes 56 = .ok (.aload_n 0, 1) := by decide +kernel
theorem dX9_goes_57 : decode cX9_goes 57 = .ok (.getfield 357, 3) := by decide +kernel
theorem dX9_goes_60 : decode cX9_goes 60 = .ok (.sipush 200, 3) := by decide +kernel
theorem dX9_goes_63 : decode cX9_goes 63 = .ok (.if_icmp .ge 24, 3) := by decide +kernel
theorem dX9_goes_66 : decode cX9_goes 66 = .ok (.aload_n 0, 1) := by decide +kernel
theorem dX9_goes_67 : decode cX9_goes 67 = .ok (.iload_n 3, 1) := by decide +kernel
theorem dX9_goes_68 : decode cX9_goes 68 = .ok (.iconst 1, 1) := by decide +kernel
theorem dX9_goes_69 : decode cX9_goes 69 = .ok (.iadd, 1) := by decide +kernel
theorem dX9_goes_70 : decode cX9_goes 70 = .ok (.aload_n 0, 1) := by decide +kernel
theorem dX9_goes_71 : decode cX9_goes 71 = .ok (.getfield 55, 3) := by decide +kernel
theorem dX9_goes_74 : decode cX9_goes 74 = .ok (.iload_n 3, 1) := by decide +kernel
theorem dX9_goes_75 : decode cX9_goes 75 = .ok (.aaload, 1) := by decide +kernel
theorem dX9_goes_76 : decode cX9_goes 76 = .ok (.iconst 4, 1) := by decide +kernel
theorem dX9_goes_77 : decode cX9_goes 77 = .ok (.iaload, 1) := by decide +kernel
theorem dX9_goes_78 : decode cX9_goes 78 = .ok (.invokevirtual 360, 3) := by decide +kernel
theorem dX9_goes_81 : decode cX9_goes 81 = .ok (.iinc 4 1, 3) := by decide +kernel
theorem dX9_goes_84 : decode cX9_goes 84 = .ok (.goto (-41), 3) := by decide +kernel
theorem dX9_goes_87 : decode cX9_goes 87 = .ok (.goto 57, 3) := by decide +kernel
theorem dX9_goes_90 : decode cX9_goes 90 = .ok (.aload_n 0, 1) := by decide +kernel
theorem dX9_goes_91 : decode cX9_goes 91 = .ok (.aload_n 0, 1) := by decide +kernel
theorem dX9_goes_92 : decode cX9_goes 92 = .ok (.getfield 58, 3) := by decide +kernel
theorem dX9_goes_95 : decode cX9_goes 95 = .ok (.aload_n 0, 1) := by decide +kernel
theorem dX9_goes_96 : decode cX9_goes 96 = .ok (.getfield 55, 3) := by decide +kernel
theorem dX9_goes_99 : decode cX9_goes 99 = .ok (.iload_n 3, 1) := by decide +kernel
theorem dX9_goes_100 : decode cX9_goes 100 = .ok (.aaload, 1) := by decide +kernel
theorem dX9_goes_101 : decode cX9_goes 101 = .ok (.invokevirtual 363, 3) := by decide +kernel
theorem dX9_goes_104 : decode cX9_goes 104 = .ok (.istore 4, 2) := by decide +kernel
theorem dX9_goes_106 : decode cX9_goes 106 = .ok (.aload_n 0, 1) := by decide +kernel
theorem dX9_goes_107 : decode cX9_goes 107 = .ok (.dup, 1) := by decide +kernel
theorem dX9_goes_108 : decode cX9_goes 108 = .ok (.getfield 367, 3) := by decide +kernel
theorem dX9_goes_111 : decode cX9_goes 111 = .ok (.iload 4, 2) := by decide +kernel
theorem dX9_goes_113 : decode cX9_goes 113 = .ok (.ifCond .eq 7, 3) := by decide +kernel
theorem dX9_goes_116 : decode cX9_goes 116 = .ok (.iconst 1, 1) := by decide +kernel
theorem dX9_goes_117 : decode cX9_goes 117 = .ok (.goto 4, 3) := by decide +kernel
theorem dX9_goes_120 : decode cX9_goes 120 = .ok (.iconst 0, 1) := by decide +kernel
theorem dX9_goes_121 : decode cX9_goes 121 = .ok (.iadd, 1) := by decide +kernel
theorem dX9_goes_122 : decode cX9_goes 122 = .ok (.putfield 367, 3) := by decide +kernel
theorem dX9_goes_125 : decode cX9_goes 125 = .ok (.aload_n 0, 1) := by decide +kernel
theorem dX9_goes_126 : decode cX9_goes 126 = .ok (.dup, 1) := by decide +kernel
theorem dX9_goes_127 : decode cX9_goes 127 = .ok (.getfield 239, 3) := by decide +kernel
theorem dX9_goes_130 : decode cX9_goes 130 = .ok (.iload 4, 2) := by decide +kernel
theorem dX9_goes_132 : decode cX9_goes 132 = .ok (.ifCond .eq 7, 3) := by decide +kernel
theorem dX9_goes_135 : decode cX9_goes 135 = .ok (.iconst 0, 1) := by decide +kernel
theorem dX9_goes_136 : decode cX9_goes 136 = .ok (.goto 4, 3) := by decide +kernel
theorem dX9_goes_139 : decode cX9_goes 139 = .ok (.iconst 1, 1) := by decide +kernel
theorem dX9_goes_140 : decode cX9_goes 140 = .ok (.iadd, 1) := by decide +kernel
theorem dX9_goes_141 : decode cX9_goes 141 = .ok (.putfield 239, 3) := by decide +kernel
theorem dX9_goes_144 : decode cX9_goes 144 = .ok (.aload_n 0, 1) := by decide +kernel
theorem dX9_goes_145 : decode cX9_goes 145 = .ok (.getfield 55, 3) := by decide +kernel
theorem dX9_goes_148 : decode cX9_goes 148 = .ok (.iload_n 3, 1) := by decide +kernel
theorem dX9_goes_149 : decode cX9_goes 149 = .ok (.aaload, 1) := by decide +kernel
theorem dX9_goes_150 : decode cX9_goes 150 = .ok (.iconst 4, 1) := by decide +kernel
theorem dX9_goes_151 : decode cX9_goes 151 = .ok (.iaload, 1) := by decide +kernel
theorem dX9_goes_152 : decode cX9_goes 152 = .ok (.istore_n 3, 1) := by decide +kernel
theorem dX9_goes_153 : decode cX9_goes 153 = .ok (.goto (-151), 3) := by decide +kernel
theorem dX9_goes_156 : decode cX9_goes 156 = .ok (.return_, 1) := by decide +kernel
theorem dX9_work_0 : decode cX9_work 0 = .ok (.aload_n 0, 1) := by decide +kernel
theorem dX9_work_1 : decode cX9_work 1 = .ok (.iconst 0, 1) := by decide +kernel
theorem dX9_work_2 : decode cX9_work 2 = .ok (.putfield 128, 3) := by decide +kernel
theorem dX9_work_5 : decode cX9_work 5 = .ok (.aload_n 0, 1) := by decide +kernel
theorem dX9_work_6 : decode cX9_work 6 = .ok (.iload_n 1, 1) := by decide +kernel
theorem dX9_work_7 : decode cX9_work 7 = .ok (.iconst 0, 1) := by decide +kernel
theorem dX9_work_8 : decode cX9_work 8 = .ok (.aload_n 0, 1) := by decide +kernel
theorem dX9_work_9 : decode cX9_work 9 = .ok (.getfield 131, 3) := by decide +kernel
theorem dX9_work_12 : decode cX9_work 12 = .ok (.invokestatic 162, 3) := by decide +kernel
theorem dX9_work_15 : decode cX9_work 15 = .ok (.ifCond .eq 10, 3) := by decide +kernel
theorem dX9_work_18 : decode cX9_work 18 = .ok (.iload_n 1, 1) := by decide +kernel
theorem dX9_work_19 : decode cX9_work 19 = .ok (.sipush 150, 3) := by decide +kernel
theorem dX9_work_22 : decode cX9_work 22 = .ok (.if_icmp .le 7, 3) := by decide +kernel
theorem dX9_work_25 : decode cX9_work 25 = .ok (.iconst 1, 1) := by decide +kernel
theorem dX9_work_26 : decode cX9_work 26 = .ok (.goto 4, 3) := by decide +kernel
theorem dX9_work_29 : decode cX9_work 29 = .ok (.iconst 0, 1) := by decide +kernel
theorem dX9_work_30 : decode cX9_work 30 = .ok (.iconst 1, 1) := by decide +kernel
theorem dX9_work_31 : decode cX9_work 31 = .ok (.iconst 1, 1) := by decide +kernel
theorem dX9_work_32 : decode cX9_work 32 = .ok (.invokevirtual 207, 3) := by decide +kernel
theorem dX9_work_35 : decode cX9_work 35 = .ok (.ifCond .eq 5, 3) := by decide +kernel
theorem dX9_work_38 : decode cX9_work 38 = .ok (.iconst 0, 1) := by decide +kernel
theorem dX9_work_39 : decode cX9_work 39 = .ok (.ireturn, 1) := by decide +kernel
theorem dX9_work_40 : decode cX9_work 40 = .ok (.aload_n 0, 1) := by decide +kernel
theorem dX9_work_41 : decode cX9_work 41 = .ok (.getfield 236, 3) := by decide +kernel
theorem dX9_work_44 : decode cX9_work 44 = .ok (.bipush 16, 2) := by decide +kernel
theorem dX9_work_46 : decode cX9_work 46 = .ok (.if_icmp .ne 16, 3) := by decide +kernel
theorem dX9_work_49 : decode cX9_work 49 = .ok (.aload_n 0, 1) := by decide +kernel
theorem dX9_work_50 : decode cX9_work 50 = .ok (.iconst 0, 1) := by decide +kernel
theorem dX9_work_51 : decode cX9_work 51 = .ok (.putfield 131, 3) := by decide +kernel
theorem dX9_work_54 : decode cX9_work 54 = .ok (.aload_n 0, 1) := by decide +kernel
theorem dX9_work_55 : decode cX9_work 55 = .ok (.iconst (-1), 1) := by decide +kernel
theorem dX9_work_56 : decode cX9_work 56 = .ok (.putfield 9, 3) := by decide +kernel
theorem dX9_work_59 : decode cX9_work 59 = .ok (.bipush (-20), 2) := by decide +kernel
theorem dX9_work_61 : decode cX9_work 61 = .ok (.ireturn, 1) := by decide +kernel
theorem dX9_work_62 : decode cX9_work 62 = .ok (.aload_n 0, 1) := by decide +kernel
theorem dX9_work_63 : decode cX9_work 63 = .ok (.iload_n 1, 1) := by decide +kernel
theorem dX9_work_64 : decode cX9_work 64 = .ok (.invokevirtual 211, 3) := by decide +kernel
theorem dX9_work_67 : decode cX9_work 67 = .ok (.aload_n 0, 1) := by decide +kernel
theorem dX9_work_68 : decode cX9_work 68 = .ok (.iconst 0, 1) := by decide +kernel
theorem dX9_work_69 : decode cX9_work 69 = .ok (.putfield 286, 3) := by decide +kernel
theorem dX9_work_72 : decode cX9_work 72 = .ok (.aload_n 0, 1) := by decide +kernel
theorem dX9_work_73 : decode cX9_work 73 = .ok (.getfield 144, 3) := by decide +kernel
theorem dX9_work_76 : decode cX9_work 76 = .ok (.ifCond .ne 25, 3) := by decide +kernel
theorem dX9_work_79 : decode cX9_work 79 = .ok (.aload_n 0, 1) := by decide +kernel
theorem dX9_work_80 : decode cX9_work 80 = .ok (.getfield 137, 3) := by decide +kernel
theorem dX9_work_83 : decode cX9_work 83 = .ok (.aload_n 0, 1) := by decide +kernel
theorem dX9_work_84 : decode cX9_work 84 = .ok (.getfield 134, 3) := by decide +kernel
theorem dX9_work_87 : decode cX9_work 87 = .ok (.if_icmp .ge 14, 3) := by decide +kernel
theorem dX9_work_90 : decode cX9_work 90 = .ok (.aload_n 0, 1) := by decide +kernel
theorem dX9_work_91 : decode cX9_work 91 = .ok (.invokevirtual 289, 3) := by decide +kernel
theorem dX9_work_94 : decode cX9_work 94 = .ok (.aload_n 0, 1) := by decide +kernel
theorem dX9_work_95 : decode cX9_work 95 = .ok (.invokevirtual 150, 3) := by decide +kernel
theorem dX9_work_98 : decode cX9_work 98 = .ok (.goto (-26), 3) := by decide +kernel
theorem dX9_work_101 : decode cX9_work 101 = .ok (.aload_n 0, 1) := by decide +kernel
theorem dX9_work_102 : decode cX9_work 102 = .ok (.getfield 144, 3) := by decide +kernel
theorem dX9_work_105 : decode cX9_work 105 = .ok (.ifCond .eq 8, 3) := by decide +kernel
theorem dX9_work_108 : decode cX9_work 108 = .ok (.aload_n 0, 1) := by decide +kernel
theorem dX9_work_109 : decode cX9_work 109 = .ok (.invokevirtual 217, 3) := by decide +kernel
theorem dX9_work_112 : decode cX9_work 112 = .ok (.ireturn, 1) := by decide +kernel
theorem dX9_work_113 : decode cX9_work 113 = .ok (.aload_n 0, 1) := by decide +kernel
theorem dX9_work_114 : decode cX9_work 114 = .ok (.iconst (-1), 1) := by decide +kernel
theorem dX9_work_115 : decode cX9_work 115 = .ok (.putfield 9, 3) := by decide +kernel
theorem dX9_work_118 : decode cX9_work 118 = .ok (.aload_n 0, 1) := by decide +kernel
theorem dX9_work_119 : decode cX9_work 119 = .ok (.getfield 58, 3) := by decide +kernel
theorem dX9_work_122 : decode cX9_work 122 = .ok (.aload_n 0, 1) := by decide +kernel
theorem dX9_work_123 : decode cX9_work 123 = .ok (.getfield 64, 3) := by decide +kernel
theorem dX9_work_126 : decode cX9_work 126 = .ok (.aload_n 0, 1) := by decide +kernel
theorem dX9_work_127 : decode cX9_work 127 = .ok (.getfield 236, 3) := by decide +kernel
theorem dX9_work_130 : decode cX9_work 130 = .ok (.aaload, 1) := by decide +kernel
theorem dX9_work_131 : decode cX9_work 131 = .ok (.invokestatic 370, 3) := by decide +kernel
theorem dX9_work_134 : decode cX9_work 134 = .ok (.aload_n 0, 1) := by decide +kernel
theorem dX9_work_135 : decode cX9_work 135 = .ok (.dup, 1) := by decide +kernel
theorem dX9_work_136 : decode cX9_work 136 = .ok (.getfield 236, 3) := by decide +kernel
theorem dX9_work_139 : decode cX9_work 139 = .ok (.iconst 1, 1) := by decide +kernel
theorem dX9_work_140 : decode cX9_work 140 = .ok (.iadd, 1) := by decide +kernel
theorem dX9_work_141 : decode cX9_work 141 = .ok (.putfield 236, 3) := by decide +kernel
theorem dX9_work_144 : decode cX9_work 144 = .ok (.aload_n 0, 1) := by decide +kernel
theorem dX9_work_145 : decode cX9_work 145 = .ok (.iconst 0, 1) := by decide +kernel
theorem dX9_work_146 : decode cX9_work 146 = .ok (.putfield 357, 3) := by decide +kernel
theorem dX9_work_149 : decode cX9_work 149 = .ok (.aload_n 0, 1) := by decide +kernel
theorem dX9_work_150 : decode cX9_work 150 = .ok (.iconst 0, 1) := by decide +kernel
theorem dX9_work_151 : decode cX9_work 151 = .ok (.putfield 367, 3) := by decide +kernel
theorem dX9_work_154 : decode cX9_work 154 = .ok (.aload_n 0, 1) := by decide +kernel
theorem dX9_work_155 : decode cX9_work 155 = .ok (.iconst 0, 1) := by decide +kernel
theorem dX9_work_156 : decode cX9_work 156 = .ok (.putfield 239, 3) := by decide +kernel
theorem dX9_work_159 : decode cX9_work 159 = .ok (.aload_n 0, 1) := by decide +kernel
theorem dX9_work_160 : decode cX9_work 160 = .ok (.iconst 0, 1) := by decide +kernel
theorem dX9_work_161 : decode cX9_work 161 = .ok (.aload_n 0, 1) := by decide +kernel
theorem dX9_work_162 : decode cX9_work 162 = .ok (.getfield 286, 3) := by decide +kernel
theorem dX9_work_165 : decode cX9_work 165 = .ok (.invokevirtual 360, 3) := by decide +kernel
theorem dX9_work_168 : decode cX9_work 168 = .ok (.aload_n 0, 1) := by decide +kernel
theorem dX9_work_169 : decode cX9_work 169 = .ok (.getfield 367, 3) := by decide +kernel
theorem dX9_work_172 : decode cX9_work 172 = .ok (.ireturn, 1) := by decide +kernel
theorem dX9_undo_0 : decode cX9_undo 0 = .ok (.aload_n 0, 1) := by decide +kernel
theorem dX9_undo_1 : decode cX9_undo 1 = .ok (.iconst 0, 1) := by decide +kernel
theorem dX9_undo_2 : decode cX9_undo 2 = .ok (.putfield 128, 3) := by decide +kernel
theorem dX9_undo_5 : decode cX9_undo 5 = .ok (.aload_n 0, 1) := by decide +kernel
theorem dX9_undo_6 : decode cX9_undo 6 = .ok (.getfield 236, 3) := by decide +kernel
theorem dX9_undo_9 : decode cX9_undo 9 = .ok (.ifCond .ne 5, 3) := by decide +kernel
theorem dX9_undo_12 : decode cX9_undo 12 = .ok (.iconst (-1), 1) := by decide +kernel
theorem dX9_undo_13 : decode cX9_undo 13 = .ok (.ireturn, 1) := by decide +kernel
theorem dX9_undo_14 : decode cX9_undo 14 = .ok (.aload_n 0, 1) := by decide +kernel
theorem dX9_undo_15 : decode cX9_undo 15 = .ok (.dup, 1) := by decide +kernel
theorem dX9_undo_16 : decode cX9_undo 16 = .ok (.getfield 236, 3) := by decide +kernel
theorem dX9_undo_19 : decode cX9_undo 19 = .ok (.iconst 1, 1) := by decide +kernel
theorem dX9_undo_20 : decode cX9_undo 20 = .ok (.isub, 1) := by decide +kernel
theorem dX9_undo_21 : decode cX9_undo 21 = .ok (.putfield 236, 3) := by decide +kernel
theorem dX9_undo_24 : decode cX9_undo 24 = .ok (.aload_n 0, 1) := by decide +kernel
theorem dX9_undo_25 : decode cX9_undo 25 = .ok (.getfield 64, 3) := by decide +kernel
theorem dX9_undo_28 : decode cX9_undo 28 = .ok (.aload_n 0, 1) := by decide +kernel
theorem dX9_undo_29 : decode cX9_undo 29 = .ok (.getfield 236, 3) := by decide +kernel
theorem dX9_undo_32 : decode cX9_undo 32 = .ok (.aaload, 1) := by decide +kernel
theorem dX9_undo_33 : decode cX9_undo 33 = .ok (.aload_n 0, 1) := by decide +kernel
theorem dX9_undo_34 : decode cX9_undo 34 = .ok (.getfield 58, 3) := by decide +kernel
theorem dX9_undo_37 : decode cX9_undo 37 = .ok (.invokestatic 370, 3) := by decide +kernel
theorem dX9_undo_40 : decode cX9_undo 40 = .ok (.aload_n 0, 1) := by decide +kernel
theorem dX9_undo_41 : decode cX9_undo 41 = .ok (.iconst 0, 1) := by decide +kernel
theorem dX9_undo_42 : decode cX9_undo 42 = .ok (.putfield 239, 3) := by decide +kernel
theorem dX9_undo_45 : decode cX9_undo 45 = .ok (.aload_n 0, 1) := by decide +kernel
theorem dX9_undo_46 : decode cX9_undo 46 = .ok (.getfield 236, 3) := by decide +kernel
theorem dX9_undo_49 : decode cX9_undo 49 = .ok (.ireturn, 1) := by decide +kernel
theorem dX9_cellsOf_0 : decode cX9_cellsOf 0 = .ok (.iconst 0, 1) := by decide +kernel
theorem dX9_cellsOf_1 : decode cX9_cellsOf 1 = .ok (.istore_n 1, 1) := by decide +kernel
theorem dX9_cellsOf_2 : decode cX9_cellsOf 2 = .ok (.iconst 0, 1) := by decide +kernel
theorem dX9_cellsOf_3 : decode cX9_cellsOf 3 = .ok (.istore_n 2, 1) := by decide +kernel
theorem dX9_cellsOf_4 : decode cX9_cellsOf 4 = .ok (.iload_n 2, 1) := by decide +kernel
theorem dX9_cellsOf_5 : decode cX9_cellsOf 5 = .ok (.iconst 4, 1) := by decide +kernel
theorem dX9_cellsOf_6 : decode cX9_cellsOf 6 = .ok (.if_icmp .ge 18, 3) := by decide +kernel
theorem dX9_cellsOf_9 : decode cX9_cellsOf 9 = .ok (.iload_n 1, 1) := by decide +kernel
theorem dX9_cellsOf_10 : decode cX9_cellsOf 10 = .ok (.aload_n 0, 1) := by decide +kernel
theorem dX9_cellsOf_11 : decode cX9_cellsOf 11 = .ok (.bipush 6, 2) := by decide +kernel
theorem dX9_cellsOf_13 : decode cX9_cellsOf 13 = .ok (.iload_n 2, 1) := by decide +kernel
theorem dX9_cellsOf_14 : decode cX9_cellsOf 14 = .ok (.iadd, 1) := by decide +kernel
theorem dX9_cellsOf_15 : decode cX9_cellsOf 15 = .ok (.iaload, 1) := by decide +kernel
theorem dX9_cellsOf_16 : decode cX9_cellsOf 16 = .ok (.iadd, 1) := by decide +kernel
theorem dX9_cellsOf_17 : decode cX9_cellsOf 17 = .ok (.istore_n 1, 1) := by decide +kernel
theorem dX9_cellsOf_18 : decode cX9_cellsOf 18 = .ok (.iinc 2 1, 3) := by decide +kernel
theorem dX9_cellsOf_21 : decode cX9_cellsOf 21 = .ok (.goto (-17), 3) := by decide +kernel
theorem dX9_cellsOf_24 : decode cX9_cellsOf 24 = .ok (.iload_n 1, 1) := by decide +kernel
theorem dX9_cellsOf_25 : decode cX9_cellsOf 25 = .ok (.ireturn, 1) := by decide +kernel
theorem dX9_told_0 : decode cX9_told 0 = .ok (.aload_n 0, 1) := by decide +kernel
theorem dX9_told_1 : decode cX9_told 1 = .ok (.iconst 0, 1) := by decide +kernel
theorem dX9_told_2 : decode cX9_told 2 = .ok (.putfield 128, 3) := by decide +kernel
theorem dX9_told_5 : decode cX9_told 5 = .ok (.aload_n 0, 1) := by decide +kernel
theorem dX9_told_6 : decode cX9_told 6 = .ok (.iload_n 1, 1) := by decide +kernel
theorem dX9_told_7 : decode cX9_told 7 = .ok (.iconst 0, 1) := by decide +kernel
theorem dX9_told_8 : decode cX9_told 8 = .ok (.bipush 10, 2) := by decide +kernel
theorem dX9_told_10 : decode cX9_told 10 = .ok (.invokestatic 162, 3) := by decide +kernel
theorem dX9_told_13 : decode cX9_told 13 = .ok (.ifCond .ne 7, 3) := by decide +kernel
theorem dX9_told_16 : decode cX9_told 16 = .ok (.iconst 1, 1) := by decide +kernel
theorem dX9_told_17 : decode cX9_told 17 = .ok (.goto 4, 3) := by decide +kernel
theorem dX9_told_20 : decode cX9_told 20 = .ok (.iconst 0, 1) := by decide +kernel
theorem dX9_told_21 : decode cX9_told 21 = .ok (.iconst 1, 1) := by decide +kernel
theorem dX9_told_22 : decode cX9_told 22 = .ok (.iconst 1, 1) := by decide +kernel
theorem dX9_told_23 : decode cX9_told 23 = .ok (.invokevirtual 207, 3) := by decide +kernel
theorem dX9_told_26 : decode cX9_told 26 = .ok (.ifCond .eq 5, 3) := by decide +kernel
theorem dX9_told_29 : decode cX9_told 29 = .ok (.iconst 0, 1) := by decide +kernel
theorem dX9_told_30 : decode cX9_told 30 = .ok (.ireturn, 1) := by decide +kernel
theorem dX9_told_31 : decode cX9_told 31 = .ok (.iconst 0, 1) := by decide +kernel
theorem dX9_told_32 : decode cX9_told 32 = .ok (.istore_n 2, 1) := by decide +kernel
theorem dX9_told_33 : decode cX9_told 33 = .ok (.iconst 0, 1) := by decide +kernel
theorem dX9_told_34 : decode cX9_told 34 = .ok (.istore_n 3, 1) := by decide +kernel
theorem dX9_told_35 : decode cX9_told 35 = .ok (.iload_n 3, 1) := by decide +kernel
theorem dX9_told_36 : decode cX9_told 36 = .ok (.aload_n 0, 1) := by decide +kernel
theorem dX9_told_37 : decode cX9_told 37 = .ok (.getfield 223, 3) := by decide +kernel
theorem dX9_told_40 : decode cX9_told 40 = .ok (.if_icmp .ge 31, 3) := by decide +kernel
theorem dX9_told_43 : decode cX9_told 43 = .ok (.iload_n 2, 1) := by decide +kernel
theorem dX9_told_44 : decode cX9_told 44 = .ok (.aload_n 0, 1) := by decide +kernel
theorem dX9_told_45 : decode cX9_told 45 = .ok (.aload_n 0, 1) := by decide +kernel
theorem dX9_told_46 : decode cX9_told 46 = .ok (.getfield 58, 3) := by decide +kernel
theorem dX9_told_49 : decode cX9_told 49 = .ok (.iload_n 3, 1) := by decide +kernel
theorem dX9_told_50 : decode cX9_told 50 = .ok (.invokevirtual 298, 3) := by decide +kernel
theorem dX9_told_53 : decode cX9_told 53 = .ok (.ifCond .ne 9, 3) := by decide +kernel
theorem dX9_told_56 : decode cX9_told 56 = .ok (.iconst 1, 1) := by decide +kernel
theorem dX9_told_57 : decode cX9_told 57 = .ok (.iload_n 3, 1) := by decide +kernel
theorem dX9_told_58 : decode cX9_told 58 = .ok (.ishl, 1) := by decide +kernel
theorem dX9_told_59 : decode cX9_told 59 = .ok (.goto 4, 3) := by decide +kernel
theorem dX9_told_62 : decode cX9_told 62 = .ok (.iconst 0, 1) := by decide +kernel
theorem dX9_told_63 : decode cX9_told 63 = .ok (.ior, 1) := by decide +kernel
theorem dX9_told_64 : decode cX9_told 64 = .ok (.istore_n 2, 1) := by decide +kernel
theorem dX9_told_65 : decode cX9_told 65 = .ok (.iinc 3 1, 3) := by decide +kernel
theorem dX9_told_68 : decode cX9_told 68 = .ok (.goto (-33), 3) := by decide +kernel
theorem dX9_told_71 : decode cX9_told 71 = .ok (.iload_n 1, 1) := by decide +kernel
theorem dX9_told_72 : decode cX9_told 72 = .ok (.tableswitch 125 0 9 #[56, 61, 66, 75, 83, 91, 99, 107, 115, 120], 56) := by decide +kernel
theorem dX9_told_128 : decode cX9_told 128 = .ok (.aload_n 0, 1) := by decide +kernel
theorem dX9_told_129 : decode cX9_told 129 = .ok (.getfield 223, 3) := by decide +kernel
theorem dX9_told_132 : decode cX9_told 132 = .ok (.ireturn, 1) := by decide +kernel
theorem dX9_told_133 : decode cX9_told 133 = .ok (.aload_n 0, 1) := by decide +kernel
theorem dX9_told_134 : decode cX9_told 134 = .ok (.invokevirtual 220, 3) := by decide +kernel
theorem dX9_told_137 : decode cX9_told 137 = .ok (.ireturn, 1) := by decide +kernel
theorem dX9_told_138 : decode cX9_told 138 = .ok (.aload_n 0, 1) := by decide +kernel
theorem dX9_told_139 : decode cX9_told 139 = .ok (.aload_n 0, 1) := by decide +kernel
theorem dX9_told_140 : decode cX9_told 140 = .ok (.getfield 58, 3) := by decide +kernel
theorem dX9_told_143 : decode cX9_told 143 = .ok (.invokevirtual 305, 3) := by decide +kernel
theorem dX9_told_146 : decode cX9_told 146 = .ok (.ireturn, 1) := by decide +kernel
theorem dX9_told_147 : decode cX9_told 147 = .ok (.aload_n 0, 1) := by decide +kernel
theorem dX9_told_148 : decode cX9_told 148 = .ok (.getfield 58, 3) := by decide +kernel
theorem dX9_told_151 : decode cX9_told 151 = .ok (.bipush 10, 2) := by decide +kernel
theorem dX9_told_153 : decode cX9_told 153 = .ok (.iaload, 1) := by decide +kernel
theorem dX9_told_154 : decode cX9_told 154 = .ok (.ireturn, 1) := by decide +kernel
theorem dX9_told_155 : decode cX9_told 155 = .ok (.aload_n 0, 1) := by decide +kernel
theorem dX9_told_156 : decode cX9_told 156 = .ok (.getfield 58, 3) := by decide +kernel
theorem dX9_told_159 : decode cX9_told 159 = .ok (.bipush 12, 2) := by decide +kernel
theorem dX9_told_161 : decode cX9_told 161 = .ok (.iaload, 1) := by decide +kernel
theorem dX9_told_162 : decode cX9_told 162 = .ok (.ireturn, 1) := by decide +kernel
theorem dX9_told_163 : decode cX9_told 163 = .ok (.aload_n 0, 1) := by decide +kernel
theorem dX9_told_164 : decode cX9_told 164 = .ok (.getfield 58, 3) := by decide +kernel
theorem dX9_told_167 : decode cX9_told 167 = .ok (.bipush 11, 2) := by decide +kernel
theorem dX9_told_169 : decode cX9_told 169 = .ok (.iaload, 1) := by decide +kernel
theorem dX9_told_170 : decode cX9_told 170 = .ok (.ireturn, 1) := by decide +kernel
theorem dX9_told_171 : decode cX9_told 171 = .ok (.aload_n 0, 1) := by decide +kernel
theorem dX9_told_172 : decode cX9_told 172 = .ok (.getfield 58, 3) := by decide +kernel
theorem dX9_told_175 : decode cX9_told 175 = .ok (.bipush 13, 2) := by decide +kernel
theorem dX9_told_177 : decode cX9_told 177 = .ok (.iaload, 1) := by decide +kernel
theorem dX9_told_178 : decode cX9_told 178 = .ok (.ireturn, 1) := by decide +kernel
theorem dX9_told_179 : decode cX9_told 179 = .ok (.aload_n 0, 1) := by decide +kernel
theorem dX9_told_180 : decode cX9_told 180 = .ok (.getfield 58, 3) := by decide +kernel
theorem dX9_told_183 : decode cX9_told 183 = .ok (.invokestatic 374, 3) := by decide +kernel
theorem dX9_told_186 : decode cX9_told 186 = .ok (.ireturn, 1) := by decide +kernel
theorem dX9_told_187 : decode cX9_told 187 = .ok (.aload_n 0, 1) := by decide +kernel
theorem dX9_told_188 : decode cX9_told 188 = .ok (.getfield 233, 3) := by decide +kernel
theorem dX9_told_191 : decode cX9_told 191 = .ok (.ireturn, 1) := by decide +kernel
theorem dX9_told_192 : decode cX9_told 192 = .ok (.aload_n 0, 1) := by decide +kernel
theorem dX9_told_193 : decode cX9_told 193 = .ok (.getfield 239, 3) := by decide +kernel
theorem dX9_told_196 : decode cX9_told 196 = .ok (.ireturn, 1) := by decide +kernel
theorem dX9_told_197 : decode cX9_told 197 = .ok (.iload_n 2, 1) := by decide +kernel
theorem dX9_told_198 : decode cX9_told 198 = .ok (.ireturn, 1) := by decide +kernel
theorem dX9_isLine_0 : decode cX9_isLine 0 = .ok (.iload_n 1, 1) := by decide +kernel
theorem dX9_isLine_1 : decode cX9_isLine 1 = .ok (.iconst 0, 1) := by decide +kernel
theorem dX9_isLine_2 : decode cX9_isLine 2 = .ok (.aload_n 0, 1) := by decide +kernel
theorem dX9_isLine_3 : decode cX9_isLine 3 = .ok (.getfield 223, 3) := by decide +kernel
theorem dX9_isLine_6 : decode cX9_isLine 6 = .ok (.iconst 1, 1) := by decide +kernel
theorem dX9_isLine_7 : decode cX9_isLine 7 = .ok (.isub, 1) := by decide +kernel
theorem dX9_isLine_8 : decode cX9_isLine 8 = .ok (.invokestatic 162, 3) := by decide +kernel
theorem dX9_isLine_11 : decode cX9_isLine 11 = .ok (.ireturn, 1) := by decide +kernel
theorem dX9_line_0 : decode cX9_line 0 = .ok (.aload_n 0, 1) := by decide +kernel
theorem dX9_line_1 : decode cX9_line 1 = .ok (.iconst 0, 1) := by decide +kernel
theorem dX9_line_2 : decode cX9_line 2 = .ok (.putfield 128, 3) := by decide +kernel
theorem dX9_line_5 : decode cX9_line 5 = .ok (.aload_n 0, 1) := by decide +kernel
theorem dX9_line_6 : decode cX9_line 6 = .ok (.aload_n 0, 1) := by decide +kernel
theorem dX9_line_7 : decode cX9_line 7 = .ok (.iload_n 1, 1) := by decide +kernel
theorem dX9_line_8 : decode cX9_line 8 = .ok (.invokevirtual 377, 3) := by decide +kernel
theorem dX9_line_11 : decode cX9_line 11 = .ok (.ifCond .ne 7, 3) := by decide +kernel
theorem dX9_line_14 : decode cX9_line 14 = .ok (.iconst 1, 1) := by decide +kernel
theorem dX9_line_15 : decode cX9_line 15 = .ok (.goto 4, 3) := by decide +kernel
theorem dX9_line_18 : decode cX9_line 18 = .ok (.iconst 0, 1) := by decide +kernel
theorem dX9_line_19 : decode cX9_line 19 = .ok (.iconst 1, 1) := by decide +kernel
theorem dX9_line_20 : decode cX9_line 20 = .ok (.iconst 0, 1) := by decide +kernel
theorem dX9_line_21 : decode cX9_line 21 = .ok (.invokevirtual 207, 3) := by decide +kernel
theorem dX9_line_24 : decode cX9_line 24 = .ok (.ifCond .ne 26, 3) := by decide +kernel
theorem dX9_line_27 : decode cX9_line 27 = .ok (.aload_n 0, 1) := by decide +kernel
theorem dX9_line_28 : decode cX9_line 28 = .ok (.iload_n 2, 1) := by decide +kernel
theorem dX9_line_29 : decode cX9_line 29 = .ok (.iconst 0, 1) := by decide +kernel
theorem dX9_line_30 : decode cX9_line 30 = .ok (.iconst 4, 1) := by decide +kernel
theorem dX9_line_31 : decode cX9_line 31 = .ok (.invokestatic 162, 3) := by decide +kernel
theorem dX9_line_34 : decode cX9_line 34 = .ok (.ifCond .ne 7, 3) := by decide +kernel
theorem dX9_line_37 : decode cX9_line 37 = .ok (.iconst 1, 1) := by decide +kernel
theorem dX9_line_38 : decode cX9_line 38 = .ok (.goto 4, 3) := by decide +kernel
theorem dX9_line_41 : decode cX9_line 41 = .ok (.iconst 0, 1) := by decide +kernel
theorem dX9_line_42 : decode cX9_line 42 = .ok (.iconst 2, 1) := by decide +kernel
theorem dX9_line_43 : decode cX9_line 43 = .ok (.iconst 1, 1) := by decide +kernel
theorem dX9_line_44 : decode cX9_line 44 = .ok (.invokevirtual 207, 3) := by decide +kernel
theorem dX9_line_47 : decode cX9_line 47 = .ok (.ifCond .eq 5, 3) := by decide +kernel
theorem dX9_line_50 : decode cX9_line 50 = .ok (.iconst 0, 1) := by decide +kernel
theorem dX9_line_51 : decode cX9_line 51 = .ok (.ireturn, 1) := by decide +kernel
theorem dX9_line_52 : decode cX9_line 52 = .ok (.iconst 0, 1) := by decide +kernel
theorem dX9_line_53 : decode cX9_line 53 = .ok (.istore_n 3, 1) := by decide +kernel
theorem dX9_line_54 : decode cX9_line 54 = .ok (.iconst 0, 1) := by decide +kernel
theorem dX9_line_55 : decode cX9_line 55 = .ok (.istore 4, 2) := by decide +kernel
theorem dX9_line_57 : decode cX9_line 57 = .ok (.iload 4, 2) := by decide +kernel
theorem dX9_line_59 : decode cX9_line 59 = .ok (.aload_n 0, 1) := by decide +kernel
theorem dX9_line_60 : decode cX9_line 60 = .ok (.getfield 26, 3) := by decide +kernel
theorem dX9_line_63 : decode cX9_line 63 = .ok (.iload_n 1, 1) := by decide +kernel
theorem dX9_line_64 : decode cX9_line 64 = .ok (.iaload, 1) := by decide +kernel
theorem dX9_line_65 : decode cX9_line 65 = .ok (.if_icmp .ge 41, 3) := by decide +kernel
theorem dX9_line_68 : decode cX9_line 68 = .ok (.iload_n 3, 1) := by decide +kernel
theorem dX9_line_69 : decode cX9_line 69 = .ok (.aload_n 0, 1) := by decide +kernel
theorem dX9_line_70 : decode cX9_line 70 = .ok (.getfield 58, 3) := by decide +kernel
theorem dX9_line_73 : decode cX9_line 73 = .ok (.iconst 0, 1) := by decide +kernel
theorem dX9_line_74 : decode cX9_line 74 = .ok (.iload_n 1, 1) := by decide +kernel
theorem dX9_line_75 : decode cX9_line 75 = .ok (.iadd, 1) := by decide +kernel
theorem dX9_line_76 : decode cX9_line 76 = .ok (.iaload, 1) := by decide +kernel
theorem dX9_line_77 : decode cX9_line 77 = .ok (.iload 4, 2) := by decide +kernel
theorem dX9_line_79 : decode cX9_line 79 = .ok (.invokestatic 317, 3) := by decide +kernel
theorem dX9_line_82 : decode cX9_line 82 = .ok (.ifCond .eq 7, 3) := by decide +kernel
theorem dX9_line_85 : decode cX9_line 85 = .ok (.iconst 0, 1) := by decide +kernel
theorem dX9_line_86 : decode cX9_line 86 = .ok (.goto 12, 3) := by decide +kernel
theorem dX9_line_89 : decode cX9_line 89 = .ok (.aload_n 0, 1) := by decide +kernel
theorem dX9_line_90 : decode cX9_line 90 = .ok (.getfield 34, 3) := by decide +kernel
theorem dX9_line_93 : decode cX9_line 93 = .ok (.iload_n 1, 1) := by decide +kernel
theorem dX9_line_94 : decode cX9_line 94 = .ok (.aaload, 1) := by decide +kernel
theorem dX9_line_95 : decode cX9_line 95 = .ok (.iload 4, 2) := by decide +kernel
theorem dX9_line_97 : decode cX9_line 97 = .ok (.iaload, 1) := by decide +kernel
theorem dX9_line_98 : decode cX9_line 98 = .ok (.iadd, 1) := by decide +kernel
theorem dX9_line_99 : decode cX9_line 99 = .ok (.istore_n 3, 1) := by decide +kernel
theorem dX9_line_100 : decode cX9_line 100 = .ok (.iinc 4 1, 3) := by decide +kernel
theorem dX9_line_103 : decode cX9_line 103 = .ok (.goto (-46), 3) := by decide +kernel
theorem dX9_line_106 : decode cX9_line 106 = .ok (.iload_n 2, 1) := by decide +kernel
theorem dX9_line_107 : decode cX9_line 107 = .ok (.ifCond .ne 12, 3) := by decide +kernel
theorem dX9_line_110 : decode cX9_line 110 = .ok (.aload_n 0, 1) := by decide +kernel
theorem dX9_line_111 : decode cX9_line 111 = .ok (.getfield 26, 3) := by decide +kernel
theorem dX9_line_114 : decode cX9_line 114 = .ok (.iload_n 1, 1) := by decide +kernel
theorem dX9_line_115 : decode cX9_line 115 = .ok (.iaload, 1) := by decide +kernel
theorem dX9_line_116 : decode cX9_line 116 = .ok (.goto 55, 3) := by decide +kernel
theorem dX9_line_119 : decode cX9_line 119 = .ok (.iload_n 2, 1) := by decide +kernel
theorem dX9_line_120 : decode cX9_line 120 = .ok (.iconst 1, 1) := by decide +kernel
theorem dX9_line_121 : decode cX9_line 121 = .ok (.if_icmp .ne 15, 3) := by decide +kernel
theorem dX9_line_124 : decode cX9_line 124 = .ok (.aload_n 0, 1) := by decide +kernel
theorem dX9_line_125 : decode cX9_line 125 = .ok (.aload_n 0, 1) := by decide +kernel
theorem dX9_line_126 : decode cX9_line 126 = .ok (.getfield 58, 3) := by decide +kernel
theorem dX9_line_129 : decode cX9_line 129 = .ok (.iload_n 1, 1) := by decide +kernel
theorem dX9_line_130 : decode cX9_line 130 = .ok (.invokevirtual 298, 3) := by decide +kernel
theorem dX9_line_133 : decode cX9_line 133 = .ok (.goto 38, 3) := by decide +kernel
theorem dX9_line_136 : decode cX9_line 136 = .ok (.iload_n 2, 1) := by decide +kernel
theorem dX9_line_137 : decode cX9_line 137 = .ok (.iconst 2, 1) := by decide +kernel
theorem dX9_line_138 : decode cX9_line 138 = .ok (.if_icmp .ne 14, 3) := by decide +kernel
theorem dX9_line_141 : decode cX9_line 141 = .ok (.aload_n 0, 1) := by decide +kernel
theorem dX9_line_142 : decode cX9_line 142 = .ok (.getfield 58, 3) := by decide +kernel
theorem dX9_line_145 : decode cX9_line 145 = .ok (.iconst 0, 1) := by decide +kernel
theorem dX9_line_146 : decode cX9_line 146 = .ok (.iload_n 1, 1) := by decide +kernel
theorem dX9_line_147 : decode cX9_line 147 = .ok (.iadd, 1) := by decide +kernel
theorem dX9_line_148 : decode cX9_line 148 = .ok (.iaload, 1) := by decide +kernel
theorem dX9_line_149 : decode cX9_line 149 = .ok (.goto 22, 3) := by decide +kernel
theorem dX9_line_152 : decode cX9_line 152 = .ok (.iload_n 2, 1) := by decide +kernel
theorem dX9_line_153 : decode cX9_line 153 = .ok (.iconst 3, 1) := by decide +kernel
theorem dX9_line_154 : decode cX9_line 154 = .ok (.if_icmp .ne 16, 3) := by decide +kernel
theorem dX9_line_157 : decode cX9_line 157 = .ok (.aload_n 0, 1) := by decide +kernel
theorem dX9_line_158 : decode cX9_line 158 = .ok (.aload_n 0, 1) := by decide +kernel
theorem dX9_line_159 : decode cX9_line 159 = .ok (.getfield 58, 3) := by decide +kernel
theorem dX9_line_162 : decode cX9_line 162 = .ok (.iload_n 1, 1) := by decide +kernel
theorem dX9_line_163 : decode cX9_line 163 = .ok (.iconst 0, 1) := by decide +kernel
theorem dX9_line_164 : decode cX9_line 164 = .ok (.invokevirtual 321, 3) := by decide +kernel
theorem dX9_line_167 : decode cX9_line 167 = .ok (.goto 4, 3) := by decide +kernel
theorem dX9_line_170 : decode cX9_line 170 = .ok (.iload_n 3, 1) := by decide +kernel
theorem dX9_line_171 : decode cX9_line 171 = .ok (.ireturn, 1) := by decide +kernel
theorem dX9_word_0 : decode cX9_word 0 = .ok (.aload_n 0, 1) := by decide +kernel
theorem dX9_word_1 : decode cX9_word 1 = .ok (.iconst 0, 1) := by decide +kernel
theorem dX9_word_2 : decode cX9_word 2 = .ok (.putfield 128, 3) := by decide +kernel
theorem dX9_word_5 : decode cX9_word 5 = .ok (.aload_n 0, 1) := by decide +kernel
theorem dX9_word_6 : decode cX9_word 6 = .ok (.aload_n 0, 1) := by decide +kernel
theorem dX9_word_7 : decode cX9_word 7 = .ok (.iload_n 1, 1) := by decide +kernel
theorem dX9_word_8 : decode cX9_word 8 = .ok (.invokevirtual 377, 3) := by decide +kernel
theorem dX9_word_11 : decode cX9_word 11 = .ok (.ifCond .eq 23, 3) := by decide +kernel
theorem dX9_word_14 : decode cX9_word 14 = .ok (.iload_n 2, 1) := by decide +kernel
theorem dX9_word_15 : decode cX9_word 15 = .ok (.iconst 0, 1) := by decide +kernel
theorem dX9_word_16 : decode cX9_word 16 = .ok (.aload_n 0, 1) := by decide +kernel
theorem dX9_word_17 : decode cX9_word 17 = .ok (.getfield 26, 3) := by decide +kernel
theorem dX9_word_20 : decode cX9_word 20 = .ok (.iload_n 1, 1) := by decide +kernel
theorem dX9_word_21 : decode cX9_word 21 = .ok (.iconst 5, 1) := by decide +kernel
theorem dX9_word_22 : decode cX9_word 22 = .ok (.invokestatic 273, 3) := by decide +kernel
theorem dX9_word_25 : decode cX9_word 25 = .ok (.iaload, 1) := by decide +kernel
theorem dX9_word_26 : decode cX9_word 26 = .ok (.iconst 1, 1) := by decide +kernel
theorem dX9_word_27 : decode cX9_word 27 = .ok (.isub, 1) := by decide +kernel
theorem dX9_word_28 : decode cX9_word 28 = .ok (.invokestatic 162, 3) := by decide +kernel
theorem dX9_word_31 : decode cX9_word 31 = .ok (.ifCond .ne 7, 3) := by decide +kernel
theorem dX9_word_34 : decode cX9_word 34 = .ok (.iconst 1, 1) := by decide +kernel
theorem dX9_word_35 : decode cX9_word 35 = .ok (.goto 4, 3) := by decide +kernel
theorem dX9_word_38 : decode cX9_word 38 = .ok (.iconst 0, 1) := by decide +kernel
theorem dX9_word_39 : decode cX9_word 39 = .ok (.iconst 1, 1) := by decide +kernel
theorem dX9_word_40 : decode cX9_word 40 = .ok (.iconst 0, 1) := by decide +kernel
theorem dX9_word_41 : decode cX9_word 41 = .ok (.invokevirtual 207, 3) := by decide +kernel
theorem dX9_word_44 : decode cX9_word 44 = .ok (.ifCond .ne 26, 3) := by decide +kernel
theorem dX9_word_47 : decode cX9_word 47 = .ok (.aload_n 0, 1) := by decide +kernel
theorem dX9_word_48 : decode cX9_word 48 = .ok (.iload_n 3, 1) := by decide +kernel
theorem dX9_word_49 : decode cX9_word 49 = .ok (.iconst 0, 1) := by decide +kernel
theorem dX9_word_50 : decode cX9_word 50 = .ok (.iconst 1, 1) := by decide +kernel
theorem dX9_word_51 : decode cX9_word 51 = .ok (.invokestatic 162, 3) := by decide +kernel
theorem dX9_word_54 : decode cX9_word 54 = .ok (.ifCond .ne 7, 3) := by decide +kernel
theorem dX9_word_57 : decode cX9_word 57 = .ok (.iconst 1, 1) := by decide +kernel
theorem dX9_word_58 : decode cX9_word 58 = .ok (.goto 4, 3) := by decide +kernel
theorem dX9_word_61 : decode cX9_word 61 = .ok (.iconst 0, 1) := by decide +kernel
theorem dX9_word_62 : decode cX9_word 62 = .ok (.iconst 2, 1) := by decide +kernel
theorem dX9_word_63 : decode cX9_word 63 = .ok (.iconst 1, 1) := by decide +kernel
theorem dX9_word_64 : decode cX9_word 64 = .ok (.invokevirtual 207, 3) := by decide +kernel
theorem dX9_word_67 : decode cX9_word 67 = .ok (.ifCond .eq 5, 3) := by decide +kernel
theorem dX9_word_70 : decode cX9_word 70 = .ok (.iconst 0, 1) := by decide +kernel
theorem dX9_word_71 : decode cX9_word 71 = .ok (.ireturn, 1) := by decide +kernel
theorem dX9_word_72 : decode cX9_word 72 = .ok (.iload_n 3, 1) := by decide +kernel
theorem dX9_word_73 : decode cX9_word 73 = .ok (.ifCond .ne 14, 3) := by decide +kernel
theorem dX9_word_76 : decode cX9_word 76 = .ok (.aload_n 0, 1) := by decide +kernel
theorem dX9_word_77 : decode cX9_word 77 = .ok (.getfield 34, 3) := by decide +kernel
theorem dX9_word_80 : decode cX9_word 80 = .ok (.iload_n 1, 1) := by decide +kernel
theorem dX9_word_81 : decode cX9_word 81 = .ok (.aaload, 1) := by decide +kernel
theorem dX9_word_82 : decode cX9_word 82 = .ok (.iload_n 2, 1) := by decide +kernel
theorem dX9_word_83 : decode cX9_word 83 = .ok (.iaload, 1) := by decide +kernel
theorem dX9_word_84 : decode cX9_word 84 = .ok (.goto 15, 3) := by decide +kernel
theorem dX9_word_87 : decode cX9_word 87 = .ok (.aload_n 0, 1) := by decide +kernel
theorem dX9_word_88 : decode cX9_word 88 = .ok (.getfield 58, 3) := by decide +kernel
theorem dX9_word_91 : decode cX9_word 91 = .ok (.iconst 0, 1) := by decide +kernel
theorem dX9_word_92 : decode cX9_word 92 = .ok (.iload_n 1, 1) := by decide +kernel
theorem dX9_word_93 : decode cX9_word 93 = .ok (.iadd, 1) := by decide +kernel
theorem dX9_word_94 : decode cX9_word 94 = .ok (.iaload, 1) := by decide +kernel
theorem dX9_word_95 : decode cX9_word 95 = .ok (.iload_n 2, 1) := by decide +kernel
theorem dX9_word_96 : decode cX9_word 96 = .ok (.ishr, 1) := by decide +kernel
theorem dX9_word_97 : decode cX9_word 97 = .ok (.iconst 1, 1) := by decide +kernel
theorem dX9_word_98 : decode cX9_word 98 = .ok (.iand, 1) := by decide +kernel
theorem dX9_word_99 : decode cX9_word 99 = .ok (.ireturn, 1) := by decide +kernel
theorem dX9_reads_0 : decode cX9_reads 0 = .ok (.aload_n 0, 1) := by decide +kernel
theorem dX9_reads_1 : decode cX9_reads 1 = .ok (.iconst 0, 1) := by decide +kernel
theorem dX9_reads_2 : decode cX9_reads 2 = .ok (.putfield 128, 3) := by decide +kernel
theorem dX9_reads_5 : decode cX9_reads 5 = .ok (.aload_n 0, 1) := by decide +kernel
theorem dX9_reads_6 : decode cX9_reads 6 = .ok (.iload_n 1, 1) := by decide +kernel
theorem dX9_reads_7 : decode cX9_reads 7 = .ok (.ifCond .ge 7, 3) := by decide +kernel
theorem dX9_reads_10 : decode cX9_reads 10 = .ok (.iconst 1, 1) := by decide +kernel
theorem dX9_reads_11 : decode cX9_reads 11 = .ok (.goto 4, 3) := by decide +kernel
theorem dX9_reads_14 : decode cX9_reads 14 = .ok (.iconst 0, 1) := by decide +kernel
theorem dX9_reads_15 : decode cX9_reads 15 = .ok (.iconst 1, 1) := by decide +kernel
theorem dX9_reads_16 : decode cX9_reads 16 = .ok (.iconst 1, 1) := by decide +kernel
theorem dX9_reads_17 : decode cX9_reads 17 = .ok (.invokevirtual 207, 3) := by decide +kernel
theorem dX9_reads_20 : decode cX9_reads 20 = .ok (.ifCond .eq 5, 3) := by decide +kernel
theorem dX9_reads_23 : decode cX9_reads 23 = .ok (.iconst 0, 1) := by decide +kernel
theorem dX9_reads_24 : decode cX9_reads 24 = .ok (.ireturn, 1) := by decide +kernel
theorem dX9_reads_25 : decode cX9_reads 25 = .ok (.iload_n 1, 1) := by decide +kernel
theorem dX9_reads_26 : decode cX9_reads 26 = .ok (.istore_n 2, 1) := by decide +kernel
theorem dX9_reads_27 : decode cX9_reads 27 = .ok (.iconst 0, 1) := by decide +kernel
theorem dX9_reads_28 : decode cX9_reads 28 = .ok (.istore_n 3, 1) := by decide +kernel
theorem dX9_reads_29 : decode cX9_reads 29 = .ok (.iload_n 3, 1) := by decide +kernel
theorem dX9_reads_30 : decode cX9_reads 30 = .ok (.aload_n 0, 1) := by decide +kernel
theorem dX9_reads_31 : decode cX9_reads 31 = .ok (.getfield 223, 3) := by decide +kernel
theorem dX9_reads_34 : decode cX9_reads 34 = .ok (.if_icmp .ge 45, 3) := by decide +kernel
theorem dX9_reads_37 : decode cX9_reads 37 = .ok (.iload_n 2, 1) := by decide +kernel
theorem dX9_reads_38 : decode cX9_reads 38 = .ok (.aload_n 0, 1) := by decide +kernel
theorem dX9_reads_39 : decode cX9_reads 39 = .ok (.aload_n 0, 1) := by decide +kernel
theorem dX9_reads_40 : decode cX9_reads 40 = .ok (.getfield 58, 3) := by decide +kernel
theorem dX9_reads_43 : decode cX9_reads 43 = .ok (.iload_n 3, 1) := by decide +kernel
theorem dX9_reads_44 : decode cX9_reads 44 = .ok (.invokevirtual 298, 3) := by decide +kernel
theorem dX9_reads_47 : decode cX9_reads 47 = .ok (.if_icmp .ge 14, 3) := by decide +kernel
theorem dX9_reads_50 : decode cX9_reads 50 = .ok (.aload_n 0, 1) := by decide +kernel
theorem dX9_reads_51 : decode cX9_reads 51 = .ok (.aload_n 0, 1) := by decide +kernel
theorem dX9_reads_52 : decode cX9_reads 52 = .ok (.getfield 58, 3) := by decide +kernel
theorem dX9_reads_55 : decode cX9_reads 55 = .ok (.iload_n 3, 1) := by decide +kernel
theorem dX9_reads_56 : decode cX9_reads 56 = .ok (.iload_n 2, 1) := by decide +kernel
theorem dX9_reads_57 : decode cX9_reads 57 = .ok (.invokevirtual 321, 3) := by decide +kernel
theorem dX9_reads_60 : decode cX9_reads 60 = .ok (.ireturn, 1) := by decide +kernel
theorem dX9_reads_61 : decode cX9_reads 61 = .ok (.iload_n 2, 1) := by decide +kernel
theorem dX9_reads_62 : decode cX9_reads 62 = .ok (.aload_n 0, 1) := by decide +kernel
theorem dX9_reads_63 : decode cX9_reads 63 = .ok (.aload_n 0, 1) := by decide +kernel
theorem dX9_reads_64 : decode cX9_reads 64 = .ok (.getfield 58, 3) := by decide +kernel
theorem dX9_reads_67 : decode cX9_reads 67 = .ok (.iload_n 3, 1) := by decide +kernel
theorem dX9_reads_68 : decode cX9_reads 68 = .ok (.invokevirtual 298, 3) := by decide +kernel
theorem dX9_reads_71 : decode cX9_reads 71 = .ok (.isub, 1) := by decide +kernel
theorem dX9_reads_72 : decode cX9_reads 72 = .ok (.istore_n 2, 1) := by decide +kernel
theorem dX9_reads_73 : decode cX9_reads 73 = .ok (.iinc 3 1, 3) := by decide +kernel
theorem dX9_reads_76 : decode cX9_reads 76 = .ok (.goto (-47), 3) := by decide +kernel
theorem dX9_reads_79 : decode cX9_reads 79 = .ok (.iconst (-1), 1) := by decide +kernel
theorem dX9_reads_80 : decode cX9_reads 80 = .ok (.ireturn, 1) := by decide +kernel
theorem dX9_cell_0 : decode cX9_cell 0 = .ok (.aload_n 0, 1) := by decide +kernel
theorem dX9_cell_1 : decode cX9_cell 1 = .ok (.iconst 0, 1) := by decide +kernel
theorem dX9_cell_2 : decode cX9_cell 2 = .ok (.putfield 128, 3) := by decide +kernel
theorem dX9_cell_5 : decode cX9_cell 5 = .ok (.aload_n 0, 1) := by decide +kernel
theorem dX9_cell_6 : decode cX9_cell 6 = .ok (.iload_n 1, 1) := by decide +kernel
theorem dX9_cell_7 : decode cX9_cell 7 = .ok (.iconst 0, 1) := by decide +kernel
theorem dX9_cell_8 : decode cX9_cell 8 = .ok (.iconst 3, 1) := by decide +kernel
theorem dX9_cell_9 : decode cX9_cell 9 = .ok (.invokestatic 162, 3) := by decide +kernel
theorem dX9_cell_12 : decode cX9_cell 12 = .ok (.ifCond .ne 7, 3) := by decide +kernel
theorem dX9_cell_15 : decode cX9_cell 15 = .ok (.iconst 1, 1) := by decide +kernel
theorem dX9_cell_16 : decode cX9_cell 16 = .ok (.goto 4, 3) := by decide +kernel
theorem dX9_cell_19 : decode cX9_cell 19 = .ok (.iconst 0, 1) := by decide +kernel
theorem dX9_cell_20 : decode cX9_cell 20 = .ok (.iconst 1, 1) := by decide +kernel
theorem dX9_cell_21 : decode cX9_cell 21 = .ok (.iconst 1, 1) := by decide +kernel
theorem dX9_cell_22 : decode cX9_cell 22 = .ok (.invokevirtual 207, 3) := by decide +kernel
theorem dX9_cell_25 : decode cX9_cell 25 = .ok (.ifCond .eq 5, 3) := by decide +kernel
theorem dX9_cell_28 : decode cX9_cell 28 = .ok (.iconst 0, 1) := by decide +kernel
theorem dX9_cell_29 : decode cX9_cell 29 = .ok (.ireturn, 1) := by decide +kernel
theorem dX9_cell_30 : decode cX9_cell 30 = .ok (.aload_n 0, 1) := by decide +kernel
theorem dX9_cell_31 : decode cX9_cell 31 = .ok (.getfield 58, 3) := by decide +kernel
theorem dX9_cell_34 : decode cX9_cell 34 = .ok (.bipush 6, 2) := by decide +kernel
theorem dX9_cell_36 : decode cX9_cell 36 = .ok (.iload_n 1, 1) := by decide +kernel
theorem dX9_cell_37 : decode cX9_cell 37 = .ok (.iadd, 1) := by decide +kernel
theorem dX9_cell_38 : decode cX9_cell 38 = .ok (.iaload, 1) := by decide +kernel
theorem dX9_cell_39 : decode cX9_cell 39 = .ok (.ireturn, 1) := by decide +kernel
theorem dX9_cost_0 : decode cX9_cost 0 = .ok (.aload_n 0, 1) := by decide +kernel
theorem dX9_cost_1 : decode cX9_cost 1 = .ok (.iconst 0, 1) := by decide +kernel
theorem dX9_cost_2 : decode cX9_cost 2 = .ok (.putfield 128, 3) := by decide +kernel
theorem dX9_cost_5 : decode cX9_cost 5 = .ok (.aload_n 0, 1) := by decide +kernel
theorem dX9_cost_6 : decode cX9_cost 6 = .ok (.iload_n 1, 1) := by decide +kernel
theorem dX9_cost_7 : decode cX9_cost 7 = .ok (.invokevirtual 377, 3) := by decide +kernel
theorem dX9_cost_10 : decode cX9_cost 10 = .ok (.ifCond .eq 39, 3) := by decide +kernel
theorem dX9_cost_13 : decode cX9_cost 13 = .ok (.iload_n 2, 1) := by decide +kernel
theorem dX9_cost_14 : decode cX9_cost 14 = .ok (.iconst 0, 1) := by decide +kernel
theorem dX9_cost_15 : decode cX9_cost 15 = .ok (.aload_n 0, 1) := by decide +kernel
theorem dX9_cost_16 : decode cX9_cost 16 = .ok (.getfield 26, 3) := by decide +kernel
theorem dX9_cost_19 : decode cX9_cost 19 = .ok (.iload_n 1, 1) := by decide +kernel
theorem dX9_cost_20 : decode cX9_cost 20 = .ok (.iaload, 1) := by decide +kernel
theorem dX9_cost_21 : decode cX9_cost 21 = .ok (.iconst 1, 1) := by decide +kernel
theorem dX9_cost_22 : decode cX9_cost 22 = .ok (.isub, 1) := by decide +kernel
theorem dX9_cost_23 : decode cX9_cost 23 = .ok (.invokestatic 162, 3) := by decide +kernel
theorem dX9_cost_26 : decode cX9_cost 26 = .ok (.ifCond .eq 23, 3) := by decide +kernel
theorem dX9_cost_29 : decode cX9_cost 29 = .ok (.iload_n 3, 1) := by decide +kernel
theorem dX9_cost_30 : decode cX9_cost 30 = .ok (.iconst 0, 1) := by decide +kernel
theorem dX9_cost_31 : decode cX9_cost 31 = .ok (.aload_n 0, 1) := by decide +kernel
theorem dX9_cost_32 : decode cX9_cost 32 = .ok (.getfield 26, 3) := by decide +kernel
theorem dX9_cost_35 : decode cX9_cost 35 = .ok (.iload_n 1, 1) := by decide +kernel
theorem dX9_cost_36 : decode cX9_cost 36 = .ok (.iaload, 1) := by decide +kernel
theorem dX9_cost_37 : decode cX9_cost 37 = .ok (.iconst 1, 1) := by decide +kernel
theorem dX9_cost_38 : decode cX9_cost 38 = .ok (.isub, 1) := by decide +kernel
theorem dX9_cost_39 : decode cX9_cost 39 = .ok (.invokestatic 162, 3) := by decide +kernel
theorem dX9_cost_42 : decode cX9_cost 42 = .ok (.ifCond .eq 7, 3) := by decide +kernel
theorem dX9_cost_45 : decode cX9_cost 45 = .ok (.iconst 1, 1) := by decide +kernel
theorem dX9_cost_46 : decode cX9_cost 46 = .ok (.goto 4, 3) := by decide +kernel
theorem dX9_cost_49 : decode cX9_cost 49 = .ok (.iconst 0, 1) := by decide +kernel
theorem dX9_cost_50 : decode cX9_cost 50 = .ok (.istore 4, 2) := by decide +kernel
theorem dX9_cost_52 : decode cX9_cost 52 = .ok (.aload_n 0, 1) := by decide +kernel
theorem dX9_cost_53 : decode cX9_cost 53 = .ok (.iload 4, 2) := by decide +kernel
theorem dX9_cost_55 : decode cX9_cost 55 = .ok (.ifCond .ne 7, 3) := by decide +kernel
theorem dX9_cost_58 : decode cX9_cost 58 = .ok (.iconst 1, 1) := by decide +kernel
theorem dX9_cost_59 : decode cX9_cost 59 = .ok (.goto 4, 3) := by decide +kernel
theorem dX9_cost_62 : decode cX9_cost 62 = .ok (.iconst 0, 1) := by decide +kernel
theorem dX9_cost_63 : decode cX9_cost 63 = .ok (.iconst 1, 1) := by decide +kernel
theorem dX9_cost_64 : decode cX9_cost 64 = .ok (.iconst 0, 1) := by decide +kernel
theorem dX9_cost_65 : decode cX9_cost 65 = .ok (.invokevirtual 207, 3) := by decide +kernel
theorem dX9_cost_68 : decode cX9_cost 68 = .ok (.ifCond .ne 22, 3) := by decide +kernel
theorem dX9_cost_71 : decode cX9_cost 71 = .ok (.aload_n 0, 1) := by decide +kernel
theorem dX9_cost_72 : decode cX9_cost 72 = .ok (.iload_n 3, 1) := by decide +kernel
theorem dX9_cost_73 : decode cX9_cost 73 = .ok (.iload_n 2, 1) := by decide +kernel
theorem dX9_cost_74 : decode cX9_cost 74 = .ok (.if_icmp .ge 7, 3) := by decide +kernel
theorem dX9_cost_77 : decode cX9_cost 77 = .ok (.iconst 1, 1) := by decide +kernel
theorem dX9_cost_78 : decode cX9_cost 78 = .ok (.goto 4, 3) := by decide +kernel
theorem dX9_cost_81 : decode cX9_cost 81 = .ok (.iconst 0, 1) := by decide +kernel
theorem dX9_cost_82 : decode cX9_cost 82 = .ok (.iconst 2, 1) := by decide +kernel
theorem dX9_cost_83 : decode cX9_cost 83 = .ok (.iconst 1, 1) := by decide +kernel
theorem dX9_cost_84 : decode cX9_cost 84 = .ok (.invokevirtual 207, 3) := by decide +kernel
theorem dX9_cost_87 : decode cX9_cost 87 = .ok (.ifCond .eq 5, 3) := by decide +kernel
theorem dX9_cost_90 : decode cX9_cost 90 = .ok (.iconst 0, 1) := by decide +kernel
theorem dX9_cost_91 : decode cX9_cost 91 = .ok (.ireturn, 1) := by decide +kernel
