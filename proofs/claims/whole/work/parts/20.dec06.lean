theorem dX9_beginsAnew_0 : decode cX9_beginsAnew 0 = .ok (.aload_n 0, 1) := by decide +kernel
theorem dX9_beginsAnew_1 : decode cX9_beginsAnew 1 = .ok (.aload_n 0, 1) := by decide +kernel
theorem dX9_beginsAnew_2 : decode cX9_beginsAnew 2 = .ok (.getfield 122, 3) := by decide +kernel
theorem dX9_beginsAnew_5 : decode cX9_beginsAnew 5 = .ok (.putfield 223, 3) := by decide +kernel
theorem dX9_beginsAnew_8 : decode cX9_beginsAnew 8 = .ok (.iconst 0, 1) := by decide +kernel
theorem dX9_beginsAnew_9 : decode cX9_beginsAnew 9 = .ok (.istore_n 1, 1) := by decide +kernel
theorem dX9_beginsAnew_10 : decode cX9_beginsAnew 10 = .ok (.iload_n 1, 1) := by decide +kernel
theorem dX9_beginsAnew_11 : decode cX9_beginsAnew 11 = .ok (.bipush 6, 2) := by decide +kernel
theorem dX9_beginsAnew_13 : decode cX9_beginsAnew 13 = .ok (.if_icmp .ge 33, 3) := by decide +kernel
theorem dX9_beginsAnew_16 : decode cX9_beginsAnew 16 = .ok (.aload_n 0, 1) := by decide +kernel
theorem dX9_beginsAnew_17 : decode cX9_beginsAnew 17 = .ok (.getfield 26, 3) := by decide +kernel
theorem dX9_beginsAnew_20 : decode cX9_beginsAnew 20 = .ok (.iload_n 1, 1) := by decide +kernel
theorem dX9_beginsAnew_21 : decode cX9_beginsAnew 21 = .ok (.iload_n 1, 1) := by decide +kernel
theorem dX9_beginsAnew_22 : decode cX9_beginsAnew 22 = .ok (.aload_n 0, 1) := by decide +kernel
theorem dX9_beginsAnew_23 : decode cX9_beginsAnew 23 = .ok (.getfield 223, 3) := by decide +kernel
theorem dX9_beginsAnew_26 : decode cX9_beginsAnew 26 = .ok (.if_icmp .ge 12, 3) := by decide +kernel
theorem dX9_beginsAnew_29 : decode cX9_beginsAnew 29 = .ok (.aload_n 0, 1) := by decide +kernel
theorem dX9_beginsAnew_30 : decode cX9_beginsAnew 30 = .ok (.getfield 23, 3) := by decide +kernel
theorem dX9_beginsAnew_33 : decode cX9_beginsAnew 33 = .ok (.iload_n 1, 1) := by decide +kernel
theorem dX9_beginsAnew_34 : decode cX9_beginsAnew 34 = .ok (.iaload, 1) := by decide +kernel
theorem dX9_beginsAnew_35 : decode cX9_beginsAnew 35 = .ok (.goto 4, 3) := by decide +kernel
theorem dX9_beginsAnew_38 : decode cX9_beginsAnew 38 = .ok (.iconst 0, 1) := by decide +kernel
theorem dX9_beginsAnew_39 : decode cX9_beginsAnew 39 = .ok (.iastore, 1) := by decide +kernel
theorem dX9_beginsAnew_40 : decode cX9_beginsAnew 40 = .ok (.iinc 1 1, 3) := by decide +kernel
theorem dX9_beginsAnew_43 : decode cX9_beginsAnew 43 = .ok (.goto (-33), 3) := by decide +kernel
theorem dX9_beginsAnew_46 : decode cX9_beginsAnew 46 = .ok (.aload_n 0, 1) := by decide +kernel
theorem dX9_beginsAnew_47 : decode cX9_beginsAnew 47 = .ok (.getfield 31, 3) := by decide +kernel
theorem dX9_beginsAnew_50 : decode cX9_beginsAnew 50 = .ok (.aload_n 0, 1) := by decide +kernel
theorem dX9_beginsAnew_51 : decode cX9_beginsAnew 51 = .ok (.getfield 34, 3) := by decide +kernel
theorem dX9_beginsAnew_54 : decode cX9_beginsAnew 54 = .ok (.aload_n 0, 1) := by decide +kernel
theorem dX9_beginsAnew_55 : decode cX9_beginsAnew 55 = .ok (.getfield 223, 3) := by decide +kernel
theorem dX9_beginsAnew_58 : decode cX9_beginsAnew 58 = .ok (.invokestatic 226, 3) := by decide +kernel
theorem dX9_beginsAnew_61 : decode cX9_beginsAnew 61 = .ok (.iconst 0, 1) := by decide +kernel
theorem dX9_beginsAnew_62 : decode cX9_beginsAnew 62 = .ok (.istore_n 1, 1) := by decide +kernel
theorem dX9_beginsAnew_63 : decode cX9_beginsAnew 63 = .ok (.iload_n 1, 1) := by decide +kernel
theorem dX9_beginsAnew_64 : decode cX9_beginsAnew 64 = .ok (.bipush 14, 2) := by decide +kernel
theorem dX9_beginsAnew_66 : decode cX9_beginsAnew 66 = .ok (.if_icmp .ge 16, 3) := by decide +kernel
theorem dX9_beginsAnew_69 : decode cX9_beginsAnew 69 = .ok (.aload_n 0, 1) := by decide +kernel
theorem dX9_beginsAnew_70 : decode cX9_beginsAnew 70 = .ok (.getfield 58, 3) := by decide +kernel
theorem dX9_beginsAnew_73 : decode cX9_beginsAnew 73 = .ok (.iload_n 1, 1) := by decide +kernel
theorem dX9_beginsAnew_74 : decode cX9_beginsAnew 74 = .ok (.iconst 0, 1) := by decide +kernel
theorem dX9_beginsAnew_75 : decode cX9_beginsAnew 75 = .ok (.iastore, 1) := by decide +kernel
theorem dX9_beginsAnew_76 : decode cX9_beginsAnew 76 = .ok (.iinc 1 1, 3) := by decide +kernel
theorem dX9_beginsAnew_79 : decode cX9_beginsAnew 79 = .ok (.goto (-16), 3) := by decide +kernel
theorem dX9_beginsAnew_82 : decode cX9_beginsAnew 82 = .ok (.iconst 0, 1) := by decide +kernel
theorem dX9_beginsAnew_83 : decode cX9_beginsAnew 83 = .ok (.istore_n 1, 1) := by decide +kernel
theorem dX9_beginsAnew_84 : decode cX9_beginsAnew 84 = .ok (.iload_n 1, 1) := by decide +kernel
theorem dX9_beginsAnew_85 : decode cX9_beginsAnew 85 = .ok (.iconst 4, 1) := by decide +kernel
theorem dX9_beginsAnew_86 : decode cX9_beginsAnew 86 = .ok (.if_icmp .ge 24, 3) := by decide +kernel
theorem dX9_beginsAnew_89 : decode cX9_beginsAnew 89 = .ok (.aload_n 0, 1) := by decide +kernel
theorem dX9_beginsAnew_90 : decode cX9_beginsAnew 90 = .ok (.getfield 58, 3) := by decide +kernel
theorem dX9_beginsAnew_93 : decode cX9_beginsAnew 93 = .ok (.bipush 6, 2) := by decide +kernel
theorem dX9_beginsAnew_95 : decode cX9_beginsAnew 95 = .ok (.iload_n 1, 1) := by decide +kernel
theorem dX9_beginsAnew_96 : decode cX9_beginsAnew 96 = .ok (.iadd, 1) := by decide +kernel
theorem dX9_beginsAnew_97 : decode cX9_beginsAnew 97 = .ok (.aload_n 0, 1) := by decide +kernel
theorem dX9_beginsAnew_98 : decode cX9_beginsAnew 98 = .ok (.getfield 20, 3) := by decide +kernel
theorem dX9_beginsAnew_101 : decode cX9_beginsAnew 101 = .ok (.iload_n 1, 1) := by decide +kernel
theorem dX9_beginsAnew_102 : decode cX9_beginsAnew 102 = .ok (.iaload, 1) := by decide +kernel
theorem dX9_beginsAnew_103 : decode cX9_beginsAnew 103 = .ok (.iastore, 1) := by decide +kernel
theorem dX9_beginsAnew_104 : decode cX9_beginsAnew 104 = .ok (.iinc 1 1, 3) := by decide +kernel
theorem dX9_beginsAnew_107 : decode cX9_beginsAnew 107 = .ok (.goto (-23), 3) := by decide +kernel
theorem dX9_beginsAnew_110 : decode cX9_beginsAnew 110 = .ok (.aload_n 0, 1) := by decide +kernel
theorem dX9_beginsAnew_111 : decode cX9_beginsAnew 111 = .ok (.getfield 58, 3) := by decide +kernel
theorem dX9_beginsAnew_114 : decode cX9_beginsAnew 114 = .ok (.bipush 10, 2) := by decide +kernel
theorem dX9_beginsAnew_116 : decode cX9_beginsAnew 116 = .ok (.aload_n 0, 1) := by decide +kernel
theorem dX9_beginsAnew_117 : decode cX9_beginsAnew 117 = .ok (.getfield 125, 3) := by decide +kernel
theorem dX9_beginsAnew_120 : decode cX9_beginsAnew 120 = .ok (.iastore, 1) := by decide +kernel
theorem dX9_beginsAnew_121 : decode cX9_beginsAnew 121 = .ok (.aload_n 0, 1) := by decide +kernel
theorem dX9_beginsAnew_122 : decode cX9_beginsAnew 122 = .ok (.iconst 0, 1) := by decide +kernel
theorem dX9_beginsAnew_123 : decode cX9_beginsAnew 123 = .ok (.putfield 230, 3) := by decide +kernel
theorem dX9_beginsAnew_126 : decode cX9_beginsAnew 126 = .ok (.aload_n 0, 1) := by decide +kernel
theorem dX9_beginsAnew_127 : decode cX9_beginsAnew 127 = .ok (.iconst 0, 1) := by decide +kernel
theorem dX9_beginsAnew_128 : decode cX9_beginsAnew 128 = .ok (.putfield 233, 3) := by decide +kernel
theorem dX9_beginsAnew_131 : decode cX9_beginsAnew 131 = .ok (.aload_n 0, 1) := by decide +kernel
theorem dX9_beginsAnew_132 : decode cX9_beginsAnew 132 = .ok (.iconst 0, 1) := by decide +kernel
theorem dX9_beginsAnew_133 : decode cX9_beginsAnew 133 = .ok (.putfield 236, 3) := by decide +kernel
theorem dX9_beginsAnew_136 : decode cX9_beginsAnew 136 = .ok (.aload_n 0, 1) := by decide +kernel
theorem dX9_beginsAnew_137 : decode cX9_beginsAnew 137 = .ok (.iconst 0, 1) := by decide +kernel
theorem dX9_beginsAnew_138 : decode cX9_beginsAnew 138 = .ok (.putfield 239, 3) := by decide +kernel
theorem dX9_beginsAnew_141 : decode cX9_beginsAnew 141 = .ok (.aload_n 0, 1) := by decide +kernel
theorem dX9_beginsAnew_142 : decode cX9_beginsAnew 142 = .ok (.iconst 0, 1) := by decide +kernel
theorem dX9_beginsAnew_143 : decode cX9_beginsAnew 143 = .ok (.putfield 242, 3) := by decide +kernel
theorem dX9_beginsAnew_146 : decode cX9_beginsAnew 146 = .ok (.return_, 1) := by decide +kernel
theorem dX9_init_0 : decode cX9_init 0 = .ok (.aload_n 0, 1) := by decide +kernel
theorem dX9_init_1 : decode cX9_init 1 = .ok (.invokespecial 1, 3) := by decide +kernel
theorem dX9_init_4 : decode cX9_init 4 = .ok (.aload_n 0, 1) := by decide +kernel
theorem dX9_init_5 : decode cX9_init 5 = .ok (.iconst (-1), 1) := by decide +kernel
theorem dX9_init_6 : decode cX9_init 6 = .ok (.putfield 9, 3) := by decide +kernel
theorem dX9_init_9 : decode cX9_init 9 = .ok (.aload_n 0, 1) := by decide +kernel
theorem dX9_init_10 : decode cX9_init 10 = .ok (.sipush 600, 3) := by decide +kernel
theorem dX9_init_13 : decode cX9_init 13 = .ok (.newarray .int, 2) := by decide +kernel
theorem dX9_init_15 : decode cX9_init 15 = .ok (.putfield 13, 3) := by decide +kernel
theorem dX9_init_18 : decode cX9_init 18 = .ok (.aload_n 0, 1) := by decide +kernel
theorem dX9_init_19 : decode cX9_init 19 = .ok (.iconst 2, 1) := by decide +kernel
theorem dX9_init_20 : decode cX9_init 20 = .ok (.newarray .int, 2) := by decide +kernel
theorem dX9_init_22 : decode cX9_init 22 = .ok (.putfield 17, 3) := by decide +kernel
theorem dX9_init_25 : decode cX9_init 25 = .ok (.aload_n 0, 1) := by decide +kernel
theorem dX9_init_26 : decode cX9_init 26 = .ok (.iconst 4, 1) := by decide +kernel
theorem dX9_init_27 : decode cX9_init 27 = .ok (.newarray .int, 2) := by decide +kernel
theorem dX9_init_29 : decode cX9_init 29 = .ok (.putfield 20, 3) := by decide +kernel
theorem dX9_init_32 : decode cX9_init 32 = .ok (.aload_n 0, 1) := by decide +kernel
theorem dX9_init_33 : decode cX9_init 33 = .ok (.bipush 6, 2) := by decide +kernel
theorem dX9_init_35 : decode cX9_init 35 = .ok (.newarray .int, 2) := by decide +kernel
theorem dX9_init_37 : decode cX9_init 37 = .ok (.putfield 23, 3) := by decide +kernel
theorem dX9_init_40 : decode cX9_init 40 = .ok (.aload_n 0, 1) := by decide +kernel
theorem dX9_init_41 : decode cX9_init 41 = .ok (.bipush 6, 2) := by decide +kernel
theorem dX9_init_43 : decode cX9_init 43 = .ok (.newarray .int, 2) := by decide +kernel
theorem dX9_init_45 : decode cX9_init 45 = .ok (.putfield 26, 3) := by decide +kernel
theorem dX9_init_48 : decode cX9_init 48 = .ok (.aload_n 0, 1) := by decide +kernel
theorem dX9_init_49 : decode cX9_init 49 = .ok (.bipush 6, 2) := by decide +kernel
theorem dX9_init_51 : decode cX9_init 51 = .ok (.bipush 8, 2) := by decide +kernel
theorem dX9_init_53 : decode cX9_init 53 = .ok (.multianewarray 29 2, 4) := by decide +kernel
theorem dX9_init_57 : decode cX9_init 57 = .ok (.putfield 31, 3) := by decide +kernel
theorem dX9_init_60 : decode cX9_init 60 = .ok (.aload_n 0, 1) := by decide +kernel
theorem dX9_init_61 : decode cX9_init 61 = .ok (.bipush 6, 2) := by decide +kernel
theorem dX9_init_63 : decode cX9_init 63 = .ok (.bipush 8, 2) := by decide +kernel
theorem dX9_init_65 : decode cX9_init 65 = .ok (.multianewarray 29 2, 4) := by decide +kernel
theorem dX9_init_69 : decode cX9_init 69 = .ok (.putfield 34, 3) := by decide +kernel
theorem dX9_init_72 : decode cX9_init 72 = .ok (.aload_n 0, 1) := by decide +kernel
theorem dX9_init_73 : decode cX9_init 73 = .ok (.sipush 160, 3) := by decide +kernel
theorem dX9_init_76 : decode cX9_init 76 = .ok (.iconst 2, 1) := by decide +kernel
theorem dX9_init_77 : decode cX9_init 77 = .ok (.multianewarray 29 2, 4) := by decide +kernel
theorem dX9_init_81 : decode cX9_init 81 = .ok (.putfield 37, 3) := by decide +kernel
theorem dX9_init_84 : decode cX9_init 84 = .ok (.aload_n 0, 1) := by decide +kernel
theorem dX9_init_85 : decode cX9_init 85 = .ok (.sipush 160, 3) := by decide +kernel
theorem dX9_init_88 : decode cX9_init 88 = .ok (.iconst 2, 1) := by decide +kernel
theorem dX9_init_89 : decode cX9_init 89 = .ok (.multianewarray 29 2, 4) := by decide +kernel
theorem dX9_init_93 : decode cX9_init 93 = .ok (.putfield 40, 3) := by decide +kernel
theorem dX9_init_96 : decode cX9_init 96 = .ok (.aload_n 0, 1) := by decide +kernel
theorem dX9_init_97 : decode cX9_init 97 = .ok (.sipush 160, 3) := by decide +kernel
theorem dX9_init_100 : decode cX9_init 100 = .ok (.newarray .int, 2) := by decide +kernel
theorem dX9_init_102 : decode cX9_init 102 = .ok (.putfield 43, 3) := by decide +kernel
theorem dX9_init_105 : decode cX9_init 105 = .ok (.aload_n 0, 1) := by decide +kernel
theorem dX9_init_106 : decode cX9_init 106 = .ok (.bipush 7, 2) := by decide +kernel
theorem dX9_init_108 : decode cX9_init 108 = .ok (.newarray .int, 2) := by decide +kernel
theorem dX9_init_110 : decode cX9_init 110 = .ok (.putfield 46, 3) := by decide +kernel
theorem dX9_init_113 : decode cX9_init 113 = .ok (.aload_n 0, 1) := by decide +kernel
theorem dX9_init_114 : decode cX9_init 114 = .ok (.bipush 12, 2) := by decide +kernel
theorem dX9_init_116 : decode cX9_init 116 = .ok (.newarray .int, 2) := by decide +kernel
theorem dX9_init_118 : decode cX9_init 118 = .ok (.putfield 49, 3) := by decide +kernel
theorem dX9_init_121 : decode cX9_init 121 = .ok (.aload_n 0, 1) := by decide +kernel
theorem dX9_init_122 : decode cX9_init 122 = .ok (.bipush 12, 2) := by decide +kernel
theorem dX9_init_124 : decode cX9_init 124 = .ok (.newarray .int, 2) := by decide +kernel
theorem dX9_init_126 : decode cX9_init 126 = .ok (.putfield 52, 3) := by decide +kernel
theorem dX9_init_129 : decode cX9_init 129 = .ok (.aload_n 0, 1) := by decide +kernel
theorem dX9_init_130 : decode cX9_init 130 = .ok (.bipush 80, 2) := by decide +kernel
theorem dX9_init_132 : decode cX9_init 132 = .ok (.iconst 5, 1) := by decide +kernel
theorem dX9_init_133 : decode cX9_init 133 = .ok (.multianewarray 29 2, 4) := by decide +kernel
theorem dX9_init_137 : decode cX9_init 137 = .ok (.putfield 55, 3) := by decide +kernel
theorem dX9_init_140 : decode cX9_init 140 = .ok (.aload_n 0, 1) := by decide +kernel
theorem dX9_init_141 : decode cX9_init 141 = .ok (.bipush 14, 2) := by decide +kernel
theorem dX9_init_143 : decode cX9_init 143 = .ok (.newarray .int, 2) := by decide +kernel
theorem dX9_init_145 : decode cX9_init 145 = .ok (.putfield 58, 3) := by decide +kernel
theorem dX9_init_148 : decode cX9_init 148 = .ok (.aload_n 0, 1) := by decide +kernel
theorem dX9_init_149 : decode cX9_init 149 = .ok (.bipush 14, 2) := by decide +kernel
theorem dX9_init_151 : decode cX9_init 151 = .ok (.newarray .int, 2) := by decide +kernel
theorem dX9_init_153 : decode cX9_init 153 = .ok (.putfield 61, 3) := by decide +kernel
theorem dX9_init_156 : decode cX9_init 156 = .ok (.aload_n 0, 1) := by decide +kernel
theorem dX9_init_157 : decode cX9_init 157 = .ok (.bipush 16, 2) := by decide +kernel
theorem dX9_init_159 : decode cX9_init 159 = .ok (.bipush 14, 2) := by decide +kernel
theorem dX9_init_161 : decode cX9_init 161 = .ok (.multianewarray 29 2, 4) := by decide +kernel
theorem dX9_init_165 : decode cX9_init 165 = .ok (.putfield 64, 3) := by decide +kernel
theorem dX9_init_168 : decode cX9_init 168 = .ok (.aload_n 0, 1) := by decide +kernel
theorem dX9_init_169 : decode cX9_init 169 = .ok (.iconst 3, 1) := by decide +kernel
theorem dX9_init_170 : decode cX9_init 170 = .ok (.sipush 239, 3) := by decide +kernel
theorem dX9_init_173 : decode cX9_init 173 = .ok (.multianewarray 29 2, 4) := by decide +kernel
theorem dX9_init_177 : decode cX9_init 177 = .ok (.putfield 67, 3) := by decide +kernel
theorem dX9_init_180 : decode cX9_init 180 = .ok (.aload_n 0, 1) := by decide +kernel
theorem dX9_init_181 : decode cX9_init 181 = .ok (.bipush 48, 2) := by decide +kernel
theorem dX9_init_183 : decode cX9_init 183 = .ok (.newarray .int, 2) := by decide +kernel
theorem dX9_init_185 : decode cX9_init 185 = .ok (.putfield 70, 3) := by decide +kernel
theorem dX9_init_188 : decode cX9_init 188 = .ok (.aload_n 0, 1) := by decide +kernel
theorem dX9_init_189 : decode cX9_init 189 = .ok (.bipush 48, 2) := by decide +kernel
theorem dX9_init_191 : decode cX9_init 191 = .ok (.newarray .int, 2) := by decide +kernel
theorem dX9_init_193 : decode cX9_init 193 = .ok (.putfield 73, 3) := by decide +kernel
theorem dX9_init_196 : decode cX9_init 196 = .ok (.aload_n 0, 1) := by decide +kernel
theorem dX9_init_197 : decode cX9_init 197 = .ok (.bipush 48, 2) := by decide +kernel
theorem dX9_init_199 : decode cX9_init 199 = .ok (.newarray .int, 2) := by decide +kernel
theorem dX9_init_201 : decode cX9_init 201 = .ok (.putfield 76, 3) := by decide +kernel
theorem dX9_init_204 : decode cX9_init 204 = .ok (.aload_n 0, 1) := by decide +kernel
theorem dX9_init_205 : decode cX9_init 205 = .ok (.bipush 26, 2) := by decide +kernel
theorem dX9_init_207 : decode cX9_init 207 = .ok (.newarray .int, 2) := by decide +kernel
theorem dX9_init_209 : decode cX9_init 209 = .ok (.putfield 79, 3) := by decide +kernel
theorem dX9_init_212 : decode cX9_init 212 = .ok (.aload_n 0, 1) := by decide +kernel
theorem dX9_init_213 : decode cX9_init 213 = .ok (.bipush 26, 2) := by decide +kernel
theorem dX9_init_215 : decode cX9_init 215 = .ok (.newarray .int, 2) := by decide +kernel
theorem dX9_init_217 : decode cX9_init 217 = .ok (.putfield 82, 3) := by decide +kernel
theorem dX9_init_220 : decode cX9_init 220 = .ok (.aload_n 0, 1) := by decide +kernel
theorem dX9_init_221 : decode cX9_init 221 = .ok (.bipush 26, 2) := by decide +kernel
theorem dX9_init_223 : decode cX9_init 223 = .ok (.newarray .long, 2) := by decide +kernel
theorem dX9_init_225 : decode cX9_init 225 = .ok (.putfield 85, 3) := by decide +kernel
theorem dX9_init_228 : decode cX9_init 228 = .ok (.aload_n 0, 1) := by decide +kernel
theorem dX9_init_229 : decode cX9_init 229 = .ok (.bipush 26, 2) := by decide +kernel
theorem dX9_init_231 : decode cX9_init 231 = .ok (.newarray .long, 2) := by decide +kernel
theorem dX9_init_233 : decode cX9_init 233 = .ok (.putfield 89, 3) := by decide +kernel
theorem dX9_init_236 : decode cX9_init 236 = .ok (.aload_n 0, 1) := by decide +kernel
theorem dX9_init_237 : decode cX9_init 237 = .ok (.bipush 13, 2) := by decide +kernel
theorem dX9_init_239 : decode cX9_init 239 = .ok (.newarray .long, 2) := by decide +kernel
theorem dX9_init_241 : decode cX9_init 241 = .ok (.putfield 92, 3) := by decide +kernel
theorem dX9_init_244 : decode cX9_init 244 = .ok (.aload_n 0, 1) := by decide +kernel
theorem dX9_init_245 : decode cX9_init 245 = .ok (.bipush 13, 2) := by decide +kernel
theorem dX9_init_247 : decode cX9_init 247 = .ok (.bipush 16, 2) := by decide +kernel
theorem dX9_init_249 : decode cX9_init 249 = .ok (.multianewarray 95 2, 4) := by decide +kernel
theorem dX9_init_253 : decode cX9_init 253 = .ok (.putfield 97, 3) := by decide +kernel
theorem dX9_init_256 : decode cX9_init 256 = .ok (.aload_n 0, 1) := by decide +kernel
theorem dX9_init_257 : decode cX9_init 257 = .ok (.bipush 9, 2) := by decide +kernel
theorem dX9_init_259 : decode cX9_init 259 = .ok (.newarray .int, 2) := by decide +kernel
theorem dX9_init_261 : decode cX9_init 261 = .ok (.putfield 100, 3) := by decide +kernel
theorem dX9_init_264 : decode cX9_init 264 = .ok (.aload_n 0, 1) := by decide +kernel
theorem dX9_init_265 : decode cX9_init 265 = .ok (.bipush 16, 2) := by decide +kernel
theorem dX9_init_267 : decode cX9_init 267 = .ok (.newarray .boolean, 2) := by decide +kernel
theorem dX9_init_269 : decode cX9_init 269 = .ok (.putfield 103, 3) := by decide +kernel
theorem dX9_init_272 : decode cX9_init 272 = .ok (.aload_n 0, 1) := by decide +kernel
theorem dX9_init_273 : decode cX9_init 273 = .ok (.bipush 9, 2) := by decide +kernel
theorem dX9_init_275 : decode cX9_init 275 = .ok (.bipush 9, 2) := by decide +kernel
theorem dX9_init_277 : decode cX9_init 277 = .ok (.multianewarray 29 2, 4) := by decide +kernel
theorem dX9_init_281 : decode cX9_init 281 = .ok (.putfield 107, 3) := by decide +kernel
theorem dX9_init_284 : decode cX9_init 284 = .ok (.aload_n 0, 1) := by decide +kernel
theorem dX9_init_285 : decode cX9_init 285 = .ok (.bipush 14, 2) := by decide +kernel
theorem dX9_init_287 : decode cX9_init 287 = .ok (.newarray .long, 2) := by decide +kernel
theorem dX9_init_289 : decode cX9_init 289 = .ok (.putfield 110, 3) := by decide +kernel
theorem dX9_init_292 : decode cX9_init 292 = .ok (.aload_n 0, 1) := by decide +kernel
theorem dX9_init_293 : decode cX9_init 293 = .ok (.bipush 16, 2) := by decide +kernel
theorem dX9_init_295 : decode cX9_init 295 = .ok (.newarray .int, 2) := by decide +kernel
theorem dX9_init_297 : decode cX9_init 297 = .ok (.putfield 113, 3) := by decide +kernel
theorem dX9_init_300 : decode cX9_init 300 = .ok (.aload_n 0, 1) := by decide +kernel
theorem dX9_init_301 : decode cX9_init 301 = .ok (.invokevirtual 116, 3) := by decide +kernel
theorem dX9_init_304 : decode cX9_init 304 = .ok (.aload_n 0, 1) := by decide +kernel
theorem dX9_init_305 : decode cX9_init 305 = .ok (.invokevirtual 119, 3) := by decide +kernel
theorem dX9_init_308 : decode cX9_init 308 = .ok (.return_, 1) := by decide +kernel
theorem dX9_thrown_0 : decode cX9_thrown 0 = .ok (.aload_n 0, 1) := by decide +kernel
theorem dX9_thrown_1 : decode cX9_thrown 1 = .ok (.getfield 128, 3) := by decide +kernel
theorem dX9_thrown_4 : decode cX9_thrown 4 = .ok (.ireturn, 1) := by decide +kernel
theorem dX9_bad_0 : decode cX9_bad 0 = .ok (.iload_n 1, 1) := by decide +kernel
theorem dX9_bad_1 : decode cX9_bad 1 = .ok (.ifCond .eq 25, 3) := by decide +kernel
theorem dX9_bad_4 : decode cX9_bad 4 = .ok (.aload_n 0, 1) := by decide +kernel
theorem dX9_bad_5 : decode cX9_bad 5 = .ok (.getfield 128, 3) := by decide +kernel
theorem dX9_bad_8 : decode cX9_bad 8 = .ok (.ifCond .ne 18, 3) := by decide +kernel
theorem dX9_bad_11 : decode cX9_bad 11 = .ok (.aload_n 0, 1) := by decide +kernel
theorem dX9_bad_12 : decode cX9_bad 12 = .ok (.iload_n 2, 1) := by decide +kernel
theorem dX9_bad_13 : decode cX9_bad 13 = .ok (.putfield 128, 3) := by decide +kernel
theorem dX9_bad_16 : decode cX9_bad 16 = .ok (.aload_n 0, 1) := by decide +kernel
theorem dX9_bad_17 : decode cX9_bad 17 = .ok (.getfield 17, 3) := by decide +kernel
theorem dX9_bad_20 : decode cX9_bad 20 = .ok (.iload_n 3, 1) := by decide +kernel
theorem dX9_bad_21 : decode cX9_bad 21 = .ok (.dup2, 1) := by decide +kernel
theorem dX9_bad_22 : decode cX9_bad 22 = .ok (.iaload, 1) := by decide +kernel
theorem dX9_bad_23 : decode cX9_bad 23 = .ok (.iconst 1, 1) := by decide +kernel
theorem dX9_bad_24 : decode cX9_bad 24 = .ok (.iadd, 1) := by decide +kernel
theorem dX9_bad_25 : decode cX9_bad 25 = .ok (.iastore, 1) := by decide +kernel
theorem dX9_bad_26 : decode cX9_bad 26 = .ok (.aload_n 0, 1) := by decide +kernel
theorem dX9_bad_27 : decode cX9_bad 27 = .ok (.getfield 128, 3) := by decide +kernel
theorem dX9_bad_30 : decode cX9_bad 30 = .ok (.ifCond .eq 7, 3) := by decide +kernel
theorem dX9_bad_33 : decode cX9_bad 33 = .ok (.iconst 1, 1) := by decide +kernel
theorem dX9_bad_34 : decode cX9_bad 34 = .ok (.goto 4, 3) := by decide +kernel
theorem dX9_bad_37 : decode cX9_bad 37 = .ok (.iconst 0, 1) := by decide +kernel
theorem dX9_bad_38 : decode cX9_bad 38 = .ok (.ireturn, 1) := by decide +kernel
theorem dX9_in_0 : decode cX9_in 0 = .ok (.iload_n 0, 1) := by decide +kernel
theorem dX9_in_1 : decode cX9_in 1 = .ok (.iload_n 1, 1) := by decide +kernel
theorem dX9_in_2 : decode cX9_in 2 = .ok (.if_icmp .lt 12, 3) := by decide +kernel
theorem dX9_in_5 : decode cX9_in 5 = .ok (.iload_n 0, 1) := by decide +kernel
theorem dX9_in_6 : decode cX9_in 6 = .ok (.iload_n 2, 1) := by decide +kernel
theorem dX9_in_7 : decode cX9_in 7 = .ok (.if_icmp .gt 7, 3) := by decide +kernel
theorem dX9_in_10 : decode cX9_in 10 = .ok (.iconst 1, 1) := by decide +kernel
theorem dX9_in_11 : decode cX9_in 11 = .ok (.goto 4, 3) := by decide +kernel
theorem dX9_in_14 : decode cX9_in 14 = .ok (.iconst 0, 1) := by decide +kernel
theorem dX9_in_15 : decode cX9_in 15 = .ok (.ireturn, 1) := by decide +kernel
theorem dX9_less_0 : decode cX9_less 0 = .ok (.iload_n 0, 1) := by decide +kernel
theorem dX9_less_1 : decode cX9_less 1 = .ok (.iload_n 1, 1) := by decide +kernel
theorem dX9_less_2 : decode cX9_less 2 = .ok (.if_icmp .ge 7, 3) := by decide +kernel
theorem dX9_less_5 : decode cX9_less 5 = .ok (.iload_n 0, 1) := by decide +kernel
theorem dX9_less_6 : decode cX9_less 6 = .ok (.goto 4, 3) := by decide +kernel
theorem dX9_less_9 : decode cX9_less 9 = .ok (.iload_n 1, 1) := by decide +kernel
theorem dX9_less_10 : decode cX9_less 10 = .ok (.ireturn, 1) := by decide +kernel
theorem dX9_more_0 : decode cX9_more 0 = .ok (.iload_n 0, 1) := by decide +kernel
theorem dX9_more_1 : decode cX9_more 1 = .ok (.iload_n 1, 1) := by decide +kernel
theorem dX9_more_2 : decode cX9_more 2 = .ok (.if_icmp .le 7, 3) := by decide +kernel
theorem dX9_more_5 : decode cX9_more 5 = .ok (.iload_n 0, 1) := by decide +kernel
theorem dX9_more_6 : decode cX9_more 6 = .ok (.goto 4, 3) := by decide +kernel
theorem dX9_more_9 : decode cX9_more 9 = .ok (.iload_n 1, 1) := by decide +kernel
theorem dX9_more_10 : decode cX9_more 10 = .ok (.ireturn, 1) := by decide +kernel
theorem dX9_has_0 : decode cX9_has 0 = .ok (.iload_n 0, 1) := by decide +kernel
theorem dX9_has_1 : decode cX9_has 1 = .ok (.iload_n 1, 1) := by decide +kernel
theorem dX9_has_2 : decode cX9_has 2 = .ok (.ishr, 1) := by decide +kernel
theorem dX9_has_3 : decode cX9_has 3 = .ok (.iconst 1, 1) := by decide +kernel
theorem dX9_has_4 : decode cX9_has 4 = .ok (.iand, 1) := by decide +kernel
theorem dX9_has_5 : decode cX9_has 5 = .ok (.iconst 1, 1) := by decide +kernel
theorem dX9_has_6 : decode cX9_has 6 = .ok (.if_icmp .ne 7, 3) := by decide +kernel
theorem dX9_has_9 : decode cX9_has 9 = .ok (.iconst 1, 1) := by decide +kernel
theorem dX9_has_10 : decode cX9_has 10 = .ok (.goto 4, 3) := by decide +kernel
theorem dX9_has_13 : decode cX9_has 13 = .ok (.iconst 0, 1) := by decide +kernel
theorem dX9_has_14 : decode cX9_has 14 = .ok (.ireturn, 1) := by decide +kernel
theorem dX9_feed_0 : decode cX9_feed 0 = .ok (.aload_n 0, 1) := by decide +kernel
theorem dX9_feed_1 : decode cX9_feed 1 = .ok (.iconst 0, 1) := by decide +kernel
theorem dX9_feed_2 : decode cX9_feed 2 = .ok (.putfield 128, 3) := by decide +kernel
theorem dX9_feed_5 : decode cX9_feed 5 = .ok (.aload_n 0, 1) := by decide +kernel
theorem dX9_feed_6 : decode cX9_feed 6 = .ok (.getfield 131, 3) := by decide +kernel
theorem dX9_feed_9 : decode cX9_feed 9 = .ok (.bipush 20, 2) := by decide +kernel
theorem dX9_feed_11 : decode cX9_feed 11 = .ok (.iadd, 1) := by decide +kernel
theorem dX9_feed_12 : decode cX9_feed 12 = .ok (.sipush 600, 3) := by decide +kernel
theorem dX9_feed_15 : decode cX9_feed 15 = .ok (.if_icmp .le 5, 3) := by decide +kernel
theorem dX9_feed_18 : decode cX9_feed 18 = .ok (.iconst (-1), 1) := by decide +kernel
theorem dX9_feed_19 : decode cX9_feed 19 = .ok (.ireturn, 1) := by decide +kernel
theorem dX9_feed_20 : decode cX9_feed 20 = .ok (.iconst 0, 1) := by decide +kernel
theorem dX9_feed_21 : decode cX9_feed 21 = .ok (.istore 6, 2) := by decide +kernel
theorem dX9_feed_23 : decode cX9_feed 23 = .ok (.iload 6, 2) := by decide +kernel
theorem dX9_feed_25 : decode cX9_feed 25 = .ok (.bipush 20, 2) := by decide +kernel
theorem dX9_feed_27 : decode cX9_feed 27 = .ok (.if_icmp .ge 93, 3) := by decide +kernel
theorem dX9_feed_30 : decode cX9_feed 30 = .ok (.iload 6, 2) := by decide +kernel
theorem dX9_feed_32 : decode cX9_feed 32 = .ok (.iconst 4, 1) := by decide +kernel
theorem dX9_feed_33 : decode cX9_feed 33 = .ok (.if_icmp .ge 7, 3) := by decide +kernel
theorem dX9_feed_36 : decode cX9_feed 36 = .ok (.iload_n 1, 1) := by decide +kernel
theorem dX9_feed_37 : decode cX9_feed 37 = .ok (.goto 39, 3) := by decide +kernel
theorem dX9_feed_40 : decode cX9_feed 40 = .ok (.iload 6, 2) := by decide +kernel
theorem dX9_feed_42 : decode cX9_feed 42 = .ok (.bipush 8, 2) := by decide +kernel
theorem dX9_feed_44 : decode cX9_feed 44 = .ok (.if_icmp .ge 7, 3) := by decide +kernel
theorem dX9_feed_47 : decode cX9_feed 47 = .ok (.iload_n 2, 1) := by decide +kernel
theorem dX9_feed_48 : decode cX9_feed 48 = .ok (.goto 28, 3) := by decide +kernel
theorem dX9_feed_51 : decode cX9_feed 51 = .ok (.iload 6, 2) := by decide +kernel
theorem dX9_feed_53 : decode cX9_feed 53 = .ok (.bipush 12, 2) := by decide +kernel
theorem dX9_feed_55 : decode cX9_feed 55 = .ok (.if_icmp .ge 7, 3) := by decide +kernel
theorem dX9_feed_58 : decode cX9_feed 58 = .ok (.iload_n 3, 1) := by decide +kernel
theorem dX9_feed_59 : decode cX9_feed 59 = .ok (.goto 17, 3) := by decide +kernel
theorem dX9_feed_62 : decode cX9_feed 62 = .ok (.iload 6, 2) := by decide +kernel
theorem dX9_feed_64 : decode cX9_feed 64 = .ok (.bipush 16, 2) := by decide +kernel
theorem dX9_feed_66 : decode cX9_feed 66 = .ok (.if_icmp .ge 8, 3) := by decide +kernel
theorem dX9_feed_69 : decode cX9_feed 69 = .ok (.iload 4, 2) := by decide +kernel
theorem dX9_feed_71 : decode cX9_feed 71 = .ok (.goto 5, 3) := by decide +kernel
theorem dX9_feed_74 : decode cX9_feed 74 = .ok (.iload 5, 2) := by decide +kernel
theorem dX9_feed_76 : decode cX9_feed 76 = .ok (.istore 7, 2) := by decide +kernel
theorem dX9_feed_78 : decode cX9_feed 78 = .ok (.aload_n 0, 1) := by decide +kernel
theorem dX9_feed_79 : decode cX9_feed 79 = .ok (.getfield 13, 3) := by decide +kernel
theorem dX9_feed_82 : decode cX9_feed 82 = .ok (.aload_n 0, 1) := by decide +kernel
theorem dX9_feed_83 : decode cX9_feed 83 = .ok (.getfield 131, 3) := by decide +kernel
theorem dX9_feed_86 : decode cX9_feed 86 = .ok (.iload 7, 2) := by decide +kernel
theorem dX9_feed_88 : decode cX9_feed 88 = .ok (.bipush 24, 2) := by decide +kernel
theorem dX9_feed_90 : decode cX9_feed 90 = .ok (.bipush 8, 2) := by decide +kernel
theorem dX9_feed_92 : decode cX9_feed 92 = .ok (.iload 6, 2) := by decide +kernel
theorem dX9_feed_94 : decode cX9_feed 94 = .ok (.iconst 4, 1) := by decide +kernel
theorem dX9_feed_95 : decode cX9_feed 95 = .ok (.irem, 1) := by decide +kernel
theorem dX9_feed_96 : decode cX9_feed 96 = .ok (.imul, 1) := by decide +kernel
theorem dX9_feed_97 : decode cX9_feed 97 = .ok (.isub, 1) := by decide +kernel
theorem dX9_feed_98 : decode cX9_feed 98 = .ok (.ishr, 1) := by decide +kernel
theorem dX9_feed_99 : decode cX9_feed 99 = .ok (.sipush 255, 3) := by decide +kernel
theorem dX9_feed_102 : decode cX9_feed 102 = .ok (.iand, 1) := by decide +kernel
theorem dX9_feed_103 : decode cX9_feed 103 = .ok (.iastore, 1) := by decide +kernel
theorem dX9_feed_104 : decode cX9_feed 104 = .ok (.aload_n 0, 1) := by decide +kernel
theorem dX9_feed_105 : decode cX9_feed 105 = .ok (.dup, 1) := by decide +kernel
theorem dX9_feed_106 : decode cX9_feed 106 = .ok (.getfield 131, 3) := by decide +kernel
theorem dX9_feed_109 : decode cX9_feed 109 = .ok (.iconst 1, 1) := by decide +kernel
theorem dX9_feed_110 : decode cX9_feed 110 = .ok (.iadd, 1) := by decide +kernel
theorem dX9_feed_111 : decode cX9_feed 111 = .ok (.putfield 131, 3) := by decide +kernel
theorem dX9_feed_114 : decode cX9_feed 114 = .ok (.iinc 6 1, 3) := by decide +kernel
theorem dX9_feed_117 : decode cX9_feed 117 = .ok (.goto (-94), 3) := by decide +kernel
theorem dX9_feed_120 : decode cX9_feed 120 = .ok (.aload_n 0, 1) := by decide +kernel
theorem dX9_feed_121 : decode cX9_feed 121 = .ok (.getfield 131, 3) := by decide +kernel
theorem dX9_feed_124 : decode cX9_feed 124 = .ok (.ireturn, 1) := by decide +kernel
theorem dX9_byteAt_0 : decode cX9_byteAt 0 = .ok (.iload_n 1, 1) := by decide +kernel
theorem dX9_byteAt_1 : decode cX9_byteAt 1 = .ok (.aload_n 0, 1) := by decide +kernel
theorem dX9_byteAt_2 : decode cX9_byteAt 2 = .ok (.getfield 134, 3) := by decide +kernel
theorem dX9_byteAt_5 : decode cX9_byteAt 5 = .ok (.if_icmp .lt 7, 3) := by decide +kernel
theorem dX9_byteAt_8 : decode cX9_byteAt 8 = .ok (.iconst (-1), 1) := by decide +kernel
theorem dX9_byteAt_9 : decode cX9_byteAt 9 = .ok (.goto 9, 3) := by decide +kernel
theorem dX9_byteAt_12 : decode cX9_byteAt 12 = .ok (.aload_n 0, 1) := by decide +kernel
theorem dX9_byteAt_13 : decode cX9_byteAt 13 = .ok (.getfield 13, 3) := by decide +kernel
theorem dX9_byteAt_16 : decode cX9_byteAt 16 = .ok (.iload_n 1, 1) := by decide +kernel
theorem dX9_byteAt_17 : decode cX9_byteAt 17 = .ok (.iaload, 1) := by decide +kernel
theorem dX9_byteAt_18 : decode cX9_byteAt 18 = .ok (.ireturn, 1) := by decide +kernel
theorem dX9_blanks_0 : decode cX9_blanks 0 = .ok (.aload_n 0, 1) := by decide +kernel
theorem dX9_blanks_1 : decode cX9_blanks 1 = .ok (.aload_n 0, 1) := by decide +kernel
theorem dX9_blanks_2 : decode cX9_blanks 2 = .ok (.getfield 137, 3) := by decide +kernel
theorem dX9_blanks_5 : decode cX9_blanks 5 = .ok (.invokevirtual 140, 3) := by decide +kernel
theorem dX9_blanks_8 : decode cX9_blanks 8 = .ok (.bipush 32, 2) := by decide +kernel
theorem dX9_blanks_10 : decode cX9_blanks 10 = .ok (.if_icmp .ne 16, 3) := by decide +kernel
theorem dX9_blanks_13 : decode cX9_blanks 13 = .ok (.aload_n 0, 1) := by decide +kernel
theorem dX9_blanks_14 : decode cX9_blanks 14 = .ok (.dup, 1) := by decide +kernel
theorem dX9_blanks_15 : decode cX9_blanks 15 = .ok (.getfield 137, 3) := by decide +kernel
theorem dX9_blanks_18 : decode cX9_blanks 18 = .ok (.iconst 1, 1) := by decide +kernel
theorem dX9_blanks_19 : decode cX9_blanks 19 = .ok (.iadd, 1) := by decide +kernel
theorem dX9_blanks_20 : decode cX9_blanks 20 = .ok (.putfield 137, 3) := by decide +kernel
theorem dX9_blanks_23 : decode cX9_blanks 23 = .ok (.goto (-23), 3) := by decide +kernel
theorem dX9_blanks_26 : decode cX9_blanks 26 = .ok (.return_, 1) := by decide +kernel
theorem dX9_wrong_0 : decode cX9_wrong 0 = .ok (.aload_n 0, 1) := by decide +kernel
theorem dX9_wrong_1 : decode cX9_wrong 1 = .ok (.getfield 144, 3) := by decide +kernel
theorem dX9_wrong_4 : decode cX9_wrong 4 = .ok (.ifCond .ne 13, 3) := by decide +kernel
theorem dX9_wrong_7 : decode cX9_wrong 7 = .ok (.aload_n 0, 1) := by decide +kernel
theorem dX9_wrong_8 : decode cX9_wrong 8 = .ok (.iload_n 1, 1) := by decide +kernel
theorem dX9_wrong_9 : decode cX9_wrong 9 = .ok (.putfield 144, 3) := by decide +kernel
theorem dX9_wrong_12 : decode cX9_wrong 12 = .ok (.aload_n 0, 1) := by decide +kernel
theorem dX9_wrong_13 : decode cX9_wrong 13 = .ok (.iload_n 2, 1) := by decide +kernel
theorem dX9_wrong_14 : decode cX9_wrong 14 = .ok (.putfield 147, 3) := by decide +kernel
theorem dX9_wrong_17 : decode cX9_wrong 17 = .ok (.return_, 1) := by decide +kernel
theorem dX9_isDigit_0 : decode cX9_isDigit 0 = .ok (.iload_n 0, 1) := by decide +kernel
theorem dX9_isDigit_1 : decode cX9_isDigit 1 = .ok (.bipush 48, 2) := by decide +kernel
theorem dX9_isDigit_3 : decode cX9_isDigit 3 = .ok (.if_icmp .lt 13, 3) := by decide +kernel
theorem dX9_isDigit_6 : decode cX9_isDigit 6 = .ok (.iload_n 0, 1) := by decide +kernel
theorem dX9_isDigit_7 : decode cX9_isDigit 7 = .ok (.bipush 57, 2) := by decide +kernel
theorem dX9_isDigit_9 : decode cX9_isDigit 9 = .ok (.if_icmp .gt 7, 3) := by decide +kernel
theorem dX9_isDigit_12 : decode cX9_isDigit 12 = .ok (.iconst 1, 1) := by decide +kernel
theorem dX9_isDigit_13 : decode cX9_isDigit 13 = .ok (.goto 4, 3) := by decide +kernel
theorem dX9_isDigit_16 : decode cX9_isDigit 16 = .ok (.iconst 0, 1) := by decide +kernel
theorem dX9_isDigit_17 : decode cX9_isDigit 17 = .ok (.ireturn, 1) := by decide +kernel
theorem dX9_isSmall_0 : decode cX9_isSmall 0 = .ok (.iload_n 0, 1) := by decide +kernel
theorem dX9_isSmall_1 : decode cX9_isSmall 1 = .ok (.bipush 97, 2) := by decide +kernel
theorem dX9_isSmall_3 : decode cX9_isSmall 3 = .ok (.if_icmp .lt 13, 3) := by decide +kernel
theorem dX9_isSmall_6 : decode cX9_isSmall 6 = .ok (.iload_n 0, 1) := by decide +kernel
theorem dX9_isSmall_7 : decode cX9_isSmall 7 = .ok (.bipush 122, 2) := by decide +kernel
theorem dX9_isSmall_9 : decode cX9_isSmall 9 = .ok (.if_icmp .gt 7, 3) := by decide +kernel
theorem dX9_isSmall_12 : decode cX9_isSmall 12 = .ok (.iconst 1, 1) := by decide +kernel
theorem dX9_isSmall_13 : decode cX9_isSmall 13 = .ok (.goto 4, 3) := by decide +kernel
theorem dX9_isSmall_16 : decode cX9_isSmall 16 = .ok (.iconst 0, 1) := by decide +kernel
theorem dX9_isSmall_17 : decode cX9_isSmall 17 = .ok (.ireturn, 1) := by decide +kernel
theorem dX9_number_0 : decode cX9_number 0 = .ok (.aload_n 0, 1) := by decide +kernel
theorem dX9_number_1 : decode cX9_number 1 = .ok (.getfield 144, 3) := by decide +kernel
theorem dX9_number_4 : decode cX9_number 4 = .ok (.ifCond .eq 5, 3) := by decide +kernel
theorem dX9_number_7 : decode cX9_number 7 = .ok (.iconst 0, 1) := by decide +kernel
theorem dX9_number_8 : decode cX9_number 8 = .ok (.ireturn, 1) := by decide +kernel
theorem dX9_number_9 : decode cX9_number 9 = .ok (.aload_n 0, 1) := by decide +kernel
theorem dX9_number_10 : decode cX9_number 10 = .ok (.invokevirtual 150, 3) := by decide +kernel
theorem dX9_number_13 : decode cX9_number 13 = .ok (.aload_n 0, 1) := by decide +kernel
theorem dX9_number_14 : decode cX9_number 14 = .ok (.getfield 137, 3) := by decide +kernel
theorem dX9_number_17 : decode cX9_number 17 = .ok (.istore_n 3, 1) := by decide +kernel
theorem dX9_number_18 : decode cX9_number 18 = .ok (.iconst 0, 1) := by decide +kernel
theorem dX9_number_19 : decode cX9_number 19 = .ok (.istore 4, 2) := by decide +kernel
theorem dX9_number_21 : decode cX9_number 21 = .ok (.aload_n 0, 1) := by decide +kernel
theorem dX9_number_22 : decode cX9_number 22 = .ok (.aload_n 0, 1) := by decide +kernel
theorem dX9_number_23 : decode cX9_number 23 = .ok (.getfield 137, 3) := by decide +kernel
theorem dX9_number_26 : decode cX9_number 26 = .ok (.invokevirtual 140, 3) := by decide +kernel
theorem dX9_number_29 : decode cX9_number 29 = .ok (.invokestatic 153, 3) := by decide +kernel
theorem dX9_number_32 : decode cX9_number 32 = .ok (.ifCond .ne 12, 3) := by decide +kernel
theorem dX9_number_35 : decode cX9_number 35 = .ok (.aload_n 0, 1) := by decide +kernel
theorem dX9_number_36 : decode cX9_number 36 = .ok (.iconst 1, 1) := by decide +kernel
theorem dX9_number_37 : decode cX9_number 37 = .ok (.aload_n 0, 1) := by decide +kernel
theorem dX9_number_38 : decode cX9_number 38 = .ok (.getfield 137, 3) := by decide +kernel
theorem dX9_number_41 : decode cX9_number 41 = .ok (.invokevirtual 157, 3) := by decide +kernel
theorem dX9_number_44 : decode cX9_number 44 = .ok (.aload_n 0, 1) := by decide +kernel
theorem dX9_number_45 : decode cX9_number 45 = .ok (.aload_n 0, 1) := by decide +kernel
theorem dX9_number_46 : decode cX9_number 46 = .ok (.getfield 137, 3) := by decide +kernel
theorem dX9_number_49 : decode cX9_number 49 = .ok (.invokevirtual 140, 3) := by decide +kernel
theorem dX9_number_52 : decode cX9_number 52 = .ok (.invokestatic 153, 3) := by decide +kernel
theorem dX9_number_55 : decode cX9_number 55 = .ok (.ifCond .eq 51, 3) := by decide +kernel
theorem dX9_number_58 : decode cX9_number 58 = .ok (.bipush 10, 2) := by decide +kernel
theorem dX9_number_60 : decode cX9_number 60 = .ok (.iload 4, 2) := by decide +kernel
theorem dX9_number_62 : decode cX9_number 62 = .ok (.imul, 1) := by decide +kernel
theorem dX9_number_63 : decode cX9_number 63 = .ok (.aload_n 0, 1) := by decide +kernel
theorem dX9_number_64 : decode cX9_number 64 = .ok (.aload_n 0, 1) := by decide +kernel
theorem dX9_number_65 : decode cX9_number 65 = .ok (.getfield 137, 3) := by decide +kernel
theorem dX9_number_68 : decode cX9_number 68 = .ok (.invokevirtual 140, 3) := by decide +kernel
theorem dX9_number_71 : decode cX9_number 71 = .ok (.iadd, 1) := by decide +kernel
theorem dX9_number_72 : decode cX9_number 72 = .ok (.bipush 48, 2) := by decide +kernel
theorem dX9_number_74 : decode cX9_number 74 = .ok (.isub, 1) := by decide +kernel
theorem dX9_number_75 : decode cX9_number 75 = .ok (.istore 4, 2) := by decide +kernel
theorem dX9_number_77 : decode cX9_number 77 = .ok (.iload 4, 2) := by decide +kernel
theorem dX9_number_79 : decode cX9_number 79 = .ok (.ldc 161, 2) := by decide +kernel
theorem dX9_number_81 : decode cX9_number 81 = .ok (.if_icmp .le 8, 3) := by decide +kernel
theorem dX9_number_84 : decode cX9_number 84 = .ok (.ldc 161, 2) := by decide +kernel
theorem dX9_number_86 : decode cX9_number 86 = .ok (.goto 5, 3) := by decide +kernel
theorem dX9_number_89 : decode cX9_number 89 = .ok (.iload 4, 2) := by decide +kernel
theorem dX9_number_91 : decode cX9_number 91 = .ok (.istore 4, 2) := by decide +kernel
theorem dX9_number_93 : decode cX9_number 93 = .ok (.aload_n 0, 1) := by decide +kernel
theorem dX9_number_94 : decode cX9_number 94 = .ok (.dup, 1) := by decide +kernel
theorem dX9_number_95 : decode cX9_number 95 = .ok (.getfield 137, 3) := by decide +kernel
theorem dX9_number_98 : decode cX9_number 98 = .ok (.iconst 1, 1) := by decide +kernel
theorem dX9_number_99 : decode cX9_number 99 = .ok (.iadd, 1) := by decide +kernel
theorem dX9_number_100 : decode cX9_number 100 = .ok (.putfield 137, 3) := by decide +kernel
theorem dX9_number_103 : decode cX9_number 103 = .ok (.goto (-59), 3) := by decide +kernel
theorem dX9_number_106 : decode cX9_number 106 = .ok (.iload 4, 2) := by decide +kernel
theorem dX9_number_108 : decode cX9_number 108 = .ok (.iload_n 1, 1) := by decide +kernel
theorem dX9_number_109 : decode cX9_number 109 = .ok (.iload_n 2, 1) := by decide +kernel
theorem dX9_number_110 : decode cX9_number 110 = .ok (.invokestatic 162, 3) := by decide +kernel
theorem dX9_number_113 : decode cX9_number 113 = .ok (.ifCond .ne 9, 3) := by decide +kernel
theorem dX9_number_116 : decode cX9_number 116 = .ok (.aload_n 0, 1) := by decide +kernel
theorem dX9_number_117 : decode cX9_number 117 = .ok (.iconst 2, 1) := by decide +kernel
theorem dX9_number_118 : decode cX9_number 118 = .ok (.iload_n 3, 1) := by decide +kernel
theorem dX9_number_119 : decode cX9_number 119 = .ok (.invokevirtual 157, 3) := by decide +kernel
theorem dX9_number_122 : decode cX9_number 122 = .ok (.aload_n 0, 1) := by decide +kernel
theorem dX9_number_123 : decode cX9_number 123 = .ok (.getfield 144, 3) := by decide +kernel
theorem dX9_number_126 : decode cX9_number 126 = .ok (.ifCond .ne 8, 3) := by decide +kernel
theorem dX9_number_129 : decode cX9_number 129 = .ok (.iload 4, 2) := by decide +kernel
theorem dX9_number_131 : decode cX9_number 131 = .ok (.goto 4, 3) := by decide +kernel
theorem dX9_number_134 : decode cX9_number 134 = .ok (.iconst 0, 1) := by decide +kernel
theorem dX9_number_135 : decode cX9_number 135 = .ok (.ireturn, 1) := by decide +kernel
theorem dX9_wordHere_0 : decode cX9_wordHere 0 = .ok (.aload_n 0, 1) := by decide +kernel
theorem dX9_wordHere_1 : decode cX9_wordHere 1 = .ok (.invokevirtual 150, 3) := by decide +kernel
theorem dX9_wordHere_4 : decode cX9_wordHere 4 = .ok (.iconst 0, 1) := by decide +kernel
theorem dX9_wordHere_5 : decode cX9_wordHere 5 = .ok (.istore_n 1, 1) := by decide +kernel
theorem dX9_wordHere_6 : decode cX9_wordHere 6 = .ok (.iconst 0, 1) := by decide +kernel
theorem dX9_wordHere_7 : decode cX9_wordHere 7 = .ok (.istore_n 2, 1) := by decide +kernel
theorem dX9_wordHere_8 : decode cX9_wordHere 8 = .ok (.aload_n 0, 1) := by decide +kernel
theorem dX9_wordHere_9 : decode cX9_wordHere 9 = .ok (.aload_n 0, 1) := by decide +kernel
theorem dX9_wordHere_10 : decode cX9_wordHere 10 = .ok (.getfield 137, 3) := by decide +kernel
theorem dX9_wordHere_13 : decode cX9_wordHere 13 = .ok (.iload_n 2, 1) := by decide +kernel
theorem dX9_wordHere_14 : decode cX9_wordHere 14 = .ok (.iadd, 1) := by decide +kernel
theorem dX9_wordHere_15 : decode cX9_wordHere 15 = .ok (.invokevirtual 140, 3) := by decide +kernel
theorem dX9_wordHere_18 : decode cX9_wordHere 18 = .ok (.invokestatic 166, 3) := by decide +kernel
theorem dX9_wordHere_21 : decode cX9_wordHere 21 = .ok (.ifCond .eq 40, 3) := by decide +kernel
theorem dX9_wordHere_24 : decode cX9_wordHere 24 = .ok (.iload_n 2, 1) := by decide +kernel
theorem dX9_wordHere_25 : decode cX9_wordHere 25 = .ok (.bipush 6, 2) := by decide +kernel
theorem dX9_wordHere_27 : decode cX9_wordHere 27 = .ok (.if_icmp .ge 26, 3) := by decide +kernel
theorem dX9_wordHere_30 : decode cX9_wordHere 30 = .ok (.bipush 27, 2) := by decide +kernel
theorem dX9_wordHere_32 : decode cX9_wordHere 32 = .ok (.iload_n 1, 1) := by decide +kernel
theorem dX9_wordHere_33 : decode cX9_wordHere 33 = .ok (.imul, 1) := by decide +kernel
theorem dX9_wordHere_34 : decode cX9_wordHere 34 = .ok (.aload_n 0, 1) := by decide +kernel
theorem dX9_wordHere_35 : decode cX9_wordHere 35 = .ok (.aload_n 0, 1) := by decide +kernel
theorem dX9_wordHere_36 : decode cX9_wordHere 36 = .ok (.getfield 137, 3) := by decide +kernel
theorem dX9_wordHere_39 : decode cX9_wordHere 39 = .ok (.iload_n 2, 1) := by decide +kernel
theorem dX9_wordHere_40 : decode cX9_wordHere 40 = .ok (.iadd, 1) := by decide +kernel
theorem dX9_wordHere_41 : decode cX9_wordHere 41 = .ok (.invokevirtual 140, 3) := by decide +kernel
theorem dX9_wordHere_44 : decode cX9_wordHere 44 = .ok (.iadd, 1) := by decide +kernel
theorem dX9_wordHere_45 : decode cX9_wordHere 45 = .ok (.bipush 97, 2) := by decide +kernel
theorem dX9_wordHere_47 : decode cX9_wordHere 47 = .ok (.isub, 1) := by decide +kernel
theorem dX9_wordHere_48 : decode cX9_wordHere 48 = .ok (.iconst 1, 1) := by decide +kernel
theorem dX9_wordHere_49 : decode cX9_wordHere 49 = .ok (.iadd, 1) := by decide +kernel
theorem dX9_wordHere_50 : decode cX9_wordHere 50 = .ok (.goto 4, 3) := by decide +kernel
theorem dX9_wordHere_53 : decode cX9_wordHere 53 = .ok (.iload_n 1, 1) := by decide +kernel
theorem dX9_wordHere_54 : decode cX9_wordHere 54 = .ok (.istore_n 1, 1) := by decide +kernel
theorem dX9_wordHere_55 : decode cX9_wordHere 55 = .ok (.iinc 2 1, 3) := by decide +kernel
theorem dX9_wordHere_58 : decode cX9_wordHere 58 = .ok (.goto (-50), 3) := by decide +kernel
theorem dX9_wordHere_61 : decode cX9_wordHere 61 = .ok (.iload_n 2, 1) := by decide +kernel
theorem dX9_wordHere_62 : decode cX9_wordHere 62 = .ok (.bipush 6, 2) := by decide +kernel
theorem dX9_wordHere_64 : decode cX9_wordHere 64 = .ok (.if_icmp .le 7, 3) := by decide +kernel
theorem dX9_wordHere_67 : decode cX9_wordHere 67 = .ok (.iconst (-1), 1) := by decide +kernel
theorem dX9_wordHere_68 : decode cX9_wordHere 68 = .ok (.goto 4, 3) := by decide +kernel
theorem dX9_wordHere_71 : decode cX9_wordHere 71 = .ok (.iload_n 1, 1) := by decide +kernel
theorem dX9_wordHere_72 : decode cX9_wordHere 72 = .ok (.ireturn, 1) := by decide +kernel
theorem dX9_six_0 : decode cX9_six 0 = .ok (.bipush 27, 2) := by decide +kernel
theorem dX9_six_2 : decode cX9_six 2 = .ok (.bipush 27, 2) := by decide +kernel
theorem dX9_six_4 : decode cX9_six 4 = .ok (.iload_n 0, 1) := by decide +kernel
theorem dX9_six_5 : decode cX9_six 5 = .ok (.imul, 1) := by decide +kernel
theorem dX9_six_6 : decode cX9_six 6 = .ok (.iload_n 1, 1) := by decide +kernel
theorem dX9_six_7 : decode cX9_six 7 = .ok (.iadd, 1) := by decide +kernel
theorem dX9_six_8 : decode cX9_six 8 = .ok (.imul, 1) := by decide +kernel
theorem dX9_six_9 : decode cX9_six 9 = .ok (.iload_n 2, 1) := by decide +kernel
theorem dX9_six_10 : decode cX9_six 10 = .ok (.iadd, 1) := by decide +kernel
theorem dX9_six_11 : decode cX9_six 11 = .ok (.istore 6, 2) := by decide +kernel
theorem dX9_six_13 : decode cX9_six 13 = .ok (.iload_n 3, 1) := by decide +kernel
theorem dX9_six_14 : decode cX9_six 14 = .ok (.ifCond .ne 8, 3) := by decide +kernel
theorem dX9_six_17 : decode cX9_six 17 = .ok (.iload 6, 2) := by decide +kernel
theorem dX9_six_19 : decode cX9_six 19 = .ok (.goto 10, 3) := by decide +kernel
theorem dX9_six_22 : decode cX9_six 22 = .ok (.bipush 27, 2) := by decide +kernel
theorem dX9_six_24 : decode cX9_six 24 = .ok (.iload 6, 2) := by decide +kernel
theorem dX9_six_26 : decode cX9_six 26 = .ok (.imul, 1) := by decide +kernel
theorem dX9_six_27 : decode cX9_six 27 = .ok (.iload_n 3, 1) := by decide +kernel
theorem dX9_six_28 : decode cX9_six 28 = .ok (.iadd, 1) := by decide +kernel
theorem dX9_six_29 : decode cX9_six 29 = .ok (.istore 6, 2) := by decide +kernel
theorem dX9_six_31 : decode cX9_six 31 = .ok (.iload 4, 2) := by decide +kernel
theorem dX9_six_33 : decode cX9_six 33 = .ok (.ifCond .ne 8, 3) := by decide +kernel
theorem dX9_six_36 : decode cX9_six 36 = .ok (.iload 6, 2) := by decide +kernel
theorem dX9_six_38 : decode cX9_six 38 = .ok (.goto 11, 3) := by decide +kernel
theorem dX9_six_41 : decode cX9_six 41 = .ok (.bipush 27, 2) := by decide +kernel
theorem dX9_six_43 : decode cX9_six 43 = .ok (.iload 6, 2) := by decide +kernel
theorem dX9_six_45 : decode cX9_six 45 = .ok (.imul, 1) := by decide +kernel
theorem dX9_six_46 : decode cX9_six 46 = .ok (.iload 4, 2) := by decide +kernel
theorem dX9_six_48 : decode cX9_six 48 = .ok (.iadd, 1) := by decide +kernel
theorem dX9_six_49 : decode cX9_six 49 = .ok (.istore 6, 2) := by decide +kernel
theorem dX9_six_51 : decode cX9_six 51 = .ok (.iload 5, 2) := by decide +kernel
theorem dX9_six_53 : decode cX9_six 53 = .ok (.ifCond .ne 8, 3) := by decide +kernel
theorem dX9_six_56 : decode cX9_six 56 = .ok (.iload 6, 2) := by decide +kernel
theorem dX9_six_58 : decode cX9_six 58 = .ok (.goto 11, 3) := by decide +kernel
theorem dX9_six_61 : decode cX9_six 61 = .ok (.bipush 27, 2) := by decide +kernel
theorem dX9_six_63 : decode cX9_six 63 = .ok (.iload 6, 2) := by decide +kernel
theorem dX9_six_65 : decode cX9_six 65 = .ok (.imul, 1) := by decide +kernel
theorem dX9_six_66 : decode cX9_six 66 = .ok (.iload 5, 2) := by decide +kernel
theorem dX9_six_68 : decode cX9_six 68 = .ok (.iadd, 1) := by decide +kernel
theorem dX9_six_69 : decode cX9_six 69 = .ok (.ireturn, 1) := by decide +kernel
theorem dX9_isWord_0 : decode cX9_isWord 0 = .ok (.aload_n 0, 1) := by decide +kernel
theorem dX9_isWord_1 : decode cX9_isWord 1 = .ok (.getfield 144, 3) := by decide +kernel
theorem dX9_isWord_4 : decode cX9_isWord 4 = .ok (.ifCond .ne 26, 3) := by decide +kernel
theorem dX9_isWord_7 : decode cX9_isWord 7 = .ok (.aload_n 0, 1) := by decide +kernel
theorem dX9_isWord_8 : decode cX9_isWord 8 = .ok (.invokevirtual 169, 3) := by decide +kernel
theorem dX9_isWord_11 : decode cX9_isWord 11 = .ok (.iload_n 1, 1) := by decide +kernel
theorem dX9_isWord_12 : decode cX9_isWord 12 = .ok (.iload_n 2, 1) := by decide +kernel
theorem dX9_isWord_13 : decode cX9_isWord 13 = .ok (.iload_n 3, 1) := by decide +kernel
theorem dX9_isWord_14 : decode cX9_isWord 14 = .ok (.iload 4, 2) := by decide +kernel
theorem dX9_isWord_16 : decode cX9_isWord 16 = .ok (.iload 5, 2) := by decide +kernel
theorem dX9_isWord_18 : decode cX9_isWord 18 = .ok (.iload 6, 2) := by decide +kernel
theorem dX9_isWord_20 : decode cX9_isWord 20 = .ok (.invokestatic 173, 3) := by decide +kernel
theorem dX9_isWord_23 : decode cX9_isWord 23 = .ok (.if_icmp .ne 7, 3) := by decide +kernel
theorem dX9_isWord_26 : decode cX9_isWord 26 = .ok (.iconst 1, 1) := by decide +kernel
theorem dX9_isWord_27 : decode cX9_isWord 27 = .ok (.goto 4, 3) := by decide +kernel
theorem dX9_isWord_30 : decode cX9_isWord 30 = .ok (.iconst 0, 1) := by decide +kernel
theorem dX9_isWord_31 : decode cX9_isWord 31 = .ok (.ireturn, 1) := by decide +kernel
theorem dX9_skipWord_0 : decode cX9_skipWord 0 = .ok (.aload_n 0, 1) := by decide +kernel
theorem dX9_skipWord_1 : decode cX9_skipWord 1 = .ok (.aload_n 0, 1) := by decide +kernel
theorem dX9_skipWord_2 : decode cX9_skipWord 2 = .ok (.getfield 137, 3) := by decide +kernel
theorem dX9_skipWord_5 : decode cX9_skipWord 5 = .ok (.invokevirtual 140, 3) := by decide +kernel
theorem dX9_skipWord_8 : decode cX9_skipWord 8 = .ok (.invokestatic 166, 3) := by decide +kernel
theorem dX9_skipWord_11 : decode cX9_skipWord 11 = .ok (.ifCond .eq 16, 3) := by decide +kernel
theorem dX9_skipWord_14 : decode cX9_skipWord 14 = .ok (.aload_n 0, 1) := by decide +kernel
theorem dX9_skipWord_15 : decode cX9_skipWord 15 = .ok (.dup, 1) := by decide +kernel
theorem dX9_skipWord_16 : decode cX9_skipWord 16 = .ok (.getfield 137, 3) := by decide +kernel
theorem dX9_skipWord_19 : decode cX9_skipWord 19 = .ok (.iconst 1, 1) := by decide +kernel
theorem dX9_skipWord_20 : decode cX9_skipWord 20 = .ok (.iadd, 1) := by decide +kernel
theorem dX9_skipWord_21 : decode cX9_skipWord 21 = .ok (.putfield 137, 3) := by decide +kernel
theorem dX9_skipWord_24 : decode cX9_skipWord 24 = .ok (.goto (-24), 3) := by decide +kernel
theorem dX9_skipWord_27 : decode cX9_skipWord 27 = .ok (.return_, 1) := by decide +kernel
theorem dX9_takes_0 : decode cX9_takes 0 = .ok (.aload_n 0, 1) := by decide +kernel
theorem dX9_takes_1 : decode cX9_takes 1 = .ok (.iload_n 1, 1) := by decide +kernel
theorem dX9_takes_2 : decode cX9_takes 2 = .ok (.iload_n 2, 1) := by decide +kernel
theorem dX9_takes_3 : decode cX9_takes 3 = .ok (.iload_n 3, 1) := by decide +kernel
theorem dX9_takes_4 : decode cX9_takes 4 = .ok (.iload 4, 2) := by decide +kernel
theorem dX9_takes_6 : decode cX9_takes 6 = .ok (.iload 5, 2) := by decide +kernel
theorem dX9_takes_8 : decode cX9_takes 8 = .ok (.iload 6, 2) := by decide +kernel
theorem dX9_takes_10 : decode cX9_takes 10 = .ok (.invokevirtual 177, 3) := by decide +kernel
theorem dX9_takes_13 : decode cX9_takes 13 = .ok (.istore 7, 2) := by decide +kernel
theorem dX9_takes_15 : decode cX9_takes 15 = .ok (.iload 7, 2) := by decide +kernel
theorem dX9_takes_17 : decode cX9_takes 17 = .ok (.ifCond .eq 7, 3) := by decide +kernel
theorem dX9_takes_20 : decode cX9_takes 20 = .ok (.aload_n 0, 1) := by decide +kernel
theorem dX9_takes_21 : decode cX9_takes 21 = .ok (.invokevirtual 181, 3) := by decide +kernel
theorem dX9_takes_24 : decode cX9_takes 24 = .ok (.iload 7, 2) := by decide +kernel
theorem dX9_takes_26 : decode cX9_takes 26 = .ok (.ireturn, 1) := by decide +kernel
theorem dX9_sign_0 : decode cX9_sign 0 = .ok (.aload_n 0, 1) := by decide +kernel
theorem dX9_sign_1 : decode cX9_sign 1 = .ok (.getfield 144, 3) := by decide +kernel
theorem dX9_sign_4 : decode cX9_sign 4 = .ok (.ifCond .eq 4, 3) := by decide +kernel
theorem dX9_sign_7 : decode cX9_sign 7 = .ok (.return_, 1) := by decide +kernel
theorem dX9_sign_8 : decode cX9_sign 8 = .ok (.aload_n 0, 1) := by decide +kernel
theorem dX9_sign_9 : decode cX9_sign 9 = .ok (.invokevirtual 150, 3) := by decide +kernel
theorem dX9_sign_12 : decode cX9_sign 12 = .ok (.aload_n 0, 1) := by decide +kernel
theorem dX9_sign_13 : decode cX9_sign 13 = .ok (.aload_n 0, 1) := by decide +kernel
theorem dX9_sign_14 : decode cX9_sign 14 = .ok (.getfield 137, 3) := by decide +kernel
theorem dX9_sign_17 : decode cX9_sign 17 = .ok (.invokevirtual 140, 3) := by decide +kernel
theorem dX9_sign_20 : decode cX9_sign 20 = .ok (.iload_n 1, 1) := by decide +kernel
theorem dX9_sign_21 : decode cX9_sign 21 = .ok (.if_icmp .ne 16, 3) := by decide +kernel
theorem dX9_sign_24 : decode cX9_sign 24 = .ok (.aload_n 0, 1) := by decide +kernel
theorem dX9_sign_25 : decode cX9_sign 25 = .ok (.dup, 1) := by decide +kernel
theorem dX9_sign_26 : decode cX9_sign 26 = .ok (.getfield 137, 3) := by decide +kernel
theorem dX9_sign_29 : decode cX9_sign 29 = .ok (.iconst 1, 1) := by decide +kernel
theorem dX9_sign_30 : decode cX9_sign 30 = .ok (.iadd, 1) := by decide +kernel
theorem dX9_sign_31 : decode cX9_sign 31 = .ok (.putfield 137, 3) := by decide +kernel
theorem dX9_sign_34 : decode cX9_sign 34 = .ok (.goto 12, 3) := by decide +kernel
theorem dX9_sign_37 : decode cX9_sign 37 = .ok (.aload_n 0, 1) := by decide +kernel
theorem dX9_sign_38 : decode cX9_sign 38 = .ok (.iconst 1, 1) := by decide +kernel
theorem dX9_sign_39 : decode cX9_sign 39 = .ok (.aload_n 0, 1) := by decide +kernel
theorem dX9_sign_40 : decode cX9_sign 40 = .ok (.getfield 137, 3) := by decide +kernel
theorem dX9_sign_43 : decode cX9_sign 43 = .ok (.invokevirtual 157, 3) := by decide +kernel
theorem dX9_sign_46 : decode cX9_sign 46 = .ok (.return_, 1) := by decide +kernel
theorem dX9_takesSign_0 : decode cX9_takesSign 0 = .ok (.aload_n 0, 1) := by decide +kernel
theorem dX9_takesSign_1 : decode cX9_takesSign 1 = .ok (.getfield 144, 3) := by decide +kernel
theorem dX9_takesSign_4 : decode cX9_takesSign 4 = .ok (.ifCond .eq 5, 3) := by decide +kernel
theorem dX9_takesSign_7 : decode cX9_takesSign 7 = .ok (.iconst 0, 1) := by decide +kernel
theorem dX9_takesSign_8 : decode cX9_takesSign 8 = .ok (.ireturn, 1) := by decide +kernel
theorem dX9_takesSign_9 : decode cX9_takesSign 9 = .ok (.aload_n 0, 1) := by decide +kernel
theorem dX9_takesSign_10 : decode cX9_takesSign 10 = .ok (.invokevirtual 150, 3) := by decide +kernel
theorem dX9_takesSign_13 : decode cX9_takesSign 13 = .ok (.aload_n 0, 1) := by decide +kernel
theorem dX9_takesSign_14 : decode cX9_takesSign 14 = .ok (.aload_n 0, 1) := by decide +kernel
theorem dX9_takesSign_15 : decode cX9_takesSign 15 = .ok (.getfield 137, 3) := by decide +kernel
theorem dX9_takesSign_18 : decode cX9_takesSign 18 = .ok (.invokevirtual 140, 3) := by decide +kernel
theorem dX9_takesSign_21 : decode cX9_takesSign 21 = .ok (.iload_n 1, 1) := by decide +kernel
theorem dX9_takesSign_22 : decode cX9_takesSign 22 = .ok (.if_icmp .ne 7, 3) := by decide +kernel
theorem dX9_takesSign_25 : decode cX9_takesSign 25 = .ok (.iconst 1, 1) := by decide +kernel
theorem dX9_takesSign_26 : decode cX9_takesSign 26 = .ok (.goto 4, 3) := by decide +kernel
theorem dX9_takesSign_29 : decode cX9_takesSign 29 = .ok (.iconst 0, 1) := by decide +kernel
theorem dX9_takesSign_30 : decode cX9_takesSign 30 = .ok (.istore_n 2, 1) := by decide +kernel
theorem dX9_takesSign_31 : decode cX9_takesSign 31 = .ok (.iload_n 2, 1) := by decide +kernel
theorem dX9_takesSign_32 : decode cX9_takesSign 32 = .ok (.ifCond .eq 13, 3) := by decide +kernel
theorem dX9_takesSign_35 : decode cX9_takesSign 35 = .ok (.aload_n 0, 1) := by decide +kernel
theorem dX9_takesSign_36 : decode cX9_takesSign 36 = .ok (.dup, 1) := by decide +kernel
theorem dX9_takesSign_37 : decode cX9_takesSign 37 = .ok (.getfield 137, 3) := by decide +kernel
theorem dX9_takesSign_40 : decode cX9_takesSign 40 = .ok (.iconst 1, 1) := by decide +kernel
theorem dX9_takesSign_41 : decode cX9_takesSign 41 = .ok (.iadd, 1) := by decide +kernel
theorem dX9_takesSign_42 : decode cX9_takesSign 42 = .ok (.putfield 137, 3) := by decide +kernel
theorem dX9_takesSign_45 : decode cX9_takesSign 45 = .ok (.iload_n 2, 1) := by decide +kernel
theorem dX9_takesSign_46 : decode cX9_takesSign 46 = .ok (.ireturn, 1) := by decide +kernel
theorem dX9_starts_0 : decode cX9_starts 0 = .ok (.aload_n 0, 1) := by decide +kernel
theorem dX9_starts_1 : decode cX9_starts 1 = .ok (.iconst 0, 1) := by decide +kernel
theorem dX9_starts_2 : decode cX9_starts 2 = .ok (.putfield 131, 3) := by decide +kernel
theorem dX9_starts_5 : decode cX9_starts 5 = .ok (.aload_n 0, 1) := by decide +kernel
theorem dX9_starts_6 : decode cX9_starts 6 = .ok (.iload_n 1, 1) := by decide +kernel
theorem dX9_starts_7 : decode cX9_starts 7 = .ok (.putfield 134, 3) := by decide +kernel
theorem dX9_starts_10 : decode cX9_starts 10 = .ok (.aload_n 0, 1) := by decide +kernel
theorem dX9_starts_11 : decode cX9_starts 11 = .ok (.iconst 0, 1) := by decide +kernel
theorem dX9_starts_12 : decode cX9_starts 12 = .ok (.putfield 137, 3) := by decide +kernel
theorem dX9_starts_15 : decode cX9_starts 15 = .ok (.aload_n 0, 1) := by decide +kernel
theorem dX9_starts_16 : decode cX9_starts 16 = .ok (.iconst 0, 1) := by decide +kernel
theorem dX9_starts_17 : decode cX9_starts 17 = .ok (.putfield 144, 3) := by decide +kernel
theorem dX9_starts_20 : decode cX9_starts 20 = .ok (.aload_n 0, 1) := by decide +kernel
theorem dX9_starts_21 : decode cX9_starts 21 = .ok (.iconst (-1), 1) := by decide +kernel
theorem dX9_starts_22 : decode cX9_starts 22 = .ok (.putfield 147, 3) := by decide +kernel
theorem dX9_starts_25 : decode cX9_starts 25 = .ok (.aload_n 0, 1) := by decide +kernel
theorem dX9_starts_26 : decode cX9_starts 26 = .ok (.iconst 0, 1) := by decide +kernel
theorem dX9_starts_27 : decode cX9_starts 27 = .ok (.putfield 184, 3) := by decide +kernel
theorem dX9_starts_30 : decode cX9_starts 30 = .ok (.aload_n 0, 1) := by decide +kernel
theorem dX9_starts_31 : decode cX9_starts 31 = .ok (.iconst 0, 1) := by decide +kernel
theorem dX9_starts_32 : decode cX9_starts 32 = .ok (.putfield 187, 3) := by decide +kernel
theorem dX9_starts_35 : decode cX9_starts 35 = .ok (.aload_n 0, 1) := by decide +kernel
theorem dX9_starts_36 : decode cX9_starts 36 = .ok (.invokevirtual 150, 3) := by decide +kernel
theorem dX9_starts_39 : decode cX9_starts 39 = .ok (.return_, 1) := by decide +kernel
theorem dX9_faulty_0 : decode cX9_faulty 0 = .ok (.aload_n 0, 1) := by decide +kernel
theorem dX9_faulty_1 : decode cX9_faulty 1 = .ok (.aload_n 0, 1) := by decide +kernel
theorem dX9_faulty_2 : decode cX9_faulty 2 = .ok (.getfield 147, 3) := by decide +kernel
theorem dX9_faulty_5 : decode cX9_faulty 5 = .ok (.putfield 9, 3) := by decide +kernel
theorem dX9_faulty_8 : decode cX9_faulty 8 = .ok (.aload_n 0, 1) := by decide +kernel
theorem dX9_faulty_9 : decode cX9_faulty 9 = .ok (.getfield 144, 3) := by decide +kernel
theorem dX9_faulty_12 : decode cX9_faulty 12 = .ok (.bipush 10, 2) := by decide +kernel
theorem dX9_faulty_14 : decode cX9_faulty 14 = .ok (.isub, 1) := by decide +kernel
theorem dX9_faulty_15 : decode cX9_faulty 15 = .ok (.ireturn, 1) := by decide +kernel
theorem dX9_kindHere_0 : decode cX9_kindHere 0 = .ok (.aload_n 0, 1) := by decide +kernel
theorem dX9_kindHere_1 : decode cX9_kindHere 1 = .ok (.bipush 12, 2) := by decide +kernel
theorem dX9_kindHere_3 : decode cX9_kindHere 3 = .ok (.bipush 9, 2) := by decide +kernel
theorem dX9_kindHere_5 : decode cX9_kindHere 5 = .ok (.bipush 14, 2) := by decide +kernel
theorem dX9_kindHere_7 : decode cX9_kindHere 7 = .ok (.iconst 5, 1) := by decide +kernel
theorem dX9_kindHere_8 : decode cX9_kindHere 8 = .ok (.iconst 0, 1) := by decide +kernel
theorem dX9_kindHere_9 : decode cX9_kindHere 9 = .ok (.iconst 0, 1) := by decide +kernel
theorem dX9_kindHere_10 : decode cX9_kindHere 10 = .ok (.invokevirtual 177, 3) := by decide +kernel
theorem dX9_kindHere_13 : decode cX9_kindHere 13 = .ok (.ifCond .eq 5, 3) := by decide +kernel
theorem dX9_kindHere_16 : decode cX9_kindHere 16 = .ok (.iconst 0, 1) := by decide +kernel
theorem dX9_kindHere_17 : decode cX9_kindHere 17 = .ok (.ireturn, 1) := by decide +kernel
theorem dX9_kindHere_18 : decode cX9_kindHere 18 = .ok (.aload_n 0, 1) := by decide +kernel
theorem dX9_kindHere_19 : decode cX9_kindHere 19 = .ok (.iconst 3, 1) := by decide +kernel
theorem dX9_kindHere_20 : decode cX9_kindHere 20 = .ok (.iconst 5, 1) := by decide +kernel
theorem dX9_kindHere_21 : decode cX9_kindHere 21 = .ok (.bipush 12, 2) := by decide +kernel
theorem dX9_kindHere_23 : decode cX9_kindHere 23 = .ok (.bipush 12, 2) := by decide +kernel
theorem dX9_kindHere_25 : decode cX9_kindHere 25 = .ok (.iconst 0, 1) := by decide +kernel
theorem dX9_kindHere_26 : decode cX9_kindHere 26 = .ok (.iconst 0, 1) := by decide +kernel
theorem dX9_kindHere_27 : decode cX9_kindHere 27 = .ok (.invokevirtual 177, 3) := by decide +kernel
theorem dX9_kindHere_30 : decode cX9_kindHere 30 = .ok (.ifCond .eq 5, 3) := by decide +kernel
theorem dX9_kindHere_33 : decode cX9_kindHere 33 = .ok (.iconst 1, 1) := by decide +kernel
theorem dX9_kindHere_34 : decode cX9_kindHere 34 = .ok (.ireturn, 1) := by decide +kernel
theorem dX9_kindHere_35 : decode cX9_kindHere 35 = .ok (.aload_n 0, 1) := by decide +kernel
theorem dX9_kindHere_36 : decode cX9_kindHere 36 = .ok (.bipush 9, 2) := by decide +kernel
theorem dX9_kindHere_38 : decode cX9_kindHere 38 = .ok (.bipush 14, 2) := by decide +kernel
theorem dX9_kindHere_40 : decode cX9_kindHere 40 = .ok (.bipush 11, 2) := by decide +kernel
theorem dX9_kindHere_42 : decode cX9_kindHere 42 = .ok (.iconst 0, 1) := by decide +kernel
theorem dX9_kindHere_43 : decode cX9_kindHere 43 = .ok (.iconst 0, 1) := by decide +kernel
theorem dX9_kindHere_44 : decode cX9_kindHere 44 = .ok (.iconst 0, 1) := by decide +kernel
theorem dX9_kindHere_45 : decode cX9_kindHere 45 = .ok (.invokevirtual 177, 3) := by decide +kernel
theorem dX9_kindHere_48 : decode cX9_kindHere 48 = .ok (.ifCond .eq 7, 3) := by decide +kernel
theorem dX9_kindHere_51 : decode cX9_kindHere 51 = .ok (.iconst 2, 1) := by decide +kernel
theorem dX9_kindHere_52 : decode cX9_kindHere 52 = .ok (.goto 4, 3) := by decide +kernel
theorem dX9_kindHere_55 : decode cX9_kindHere 55 = .ok (.iconst (-1), 1) := by decide +kernel
theorem dX9_kindHere_56 : decode cX9_kindHere 56 = .ok (.ireturn, 1) := by decide +kernel
theorem dX9_wordsOwn_0 : decode cX9_wordsOwn 0 = .ok (.aload_n 0, 1) := by decide +kernel
theorem dX9_wordsOwn_1 : decode cX9_wordsOwn 1 = .ok (.invokevirtual 150, 3) := by decide +kernel
theorem dX9_wordsOwn_4 : decode cX9_wordsOwn 4 = .ok (.aload_n 0, 1) := by decide +kernel
theorem dX9_wordsOwn_5 : decode cX9_wordsOwn 5 = .ok (.getfield 137, 3) := by decide +kernel
theorem dX9_wordsOwn_8 : decode cX9_wordsOwn 8 = .ok (.istore_n 3, 1) := by decide +kernel
theorem dX9_wordsOwn_9 : decode cX9_wordsOwn 9 = .ok (.aload_n 0, 1) := by decide +kernel
theorem dX9_wordsOwn_10 : decode cX9_wordsOwn 10 = .ok (.iconst 0, 1) := by decide +kernel
theorem dX9_wordsOwn_11 : decode cX9_wordsOwn 11 = .ok (.bipush 15, 2) := by decide +kernel
theorem dX9_wordsOwn_13 : decode cX9_wordsOwn 13 = .ok (.invokevirtual 190, 3) := by decide +kernel
theorem dX9_wordsOwn_16 : decode cX9_wordsOwn 16 = .ok (.istore 4, 2) := by decide +kernel
theorem dX9_wordsOwn_18 : decode cX9_wordsOwn 18 = .ok (.aload_n 0, 1) := by decide +kernel
theorem dX9_wordsOwn_19 : decode cX9_wordsOwn 19 = .ok (.getfield 144, 3) := by decide +kernel
theorem dX9_wordsOwn_22 : decode cX9_wordsOwn 22 = .ok (.ifCond .ne 14, 3) := by decide +kernel
theorem dX9_wordsOwn_25 : decode cX9_wordsOwn 25 = .ok (.iload_n 1, 1) := by decide +kernel
theorem dX9_wordsOwn_26 : decode cX9_wordsOwn 26 = .ok (.iload_n 2, 1) := by decide +kernel
theorem dX9_wordsOwn_27 : decode cX9_wordsOwn 27 = .ok (.if_icmp .ne 9, 3) := by decide +kernel
theorem dX9_wordsOwn_30 : decode cX9_wordsOwn 30 = .ok (.aload_n 0, 1) := by decide +kernel
theorem dX9_wordsOwn_31 : decode cX9_wordsOwn 31 = .ok (.iconst 3, 1) := by decide +kernel
theorem dX9_wordsOwn_32 : decode cX9_wordsOwn 32 = .ok (.iload_n 3, 1) := by decide +kernel
theorem dX9_wordsOwn_33 : decode cX9_wordsOwn 33 = .ok (.invokevirtual 157, 3) := by decide +kernel
theorem dX9_wordsOwn_36 : decode cX9_wordsOwn 36 = .ok (.iload 4, 2) := by decide +kernel
theorem dX9_wordsOwn_38 : decode cX9_wordsOwn 38 = .ok (.ireturn, 1) := by decide +kernel
theorem dX9_lineOfPage_0 : decode cX9_lineOfPage 0 = .ok (.iconst 0, 1) := by decide +kernel
theorem dX9_lineOfPage_1 : decode cX9_lineOfPage 1 = .ok (.istore_n 1, 1) := by decide +kernel
theorem dX9_lineOfPage_2 : decode cX9_lineOfPage 2 = .ok (.aload_n 0, 1) := by decide +kernel
theorem dX9_lineOfPage_3 : decode cX9_lineOfPage 3 = .ok (.iload_n 1, 1) := by decide +kernel
theorem dX9_lineOfPage_4 : decode cX9_lineOfPage 4 = .ok (.bipush 8, 2) := by decide +kernel
theorem dX9_lineOfPage_6 : decode cX9_lineOfPage 6 = .ok (.invokevirtual 194, 3) := by decide +kernel
theorem dX9_lineOfPage_9 : decode cX9_lineOfPage 9 = .ok (.istore_n 2, 1) := by decide +kernel
theorem dX9_lineOfPage_10 : decode cX9_lineOfPage 10 = .ok (.aload_n 0, 1) := by decide +kernel
theorem dX9_lineOfPage_11 : decode cX9_lineOfPage 11 = .ok (.getfield 144, 3) := by decide +kernel
theorem dX9_lineOfPage_14 : decode cX9_lineOfPage 14 = .ok (.ifCond .eq 4, 3) := by decide +kernel
theorem dX9_lineOfPage_17 : decode cX9_lineOfPage 17 = .ok (.return_, 1) := by decide +kernel
theorem dX9_lineOfPage_18 : decode cX9_lineOfPage 18 = .ok (.aload_n 0, 1) := by decide +kernel
theorem dX9_lineOfPage_19 : decode cX9_lineOfPage 19 = .ok (.getfield 31, 3) := by decide +kernel
theorem dX9_lineOfPage_22 : decode cX9_lineOfPage 22 = .ok (.aload_n 0, 1) := by decide +kernel
theorem dX9_lineOfPage_23 : decode cX9_lineOfPage 23 = .ok (.getfield 122, 3) := by decide +kernel
theorem dX9_lineOfPage_26 : decode cX9_lineOfPage 26 = .ok (.aaload, 1) := by decide +kernel
theorem dX9_lineOfPage_27 : decode cX9_lineOfPage 27 = .ok (.iload_n 1, 1) := by decide +kernel
theorem dX9_lineOfPage_28 : decode cX9_lineOfPage 28 = .ok (.iload_n 2, 1) := by decide +kernel
theorem dX9_lineOfPage_29 : decode cX9_lineOfPage 29 = .ok (.iastore, 1) := by decide +kernel
theorem dX9_lineOfPage_30 : decode cX9_lineOfPage 30 = .ok (.iinc 1 1, 3) := by decide +kernel
theorem dX9_lineOfPage_33 : decode cX9_lineOfPage 33 = .ok (.aload_n 0, 1) := by decide +kernel
theorem dX9_lineOfPage_34 : decode cX9_lineOfPage 34 = .ok (.invokevirtual 150, 3) := by decide +kernel
theorem dX9_lineOfPage_37 : decode cX9_lineOfPage 37 = .ok (.aload_n 0, 1) := by decide +kernel
theorem dX9_lineOfPage_38 : decode cX9_lineOfPage 38 = .ok (.aload_n 0, 1) := by decide +kernel
theorem dX9_lineOfPage_39 : decode cX9_lineOfPage 39 = .ok (.getfield 137, 3) := by decide +kernel
theorem dX9_lineOfPage_42 : decode cX9_lineOfPage 42 = .ok (.invokevirtual 140, 3) := by decide +kernel
theorem dX9_lineOfPage_45 : decode cX9_lineOfPage 45 = .ok (.bipush 48, 2) := by decide +kernel
theorem dX9_lineOfPage_47 : decode cX9_lineOfPage 47 = .ok (.bipush 57, 2) := by decide +kernel
theorem dX9_lineOfPage_49 : decode cX9_lineOfPage 49 = .ok (.invokestatic 162, 3) := by decide +kernel
theorem dX9_lineOfPage_52 : decode cX9_lineOfPage 52 = .ok (.ifCond .ne (-50), 3) := by decide +kernel
theorem dX9_lineOfPage_55 : decode cX9_lineOfPage 55 = .ok (.aload_n 0, 1) := by decide +kernel
theorem dX9_lineOfPage_56 : decode cX9_lineOfPage 56 = .ok (.getfield 23, 3) := by decide +kernel
theorem dX9_lineOfPage_59 : decode cX9_lineOfPage 59 = .ok (.aload_n 0, 1) := by decide +kernel
theorem dX9_lineOfPage_60 : decode cX9_lineOfPage 60 = .ok (.getfield 122, 3) := by decide +kernel
theorem dX9_lineOfPage_63 : decode cX9_lineOfPage 63 = .ok (.iload_n 1, 1) := by decide +kernel
theorem dX9_lineOfPage_64 : decode cX9_lineOfPage 64 = .ok (.iastore, 1) := by decide +kernel
theorem dX9_lineOfPage_65 : decode cX9_lineOfPage 65 = .ok (.return_, 1) := by decide +kernel
theorem dX9_clause_0 : decode cX9_clause 0 = .ok (.aload_n 0, 1) := by decide +kernel
theorem dX9_clause_1 : decode cX9_clause 1 = .ok (.invokevirtual 197, 3) := by decide +kernel
theorem dX9_clause_4 : decode cX9_clause 4 = .ok (.istore_n 1, 1) := by decide +kernel
theorem dX9_clause_5 : decode cX9_clause 5 = .ok (.iload_n 1, 1) := by decide +kernel
theorem dX9_clause_6 : decode cX9_clause 6 = .ok (.iconst (-1), 1) := by decide +kernel
theorem dX9_clause_7 : decode cX9_clause 7 = .ok (.if_icmp .ne 15, 3) := by decide +kernel
theorem dX9_clause_10 : decode cX9_clause 10 = .ok (.aload_n 0, 1) := by decide +kernel
theorem dX9_clause_11 : decode cX9_clause 11 = .ok (.iconst 1, 1) := by decide +kernel
theorem dX9_clause_12 : decode cX9_clause 12 = .ok (.aload_n 0, 1) := by decide +kernel
theorem dX9_clause_13 : decode cX9_clause 13 = .ok (.getfield 137, 3) := by decide +kernel
theorem dX9_clause_16 : decode cX9_clause 16 = .ok (.invokevirtual 157, 3) := by decide +kernel
theorem dX9_clause_19 : decode cX9_clause 19 = .ok (.goto 34, 3) := by decide +kernel
theorem dX9_clause_22 : decode cX9_clause 22 = .ok (.aload_n 0, 1) := by decide +kernel
theorem dX9_clause_23 : decode cX9_clause 23 = .ok (.getfield 184, 3) := by decide +kernel
theorem dX9_clause_26 : decode cX9_clause 26 = .ok (.bipush 60, 2) := by decide +kernel
theorem dX9_clause_28 : decode cX9_clause 28 = .ok (.if_icmp .eq 16, 3) := by decide +kernel
theorem dX9_clause_31 : decode cX9_clause 31 = .ok (.iload_n 1, 1) := by decide +kernel
theorem dX9_clause_32 : decode cX9_clause 32 = .ok (.ifCond .ne 21, 3) := by decide +kernel
theorem dX9_clause_35 : decode cX9_clause 35 = .ok (.aload_n 0, 1) := by decide +kernel
theorem dX9_clause_36 : decode cX9_clause 36 = .ok (.getfield 122, 3) := by decide +kernel
theorem dX9_clause_39 : decode cX9_clause 39 = .ok (.bipush 6, 2) := by decide +kernel
theorem dX9_clause_41 : decode cX9_clause 41 = .ok (.if_icmp .ne 12, 3) := by decide +kernel
theorem dX9_clause_44 : decode cX9_clause 44 = .ok (.aload_n 0, 1) := by decide +kernel
theorem dX9_clause_45 : decode cX9_clause 45 = .ok (.iconst 3, 1) := by decide +kernel
theorem dX9_clause_46 : decode cX9_clause 46 = .ok (.aload_n 0, 1) := by decide +kernel
theorem dX9_clause_47 : decode cX9_clause 47 = .ok (.getfield 137, 3) := by decide +kernel
theorem dX9_clause_50 : decode cX9_clause 50 = .ok (.invokevirtual 157, 3) := by decide +kernel
theorem dX9_clause_53 : decode cX9_clause 53 = .ok (.aload_n 0, 1) := by decide +kernel
theorem dX9_clause_54 : decode cX9_clause 54 = .ok (.getfield 144, 3) := by decide +kernel
theorem dX9_clause_57 : decode cX9_clause 57 = .ok (.ifCond .eq 4, 3) := by decide +kernel
theorem dX9_clause_60 : decode cX9_clause 60 = .ok (.return_, 1) := by decide +kernel
theorem dX9_clause_61 : decode cX9_clause 61 = .ok (.aload_n 0, 1) := by decide +kernel
theorem dX9_clause_62 : decode cX9_clause 62 = .ok (.invokevirtual 181, 3) := by decide +kernel
theorem dX9_clause_65 : decode cX9_clause 65 = .ok (.aload_n 0, 1) := by decide +kernel
theorem dX9_clause_66 : decode cX9_clause 66 = .ok (.dup, 1) := by decide +kernel
theorem dX9_clause_67 : decode cX9_clause 67 = .ok (.getfield 184, 3) := by decide +kernel
theorem dX9_clause_70 : decode cX9_clause 70 = .ok (.iconst 1, 1) := by decide +kernel
theorem dX9_clause_71 : decode cX9_clause 71 = .ok (.iadd, 1) := by decide +kernel
theorem dX9_clause_72 : decode cX9_clause 72 = .ok (.putfield 184, 3) := by decide +kernel
theorem dX9_clause_75 : decode cX9_clause 75 = .ok (.iload_n 1, 1) := by decide +kernel
theorem dX9_clause_76 : decode cX9_clause 76 = .ok (.ifCond .ne 7, 3) := by decide +kernel
theorem dX9_clause_79 : decode cX9_clause 79 = .ok (.aload_n 0, 1) := by decide +kernel
theorem dX9_clause_80 : decode cX9_clause 80 = .ok (.invokevirtual 200, 3) := by decide +kernel
theorem dX9_clause_83 : decode cX9_clause 83 = .ok (.iload_n 1, 1) := by decide +kernel
theorem dX9_clause_84 : decode cX9_clause 84 = .ok (.iconst 1, 1) := by decide +kernel
theorem dX9_clause_85 : decode cX9_clause 85 = .ok (.if_icmp .ne 32, 3) := by decide +kernel
theorem dX9_clause_88 : decode cX9_clause 88 = .ok (.aload_n 0, 1) := by decide +kernel
theorem dX9_clause_89 : decode cX9_clause 89 = .ok (.iconst 0, 1) := by decide +kernel
theorem dX9_clause_90 : decode cX9_clause 90 = .ok (.iconst 3, 1) := by decide +kernel
theorem dX9_clause_91 : decode cX9_clause 91 = .ok (.invokevirtual 190, 3) := by decide +kernel
theorem dX9_clause_94 : decode cX9_clause 94 = .ok (.istore_n 2, 1) := by decide +kernel
theorem dX9_clause_95 : decode cX9_clause 95 = .ok (.aload_n 0, 1) := by decide +kernel
theorem dX9_clause_96 : decode cX9_clause 96 = .ok (.iconst 0, 1) := by decide +kernel
theorem dX9_clause_97 : decode cX9_clause 97 = .ok (.bipush 99, 2) := by decide +kernel
theorem dX9_clause_99 : decode cX9_clause 99 = .ok (.invokevirtual 190, 3) := by decide +kernel
theorem dX9_clause_102 : decode cX9_clause 102 = .ok (.istore_n 3, 1) := by decide +kernel
theorem dX9_clause_103 : decode cX9_clause 103 = .ok (.aload_n 0, 1) := by decide +kernel
theorem dX9_clause_104 : decode cX9_clause 104 = .ok (.getfield 144, 3) := by decide +kernel
theorem dX9_clause_107 : decode cX9_clause 107 = .ok (.ifCond .ne 10, 3) := by decide +kernel
theorem dX9_clause_110 : decode cX9_clause 110 = .ok (.aload_n 0, 1) := by decide +kernel
theorem dX9_clause_111 : decode cX9_clause 111 = .ok (.getfield 20, 3) := by decide +kernel
theorem dX9_clause_114 : decode cX9_clause 114 = .ok (.iload_n 2, 1) := by decide +kernel
theorem dX9_clause_115 : decode cX9_clause 115 = .ok (.iload_n 3, 1) := by decide +kernel
theorem dX9_clause_116 : decode cX9_clause 116 = .ok (.iastore, 1) := by decide +kernel
theorem dX9_clause_117 : decode cX9_clause 117 = .ok (.iload_n 1, 1) := by decide +kernel
theorem dX9_clause_118 : decode cX9_clause 118 = .ok (.iconst 2, 1) := by decide +kernel
theorem dX9_clause_119 : decode cX9_clause 119 = .ok (.if_icmp .ne 15, 3) := by decide +kernel
theorem dX9_clause_122 : decode cX9_clause 122 = .ok (.aload_n 0, 1) := by decide +kernel
theorem dX9_clause_123 : decode cX9_clause 123 = .ok (.aload_n 0, 1) := by decide +kernel
theorem dX9_clause_124 : decode cX9_clause 124 = .ok (.iconst 0, 1) := by decide +kernel
theorem dX9_clause_125 : decode cX9_clause 125 = .ok (.sipush 200, 3) := by decide +kernel
theorem dX9_clause_128 : decode cX9_clause 128 = .ok (.invokevirtual 190, 3) := by decide +kernel
theorem dX9_clause_131 : decode cX9_clause 131 = .ok (.putfield 125, 3) := by decide +kernel
theorem dX9_clause_134 : decode cX9_clause 134 = .ok (.aload_n 0, 1) := by decide +kernel
theorem dX9_clause_135 : decode cX9_clause 135 = .ok (.bipush 59, 2) := by decide +kernel
theorem dX9_clause_137 : decode cX9_clause 137 = .ok (.invokevirtual 203, 3) := by decide +kernel
theorem dX9_clause_140 : decode cX9_clause 140 = .ok (.iload_n 1, 1) := by decide +kernel
theorem dX9_clause_141 : decode cX9_clause 141 = .ok (.ifCond .ne 24, 3) := by decide +kernel
theorem dX9_clause_144 : decode cX9_clause 144 = .ok (.aload_n 0, 1) := by decide +kernel
theorem dX9_clause_145 : decode cX9_clause 145 = .ok (.dup, 1) := by decide +kernel
theorem dX9_clause_146 : decode cX9_clause 146 = .ok (.getfield 122, 3) := by decide +kernel
theorem dX9_clause_149 : decode cX9_clause 149 = .ok (.aload_n 0, 1) := by decide +kernel
theorem dX9_clause_150 : decode cX9_clause 150 = .ok (.getfield 144, 3) := by decide +kernel
theorem dX9_clause_153 : decode cX9_clause 153 = .ok (.ifCond .ne 7, 3) := by decide +kernel
theorem dX9_clause_156 : decode cX9_clause 156 = .ok (.iconst 1, 1) := by decide +kernel
theorem dX9_clause_157 : decode cX9_clause 157 = .ok (.goto 4, 3) := by decide +kernel
theorem dX9_clause_160 : decode cX9_clause 160 = .ok (.iconst 0, 1) := by decide +kernel
theorem dX9_clause_161 : decode cX9_clause 161 = .ok (.iadd, 1) := by decide +kernel
theorem dX9_clause_162 : decode cX9_clause 162 = .ok (.putfield 122, 3) := by decide +kernel
theorem dX9_clause_165 : decode cX9_clause 165 = .ok (.return_, 1) := by decide +kernel
theorem dX9_wordsOfAll_0 : decode cX9_wordsOfAll 0 = .ok (.iconst 0, 1) := by decide +kernel
theorem dX9_wordsOfAll_1 : decode cX9_wordsOfAll 1 = .ok (.istore_n 1, 1) := by decide +kernel
theorem dX9_wordsOfAll_2 : decode cX9_wordsOfAll 2 = .ok (.iconst 0, 1) := by decide +kernel
theorem dX9_wordsOfAll_3 : decode cX9_wordsOfAll 3 = .ok (.istore_n 2, 1) := by decide +kernel
theorem dX9_wordsOfAll_4 : decode cX9_wordsOfAll 4 = .ok (.iload_n 2, 1) := by decide +kernel
theorem dX9_wordsOfAll_5 : decode cX9_wordsOfAll 5 = .ok (.aload_n 0, 1) := by decide +kernel
theorem dX9_wordsOfAll_6 : decode cX9_wordsOfAll 6 = .ok (.getfield 223, 3) := by decide +kernel
theorem dX9_wordsOfAll_9 : decode cX9_wordsOfAll 9 = .ok (.if_icmp .ge 18, 3) := by decide +kernel
theorem dX9_wordsOfAll_12 : decode cX9_wordsOfAll 12 = .ok (.iload_n 1, 1) := by decide +kernel
theorem dX9_wordsOfAll_13 : decode cX9_wordsOfAll 13 = .ok (.aload_n 0, 1) := by decide +kernel
theorem dX9_wordsOfAll_14 : decode cX9_wordsOfAll 14 = .ok (.getfield 26, 3) := by decide +kernel
theorem dX9_wordsOfAll_17 : decode cX9_wordsOfAll 17 = .ok (.iload_n 2, 1) := by decide +kernel
theorem dX9_wordsOfAll_18 : decode cX9_wordsOfAll 18 = .ok (.iaload, 1) := by decide +kernel
theorem dX9_wordsOfAll_19 : decode cX9_wordsOfAll 19 = .ok (.iadd, 1) := by decide +kernel
theorem dX9_wordsOfAll_20 : decode cX9_wordsOfAll 20 = .ok (.istore_n 1, 1) := by decide +kernel
theorem dX9_wordsOfAll_21 : decode cX9_wordsOfAll 21 = .ok (.iinc 2 1, 3) := by decide +kernel
theorem dX9_wordsOfAll_24 : decode cX9_wordsOfAll 24 = .ok (.goto (-20), 3) := by decide +kernel
theorem dX9_wordsOfAll_27 : decode cX9_wordsOfAll 27 = .ok (.iload_n 1, 1) := by decide +kernel
theorem dX9_wordsOfAll_28 : decode cX9_wordsOfAll 28 = .ok (.ireturn, 1) := by decide +kernel
