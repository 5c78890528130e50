theorem dX9_knownHere_134 : decode cX9_knownHere 134 = .ok (.ireturn, 1) := by decide +kernel
theorem dX9_one_0 : decode cX9_one 0 = .ok (.aload_n 0, 1) := by decide +kernel
theorem dX9_one_1 : decode cX9_one 1 = .ok (.getfield 144, 3) := by decide +kernel
theorem dX9_one_4 : decode cX9_one 4 = .ok (.ifCond .eq 4, 3) := by decide +kernel
theorem dX9_one_7 : decode cX9_one 7 = .ok (.return_, 1) := by decide +kernel
theorem dX9_one_8 : decode cX9_one 8 = .ok (.aload_n 0, 1) := by decide +kernel
theorem dX9_one_9 : decode cX9_one 9 = .ok (.invokevirtual 150, 3) := by decide +kernel
theorem dX9_one_12 : decode cX9_one 12 = .ok (.aload_n 0, 1) := by decide +kernel
theorem dX9_one_13 : decode cX9_one 13 = .ok (.bipush 12, 2) := by decide +kernel
theorem dX9_one_15 : decode cX9_one 15 = .ok (.iconst 5, 1) := by decide +kernel
theorem dX9_one_16 : decode cX9_one 16 = .ok (.iconst 1, 1) := by decide +kernel
theorem dX9_one_17 : decode cX9_one 17 = .ok (.bipush 19, 2) := by decide +kernel
theorem dX9_one_19 : decode cX9_one 19 = .ok (.bipush 20, 2) := by decide +kernel
theorem dX9_one_21 : decode cX9_one 21 = .ok (.iconst 0, 1) := by decide +kernel
theorem dX9_one_22 : decode cX9_one 22 = .ok (.invokevirtual 177, 3) := by decide +kernel
theorem dX9_one_25 : decode cX9_one 25 = .ok (.ifCond .eq 8, 3) := by decide +kernel
theorem dX9_one_28 : decode cX9_one 28 = .ok (.bipush 7, 2) := by decide +kernel
theorem dX9_one_30 : decode cX9_one 30 = .ok (.goto 26, 3) := by decide +kernel
theorem dX9_one_33 : decode cX9_one 33 = .ok (.aload_n 0, 1) := by decide +kernel
theorem dX9_one_34 : decode cX9_one 34 = .ok (.bipush 13, 2) := by decide +kernel
theorem dX9_one_36 : decode cX9_one 36 = .ok (.bipush 15, 2) := by decide +kernel
theorem dX9_one_38 : decode cX9_one 38 = .ok (.bipush 19, 2) := by decide +kernel
theorem dX9_one_40 : decode cX9_one 40 = .ok (.bipush 20, 2) := by decide +kernel
theorem dX9_one_42 : decode cX9_one 42 = .ok (.iconst 0, 1) := by decide +kernel
theorem dX9_one_43 : decode cX9_one 43 = .ok (.iconst 0, 1) := by decide +kernel
theorem dX9_one_44 : decode cX9_one 44 = .ok (.invokevirtual 177, 3) := by decide +kernel
theorem dX9_one_47 : decode cX9_one 47 = .ok (.ifCond .eq 8, 3) := by decide +kernel
theorem dX9_one_50 : decode cX9_one 50 = .ok (.bipush 8, 2) := by decide +kernel
theorem dX9_one_52 : decode cX9_one 52 = .ok (.goto 4, 3) := by decide +kernel
theorem dX9_one_55 : decode cX9_one 55 = .ok (.iconst (-1), 1) := by decide +kernel
theorem dX9_one_56 : decode cX9_one 56 = .ok (.istore_n 1, 1) := by decide +kernel
theorem dX9_one_57 : decode cX9_one 57 = .ok (.iload_n 1, 1) := by decide +kernel
theorem dX9_one_58 : decode cX9_one 58 = .ok (.iconst (-1), 1) := by decide +kernel
theorem dX9_one_59 : decode cX9_one 59 = .ok (.if_icmp .eq 58, 3) := by decide +kernel
theorem dX9_one_62 : decode cX9_one 62 = .ok (.aload_n 0, 1) := by decide +kernel
theorem dX9_one_63 : decode cX9_one 63 = .ok (.invokevirtual 263, 3) := by decide +kernel
theorem dX9_one_66 : decode cX9_one 66 = .ok (.ifCond .ne 4, 3) := by decide +kernel
theorem dX9_one_69 : decode cX9_one 69 = .ok (.return_, 1) := by decide +kernel
theorem dX9_one_70 : decode cX9_one 70 = .ok (.aload_n 0, 1) := by decide +kernel
theorem dX9_one_71 : decode cX9_one 71 = .ok (.invokevirtual 181, 3) := by decide +kernel
theorem dX9_one_74 : decode cX9_one 74 = .ok (.aload_n 0, 1) := by decide +kernel
theorem dX9_one_75 : decode cX9_one 75 = .ok (.bipush 91, 2) := by decide +kernel
theorem dX9_one_77 : decode cX9_one 77 = .ok (.invokevirtual 203, 3) := by decide +kernel
theorem dX9_one_80 : decode cX9_one 80 = .ok (.aload_n 0, 1) := by decide +kernel
theorem dX9_one_81 : decode cX9_one 81 = .ok (.invokevirtual 267, 3) := by decide +kernel
theorem dX9_one_84 : decode cX9_one 84 = .ok (.aload_n 0, 1) := by decide +kernel
theorem dX9_one_85 : decode cX9_one 85 = .ok (.bipush 44, 2) := by decide +kernel
theorem dX9_one_87 : decode cX9_one 87 = .ok (.invokevirtual 203, 3) := by decide +kernel
theorem dX9_one_90 : decode cX9_one 90 = .ok (.aload_n 0, 1) := by decide +kernel
theorem dX9_one_91 : decode cX9_one 91 = .ok (.invokevirtual 267, 3) := by decide +kernel
theorem dX9_one_94 : decode cX9_one 94 = .ok (.aload_n 0, 1) := by decide +kernel
theorem dX9_one_95 : decode cX9_one 95 = .ok (.bipush 93, 2) := by decide +kernel
theorem dX9_one_97 : decode cX9_one 97 = .ok (.invokevirtual 203, 3) := by decide +kernel
theorem dX9_one_100 : decode cX9_one 100 = .ok (.aload_n 0, 1) := by decide +kernel
theorem dX9_one_101 : decode cX9_one 101 = .ok (.iload_n 1, 1) := by decide +kernel
theorem dX9_one_102 : decode cX9_one 102 = .ok (.iconst 0, 1) := by decide +kernel
theorem dX9_one_103 : decode cX9_one 103 = .ok (.invokevirtual 254, 3) := by decide +kernel
theorem dX9_one_106 : decode cX9_one 106 = .ok (.aload_n 0, 1) := by decide +kernel
theorem dX9_one_107 : decode cX9_one 107 = .ok (.dup, 1) := by decide +kernel
theorem dX9_one_108 : decode cX9_one 108 = .ok (.getfield 187, 3) := by decide +kernel
theorem dX9_one_111 : decode cX9_one 111 = .ok (.iconst 1, 1) := by decide +kernel
theorem dX9_one_112 : decode cX9_one 112 = .ok (.isub, 1) := by decide +kernel
theorem dX9_one_113 : decode cX9_one 113 = .ok (.putfield 187, 3) := by decide +kernel
theorem dX9_one_116 : decode cX9_one 116 = .ok (.return_, 1) := by decide +kernel
theorem dX9_one_117 : decode cX9_one 117 = .ok (.aload_n 0, 1) := by decide +kernel
theorem dX9_one_118 : decode cX9_one 118 = .ok (.aload_n 0, 1) := by decide +kernel
theorem dX9_one_119 : decode cX9_one 119 = .ok (.getfield 137, 3) := by decide +kernel
theorem dX9_one_122 : decode cX9_one 122 = .ok (.invokevirtual 140, 3) := by decide +kernel
theorem dX9_one_125 : decode cX9_one 125 = .ok (.bipush 40, 2) := by decide +kernel
theorem dX9_one_127 : decode cX9_one 127 = .ok (.if_icmp .ne 42, 3) := by decide +kernel
theorem dX9_one_130 : decode cX9_one 130 = .ok (.aload_n 0, 1) := by decide +kernel
theorem dX9_one_131 : decode cX9_one 131 = .ok (.invokevirtual 263, 3) := by decide +kernel
theorem dX9_one_134 : decode cX9_one 134 = .ok (.ifCond .ne 4, 3) := by decide +kernel
theorem dX9_one_137 : decode cX9_one 137 = .ok (.return_, 1) := by decide +kernel
theorem dX9_one_138 : decode cX9_one 138 = .ok (.aload_n 0, 1) := by decide +kernel
theorem dX9_one_139 : decode cX9_one 139 = .ok (.dup, 1) := by decide +kernel
theorem dX9_one_140 : decode cX9_one 140 = .ok (.getfield 137, 3) := by decide +kernel
theorem dX9_one_143 : decode cX9_one 143 = .ok (.iconst 1, 1) := by decide +kernel
theorem dX9_one_144 : decode cX9_one 144 = .ok (.iadd, 1) := by decide +kernel
theorem dX9_one_145 : decode cX9_one 145 = .ok (.putfield 137, 3) := by decide +kernel
theorem dX9_one_148 : decode cX9_one 148 = .ok (.aload_n 0, 1) := by decide +kernel
theorem dX9_one_149 : decode cX9_one 149 = .ok (.invokevirtual 267, 3) := by decide +kernel
theorem dX9_one_152 : decode cX9_one 152 = .ok (.aload_n 0, 1) := by decide +kernel
theorem dX9_one_153 : decode cX9_one 153 = .ok (.bipush 41, 2) := by decide +kernel
theorem dX9_one_155 : decode cX9_one 155 = .ok (.invokevirtual 203, 3) := by decide +kernel
theorem dX9_one_158 : decode cX9_one 158 = .ok (.aload_n 0, 1) := by decide +kernel
theorem dX9_one_159 : decode cX9_one 159 = .ok (.dup, 1) := by decide +kernel
theorem dX9_one_160 : decode cX9_one 160 = .ok (.getfield 187, 3) := by decide +kernel
theorem dX9_one_163 : decode cX9_one 163 = .ok (.iconst 1, 1) := by decide +kernel
theorem dX9_one_164 : decode cX9_one 164 = .ok (.isub, 1) := by decide +kernel
theorem dX9_one_165 : decode cX9_one 165 = .ok (.putfield 187, 3) := by decide +kernel
theorem dX9_one_168 : decode cX9_one 168 = .ok (.return_, 1) := by decide +kernel
theorem dX9_one_169 : decode cX9_one 169 = .ok (.aload_n 0, 1) := by decide +kernel
theorem dX9_one_170 : decode cX9_one 170 = .ok (.invokevirtual 270, 3) := by decide +kernel
theorem dX9_one_173 : decode cX9_one 173 = .ok (.istore_n 2, 1) := by decide +kernel
theorem dX9_one_174 : decode cX9_one 174 = .ok (.iload_n 2, 1) := by decide +kernel
theorem dX9_one_175 : decode cX9_one 175 = .ok (.iconst (-1), 1) := by decide +kernel
theorem dX9_one_176 : decode cX9_one 176 = .ok (.if_icmp .eq 12, 3) := by decide +kernel
theorem dX9_one_179 : decode cX9_one 179 = .ok (.aload_n 0, 1) := by decide +kernel
theorem dX9_one_180 : decode cX9_one 180 = .ok (.iconst 1, 1) := by decide +kernel
theorem dX9_one_181 : decode cX9_one 181 = .ok (.iload_n 2, 1) := by decide +kernel
theorem dX9_one_182 : decode cX9_one 182 = .ok (.invokevirtual 254, 3) := by decide +kernel
theorem dX9_one_185 : decode cX9_one 185 = .ok (.goto 16, 3) := by decide +kernel
theorem dX9_one_188 : decode cX9_one 188 = .ok (.aload_n 0, 1) := by decide +kernel
theorem dX9_one_189 : decode cX9_one 189 = .ok (.iconst 0, 1) := by decide +kernel
theorem dX9_one_190 : decode cX9_one 190 = .ok (.aload_n 0, 1) := by decide +kernel
theorem dX9_one_191 : decode cX9_one 191 = .ok (.iconst 0, 1) := by decide +kernel
theorem dX9_one_192 : decode cX9_one 192 = .ok (.sipush 999, 3) := by decide +kernel
theorem dX9_one_195 : decode cX9_one 195 = .ok (.invokevirtual 190, 3) := by decide +kernel
theorem dX9_one_198 : decode cX9_one 198 = .ok (.invokevirtual 254, 3) := by decide +kernel
theorem dX9_one_201 : decode cX9_one 201 = .ok (.return_, 1) := by decide +kernel
theorem dX9_law_0 : decode cX9_law 0 = .ok (.aload_n 0, 1) := by decide +kernel
theorem dX9_law_1 : decode cX9_law 1 = .ok (.iconst 0, 1) := by decide +kernel
theorem dX9_law_2 : decode cX9_law 2 = .ok (.putfield 128, 3) := by decide +kernel
theorem dX9_law_5 : decode cX9_law 5 = .ok (.aload_n 0, 1) := by decide +kernel
theorem dX9_law_6 : decode cX9_law 6 = .ok (.iload_n 1, 1) := by decide +kernel
theorem dX9_law_7 : decode cX9_law 7 = .ok (.iconst 0, 1) := by decide +kernel
theorem dX9_law_8 : decode cX9_law 8 = .ok (.aload_n 0, 1) := by decide +kernel
theorem dX9_law_9 : decode cX9_law 9 = .ok (.getfield 131, 3) := by decide +kernel
theorem dX9_law_12 : decode cX9_law 12 = .ok (.invokestatic 162, 3) := by decide +kernel
theorem dX9_law_15 : decode cX9_law 15 = .ok (.ifCond .eq 10, 3) := by decide +kernel
theorem dX9_law_18 : decode cX9_law 18 = .ok (.iload_n 1, 1) := by decide +kernel
theorem dX9_law_19 : decode cX9_law 19 = .ok (.sipush 150, 3) := by decide +kernel
theorem dX9_law_22 : decode cX9_law 22 = .ok (.if_icmp .le 7, 3) := by decide +kernel
theorem dX9_law_25 : decode cX9_law 25 = .ok (.iconst 1, 1) := by decide +kernel
theorem dX9_law_26 : decode cX9_law 26 = .ok (.goto 4, 3) := by decide +kernel
theorem dX9_law_29 : decode cX9_law 29 = .ok (.iconst 0, 1) := by decide +kernel
theorem dX9_law_30 : decode cX9_law 30 = .ok (.iconst 1, 1) := by decide +kernel
theorem dX9_law_31 : decode cX9_law 31 = .ok (.iconst 1, 1) := by decide +kernel
theorem dX9_law_32 : decode cX9_law 32 = .ok (.invokevirtual 207, 3) := by decide +kernel
theorem dX9_law_35 : decode cX9_law 35 = .ok (.ifCond .eq 5, 3) := by decide +kernel
theorem dX9_law_38 : decode cX9_law 38 = .ok (.iconst 0, 1) := by decide +kernel
theorem dX9_law_39 : decode cX9_law 39 = .ok (.ireturn, 1) := by decide +kernel
theorem dX9_law_40 : decode cX9_law 40 = .ok (.aload_n 0, 1) := by decide +kernel
theorem dX9_law_41 : decode cX9_law 41 = .ok (.iload_n 1, 1) := by decide +kernel
theorem dX9_law_42 : decode cX9_law 42 = .ok (.invokevirtual 211, 3) := by decide +kernel
theorem dX9_law_45 : decode cX9_law 45 = .ok (.aload_n 0, 1) := by decide +kernel
theorem dX9_law_46 : decode cX9_law 46 = .ok (.iconst 0, 1) := by decide +kernel
theorem dX9_law_47 : decode cX9_law 47 = .ok (.putfield 245, 3) := by decide +kernel
theorem dX9_law_50 : decode cX9_law 50 = .ok (.aload_n 0, 1) := by decide +kernel
theorem dX9_law_51 : decode cX9_law 51 = .ok (.invokevirtual 267, 3) := by decide +kernel
theorem dX9_law_54 : decode cX9_law 54 = .ok (.aload_n 0, 1) := by decide +kernel
theorem dX9_law_55 : decode cX9_law 55 = .ok (.invokevirtual 150, 3) := by decide +kernel
theorem dX9_law_58 : decode cX9_law 58 = .ok (.aload_n 0, 1) := by decide +kernel
theorem dX9_law_59 : decode cX9_law 59 = .ok (.getfield 144, 3) := by decide +kernel
theorem dX9_law_62 : decode cX9_law 62 = .ok (.ifCond .ne 23, 3) := by decide +kernel
theorem dX9_law_65 : decode cX9_law 65 = .ok (.aload_n 0, 1) := by decide +kernel
theorem dX9_law_66 : decode cX9_law 66 = .ok (.getfield 137, 3) := by decide +kernel
theorem dX9_law_69 : decode cX9_law 69 = .ok (.aload_n 0, 1) := by decide +kernel
theorem dX9_law_70 : decode cX9_law 70 = .ok (.getfield 134, 3) := by decide +kernel
theorem dX9_law_73 : decode cX9_law 73 = .ok (.if_icmp .ge 12, 3) := by decide +kernel
theorem dX9_law_76 : decode cX9_law 76 = .ok (.aload_n 0, 1) := by decide +kernel
theorem dX9_law_77 : decode cX9_law 77 = .ok (.iconst 1, 1) := by decide +kernel
theorem dX9_law_78 : decode cX9_law 78 = .ok (.aload_n 0, 1) := by decide +kernel
theorem dX9_law_79 : decode cX9_law 79 = .ok (.getfield 137, 3) := by decide +kernel
theorem dX9_law_82 : decode cX9_law 82 = .ok (.invokevirtual 157, 3) := by decide +kernel
theorem dX9_law_85 : decode cX9_law 85 = .ok (.aload_n 0, 1) := by decide +kernel
theorem dX9_law_86 : decode cX9_law 86 = .ok (.getfield 144, 3) := by decide +kernel
theorem dX9_law_89 : decode cX9_law 89 = .ok (.ifCond .eq 8, 3) := by decide +kernel
theorem dX9_law_92 : decode cX9_law 92 = .ok (.aload_n 0, 1) := by decide +kernel
theorem dX9_law_93 : decode cX9_law 93 = .ok (.invokevirtual 217, 3) := by decide +kernel
theorem dX9_law_96 : decode cX9_law 96 = .ok (.ireturn, 1) := by decide +kernel
theorem dX9_law_97 : decode cX9_law 97 = .ok (.aload_n 0, 1) := by decide +kernel
theorem dX9_law_98 : decode cX9_law 98 = .ok (.iconst (-1), 1) := by decide +kernel
theorem dX9_law_99 : decode cX9_law 99 = .ok (.putfield 9, 3) := by decide +kernel
theorem dX9_law_102 : decode cX9_law 102 = .ok (.aload_n 0, 1) := by decide +kernel
theorem dX9_law_103 : decode cX9_law 103 = .ok (.aload_n 0, 1) := by decide +kernel
theorem dX9_law_104 : decode cX9_law 104 = .ok (.getfield 245, 3) := by decide +kernel
theorem dX9_law_107 : decode cX9_law 107 = .ok (.putfield 230, 3) := by decide +kernel
theorem dX9_law_110 : decode cX9_law 110 = .ok (.aload_n 0, 1) := by decide +kernel
theorem dX9_law_111 : decode cX9_law 111 = .ok (.getfield 40, 3) := by decide +kernel
theorem dX9_law_114 : decode cX9_law 114 = .ok (.aload_n 0, 1) := by decide +kernel
theorem dX9_law_115 : decode cX9_law 115 = .ok (.getfield 37, 3) := by decide +kernel
theorem dX9_law_118 : decode cX9_law 118 = .ok (.aload_n 0, 1) := by decide +kernel
theorem dX9_law_119 : decode cX9_law 119 = .ok (.getfield 230, 3) := by decide +kernel
theorem dX9_law_122 : decode cX9_law 122 = .ok (.invokestatic 226, 3) := by decide +kernel
theorem dX9_law_125 : decode cX9_law 125 = .ok (.iconst 1, 1) := by decide +kernel
theorem dX9_law_126 : decode cX9_law 126 = .ok (.ireturn, 1) := by decide +kernel
theorem dX9_by_0 : decode cX9_by 0 = .ok (.iload_n 0, 1) := by decide +kernel
theorem dX9_by_1 : decode cX9_by 1 = .ok (.tableswitch 96 2 7 #[39, 43, 47, 51, 73, 90], 39) := by decide +kernel
theorem dX9_by_40 : decode cX9_by 40 = .ok (.iload_n 1, 1) := by decide +kernel
theorem dX9_by_41 : decode cX9_by 41 = .ok (.iload_n 2, 1) := by decide +kernel
theorem dX9_by_42 : decode cX9_by 42 = .ok (.iadd, 1) := by decide +kernel
theorem dX9_by_43 : decode cX9_by 43 = .ok (.ireturn, 1) := by decide +kernel
theorem dX9_by_44 : decode cX9_by 44 = .ok (.iload_n 1, 1) := by decide +kernel
theorem dX9_by_45 : decode cX9_by 45 = .ok (.iload_n 2, 1) := by decide +kernel
theorem dX9_by_46 : decode cX9_by 46 = .ok (.isub, 1) := by decide +kernel
theorem dX9_by_47 : decode cX9_by 47 = .ok (.ireturn, 1) := by decide +kernel
theorem dX9_by_48 : decode cX9_by 48 = .ok (.iload_n 1, 1) := by decide +kernel
theorem dX9_by_49 : decode cX9_by 49 = .ok (.iload_n 2, 1) := by decide +kernel
theorem dX9_by_50 : decode cX9_by 50 = .ok (.imul, 1) := by decide +kernel
theorem dX9_by_51 : decode cX9_by 51 = .ok (.ireturn, 1) := by decide +kernel
theorem dX9_by_52 : decode cX9_by 52 = .ok (.iload_n 2, 1) := by decide +kernel
theorem dX9_by_53 : decode cX9_by 53 = .ok (.ifCond .ne 7, 3) := by decide +kernel
theorem dX9_by_56 : decode cX9_by 56 = .ok (.iconst 0, 1) := by decide +kernel
theorem dX9_by_57 : decode cX9_by 57 = .ok (.goto 16, 3) := by decide +kernel
theorem dX9_by_60 : decode cX9_by 60 = .ok (.iload_n 2, 1) := by decide +kernel
theorem dX9_by_61 : decode cX9_by 61 = .ok (.iconst (-1), 1) := by decide +kernel
theorem dX9_by_62 : decode cX9_by 62 = .ok (.if_icmp .ne 8, 3) := by decide +kernel
theorem dX9_by_65 : decode cX9_by 65 = .ok (.iload_n 1, 1) := by decide +kernel
theorem dX9_by_66 : decode cX9_by 66 = .ok (.ineg, 1) := by decide +kernel
theorem dX9_by_67 : decode cX9_by 67 = .ok (.goto 6, 3) := by decide +kernel
theorem dX9_by_70 : decode cX9_by 70 = .ok (.iload_n 1, 1) := by decide +kernel
theorem dX9_by_71 : decode cX9_by 71 = .ok (.iload_n 2, 1) := by decide +kernel
theorem dX9_by_72 : decode cX9_by 72 = .ok (.idiv, 1) := by decide +kernel
theorem dX9_by_73 : decode cX9_by 73 = .ok (.ireturn, 1) := by decide +kernel
theorem dX9_by_74 : decode cX9_by 74 = .ok (.iload_n 2, 1) := by decide +kernel
theorem dX9_by_75 : decode cX9_by 75 = .ok (.ifCond .eq 8, 3) := by decide +kernel
theorem dX9_by_78 : decode cX9_by 78 = .ok (.iload_n 2, 1) := by decide +kernel
theorem dX9_by_79 : decode cX9_by 79 = .ok (.iconst (-1), 1) := by decide +kernel
theorem dX9_by_80 : decode cX9_by 80 = .ok (.if_icmp .ne 7, 3) := by decide +kernel
theorem dX9_by_83 : decode cX9_by 83 = .ok (.iconst 0, 1) := by decide +kernel
theorem dX9_by_84 : decode cX9_by 84 = .ok (.goto 6, 3) := by decide +kernel
theorem dX9_by_87 : decode cX9_by 87 = .ok (.iload_n 1, 1) := by decide +kernel
theorem dX9_by_88 : decode cX9_by 88 = .ok (.iload_n 2, 1) := by decide +kernel
theorem dX9_by_89 : decode cX9_by 89 = .ok (.irem, 1) := by decide +kernel
theorem dX9_by_90 : decode cX9_by 90 = .ok (.ireturn, 1) := by decide +kernel
theorem dX9_by_91 : decode cX9_by 91 = .ok (.iload_n 1, 1) := by decide +kernel
theorem dX9_by_92 : decode cX9_by 92 = .ok (.iload_n 2, 1) := by decide +kernel
theorem dX9_by_93 : decode cX9_by 93 = .ok (.invokestatic 273, 3) := by decide +kernel
theorem dX9_by_96 : decode cX9_by 96 = .ok (.ireturn, 1) := by decide +kernel
theorem dX9_by_97 : decode cX9_by 97 = .ok (.iload_n 1, 1) := by decide +kernel
theorem dX9_by_98 : decode cX9_by 98 = .ok (.iload_n 2, 1) := by decide +kernel
theorem dX9_by_99 : decode cX9_by 99 = .ok (.invokestatic 276, 3) := by decide +kernel
theorem dX9_by_102 : decode cX9_by 102 = .ok (.ireturn, 1) := by decide +kernel
theorem dX9_byLaw_0 : decode cX9_byLaw 0 = .ok (.iconst 0, 1) := by decide +kernel
theorem dX9_byLaw_1 : decode cX9_byLaw 1 = .ok (.istore_n 1, 1) := by decide +kernel
theorem dX9_byLaw_2 : decode cX9_byLaw 2 = .ok (.aload_n 0, 1) := by decide +kernel
theorem dX9_byLaw_3 : decode cX9_byLaw 3 = .ok (.getfield 43, 3) := by decide +kernel
theorem dX9_byLaw_6 : decode cX9_byLaw 6 = .ok (.iconst 0, 1) := by decide +kernel
theorem dX9_byLaw_7 : decode cX9_byLaw 7 = .ok (.iconst 1, 1) := by decide +kernel
theorem dX9_byLaw_8 : decode cX9_byLaw 8 = .ok (.aload_n 0, 1) := by decide +kernel
theorem dX9_byLaw_9 : decode cX9_byLaw 9 = .ok (.getfield 46, 3) := by decide +kernel
theorem dX9_byLaw_12 : decode cX9_byLaw 12 = .ok (.iconst 0, 1) := by decide +kernel
theorem dX9_byLaw_13 : decode cX9_byLaw 13 = .ok (.iaload, 1) := by decide +kernel
theorem dX9_byLaw_14 : decode cX9_byLaw 14 = .ok (.iconst 2, 1) := by decide +kernel
theorem dX9_byLaw_15 : decode cX9_byLaw 15 = .ok (.idiv, 1) := by decide +kernel
theorem dX9_byLaw_16 : decode cX9_byLaw 16 = .ok (.iadd, 1) := by decide +kernel
theorem dX9_byLaw_17 : decode cX9_byLaw 17 = .ok (.iastore, 1) := by decide +kernel
theorem dX9_byLaw_18 : decode cX9_byLaw 18 = .ok (.iconst 0, 1) := by decide +kernel
theorem dX9_byLaw_19 : decode cX9_byLaw 19 = .ok (.istore_n 2, 1) := by decide +kernel
theorem dX9_byLaw_20 : decode cX9_byLaw 20 = .ok (.iload_n 2, 1) := by decide +kernel
theorem dX9_byLaw_21 : decode cX9_byLaw 21 = .ok (.aload_n 0, 1) := by decide +kernel
theorem dX9_byLaw_22 : decode cX9_byLaw 22 = .ok (.getfield 230, 3) := by decide +kernel
theorem dX9_byLaw_25 : decode cX9_byLaw 25 = .ok (.if_icmp .ge 104, 3) := by decide +kernel
theorem dX9_byLaw_28 : decode cX9_byLaw 28 = .ok (.aload_n 0, 1) := by decide +kernel
theorem dX9_byLaw_29 : decode cX9_byLaw 29 = .ok (.getfield 37, 3) := by decide +kernel
theorem dX9_byLaw_32 : decode cX9_byLaw 32 = .ok (.iload_n 2, 1) := by decide +kernel
theorem dX9_byLaw_33 : decode cX9_byLaw 33 = .ok (.aaload, 1) := by decide +kernel
theorem dX9_byLaw_34 : decode cX9_byLaw 34 = .ok (.iconst 0, 1) := by decide +kernel
theorem dX9_byLaw_35 : decode cX9_byLaw 35 = .ok (.iaload, 1) := by decide +kernel
theorem dX9_byLaw_36 : decode cX9_byLaw 36 = .ok (.iconst 2, 1) := by decide +kernel
theorem dX9_byLaw_37 : decode cX9_byLaw 37 = .ok (.if_icmp .ge 50, 3) := by decide +kernel
theorem dX9_byLaw_40 : decode cX9_byLaw 40 = .ok (.aload_n 0, 1) := by decide +kernel
theorem dX9_byLaw_41 : decode cX9_byLaw 41 = .ok (.getfield 43, 3) := by decide +kernel
theorem dX9_byLaw_44 : decode cX9_byLaw 44 = .ok (.iload_n 1, 1) := by decide +kernel
theorem dX9_byLaw_45 : decode cX9_byLaw 45 = .ok (.aload_n 0, 1) := by decide +kernel
theorem dX9_byLaw_46 : decode cX9_byLaw 46 = .ok (.getfield 37, 3) := by decide +kernel
theorem dX9_byLaw_49 : decode cX9_byLaw 49 = .ok (.iload_n 2, 1) := by decide +kernel
theorem dX9_byLaw_50 : decode cX9_byLaw 50 = .ok (.aaload, 1) := by decide +kernel
theorem dX9_byLaw_51 : decode cX9_byLaw 51 = .ok (.iconst 0, 1) := by decide +kernel
theorem dX9_byLaw_52 : decode cX9_byLaw 52 = .ok (.iaload, 1) := by decide +kernel
theorem dX9_byLaw_53 : decode cX9_byLaw 53 = .ok (.ifCond .ne 14, 3) := by decide +kernel
theorem dX9_byLaw_56 : decode cX9_byLaw 56 = .ok (.aload_n 0, 1) := by decide +kernel
theorem dX9_byLaw_57 : decode cX9_byLaw 57 = .ok (.getfield 37, 3) := by decide +kernel
theorem dX9_byLaw_60 : decode cX9_byLaw 60 = .ok (.iload_n 2, 1) := by decide +kernel
theorem dX9_byLaw_61 : decode cX9_byLaw 61 = .ok (.aaload, 1) := by decide +kernel
theorem dX9_byLaw_62 : decode cX9_byLaw 62 = .ok (.iconst 1, 1) := by decide +kernel
theorem dX9_byLaw_63 : decode cX9_byLaw 63 = .ok (.iaload, 1) := by decide +kernel
theorem dX9_byLaw_64 : decode cX9_byLaw 64 = .ok (.goto 16, 3) := by decide +kernel
theorem dX9_byLaw_67 : decode cX9_byLaw 67 = .ok (.aload_n 0, 1) := by decide +kernel
theorem dX9_byLaw_68 : decode cX9_byLaw 68 = .ok (.getfield 46, 3) := by decide +kernel
theorem dX9_byLaw_71 : decode cX9_byLaw 71 = .ok (.aload_n 0, 1) := by decide +kernel
theorem dX9_byLaw_72 : decode cX9_byLaw 72 = .ok (.getfield 37, 3) := by decide +kernel
theorem dX9_byLaw_75 : decode cX9_byLaw 75 = .ok (.iload_n 2, 1) := by decide +kernel
theorem dX9_byLaw_76 : decode cX9_byLaw 76 = .ok (.aaload, 1) := by decide +kernel
theorem dX9_byLaw_77 : decode cX9_byLaw 77 = .ok (.iconst 1, 1) := by decide +kernel
theorem dX9_byLaw_78 : decode cX9_byLaw 78 = .ok (.iaload, 1) := by decide +kernel
theorem dX9_byLaw_79 : decode cX9_byLaw 79 = .ok (.iaload, 1) := by decide +kernel
theorem dX9_byLaw_80 : decode cX9_byLaw 80 = .ok (.iastore, 1) := by decide +kernel
theorem dX9_byLaw_81 : decode cX9_byLaw 81 = .ok (.iinc 1 1, 3) := by decide +kernel
theorem dX9_byLaw_84 : decode cX9_byLaw 84 = .ok (.goto 39, 3) := by decide +kernel
theorem dX9_byLaw_87 : decode cX9_byLaw 87 = .ok (.iinc 1 (-1), 3) := by decide +kernel
theorem dX9_byLaw_90 : decode cX9_byLaw 90 = .ok (.aload_n 0, 1) := by decide +kernel
theorem dX9_byLaw_91 : decode cX9_byLaw 91 = .ok (.getfield 43, 3) := by decide +kernel
theorem dX9_byLaw_94 : decode cX9_byLaw 94 = .ok (.iload_n 1, 1) := by decide +kernel
theorem dX9_byLaw_95 : decode cX9_byLaw 95 = .ok (.iconst 1, 1) := by decide +kernel
theorem dX9_byLaw_96 : decode cX9_byLaw 96 = .ok (.isub, 1) := by decide +kernel
theorem dX9_byLaw_97 : decode cX9_byLaw 97 = .ok (.aload_n 0, 1) := by decide +kernel
theorem dX9_byLaw_98 : decode cX9_byLaw 98 = .ok (.getfield 37, 3) := by decide +kernel
theorem dX9_byLaw_101 : decode cX9_byLaw 101 = .ok (.iload_n 2, 1) := by decide +kernel
theorem dX9_byLaw_102 : decode cX9_byLaw 102 = .ok (.aaload, 1) := by decide +kernel
theorem dX9_byLaw_103 : decode cX9_byLaw 103 = .ok (.iconst 0, 1) := by decide +kernel
theorem dX9_byLaw_104 : decode cX9_byLaw 104 = .ok (.iaload, 1) := by decide +kernel
theorem dX9_byLaw_105 : decode cX9_byLaw 105 = .ok (.aload_n 0, 1) := by decide +kernel
theorem dX9_byLaw_106 : decode cX9_byLaw 106 = .ok (.getfield 43, 3) := by decide +kernel
theorem dX9_byLaw_109 : decode cX9_byLaw 109 = .ok (.iload_n 1, 1) := by decide +kernel
theorem dX9_byLaw_110 : decode cX9_byLaw 110 = .ok (.iconst 1, 1) := by decide +kernel
theorem dX9_byLaw_111 : decode cX9_byLaw 111 = .ok (.isub, 1) := by decide +kernel
theorem dX9_byLaw_112 : decode cX9_byLaw 112 = .ok (.iaload, 1) := by decide +kernel
theorem dX9_byLaw_113 : decode cX9_byLaw 113 = .ok (.aload_n 0, 1) := by decide +kernel
theorem dX9_byLaw_114 : decode cX9_byLaw 114 = .ok (.getfield 43, 3) := by decide +kernel
theorem dX9_byLaw_117 : decode cX9_byLaw 117 = .ok (.iload_n 1, 1) := by decide +kernel
theorem dX9_byLaw_118 : decode cX9_byLaw 118 = .ok (.iaload, 1) := by decide +kernel
theorem dX9_byLaw_119 : decode cX9_byLaw 119 = .ok (.invokestatic 279, 3) := by decide +kernel
theorem dX9_byLaw_122 : decode cX9_byLaw 122 = .ok (.iastore, 1) := by decide +kernel
theorem dX9_byLaw_123 : decode cX9_byLaw 123 = .ok (.iinc 2 1, 3) := by decide +kernel
theorem dX9_byLaw_126 : decode cX9_byLaw 126 = .ok (.goto (-106), 3) := by decide +kernel
theorem dX9_byLaw_129 : decode cX9_byLaw 129 = .ok (.bipush 60, 2) := by decide +kernel
theorem dX9_byLaw_131 : decode cX9_byLaw 131 = .ok (.iconst 0, 1) := by decide +kernel
theorem dX9_byLaw_132 : decode cX9_byLaw 132 = .ok (.aload_n 0, 1) := by decide +kernel
theorem dX9_byLaw_133 : decode cX9_byLaw 133 = .ok (.getfield 43, 3) := by decide +kernel
theorem dX9_byLaw_136 : decode cX9_byLaw 136 = .ok (.iconst 0, 1) := by decide +kernel
theorem dX9_byLaw_137 : decode cX9_byLaw 137 = .ok (.iaload, 1) := by decide +kernel
theorem dX9_byLaw_138 : decode cX9_byLaw 138 = .ok (.invokestatic 276, 3) := by decide +kernel
theorem dX9_byLaw_141 : decode cX9_byLaw 141 = .ok (.invokestatic 273, 3) := by decide +kernel
theorem dX9_byLaw_144 : decode cX9_byLaw 144 = .ok (.ireturn, 1) := by decide +kernel
theorem dX9_stepHere_0 : decode cX9_stepHere 0 = .ok (.aload_n 0, 1) := by decide +kernel
theorem dX9_stepHere_1 : decode cX9_stepHere 1 = .ok (.bipush 19, 2) := by decide +kernel
theorem dX9_stepHere_3 : decode cX9_stepHere 3 = .ok (.bipush 20, 2) := by decide +kernel
theorem dX9_stepHere_5 : decode cX9_stepHere 5 = .ok (.bipush 18, 2) := by decide +kernel
theorem dX9_stepHere_7 : decode cX9_stepHere 7 = .ok (.bipush 9, 2) := by decide +kernel
theorem dX9_stepHere_9 : decode cX9_stepHere 9 = .ok (.bipush 11, 2) := by decide +kernel
theorem dX9_stepHere_11 : decode cX9_stepHere 11 = .ok (.iconst 5, 1) := by decide +kernel
theorem dX9_stepHere_12 : decode cX9_stepHere 12 = .ok (.invokevirtual 177, 3) := by decide +kernel
theorem dX9_stepHere_15 : decode cX9_stepHere 15 = .ok (.ifCond .eq 5, 3) := by decide +kernel
theorem dX9_stepHere_18 : decode cX9_stepHere 18 = .ok (.iconst 0, 1) := by decide +kernel
theorem dX9_stepHere_19 : decode cX9_stepHere 19 = .ok (.ireturn, 1) := by decide +kernel
theorem dX9_stepHere_20 : decode cX9_stepHere 20 = .ok (.aload_n 0, 1) := by decide +kernel
theorem dX9_stepHere_21 : decode cX9_stepHere 21 = .ok (.bipush 18, 2) := by decide +kernel
theorem dX9_stepHere_23 : decode cX9_stepHere 23 = .ok (.bipush 21, 2) := by decide +kernel
theorem dX9_stepHere_25 : decode cX9_stepHere 25 = .ok (.bipush 14, 2) := by decide +kernel
theorem dX9_stepHere_27 : decode cX9_stepHere 27 = .ok (.iconst 0, 1) := by decide +kernel
theorem dX9_stepHere_28 : decode cX9_stepHere 28 = .ok (.iconst 0, 1) := by decide +kernel
theorem dX9_stepHere_29 : decode cX9_stepHere 29 = .ok (.iconst 0, 1) := by decide +kernel
theorem dX9_stepHere_30 : decode cX9_stepHere 30 = .ok (.invokevirtual 177, 3) := by decide +kernel
theorem dX9_stepHere_33 : decode cX9_stepHere 33 = .ok (.ifCond .eq 5, 3) := by decide +kernel
theorem dX9_stepHere_36 : decode cX9_stepHere 36 = .ok (.iconst 1, 1) := by decide +kernel
theorem dX9_stepHere_37 : decode cX9_stepHere 37 = .ok (.ireturn, 1) := by decide +kernel
theorem dX9_stepHere_38 : decode cX9_stepHere 38 = .ok (.aload_n 0, 1) := by decide +kernel
theorem dX9_stepHere_39 : decode cX9_stepHere 39 = .ok (.iconst 2, 1) := by decide +kernel
theorem dX9_stepHere_40 : decode cX9_stepHere 40 = .ok (.iconst 5, 1) := by decide +kernel
theorem dX9_stepHere_41 : decode cX9_stepHere 41 = .ok (.bipush 7, 2) := by decide +kernel
theorem dX9_stepHere_43 : decode cX9_stepHere 43 = .ok (.bipush 9, 2) := by decide +kernel
theorem dX9_stepHere_45 : decode cX9_stepHere 45 = .ok (.bipush 14, 2) := by decide +kernel
theorem dX9_stepHere_47 : decode cX9_stepHere 47 = .ok (.iconst 0, 1) := by decide +kernel
theorem dX9_stepHere_48 : decode cX9_stepHere 48 = .ok (.invokevirtual 177, 3) := by decide +kernel
theorem dX9_stepHere_51 : decode cX9_stepHere 51 = .ok (.ifCond .eq 5, 3) := by decide +kernel
theorem dX9_stepHere_54 : decode cX9_stepHere 54 = .ok (.iconst 2, 1) := by decide +kernel
theorem dX9_stepHere_55 : decode cX9_stepHere 55 = .ok (.ireturn, 1) := by decide +kernel
theorem dX9_stepHere_56 : decode cX9_stepHere 56 = .ok (.aload_n 0, 1) := by decide +kernel
theorem dX9_stepHere_57 : decode cX9_stepHere 57 = .ok (.bipush 6, 2) := by decide +kernel
theorem dX9_stepHere_59 : decode cX9_stepHere 59 = .ok (.bipush 9, 2) := by decide +kernel
theorem dX9_stepHere_61 : decode cX9_stepHere 61 = .ok (.bipush 12, 2) := by decide +kernel
theorem dX9_stepHere_63 : decode cX9_stepHere 63 = .ok (.bipush 12, 2) := by decide +kernel
theorem dX9_stepHere_65 : decode cX9_stepHere 65 = .ok (.iconst 0, 1) := by decide +kernel
theorem dX9_stepHere_66 : decode cX9_stepHere 66 = .ok (.iconst 0, 1) := by decide +kernel
theorem dX9_stepHere_67 : decode cX9_stepHere 67 = .ok (.invokevirtual 177, 3) := by decide +kernel
theorem dX9_stepHere_70 : decode cX9_stepHere 70 = .ok (.ifCond .eq 5, 3) := by decide +kernel
theorem dX9_stepHere_73 : decode cX9_stepHere 73 = .ok (.iconst 3, 1) := by decide +kernel
theorem dX9_stepHere_74 : decode cX9_stepHere 74 = .ok (.ireturn, 1) := by decide +kernel
theorem dX9_stepHere_75 : decode cX9_stepHere 75 = .ok (.aload_n 0, 1) := by decide +kernel
theorem dX9_stepHere_76 : decode cX9_stepHere 76 = .ok (.bipush 23, 2) := by decide +kernel
theorem dX9_stepHere_78 : decode cX9_stepHere 78 = .ok (.bipush 9, 2) := by decide +kernel
theorem dX9_stepHere_80 : decode cX9_stepHere 80 = .ok (.bipush 16, 2) := by decide +kernel
theorem dX9_stepHere_82 : decode cX9_stepHere 82 = .ok (.iconst 5, 1) := by decide +kernel
theorem dX9_stepHere_83 : decode cX9_stepHere 83 = .ok (.iconst 0, 1) := by decide +kernel
theorem dX9_stepHere_84 : decode cX9_stepHere 84 = .ok (.iconst 0, 1) := by decide +kernel
theorem dX9_stepHere_85 : decode cX9_stepHere 85 = .ok (.invokevirtual 177, 3) := by decide +kernel
theorem dX9_stepHere_88 : decode cX9_stepHere 88 = .ok (.ifCond .eq 5, 3) := by decide +kernel
theorem dX9_stepHere_91 : decode cX9_stepHere 91 = .ok (.iconst 4, 1) := by decide +kernel
theorem dX9_stepHere_92 : decode cX9_stepHere 92 = .ok (.ireturn, 1) := by decide +kernel
theorem dX9_stepHere_93 : decode cX9_stepHere 93 = .ok (.aload_n 0, 1) := by decide +kernel
theorem dX9_stepHere_94 : decode cX9_stepHere 94 = .ok (.bipush 19, 2) := by decide +kernel
theorem dX9_stepHere_96 : decode cX9_stepHere 96 = .ok (.iconst 5, 1) := by decide +kernel
theorem dX9_stepHere_97 : decode cX9_stepHere 97 = .ok (.bipush 20, 2) := by decide +kernel
theorem dX9_stepHere_99 : decode cX9_stepHere 99 = .ok (.iconst 0, 1) := by decide +kernel
theorem dX9_stepHere_100 : decode cX9_stepHere 100 = .ok (.iconst 0, 1) := by decide +kernel
theorem dX9_stepHere_101 : decode cX9_stepHere 101 = .ok (.iconst 0, 1) := by decide +kernel
theorem dX9_stepHere_102 : decode cX9_stepHere 102 = .ok (.invokevirtual 177, 3) := by decide +kernel
theorem dX9_stepHere_105 : decode cX9_stepHere 105 = .ok (.ifCond .eq 5, 3) := by decide +kernel
theorem dX9_stepHere_108 : decode cX9_stepHere 108 = .ok (.iconst 5, 1) := by decide +kernel
theorem dX9_stepHere_109 : decode cX9_stepHere 109 = .ok (.ireturn, 1) := by decide +kernel
theorem dX9_stepHere_110 : decode cX9_stepHere 110 = .ok (.aload_n 0, 1) := by decide +kernel
theorem dX9_stepHere_111 : decode cX9_stepHere 111 = .ok (.iconst 1, 1) := by decide +kernel
theorem dX9_stepHere_112 : decode cX9_stepHere 112 = .ok (.bipush 7, 2) := by decide +kernel
theorem dX9_stepHere_114 : decode cX9_stepHere 114 = .ok (.iconst 1, 1) := by decide +kernel
theorem dX9_stepHere_115 : decode cX9_stepHere 115 = .ok (.bipush 9, 2) := by decide +kernel
theorem dX9_stepHere_117 : decode cX9_stepHere 117 = .ok (.bipush 14, 2) := by decide +kernel
theorem dX9_stepHere_119 : decode cX9_stepHere 119 = .ok (.iconst 0, 1) := by decide +kernel
theorem dX9_stepHere_120 : decode cX9_stepHere 120 = .ok (.invokevirtual 177, 3) := by decide +kernel
theorem dX9_stepHere_123 : decode cX9_stepHere 123 = .ok (.ifCond .eq 8, 3) := by decide +kernel
theorem dX9_stepHere_126 : decode cX9_stepHere 126 = .ok (.bipush 6, 2) := by decide +kernel
theorem dX9_stepHere_128 : decode cX9_stepHere 128 = .ok (.goto 4, 3) := by decide +kernel
theorem dX9_stepHere_131 : decode cX9_stepHere 131 = .ok (.iconst (-1), 1) := by decide +kernel
theorem dX9_stepHere_132 : decode cX9_stepHere 132 = .ok (.ireturn, 1) := by decide +kernel
theorem dX9_readsStep_0 : decode cX9_readsStep 0 = .ok (.aload_n 0, 1) := by decide +kernel
theorem dX9_readsStep_1 : decode cX9_readsStep 1 = .ok (.invokevirtual 283, 3) := by decide +kernel
theorem dX9_readsStep_4 : decode cX9_readsStep 4 = .ok (.istore_n 1, 1) := by decide +kernel
theorem dX9_readsStep_5 : decode cX9_readsStep 5 = .ok (.iload_n 1, 1) := by decide +kernel
theorem dX9_readsStep_6 : decode cX9_readsStep 6 = .ok (.iconst (-1), 1) := by decide +kernel
theorem dX9_readsStep_7 : decode cX9_readsStep 7 = .ok (.if_icmp .ne 12, 3) := by decide +kernel
theorem dX9_readsStep_10 : decode cX9_readsStep 10 = .ok (.aload_n 0, 1) := by decide +kernel
theorem dX9_readsStep_11 : decode cX9_readsStep 11 = .ok (.iconst 1, 1) := by decide +kernel
theorem dX9_readsStep_12 : decode cX9_readsStep 12 = .ok (.aload_n 0, 1) := by decide +kernel
theorem dX9_readsStep_13 : decode cX9_readsStep 13 = .ok (.getfield 137, 3) := by decide +kernel
theorem dX9_readsStep_16 : decode cX9_readsStep 16 = .ok (.invokevirtual 157, 3) := by decide +kernel
theorem dX9_readsStep_19 : decode cX9_readsStep 19 = .ok (.iload_n 1, 1) := by decide +kernel
theorem dX9_readsStep_20 : decode cX9_readsStep 20 = .ok (.bipush 6, 2) := by decide +kernel
theorem dX9_readsStep_22 : decode cX9_readsStep 22 = .ok (.if_icmp .ne 11, 3) := by decide +kernel
theorem dX9_readsStep_25 : decode cX9_readsStep 25 = .ok (.aload_n 0, 1) := by decide +kernel
theorem dX9_readsStep_26 : decode cX9_readsStep 26 = .ok (.invokevirtual 263, 3) := by decide +kernel
theorem dX9_readsStep_29 : decode cX9_readsStep 29 = .ok (.ifCond .ne 4, 3) := by decide +kernel
theorem dX9_readsStep_32 : decode cX9_readsStep 32 = .ok (.return_, 1) := by decide +kernel
theorem dX9_readsStep_33 : decode cX9_readsStep 33 = .ok (.aload_n 0, 1) := by decide +kernel
theorem dX9_readsStep_34 : decode cX9_readsStep 34 = .ok (.getfield 144, 3) := by decide +kernel
theorem dX9_readsStep_37 : decode cX9_readsStep 37 = .ok (.ifCond .eq 4, 3) := by decide +kernel
theorem dX9_readsStep_40 : decode cX9_readsStep 40 = .ok (.return_, 1) := by decide +kernel
theorem dX9_readsStep_41 : decode cX9_readsStep 41 = .ok (.aload_n 0, 1) := by decide +kernel
theorem dX9_readsStep_42 : decode cX9_readsStep 42 = .ok (.invokevirtual 181, 3) := by decide +kernel
theorem dX9_readsStep_45 : decode cX9_readsStep 45 = .ok (.aload_n 0, 1) := by decide +kernel
theorem dX9_readsStep_46 : decode cX9_readsStep 46 = .ok (.getfield 55, 3) := by decide +kernel
theorem dX9_readsStep_49 : decode cX9_readsStep 49 = .ok (.aload_n 0, 1) := by decide +kernel
theorem dX9_readsStep_50 : decode cX9_readsStep 50 = .ok (.getfield 286, 3) := by decide +kernel
theorem dX9_readsStep_53 : decode cX9_readsStep 53 = .ok (.aaload, 1) := by decide +kernel
theorem dX9_readsStep_54 : decode cX9_readsStep 54 = .ok (.astore_n 2, 1) := by decide +kernel
theorem dX9_readsStep_55 : decode cX9_readsStep 55 = .ok (.aload_n 0, 1) := by decide +kernel
theorem dX9_readsStep_56 : decode cX9_readsStep 56 = .ok (.dup, 1) := by decide +kernel
theorem dX9_readsStep_57 : decode cX9_readsStep 57 = .ok (.getfield 286, 3) := by decide +kernel
theorem dX9_readsStep_60 : decode cX9_readsStep 60 = .ok (.iconst 1, 1) := by decide +kernel
theorem dX9_readsStep_61 : decode cX9_readsStep 61 = .ok (.iadd, 1) := by decide +kernel
theorem dX9_readsStep_62 : decode cX9_readsStep 62 = .ok (.putfield 286, 3) := by decide +kernel
theorem dX9_readsStep_65 : decode cX9_readsStep 65 = .ok (.aload_n 2, 1) := by decide +kernel
theorem dX9_readsStep_66 : decode cX9_readsStep 66 = .ok (.iconst 0, 1) := by decide +kernel
theorem dX9_readsStep_67 : decode cX9_readsStep 67 = .ok (.iload_n 1, 1) := by decide +kernel
theorem dX9_readsStep_68 : decode cX9_readsStep 68 = .ok (.iastore, 1) := by decide +kernel
theorem dX9_readsStep_69 : decode cX9_readsStep 69 = .ok (.iload_n 1, 1) := by decide +kernel
theorem dX9_readsStep_70 : decode cX9_readsStep 70 = .ok (.ifCond .ne 37, 3) := by decide +kernel
theorem dX9_readsStep_73 : decode cX9_readsStep 73 = .ok (.aload_n 2, 1) := by decide +kernel
theorem dX9_readsStep_74 : decode cX9_readsStep 74 = .ok (.iconst 1, 1) := by decide +kernel
theorem dX9_readsStep_75 : decode cX9_readsStep 75 = .ok (.aload_n 0, 1) := by decide +kernel
theorem dX9_readsStep_76 : decode cX9_readsStep 76 = .ok (.iconst 0, 1) := by decide +kernel
theorem dX9_readsStep_77 : decode cX9_readsStep 77 = .ok (.aload_n 0, 1) := by decide +kernel
theorem dX9_readsStep_78 : decode cX9_readsStep 78 = .ok (.getfield 223, 3) := by decide +kernel
theorem dX9_readsStep_81 : decode cX9_readsStep 81 = .ok (.iconst 1, 1) := by decide +kernel
theorem dX9_readsStep_82 : decode cX9_readsStep 82 = .ok (.isub, 1) := by decide +kernel
theorem dX9_readsStep_83 : decode cX9_readsStep 83 = .ok (.invokevirtual 190, 3) := by decide +kernel
theorem dX9_readsStep_86 : decode cX9_readsStep 86 = .ok (.iastore, 1) := by decide +kernel
theorem dX9_readsStep_87 : decode cX9_readsStep 87 = .ok (.aload_n 2, 1) := by decide +kernel
theorem dX9_readsStep_88 : decode cX9_readsStep 88 = .ok (.iconst 2, 1) := by decide +kernel
theorem dX9_readsStep_89 : decode cX9_readsStep 89 = .ok (.aload_n 0, 1) := by decide +kernel
theorem dX9_readsStep_90 : decode cX9_readsStep 90 = .ok (.iconst 0, 1) := by decide +kernel
theorem dX9_readsStep_91 : decode cX9_readsStep 91 = .ok (.bipush 7, 2) := by decide +kernel
theorem dX9_readsStep_93 : decode cX9_readsStep 93 = .ok (.invokevirtual 190, 3) := by decide +kernel
theorem dX9_readsStep_96 : decode cX9_readsStep 96 = .ok (.iastore, 1) := by decide +kernel
theorem dX9_readsStep_97 : decode cX9_readsStep 97 = .ok (.aload_n 2, 1) := by decide +kernel
theorem dX9_readsStep_98 : decode cX9_readsStep 98 = .ok (.iconst 3, 1) := by decide +kernel
theorem dX9_readsStep_99 : decode cX9_readsStep 99 = .ok (.aload_n 0, 1) := by decide +kernel
theorem dX9_readsStep_100 : decode cX9_readsStep 100 = .ok (.iconst 0, 1) := by decide +kernel
theorem dX9_readsStep_101 : decode cX9_readsStep 101 = .ok (.bipush 7, 2) := by decide +kernel
theorem dX9_readsStep_103 : decode cX9_readsStep 103 = .ok (.invokevirtual 190, 3) := by decide +kernel
theorem dX9_readsStep_106 : decode cX9_readsStep 106 = .ok (.iastore, 1) := by decide +kernel
theorem dX9_readsStep_107 : decode cX9_readsStep 107 = .ok (.iload_n 1, 1) := by decide +kernel
theorem dX9_readsStep_108 : decode cX9_readsStep 108 = .ok (.iconst 1, 1) := by decide +kernel
theorem dX9_readsStep_109 : decode cX9_readsStep 109 = .ok (.if_icmp .eq 8, 3) := by decide +kernel
theorem dX9_readsStep_112 : decode cX9_readsStep 112 = .ok (.iload_n 1, 1) := by decide +kernel
theorem dX9_readsStep_113 : decode cX9_readsStep 113 = .ok (.iconst 3, 1) := by decide +kernel
theorem dX9_readsStep_114 : decode cX9_readsStep 114 = .ok (.if_icmp .ne 13, 3) := by decide +kernel
theorem dX9_readsStep_117 : decode cX9_readsStep 117 = .ok (.aload_n 2, 1) := by decide +kernel
theorem dX9_readsStep_118 : decode cX9_readsStep 118 = .ok (.iconst 1, 1) := by decide +kernel
theorem dX9_readsStep_119 : decode cX9_readsStep 119 = .ok (.aload_n 0, 1) := by decide +kernel
theorem dX9_readsStep_120 : decode cX9_readsStep 120 = .ok (.iconst 1, 1) := by decide +kernel
theorem dX9_readsStep_121 : decode cX9_readsStep 121 = .ok (.bipush 99, 2) := by decide +kernel
theorem dX9_readsStep_123 : decode cX9_readsStep 123 = .ok (.invokevirtual 190, 3) := by decide +kernel
theorem dX9_readsStep_126 : decode cX9_readsStep 126 = .ok (.iastore, 1) := by decide +kernel
theorem dX9_readsStep_127 : decode cX9_readsStep 127 = .ok (.iload_n 1, 1) := by decide +kernel
theorem dX9_readsStep_128 : decode cX9_readsStep 128 = .ok (.iconst 5, 1) := by decide +kernel
theorem dX9_readsStep_129 : decode cX9_readsStep 129 = .ok (.if_icmp .ne 23, 3) := by decide +kernel
theorem dX9_readsStep_132 : decode cX9_readsStep 132 = .ok (.aload_n 2, 1) := by decide +kernel
theorem dX9_readsStep_133 : decode cX9_readsStep 133 = .ok (.iconst 1, 1) := by decide +kernel
theorem dX9_readsStep_134 : decode cX9_readsStep 134 = .ok (.aload_n 0, 1) := by decide +kernel
theorem dX9_readsStep_135 : decode cX9_readsStep 135 = .ok (.iconst 0, 1) := by decide +kernel
theorem dX9_readsStep_136 : decode cX9_readsStep 136 = .ok (.iconst 3, 1) := by decide +kernel
theorem dX9_readsStep_137 : decode cX9_readsStep 137 = .ok (.invokevirtual 190, 3) := by decide +kernel
theorem dX9_readsStep_140 : decode cX9_readsStep 140 = .ok (.iastore, 1) := by decide +kernel
theorem dX9_readsStep_141 : decode cX9_readsStep 141 = .ok (.aload_n 2, 1) := by decide +kernel
theorem dX9_readsStep_142 : decode cX9_readsStep 142 = .ok (.iconst 2, 1) := by decide +kernel
theorem dX9_readsStep_143 : decode cX9_readsStep 143 = .ok (.aload_n 0, 1) := by decide +kernel
theorem dX9_readsStep_144 : decode cX9_readsStep 144 = .ok (.iconst 0, 1) := by decide +kernel
theorem dX9_readsStep_145 : decode cX9_readsStep 145 = .ok (.sipush 999, 3) := by decide +kernel
theorem dX9_readsStep_148 : decode cX9_readsStep 148 = .ok (.invokevirtual 190, 3) := by decide +kernel
theorem dX9_readsStep_151 : decode cX9_readsStep 151 = .ok (.iastore, 1) := by decide +kernel
theorem dX9_readsStep_152 : decode cX9_readsStep 152 = .ok (.iload_n 1, 1) := by decide +kernel
theorem dX9_readsStep_153 : decode cX9_readsStep 153 = .ok (.bipush 6, 2) := by decide +kernel
theorem dX9_readsStep_155 : decode cX9_readsStep 155 = .ok (.if_icmp .ne 70, 3) := by decide +kernel
theorem dX9_readsStep_158 : decode cX9_readsStep 158 = .ok (.aload_n 2, 1) := by decide +kernel
theorem dX9_readsStep_159 : decode cX9_readsStep 159 = .ok (.iconst 1, 1) := by decide +kernel
theorem dX9_readsStep_160 : decode cX9_readsStep 160 = .ok (.aload_n 0, 1) := by decide +kernel
theorem dX9_readsStep_161 : decode cX9_readsStep 161 = .ok (.iconst 0, 1) := by decide +kernel
theorem dX9_readsStep_162 : decode cX9_readsStep 162 = .ok (.bipush 60, 2) := by decide +kernel
theorem dX9_readsStep_164 : decode cX9_readsStep 164 = .ok (.invokevirtual 190, 3) := by decide +kernel
theorem dX9_readsStep_167 : decode cX9_readsStep 167 = .ok (.iastore, 1) := by decide +kernel
theorem dX9_readsStep_168 : decode cX9_readsStep 168 = .ok (.aload_n 0, 1) := by decide +kernel
theorem dX9_readsStep_169 : decode cX9_readsStep 169 = .ok (.bipush 91, 2) := by decide +kernel
theorem dX9_readsStep_171 : decode cX9_readsStep 171 = .ok (.invokevirtual 203, 3) := by decide +kernel
theorem dX9_readsStep_174 : decode cX9_readsStep 174 = .ok (.aload_n 0, 1) := by decide +kernel
theorem dX9_readsStep_175 : decode cX9_readsStep 175 = .ok (.invokevirtual 150, 3) := by decide +kernel
theorem dX9_readsStep_178 : decode cX9_readsStep 178 = .ok (.aload_n 0, 1) := by decide +kernel
theorem dX9_readsStep_179 : decode cX9_readsStep 179 = .ok (.getfield 144, 3) := by decide +kernel
theorem dX9_readsStep_182 : decode cX9_readsStep 182 = .ok (.ifCond .ne 27, 3) := by decide +kernel
theorem dX9_readsStep_185 : decode cX9_readsStep 185 = .ok (.aload_n 0, 1) := by decide +kernel
theorem dX9_readsStep_186 : decode cX9_readsStep 186 = .ok (.aload_n 0, 1) := by decide +kernel
theorem dX9_readsStep_187 : decode cX9_readsStep 187 = .ok (.getfield 137, 3) := by decide +kernel
theorem dX9_readsStep_190 : decode cX9_readsStep 190 = .ok (.invokevirtual 140, 3) := by decide +kernel
theorem dX9_readsStep_193 : decode cX9_readsStep 193 = .ok (.bipush 93, 2) := by decide +kernel
theorem dX9_readsStep_195 : decode cX9_readsStep 195 = .ok (.if_icmp .eq 14, 3) := by decide +kernel
theorem dX9_readsStep_198 : decode cX9_readsStep 198 = .ok (.aload_n 0, 1) := by decide +kernel
theorem dX9_readsStep_199 : decode cX9_readsStep 199 = .ok (.invokevirtual 289, 3) := by decide +kernel
theorem dX9_readsStep_202 : decode cX9_readsStep 202 = .ok (.aload_n 0, 1) := by decide +kernel
theorem dX9_readsStep_203 : decode cX9_readsStep 203 = .ok (.invokevirtual 150, 3) := by decide +kernel
theorem dX9_readsStep_206 : decode cX9_readsStep 206 = .ok (.goto (-28), 3) := by decide +kernel
theorem dX9_readsStep_209 : decode cX9_readsStep 209 = .ok (.aload_n 0, 1) := by decide +kernel
theorem dX9_readsStep_210 : decode cX9_readsStep 210 = .ok (.bipush 93, 2) := by decide +kernel
theorem dX9_readsStep_212 : decode cX9_readsStep 212 = .ok (.invokevirtual 203, 3) := by decide +kernel
theorem dX9_readsStep_215 : decode cX9_readsStep 215 = .ok (.aload_n 0, 1) := by decide +kernel
theorem dX9_readsStep_216 : decode cX9_readsStep 216 = .ok (.dup, 1) := by decide +kernel
theorem dX9_readsStep_217 : decode cX9_readsStep 217 = .ok (.getfield 187, 3) := by decide +kernel
theorem dX9_readsStep_220 : decode cX9_readsStep 220 = .ok (.iconst 1, 1) := by decide +kernel
theorem dX9_readsStep_221 : decode cX9_readsStep 221 = .ok (.isub, 1) := by decide +kernel
theorem dX9_readsStep_222 : decode cX9_readsStep 222 = .ok (.putfield 187, 3) := by decide +kernel
theorem dX9_readsStep_225 : decode cX9_readsStep 225 = .ok (.aload_n 2, 1) := by decide +kernel
theorem dX9_readsStep_226 : decode cX9_readsStep 226 = .ok (.iconst 4, 1) := by decide +kernel
theorem dX9_readsStep_227 : decode cX9_readsStep 227 = .ok (.aload_n 0, 1) := by decide +kernel
theorem dX9_readsStep_228 : decode cX9_readsStep 228 = .ok (.getfield 286, 3) := by decide +kernel
theorem dX9_readsStep_231 : decode cX9_readsStep 231 = .ok (.iastore, 1) := by decide +kernel
theorem dX9_readsStep_232 : decode cX9_readsStep 232 = .ok (.aload_n 0, 1) := by decide +kernel
theorem dX9_readsStep_233 : decode cX9_readsStep 233 = .ok (.bipush 59, 2) := by decide +kernel
theorem dX9_readsStep_235 : decode cX9_readsStep 235 = .ok (.invokevirtual 203, 3) := by decide +kernel
theorem dX9_readsStep_238 : decode cX9_readsStep 238 = .ok (.return_, 1) := by decide +kernel
theorem dX9_sentence_0 : decode cX9_sentence 0 = .ok (.aload_n 0, 1) := by decide +kernel
theorem dX9_sentence_1 : decode cX9_sentence 1 = .ok (.iconst 0, 1) := by decide +kernel
theorem dX9_sentence_2 : decode cX9_sentence 2 = .ok (.putfield 128, 3) := by decide +kernel
theorem dX9_sentence_5 : decode cX9_sentence 5 = .ok (.aload_n 0, 1) := by decide +kernel
theorem dX9_sentence_6 : decode cX9_sentence 6 = .ok (.iload_n 1, 1) := by decide +kernel
theorem dX9_sentence_7 : decode cX9_sentence 7 = .ok (.iconst 0, 1) := by decide +kernel
theorem dX9_sentence_8 : decode cX9_sentence 8 = .ok (.aload_n 0, 1) := by decide +kernel
theorem dX9_sentence_9 : decode cX9_sentence 9 = .ok (.getfield 131, 3) := by decide +kernel
theorem dX9_sentence_12 : decode cX9_sentence 12 = .ok (.invokestatic 162, 3) := by decide +kernel
theorem dX9_sentence_15 : decode cX9_sentence 15 = .ok (.ifCond .eq 9, 3) := by decide +kernel
theorem dX9_sentence_18 : decode cX9_sentence 18 = .ok (.iload_n 1, 1) := by decide +kernel
theorem dX9_sentence_19 : decode cX9_sentence 19 = .ok (.bipush 60, 2) := by decide +kernel
theorem dX9_sentence_21 : decode cX9_sentence 21 = .ok (.if_icmp .le 7, 3) := by decide +kernel
theorem dX9_sentence_24 : decode cX9_sentence 24 = .ok (.iconst 1, 1) := by decide +kernel
theorem dX9_sentence_25 : decode cX9_sentence 25 = .ok (.goto 4, 3) := by decide +kernel
theorem dX9_sentence_28 : decode cX9_sentence 28 = .ok (.iconst 0, 1) := by decide +kernel
theorem dX9_sentence_29 : decode cX9_sentence 29 = .ok (.iconst 1, 1) := by decide +kernel
theorem dX9_sentence_30 : decode cX9_sentence 30 = .ok (.iconst 1, 1) := by decide +kernel
theorem dX9_sentence_31 : decode cX9_sentence 31 = .ok (.invokevirtual 207, 3) := by decide +kernel
theorem dX9_sentence_34 : decode cX9_sentence 34 = .ok (.ifCond .eq 5, 3) := by decide +kernel
theorem dX9_sentence_37 : decode cX9_sentence 37 = .ok (.iconst 0, 1) := by decide +kernel
theorem dX9_sentence_38 : decode cX9_sentence 38 = .ok (.ireturn, 1) := by decide +kernel
theorem dX9_sentence_39 : decode cX9_sentence 39 = .ok (.aload_n 0, 1) := by decide +kernel
theorem dX9_sentence_40 : decode cX9_sentence 40 = .ok (.iload_n 1, 1) := by decide +kernel
theorem dX9_sentence_41 : decode cX9_sentence 41 = .ok (.invokevirtual 211, 3) := by decide +kernel
theorem dX9_sentence_44 : decode cX9_sentence 44 = .ok (.iconst 0, 1) := by decide +kernel
theorem dX9_sentence_45 : decode cX9_sentence 45 = .ok (.istore_n 2, 1) := by decide +kernel
theorem dX9_sentence_46 : decode cX9_sentence 46 = .ok (.aload_n 0, 1) := by decide +kernel
theorem dX9_sentence_47 : decode cX9_sentence 47 = .ok (.getfield 144, 3) := by decide +kernel
theorem dX9_sentence_50 : decode cX9_sentence 50 = .ok (.ifCond .ne 52, 3) := by decide +kernel
theorem dX9_sentence_53 : decode cX9_sentence 53 = .ok (.aload_n 0, 1) := by decide +kernel
theorem dX9_sentence_54 : decode cX9_sentence 54 = .ok (.getfield 137, 3) := by decide +kernel
theorem dX9_sentence_57 : decode cX9_sentence 57 = .ok (.aload_n 0, 1) := by decide +kernel
theorem dX9_sentence_58 : decode cX9_sentence 58 = .ok (.getfield 134, 3) := by decide +kernel
theorem dX9_sentence_61 : decode cX9_sentence 61 = .ok (.if_icmp .ge 41, 3) := by decide +kernel
theorem dX9_sentence_64 : decode cX9_sentence 64 = .ok (.aload_n 0, 1) := by decide +kernel
theorem dX9_sentence_65 : decode cX9_sentence 65 = .ok (.iload_n 2, 1) := by decide +kernel
theorem dX9_sentence_66 : decode cX9_sentence 66 = .ok (.bipush 12, 2) := by decide +kernel
theorem dX9_sentence_68 : decode cX9_sentence 68 = .ok (.invokevirtual 194, 3) := by decide +kernel
theorem dX9_sentence_71 : decode cX9_sentence 71 = .ok (.istore_n 3, 1) := by decide +kernel
theorem dX9_sentence_72 : decode cX9_sentence 72 = .ok (.aload_n 0, 1) := by decide +kernel
theorem dX9_sentence_73 : decode cX9_sentence 73 = .ok (.bipush 59, 2) := by decide +kernel
theorem dX9_sentence_75 : decode cX9_sentence 75 = .ok (.invokevirtual 203, 3) := by decide +kernel
theorem dX9_sentence_78 : decode cX9_sentence 78 = .ok (.aload_n 0, 1) := by decide +kernel
theorem dX9_sentence_79 : decode cX9_sentence 79 = .ok (.getfield 144, 3) := by decide +kernel
theorem dX9_sentence_82 : decode cX9_sentence 82 = .ok (.ifCond .ne 13, 3) := by decide +kernel
theorem dX9_sentence_85 : decode cX9_sentence 85 = .ok (.aload_n 0, 1) := by decide +kernel
theorem dX9_sentence_86 : decode cX9_sentence 86 = .ok (.getfield 52, 3) := by decide +kernel
theorem dX9_sentence_89 : decode cX9_sentence 89 = .ok (.iload_n 2, 1) := by decide +kernel
theorem dX9_sentence_90 : decode cX9_sentence 90 = .ok (.iload_n 3, 1) := by decide +kernel
theorem dX9_sentence_91 : decode cX9_sentence 91 = .ok (.iastore, 1) := by decide +kernel
theorem dX9_sentence_92 : decode cX9_sentence 92 = .ok (.iinc 2 1, 3) := by decide +kernel
theorem dX9_sentence_95 : decode cX9_sentence 95 = .ok (.aload_n 0, 1) := by decide +kernel
theorem dX9_sentence_96 : decode cX9_sentence 96 = .ok (.invokevirtual 150, 3) := by decide +kernel
theorem dX9_sentence_99 : decode cX9_sentence 99 = .ok (.goto (-53), 3) := by decide +kernel
theorem dX9_sentence_102 : decode cX9_sentence 102 = .ok (.aload_n 0, 1) := by decide +kernel
theorem dX9_sentence_103 : decode cX9_sentence 103 = .ok (.getfield 144, 3) := by decide +kernel
theorem dX9_sentence_106 : decode cX9_sentence 106 = .ok (.ifCond .eq 8, 3) := by decide +kernel
theorem dX9_sentence_109 : decode cX9_sentence 109 = .ok (.aload_n 0, 1) := by decide +kernel
theorem dX9_sentence_110 : decode cX9_sentence 110 = .ok (.invokevirtual 217, 3) := by decide +kernel
theorem dX9_sentence_113 : decode cX9_sentence 113 = .ok (.ireturn, 1) := by decide +kernel
theorem dX9_sentence_114 : decode cX9_sentence 114 = .ok (.aload_n 0, 1) := by decide +kernel
theorem dX9_sentence_115 : decode cX9_sentence 115 = .ok (.iconst (-1), 1) := by decide +kernel
theorem dX9_sentence_116 : decode cX9_sentence 116 = .ok (.putfield 9, 3) := by decide +kernel
theorem dX9_sentence_119 : decode cX9_sentence 119 = .ok (.aload_n 0, 1) := by decide +kernel
theorem dX9_sentence_120 : decode cX9_sentence 120 = .ok (.iload_n 2, 1) := by decide +kernel
theorem dX9_sentence_121 : decode cX9_sentence 121 = .ok (.putfield 233, 3) := by decide +kernel
theorem dX9_sentence_124 : decode cX9_sentence 124 = .ok (.iconst 0, 1) := by decide +kernel
theorem dX9_sentence_125 : decode cX9_sentence 125 = .ok (.istore_n 3, 1) := by decide +kernel
theorem dX9_sentence_126 : decode cX9_sentence 126 = .ok (.iload_n 3, 1) := by decide +kernel
theorem dX9_sentence_127 : decode cX9_sentence 127 = .ok (.iload_n 2, 1) := by decide +kernel
theorem dX9_sentence_128 : decode cX9_sentence 128 = .ok (.if_icmp .ge 21, 3) := by decide +kernel
theorem dX9_sentence_131 : decode cX9_sentence 131 = .ok (.aload_n 0, 1) := by decide +kernel
theorem dX9_sentence_132 : decode cX9_sentence 132 = .ok (.getfield 49, 3) := by decide +kernel
theorem dX9_sentence_135 : decode cX9_sentence 135 = .ok (.iload_n 3, 1) := by decide +kernel
theorem dX9_sentence_136 : decode cX9_sentence 136 = .ok (.aload_n 0, 1) := by decide +kernel
theorem dX9_sentence_137 : decode cX9_sentence 137 = .ok (.getfield 52, 3) := by decide +kernel
theorem dX9_sentence_140 : decode cX9_sentence 140 = .ok (.iload_n 3, 1) := by decide +kernel
theorem dX9_sentence_141 : decode cX9_sentence 141 = .ok (.iaload, 1) := by decide +kernel
theorem dX9_sentence_142 : decode cX9_sentence 142 = .ok (.iastore, 1) := by decide +kernel
theorem dX9_sentence_143 : decode cX9_sentence 143 = .ok (.iinc 3 1, 3) := by decide +kernel
theorem dX9_sentence_146 : decode cX9_sentence 146 = .ok (.goto (-20), 3) := by decide +kernel
theorem dX9_sentence_149 : decode cX9_sentence 149 = .ok (.iload_n 2, 1) := by decide +kernel
theorem dX9_sentence_150 : decode cX9_sentence 150 = .ok (.ireturn, 1) := by decide +kernel
theorem dX9_fault_0 : decode cX9_fault 0 = .ok (.aload_n 0, 1) := by decide +kernel
theorem dX9_fault_1 : decode cX9_fault 1 = .ok (.iconst 0, 1) := by decide +kernel
theorem dX9_fault_2 : decode cX9_fault 2 = .ok (.putfield 128, 3) := by decide +kernel
theorem dX9_fault_5 : decode cX9_fault 5 = .ok (.aload_n 0, 1) := by decide +kernel
theorem dX9_fault_6 : decode cX9_fault 6 = .ok (.getfield 9, 3) := by decide +kernel
theorem dX9_fault_9 : decode cX9_fault 9 = .ok (.ireturn, 1) := by decide +kernel
theorem dX9_costBy_0 : decode cX9_costBy 0 = .ok (.aload_n 0, 1) := by decide +kernel
theorem dX9_costBy_1 : decode cX9_costBy 1 = .ok (.getfield 46, 3) := by decide +kernel
theorem dX9_costBy_4 : decode cX9_costBy 4 = .ok (.iconst 0, 1) := by decide +kernel
theorem dX9_costBy_5 : decode cX9_costBy 5 = .ok (.iload_n 1, 1) := by decide +kernel
theorem dX9_costBy_6 : decode cX9_costBy 6 = .ok (.iastore, 1) := by decide +kernel
theorem dX9_costBy_7 : decode cX9_costBy 7 = .ok (.aload_n 0, 1) := by decide +kernel
theorem dX9_costBy_8 : decode cX9_costBy 8 = .ok (.getfield 46, 3) := by decide +kernel
theorem dX9_costBy_11 : decode cX9_costBy 11 = .ok (.iconst 1, 1) := by decide +kernel
theorem dX9_costBy_12 : decode cX9_costBy 12 = .ok (.iload_n 2, 1) := by decide +kernel
theorem dX9_costBy_13 : decode cX9_costBy 13 = .ok (.iastore, 1) := by decide +kernel
theorem dX9_costBy_14 : decode cX9_costBy 14 = .ok (.aload_n 0, 1) := by decide +kernel
theorem dX9_costBy_15 : decode cX9_costBy 15 = .ok (.getfield 46, 3) := by decide +kernel
theorem dX9_costBy_18 : decode cX9_costBy 18 = .ok (.iconst 2, 1) := by decide +kernel
theorem dX9_costBy_19 : decode cX9_costBy 19 = .ok (.iload_n 3, 1) := by decide +kernel
theorem dX9_costBy_20 : decode cX9_costBy 20 = .ok (.iastore, 1) := by decide +kernel
theorem dX9_costBy_21 : decode cX9_costBy 21 = .ok (.aload_n 0, 1) := by decide +kernel
theorem dX9_costBy_22 : decode cX9_costBy 22 = .ok (.getfield 46, 3) := by decide +kernel
theorem dX9_costBy_25 : decode cX9_costBy 25 = .ok (.iconst 3, 1) := by decide +kernel
theorem dX9_costBy_26 : decode cX9_costBy 26 = .ok (.iload 4, 2) := by decide +kernel
theorem dX9_costBy_28 : decode cX9_costBy 28 = .ok (.iastore, 1) := by decide +kernel
theorem dX9_costBy_29 : decode cX9_costBy 29 = .ok (.aload_n 0, 1) := by decide +kernel
theorem dX9_costBy_30 : decode cX9_costBy 30 = .ok (.getfield 46, 3) := by decide +kernel
theorem dX9_costBy_33 : decode cX9_costBy 33 = .ok (.iconst 4, 1) := by decide +kernel
theorem dX9_costBy_34 : decode cX9_costBy 34 = .ok (.iload 5, 2) := by decide +kernel
theorem dX9_costBy_36 : decode cX9_costBy 36 = .ok (.iastore, 1) := by decide +kernel
theorem dX9_costBy_37 : decode cX9_costBy 37 = .ok (.aload_n 0, 1) := by decide +kernel
theorem dX9_costBy_38 : decode cX9_costBy 38 = .ok (.getfield 46, 3) := by decide +kernel
theorem dX9_costBy_41 : decode cX9_costBy 41 = .ok (.iconst 5, 1) := by decide +kernel
theorem dX9_costBy_42 : decode cX9_costBy 42 = .ok (.iload 6, 2) := by decide +kernel
theorem dX9_costBy_44 : decode cX9_costBy 44 = .ok (.iastore, 1) := by decide +kernel
theorem dX9_costBy_45 : decode cX9_costBy 45 = .ok (.aload_n 0, 1) := by decide +kernel
theorem dX9_costBy_46 : decode cX9_costBy 46 = .ok (.getfield 46, 3) := by decide +kernel
theorem dX9_costBy_49 : decode cX9_costBy 49 = .ok (.bipush 6, 2) := by decide +kernel
theorem dX9_costBy_51 : decode cX9_costBy 51 = .ok (.iload 7, 2) := by decide +kernel
theorem dX9_costBy_53 : decode cX9_costBy 53 = .ok (.iastore, 1) := by decide +kernel
theorem dX9_costBy_54 : decode cX9_costBy 54 = .ok (.aload_n 0, 1) := by decide +kernel
theorem dX9_costBy_55 : decode cX9_costBy 55 = .ok (.invokevirtual 292, 3) := by decide +kernel
theorem dX9_costBy_58 : decode cX9_costBy 58 = .ok (.ireturn, 1) := by decide +kernel
theorem dX9_ones_0 : decode cX9_ones 0 = .ok (.iconst 0, 1) := by decide +kernel
theorem dX9_ones_1 : decode cX9_ones 1 = .ok (.istore_n 1, 1) := by decide +kernel
theorem dX9_ones_2 : decode cX9_ones 2 = .ok (.iconst 0, 1) := by decide +kernel
theorem dX9_ones_3 : decode cX9_ones 3 = .ok (.istore_n 2, 1) := by decide +kernel
theorem dX9_ones_4 : decode cX9_ones 4 = .ok (.iload_n 2, 1) := by decide +kernel
theorem dX9_ones_5 : decode cX9_ones 5 = .ok (.bipush 8, 2) := by decide +kernel
theorem dX9_ones_7 : decode cX9_ones 7 = .ok (.if_icmp .ge 17, 3) := by decide +kernel
theorem dX9_ones_10 : decode cX9_ones 10 = .ok (.iload_n 1, 1) := by decide +kernel
theorem dX9_ones_11 : decode cX9_ones 11 = .ok (.iload_n 0, 1) := by decide +kernel
theorem dX9_ones_12 : decode cX9_ones 12 = .ok (.iload_n 2, 1) := by decide +kernel
theorem dX9_ones_13 : decode cX9_ones 13 = .ok (.ishr, 1) := by decide +kernel
theorem dX9_ones_14 : decode cX9_ones 14 = .ok (.iconst 1, 1) := by decide +kernel
theorem dX9_ones_15 : decode cX9_ones 15 = .ok (.iand, 1) := by decide +kernel
theorem dX9_ones_16 : decode cX9_ones 16 = .ok (.iadd, 1) := by decide +kernel
theorem dX9_ones_17 : decode cX9_ones 17 = .ok (.istore_n 1, 1) := by decide +kernel
theorem dX9_ones_18 : decode cX9_ones 18 = .ok (.iinc 2 1, 3) := by decide +kernel
theorem dX9_ones_21 : decode cX9_ones 21 = .ok (.goto (-17), 3) := by decide +kernel
theorem dX9_ones_24 : decode cX9_ones 24 = .ok (.iload_n 1, 1) := by decide +kernel
theorem dX9_ones_25 : decode cX9_ones 25 = .ok (.ireturn, 1) := by decide +kernel
theorem dX9_span2_0 : decode cX9_span2 0 = .ok (.iconst 1, 1) := by decide +kernel
theorem dX9_span2_1 : decode cX9_span2 1 = .ok (.iload_n 1, 1) := by decide +kernel
theorem dX9_span2_2 : decode cX9_span2 2 = .ok (.iconst 1, 1) := by decide +kernel
theorem dX9_span2_3 : decode cX9_span2 3 = .ok (.iadd, 1) := by decide +kernel
theorem dX9_span2_4 : decode cX9_span2 4 = .ok (.ishl, 1) := by decide +kernel
theorem dX9_span2_5 : decode cX9_span2 5 = .ok (.iconst 1, 1) := by decide +kernel
theorem dX9_span2_6 : decode cX9_span2 6 = .ok (.iload_n 0, 1) := by decide +kernel
theorem dX9_span2_7 : decode cX9_span2 7 = .ok (.ishl, 1) := by decide +kernel
theorem dX9_span2_8 : decode cX9_span2 8 = .ok (.isub, 1) := by decide +kernel
theorem dX9_span2_9 : decode cX9_span2 9 = .ok (.ireturn, 1) := by decide +kernel
theorem dX9_leftIn_0 : decode cX9_leftIn 0 = .ok (.aload_n 0, 1) := by decide +kernel
theorem dX9_leftIn_1 : decode cX9_leftIn 1 = .ok (.getfield 26, 3) := by decide +kernel
theorem dX9_leftIn_4 : decode cX9_leftIn 4 = .ok (.iload_n 2, 1) := by decide +kernel
theorem dX9_leftIn_5 : decode cX9_leftIn 5 = .ok (.iaload, 1) := by decide +kernel
theorem dX9_leftIn_6 : decode cX9_leftIn 6 = .ok (.aload_n 1, 1) := by decide +kernel
theorem dX9_leftIn_7 : decode cX9_leftIn 7 = .ok (.iconst 0, 1) := by decide +kernel
theorem dX9_leftIn_8 : decode cX9_leftIn 8 = .ok (.iload_n 2, 1) := by decide +kernel
theorem dX9_leftIn_9 : decode cX9_leftIn 9 = .ok (.iadd, 1) := by decide +kernel
theorem dX9_leftIn_10 : decode cX9_leftIn 10 = .ok (.iaload, 1) := by decide +kernel
theorem dX9_leftIn_11 : decode cX9_leftIn 11 = .ok (.invokestatic 295, 3) := by decide +kernel
theorem dX9_leftIn_14 : decode cX9_leftIn 14 = .ok (.isub, 1) := by decide +kernel
theorem dX9_leftIn_15 : decode cX9_leftIn 15 = .ok (.ireturn, 1) := by decide +kernel
theorem dX9_leftAll_0 : decode cX9_leftAll 0 = .ok (.iconst 0, 1) := by decide +kernel
theorem dX9_leftAll_1 : decode cX9_leftAll 1 = .ok (.istore_n 2, 1) := by decide +kernel
theorem dX9_leftAll_2 : decode cX9_leftAll 2 = .ok (.iconst 0, 1) := by decide +kernel
theorem dX9_leftAll_3 : decode cX9_leftAll 3 = .ok (.istore_n 3, 1) := by decide +kernel
theorem dX9_leftAll_4 : decode cX9_leftAll 4 = .ok (.iload_n 3, 1) := by decide +kernel
theorem dX9_leftAll_5 : decode cX9_leftAll 5 = .ok (.aload_n 0, 1) := by decide +kernel
theorem dX9_leftAll_6 : decode cX9_leftAll 6 = .ok (.getfield 223, 3) := by decide +kernel
theorem dX9_leftAll_9 : decode cX9_leftAll 9 = .ok (.if_icmp .ge 18, 3) := by decide +kernel
theorem dX9_leftAll_12 : decode cX9_leftAll 12 = .ok (.iload_n 2, 1) := by decide +kernel
theorem dX9_leftAll_13 : decode cX9_leftAll 13 = .ok (.aload_n 0, 1) := by decide +kernel
theorem dX9_leftAll_14 : decode cX9_leftAll 14 = .ok (.aload_n 1, 1) := by decide +kernel
theorem dX9_leftAll_15 : decode cX9_leftAll 15 = .ok (.iload_n 3, 1) := by decide +kernel
theorem dX9_leftAll_16 : decode cX9_leftAll 16 = .ok (.invokevirtual 298, 3) := by decide +kernel
theorem dX9_leftAll_19 : decode cX9_leftAll 19 = .ok (.iadd, 1) := by decide +kernel
theorem dX9_leftAll_20 : decode cX9_leftAll 20 = .ok (.istore_n 2, 1) := by decide +kernel
theorem dX9_leftAll_21 : decode cX9_leftAll 21 = .ok (.iinc 3 1, 3) := by decide +kernel
theorem dX9_leftAll_24 : decode cX9_leftAll 24 = .ok (.goto (-20), 3) := by decide +kernel
theorem dX9_leftAll_27 : decode cX9_leftAll 27 = .ok (.iload_n 2, 1) := by decide +kernel
theorem dX9_leftAll_28 : decode cX9_leftAll 28 = .ok (.ireturn, 1) := by decide +kernel
theorem dX9_costOf_0 : decode cX9_costOf 0 = .ok (.aload_n 0, 1) := by decide +kernel
theorem dX9_costOf_1 : decode cX9_costOf 1 = .ok (.iload 4, 2) := by decide +kernel
theorem dX9_costOf_3 : decode cX9_costOf 3 = .ok (.iload_n 3, 1) := by decide +kernel
theorem dX9_costOf_4 : decode cX9_costOf 4 = .ok (.isub, 1) := by decide +kernel
theorem dX9_costOf_5 : decode cX9_costOf 5 = .ok (.iconst 1, 1) := by decide +kernel
theorem dX9_costOf_6 : decode cX9_costOf 6 = .ok (.iadd, 1) := by decide +kernel
theorem dX9_costOf_7 : decode cX9_costOf 7 = .ok (.aload_n 1, 1) := by decide +kernel
theorem dX9_costOf_8 : decode cX9_costOf 8 = .ok (.iconst 0, 1) := by decide +kernel
theorem dX9_costOf_9 : decode cX9_costOf 9 = .ok (.iload_n 2, 1) := by decide +kernel
theorem dX9_costOf_10 : decode cX9_costOf 10 = .ok (.iadd, 1) := by decide +kernel
theorem dX9_costOf_11 : decode cX9_costOf 11 = .ok (.iaload, 1) := by decide +kernel
theorem dX9_costOf_12 : decode cX9_costOf 12 = .ok (.iload_n 3, 1) := by decide +kernel
theorem dX9_costOf_13 : decode cX9_costOf 13 = .ok (.iload 4, 2) := by decide +kernel
theorem dX9_costOf_15 : decode cX9_costOf 15 = .ok (.invokestatic 302, 3) := by decide +kernel
theorem dX9_costOf_18 : decode cX9_costOf 18 = .ok (.iand, 1) := by decide +kernel
theorem dX9_costOf_19 : decode cX9_costOf 19 = .ok (.invokestatic 295, 3) := by decide +kernel
theorem dX9_costOf_22 : decode cX9_costOf 22 = .ok (.iload_n 3, 1) := by decide +kernel
theorem dX9_costOf_23 : decode cX9_costOf 23 = .ok (.iload_n 2, 1) := by decide +kernel
theorem dX9_costOf_24 : decode cX9_costOf 24 = .ok (.aload_n 0, 1) := by decide +kernel
theorem dX9_costOf_25 : decode cX9_costOf 25 = .ok (.aload_n 1, 1) := by decide +kernel
theorem dX9_costOf_26 : decode cX9_costOf 26 = .ok (.invokevirtual 305, 3) := by decide +kernel
theorem dX9_costOf_29 : decode cX9_costOf 29 = .ok (.aload_n 1, 1) := by decide +kernel
theorem dX9_costOf_30 : decode cX9_costOf 30 = .ok (.bipush 10, 2) := by decide +kernel
theorem dX9_costOf_32 : decode cX9_costOf 32 = .ok (.iaload, 1) := by decide +kernel
theorem dX9_costOf_33 : decode cX9_costOf 33 = .ok (.aload_n 1, 1) := by decide +kernel
theorem dX9_costOf_34 : decode cX9_costOf 34 = .ok (.bipush 6, 2) := by decide +kernel
theorem dX9_costOf_36 : decode cX9_costOf 36 = .ok (.iaload, 1) := by decide +kernel
theorem dX9_costOf_37 : decode cX9_costOf 37 = .ok (.invokevirtual 309, 3) := by decide +kernel
theorem dX9_costOf_40 : decode cX9_costOf 40 = .ok (.ireturn, 1) := by decide +kernel
theorem dX9_strikes_0 : decode cX9_strikes 0 = .ok (.iload_n 3, 1) := by decide +kernel
theorem dX9_strikes_1 : decode cX9_strikes 1 = .ok (.iload 4, 2) := by decide +kernel
theorem dX9_strikes_3 : decode cX9_strikes 3 = .ok (.if_icmp .gt 14, 3) := by decide +kernel
theorem dX9_strikes_6 : decode cX9_strikes 6 = .ok (.iload 4, 2) := by decide +kernel
theorem dX9_strikes_8 : decode cX9_strikes 8 = .ok (.aload_n 0, 1) := by decide +kernel
theorem dX9_strikes_9 : decode cX9_strikes 9 = .ok (.getfield 26, 3) := by decide +kernel
theorem dX9_strikes_12 : decode cX9_strikes 12 = .ok (.iload_n 2, 1) := by decide +kernel
theorem dX9_strikes_13 : decode cX9_strikes 13 = .ok (.iaload, 1) := by decide +kernel
theorem dX9_strikes_14 : decode cX9_strikes 14 = .ok (.if_icmp .lt 5, 3) := by decide +kernel
theorem dX9_strikes_17 : decode cX9_strikes 17 = .ok (.iconst 0, 1) := by decide +kernel
theorem dX9_strikes_18 : decode cX9_strikes 18 = .ok (.ireturn, 1) := by decide +kernel
theorem dX9_strikes_19 : decode cX9_strikes 19 = .ok (.aload_n 0, 1) := by decide +kernel
theorem dX9_strikes_20 : decode cX9_strikes 20 = .ok (.aload_n 1, 1) := by decide +kernel
theorem dX9_strikes_21 : decode cX9_strikes 21 = .ok (.iload_n 2, 1) := by decide +kernel
theorem dX9_strikes_22 : decode cX9_strikes 22 = .ok (.iload_n 3, 1) := by decide +kernel
theorem dX9_strikes_23 : decode cX9_strikes 23 = .ok (.iload 4, 2) := by decide +kernel
theorem dX9_strikes_25 : decode cX9_strikes 25 = .ok (.invokevirtual 313, 3) := by decide +kernel
theorem dX9_strikes_28 : decode cX9_strikes 28 = .ok (.istore 5, 2) := by decide +kernel
theorem dX9_strikes_30 : decode cX9_strikes 30 = .ok (.iload 5, 2) := by decide +kernel
theorem dX9_strikes_32 : decode cX9_strikes 32 = .ok (.aload_n 1, 1) := by decide +kernel
theorem dX9_strikes_33 : decode cX9_strikes 33 = .ok (.bipush 10, 2) := by decide +kernel
theorem dX9_strikes_35 : decode cX9_strikes 35 = .ok (.iaload, 1) := by decide +kernel
theorem dX9_strikes_36 : decode cX9_strikes 36 = .ok (.if_icmp .le 5, 3) := by decide +kernel
theorem dX9_strikes_39 : decode cX9_strikes 39 = .ok (.iconst 0, 1) := by decide +kernel
theorem dX9_strikes_40 : decode cX9_strikes 40 = .ok (.ireturn, 1) := by decide +kernel
theorem dX9_strikes_41 : decode cX9_strikes 41 = .ok (.aload_n 1, 1) := by decide +kernel
theorem dX9_strikes_42 : decode cX9_strikes 42 = .ok (.iconst 0, 1) := by decide +kernel
theorem dX9_strikes_43 : decode cX9_strikes 43 = .ok (.iload_n 2, 1) := by decide +kernel
theorem dX9_strikes_44 : decode cX9_strikes 44 = .ok (.iadd, 1) := by decide +kernel
theorem dX9_strikes_45 : decode cX9_strikes 45 = .ok (.dup2, 1) := by decide +kernel
theorem dX9_strikes_46 : decode cX9_strikes 46 = .ok (.iaload, 1) := by decide +kernel
theorem dX9_strikes_47 : decode cX9_strikes 47 = .ok (.iload_n 3, 1) := by decide +kernel
theorem dX9_strikes_48 : decode cX9_strikes 48 = .ok (.iload 4, 2) := by decide +kernel
theorem dX9_strikes_50 : decode cX9_strikes 50 = .ok (.invokestatic 302, 3) := by decide +kernel
theorem dX9_strikes_53 : decode cX9_strikes 53 = .ok (.ixor, 1) := by decide +kernel
theorem dX9_strikes_54 : decode cX9_strikes 54 = .ok (.iastore, 1) := by decide +kernel
theorem dX9_strikes_55 : decode cX9_strikes 55 = .ok (.aload_n 1, 1) := by decide +kernel
theorem dX9_strikes_56 : decode cX9_strikes 56 = .ok (.bipush 10, 2) := by decide +kernel
theorem dX9_strikes_58 : decode cX9_strikes 58 = .ok (.dup2, 1) := by decide +kernel
theorem dX9_strikes_59 : decode cX9_strikes 59 = .ok (.iaload, 1) := by decide +kernel
theorem dX9_strikes_60 : decode cX9_strikes 60 = .ok (.iload 5, 2) := by decide +kernel
theorem dX9_strikes_62 : decode cX9_strikes 62 = .ok (.isub, 1) := by decide +kernel
theorem dX9_strikes_63 : decode cX9_strikes 63 = .ok (.iastore, 1) := by decide +kernel
theorem dX9_strikes_64 : decode cX9_strikes 64 = .ok (.aload_n 1, 1) := by decide +kernel
theorem dX9_strikes_65 : decode cX9_strikes 65 = .ok (.bipush 12, 2) := by decide +kernel
theorem dX9_strikes_67 : decode cX9_strikes 67 = .ok (.dup2, 1) := by decide +kernel
theorem dX9_strikes_68 : decode cX9_strikes 68 = .ok (.iaload, 1) := by decide +kernel
theorem dX9_strikes_69 : decode cX9_strikes 69 = .ok (.iconst 1, 1) := by decide +kernel
theorem dX9_strikes_70 : decode cX9_strikes 70 = .ok (.iadd, 1) := by decide +kernel
theorem dX9_strikes_71 : decode cX9_strikes 71 = .ok (.iastore, 1) := by decide +kernel
theorem dX9_strikes_72 : decode cX9_strikes 72 = .ok (.iconst 1, 1) := by decide +kernel
theorem dX9_strikes_73 : decode cX9_strikes 73 = .ok (.ireturn, 1) := by decide +kernel
theorem dX9_leftWord_0 : decode cX9_leftWord 0 = .ok (.iconst 0, 1) := by decide +kernel
theorem dX9_leftWord_1 : decode cX9_leftWord 1 = .ok (.istore 4, 2) := by decide +kernel
theorem dX9_leftWord_3 : decode cX9_leftWord 3 = .ok (.iconst 0, 1) := by decide +kernel
theorem dX9_leftWord_4 : decode cX9_leftWord 4 = .ok (.istore 5, 2) := by decide +kernel
theorem dX9_leftWord_6 : decode cX9_leftWord 6 = .ok (.iload 5, 2) := by decide +kernel
theorem dX9_leftWord_8 : decode cX9_leftWord 8 = .ok (.aload_n 0, 1) := by decide +kernel
theorem dX9_leftWord_9 : decode cX9_leftWord 9 = .ok (.getfield 26, 3) := by decide +kernel
theorem dX9_leftWord_12 : decode cX9_leftWord 12 = .ok (.iload_n 2, 1) := by decide +kernel
theorem dX9_leftWord_13 : decode cX9_leftWord 13 = .ok (.iaload, 1) := by decide +kernel
theorem dX9_leftWord_14 : decode cX9_leftWord 14 = .ok (.if_icmp .ge 44, 3) := by decide +kernel
theorem dX9_leftWord_17 : decode cX9_leftWord 17 = .ok (.aload_n 1, 1) := by decide +kernel
theorem dX9_leftWord_18 : decode cX9_leftWord 18 = .ok (.iconst 0, 1) := by decide +kernel
theorem dX9_leftWord_19 : decode cX9_leftWord 19 = .ok (.iload_n 2, 1) := by decide +kernel
theorem dX9_leftWord_20 : decode cX9_leftWord 20 = .ok (.iadd, 1) := by decide +kernel
theorem dX9_leftWord_21 : decode cX9_leftWord 21 = .ok (.iaload, 1) := by decide +kernel
theorem dX9_leftWord_22 : decode cX9_leftWord 22 = .ok (.iload 5, 2) := by decide +kernel
theorem dX9_leftWord_24 : decode cX9_leftWord 24 = .ok (.invokestatic 317, 3) := by decide +kernel
theorem dX9_leftWord_27 : decode cX9_leftWord 27 = .ok (.ifCond .eq 6, 3) := by decide +kernel
theorem dX9_leftWord_30 : decode cX9_leftWord 30 = .ok (.goto 22, 3) := by decide +kernel
theorem dX9_leftWord_33 : decode cX9_leftWord 33 = .ok (.iload 4, 2) := by decide +kernel
theorem dX9_leftWord_35 : decode cX9_leftWord 35 = .ok (.iload_n 3, 1) := by decide +kernel
theorem dX9_leftWord_36 : decode cX9_leftWord 36 = .ok (.if_icmp .ne 13, 3) := by decide +kernel
theorem dX9_leftWord_39 : decode cX9_leftWord 39 = .ok (.aload_n 0, 1) := by decide +kernel
theorem dX9_leftWord_40 : decode cX9_leftWord 40 = .ok (.getfield 34, 3) := by decide +kernel
theorem dX9_leftWord_43 : decode cX9_leftWord 43 = .ok (.iload_n 2, 1) := by decide +kernel
theorem dX9_leftWord_44 : decode cX9_leftWord 44 = .ok (.aaload, 1) := by decide +kernel
theorem dX9_leftWord_45 : decode cX9_leftWord 45 = .ok (.iload 5, 2) := by decide +kernel
theorem dX9_leftWord_47 : decode cX9_leftWord 47 = .ok (.iaload, 1) := by decide +kernel
theorem dX9_leftWord_48 : decode cX9_leftWord 48 = .ok (.ireturn, 1) := by decide +kernel
theorem dX9_leftWord_49 : decode cX9_leftWord 49 = .ok (.iinc 4 1, 3) := by decide +kernel
theorem dX9_leftWord_52 : decode cX9_leftWord 52 = .ok (.iinc 5 1, 3) := by decide +kernel
theorem dX9_leftWord_55 : decode cX9_leftWord 55 = .ok (.goto (-49), 3) := by decide +kernel
theorem dX9_leftWord_58 : decode cX9_leftWord 58 = .ok (.iconst (-1), 1) := by decide +kernel
theorem dX9_leftWord_59 : decode cX9_leftWord 59 = .ok (.ireturn, 1) := by decide +kernel
theorem dX9_lineNow_0 : decode cX9_lineNow 0 = .ok (.aload_n 1, 1) := by decide +kernel
theorem dX9_lineNow_1 : decode cX9_lineNow 1 = .ok (.bipush 11, 2) := by decide +kernel
theorem dX9_lineNow_3 : decode cX9_lineNow 3 = .ok (.iaload, 1) := by decide +kernel
theorem dX9_lineNow_4 : decode cX9_lineNow 4 = .ok (.istore_n 2, 1) := by decide +kernel
theorem dX9_lineNow_5 : decode cX9_lineNow 5 = .ok (.iload_n 2, 1) := by decide +kernel
theorem dX9_lineNow_6 : decode cX9_lineNow 6 = .ok (.aload_n 0, 1) := by decide +kernel
theorem dX9_lineNow_7 : decode cX9_lineNow 7 = .ok (.getfield 223, 3) := by decide +kernel
theorem dX9_lineNow_10 : decode cX9_lineNow 10 = .ok (.if_icmp .ge 20, 3) := by decide +kernel
theorem dX9_lineNow_13 : decode cX9_lineNow 13 = .ok (.aload_n 0, 1) := by decide +kernel
theorem dX9_lineNow_14 : decode cX9_lineNow 14 = .ok (.aload_n 1, 1) := by decide +kernel
theorem dX9_lineNow_15 : decode cX9_lineNow 15 = .ok (.iload_n 2, 1) := by decide +kernel
theorem dX9_lineNow_16 : decode cX9_lineNow 16 = .ok (.invokevirtual 298, 3) := by decide +kernel
theorem dX9_lineNow_19 : decode cX9_lineNow 19 = .ok (.ifCond .le 5, 3) := by decide +kernel
theorem dX9_lineNow_22 : decode cX9_lineNow 22 = .ok (.iload_n 2, 1) := by decide +kernel
theorem dX9_lineNow_23 : decode cX9_lineNow 23 = .ok (.ireturn, 1) := by decide +kernel
theorem dX9_lineNow_24 : decode cX9_lineNow 24 = .ok (.iinc 2 1, 3) := by decide +kernel
theorem dX9_lineNow_27 : decode cX9_lineNow 27 = .ok (.goto (-22), 3) := by decide +kernel
theorem dX9_lineNow_30 : decode cX9_lineNow 30 = .ok (.iconst (-1), 1) := by decide +kernel
theorem dX9_lineNow_31 : decode cX9_lineNow 31 = .ok (.ireturn, 1) := by decide +kernel
theorem dX9_changes_0 : decode cX9_changes 0 = .ok (.aload_n 1, 1) := by decide +kernel
theorem dX9_changes_1 : decode cX9_changes 1 = .ok (.bipush 6, 2) := by decide +kernel
theorem dX9_changes_3 : decode cX9_changes 3 = .ok (.iload_n 2, 1) := by decide +kernel
theorem dX9_changes_4 : decode cX9_changes 4 = .ok (.iconst 4, 1) := by decide +kernel
theorem dX9_changes_5 : decode cX9_changes 5 = .ok (.irem, 1) := by decide +kernel
theorem dX9_changes_6 : decode cX9_changes 6 = .ok (.iadd, 1) := by decide +kernel
theorem dX9_changes_7 : decode cX9_changes 7 = .ok (.sipush 999, 3) := by decide +kernel
theorem dX9_changes_10 : decode cX9_changes 10 = .ok (.iconst 0, 1) := by decide +kernel
theorem dX9_changes_11 : decode cX9_changes 11 = .ok (.iload_n 3, 1) := by decide +kernel
theorem dX9_changes_12 : decode cX9_changes 12 = .ok (.invokestatic 276, 3) := by decide +kernel
theorem dX9_changes_15 : decode cX9_changes 15 = .ok (.invokestatic 273, 3) := by decide +kernel
theorem dX9_changes_18 : decode cX9_changes 18 = .ok (.iastore, 1) := by decide +kernel
theorem dX9_changes_19 : decode cX9_changes 19 = .ok (.return_, 1) := by decide +kernel
theorem dX9_does2_0 : decode cX9_does2 0 = .ok (.aload_n 0, 1) := by decide +kernel
theorem dX9_does2_1 : decode cX9_does2 1 = .ok (.aload_n 1, 1) := by decide +kernel
theorem dX9_does2_2 : decode cX9_does2 2 = .ok (.iload_n 2, 1) := by decide +kernel
theorem dX9_does2_3 : decode cX9_does2 3 = .ok (.iconst 0, 1) := by decide +kernel
theorem dX9_does2_4 : decode cX9_does2 4 = .ok (.invokevirtual 321, 3) := by decide +kernel
theorem dX9_does2_7 : decode cX9_does2 7 = .ok (.istore_n 3, 1) := by decide +kernel
theorem dX9_does2_8 : decode cX9_does2 8 = .ok (.iconst 0, 1) := by decide +kernel
theorem dX9_does2_9 : decode cX9_does2 9 = .ok (.aload_n 0, 1) := by decide +kernel
theorem dX9_does2_10 : decode cX9_does2 10 = .ok (.aload_n 1, 1) := by decide +kernel
theorem dX9_does2_11 : decode cX9_does2 11 = .ok (.iload_n 2, 1) := by decide +kernel
theorem dX9_does2_12 : decode cX9_does2 12 = .ok (.iconst 1, 1) := by decide +kernel
theorem dX9_does2_13 : decode cX9_does2 13 = .ok (.invokevirtual 321, 3) := by decide +kernel
theorem dX9_does2_16 : decode cX9_does2 16 = .ok (.invokestatic 276, 3) := by decide +kernel
theorem dX9_does2_19 : decode cX9_does2 19 = .ok (.istore 4, 2) := by decide +kernel
theorem dX9_does2_21 : decode cX9_does2 21 = .ok (.iconst 0, 1) := by decide +kernel
theorem dX9_does2_22 : decode cX9_does2 22 = .ok (.aload_n 0, 1) := by decide +kernel
theorem dX9_does2_23 : decode cX9_does2 23 = .ok (.aload_n 1, 1) := by decide +kernel
theorem dX9_does2_24 : decode cX9_does2 24 = .ok (.iload_n 2, 1) := by decide +kernel
theorem dX9_does2_25 : decode cX9_does2 25 = .ok (.iconst 2, 1) := by decide +kernel
theorem dX9_does2_26 : decode cX9_does2 26 = .ok (.invokevirtual 321, 3) := by decide +kernel
theorem dX9_does2_29 : decode cX9_does2 29 = .ok (.invokestatic 276, 3) := by decide +kernel
theorem dX9_does2_32 : decode cX9_does2 32 = .ok (.istore 5, 2) := by decide +kernel
theorem dX9_does2_34 : decode cX9_does2 34 = .ok (.aload_n 1, 1) := by decide +kernel
theorem dX9_does2_35 : decode cX9_does2 35 = .ok (.bipush 6, 2) := by decide +kernel
theorem dX9_does2_37 : decode cX9_does2 37 = .ok (.iload 4, 2) := by decide +kernel
theorem dX9_does2_39 : decode cX9_does2 39 = .ok (.iconst 4, 1) := by decide +kernel
