theorem dX6_readStep_25 : decode cX6_readStep 25 = .ok (.if_icmp .lt 13, 3) := by decide +kernel
theorem dX6_readStep_28 : decode cX6_readStep 28 = .ok (.aload_n 1, 1) := by decide +kernel
theorem dX6_readStep_29 : decode cX6_readStep 29 = .ok (.iconst 1, 1) := by decide +kernel
theorem dX6_readStep_30 : decode cX6_readStep 30 = .ok (.aload_n 1, 1) := by decide +kernel
theorem dX6_readStep_31 : decode cX6_readStep 31 = .ok (.getfield 66, 3) := by decide +kernel
theorem dX6_readStep_34 : decode cX6_readStep 34 = .ok (.invokevirtual 47, 3) := by decide +kernel
theorem dX6_readStep_37 : decode cX6_readStep 37 = .ok (.ireturn, 1) := by decide +kernel
theorem dX6_readStep_38 : decode cX6_readStep 38 = .ok (.iload_n 3, 1) := by decide +kernel
theorem dX6_readStep_39 : decode cX6_readStep 39 = .ok (.bipush 6, 2) := by decide +kernel
theorem dX6_readStep_41 : decode cX6_readStep 41 = .ok (.if_icmp .ne 19, 3) := by decide +kernel
theorem dX6_readStep_44 : decode cX6_readStep 44 = .ok (.iload_n 2, 1) := by decide +kernel
theorem dX6_readStep_45 : decode cX6_readStep 45 = .ok (.bipush 6, 2) := by decide +kernel
theorem dX6_readStep_47 : decode cX6_readStep 47 = .ok (.if_icmp .lt 13, 3) := by decide +kernel
theorem dX6_readStep_50 : decode cX6_readStep 50 = .ok (.aload_n 1, 1) := by decide +kernel
theorem dX6_readStep_51 : decode cX6_readStep 51 = .ok (.iconst 3, 1) := by decide +kernel
theorem dX6_readStep_52 : decode cX6_readStep 52 = .ok (.aload_n 1, 1) := by decide +kernel
theorem dX6_readStep_53 : decode cX6_readStep 53 = .ok (.getfield 66, 3) := by decide +kernel
theorem dX6_readStep_56 : decode cX6_readStep 56 = .ok (.invokevirtual 47, 3) := by decide +kernel
theorem dX6_readStep_59 : decode cX6_readStep 59 = .ok (.ireturn, 1) := by decide +kernel
theorem dX6_readStep_60 : decode cX6_readStep 60 = .ok (.aload_n 0, 1) := by decide +kernel
theorem dX6_readStep_61 : decode cX6_readStep 61 = .ok (.getfield 27, 3) := by decide +kernel
theorem dX6_readStep_64 : decode cX6_readStep 64 = .ok (.istore 4, 2) := by decide +kernel
theorem dX6_readStep_66 : decode cX6_readStep 66 = .ok (.aload_n 0, 1) := by decide +kernel
theorem dX6_readStep_67 : decode cX6_readStep 67 = .ok (.getfield 11, 3) := by decide +kernel
theorem dX6_readStep_70 : decode cX6_readStep 70 = .ok (.iload 4, 2) := by decide +kernel
theorem dX6_readStep_72 : decode cX6_readStep 72 = .ok (.iload_n 3, 1) := by decide +kernel
theorem dX6_readStep_73 : decode cX6_readStep 73 = .ok (.iastore, 1) := by decide +kernel
theorem dX6_readStep_74 : decode cX6_readStep 74 = .ok (.aload_n 0, 1) := by decide +kernel
theorem dX6_readStep_75 : decode cX6_readStep 75 = .ok (.getfield 24, 3) := by decide +kernel
theorem dX6_readStep_78 : decode cX6_readStep 78 = .ok (.iload 4, 2) := by decide +kernel
theorem dX6_readStep_80 : decode cX6_readStep 80 = .ok (.iload 4, 2) := by decide +kernel
theorem dX6_readStep_82 : decode cX6_readStep 82 = .ok (.iconst 1, 1) := by decide +kernel
theorem dX6_readStep_83 : decode cX6_readStep 83 = .ok (.iadd, 1) := by decide +kernel
theorem dX6_readStep_84 : decode cX6_readStep 84 = .ok (.iastore, 1) := by decide +kernel
theorem dX6_readStep_85 : decode cX6_readStep 85 = .ok (.aload_n 0, 1) := by decide +kernel
theorem dX6_readStep_86 : decode cX6_readStep 86 = .ok (.dup, 1) := by decide +kernel
theorem dX6_readStep_87 : decode cX6_readStep 87 = .ok (.getfield 27, 3) := by decide +kernel
theorem dX6_readStep_90 : decode cX6_readStep 90 = .ok (.iconst 1, 1) := by decide +kernel
theorem dX6_readStep_91 : decode cX6_readStep 91 = .ok (.iadd, 1) := by decide +kernel
theorem dX6_readStep_92 : decode cX6_readStep 92 = .ok (.putfield 27, 3) := by decide +kernel
theorem dX6_readStep_95 : decode cX6_readStep 95 = .ok (.iload_n 3, 1) := by decide +kernel
theorem dX6_readStep_96 : decode cX6_readStep 96 = .ok (.tableswitch 114 0 6 #[44, 52, 114, 63, 114, 74, 105], 44) := by decide +kernel
theorem dX6_readStep_140 : decode cX6_readStep 140 = .ok (.aload_n 0, 1) := by decide +kernel
theorem dX6_readStep_141 : decode cX6_readStep 141 = .ok (.aload_n 1, 1) := by decide +kernel
theorem dX6_readStep_142 : decode cX6_readStep 142 = .ok (.iload 4, 2) := by decide +kernel
theorem dX6_readStep_144 : decode cX6_readStep 144 = .ok (.invokevirtual 69, 3) := by decide +kernel
theorem dX6_readStep_147 : decode cX6_readStep 147 = .ok (.ireturn, 1) := by decide +kernel
theorem dX6_readStep_148 : decode cX6_readStep 148 = .ok (.aload_n 0, 1) := by decide +kernel
theorem dX6_readStep_149 : decode cX6_readStep 149 = .ok (.aload_n 1, 1) := by decide +kernel
theorem dX6_readStep_150 : decode cX6_readStep 150 = .ok (.iload 4, 2) := by decide +kernel
theorem dX6_readStep_152 : decode cX6_readStep 152 = .ok (.iconst 1, 1) := by decide +kernel
theorem dX6_readStep_153 : decode cX6_readStep 153 = .ok (.bipush 99, 2) := by decide +kernel
theorem dX6_readStep_155 : decode cX6_readStep 155 = .ok (.invokevirtual 72, 3) := by decide +kernel
theorem dX6_readStep_158 : decode cX6_readStep 158 = .ok (.ireturn, 1) := by decide +kernel
theorem dX6_readStep_159 : decode cX6_readStep 159 = .ok (.aload_n 0, 1) := by decide +kernel
theorem dX6_readStep_160 : decode cX6_readStep 160 = .ok (.aload_n 1, 1) := by decide +kernel
theorem dX6_readStep_161 : decode cX6_readStep 161 = .ok (.iload 4, 2) := by decide +kernel
theorem dX6_readStep_163 : decode cX6_readStep 163 = .ok (.iconst 1, 1) := by decide +kernel
theorem dX6_readStep_164 : decode cX6_readStep 164 = .ok (.bipush 99, 2) := by decide +kernel
theorem dX6_readStep_166 : decode cX6_readStep 166 = .ok (.invokevirtual 72, 3) := by decide +kernel
theorem dX6_readStep_169 : decode cX6_readStep 169 = .ok (.ireturn, 1) := by decide +kernel
theorem dX6_readStep_170 : decode cX6_readStep 170 = .ok (.aload_n 0, 1) := by decide +kernel
theorem dX6_readStep_171 : decode cX6_readStep 171 = .ok (.aload_n 1, 1) := by decide +kernel
theorem dX6_readStep_172 : decode cX6_readStep 172 = .ok (.iload 4, 2) := by decide +kernel
theorem dX6_readStep_174 : decode cX6_readStep 174 = .ok (.iconst 0, 1) := by decide +kernel
theorem dX6_readStep_175 : decode cX6_readStep 175 = .ok (.iconst 3, 1) := by decide +kernel
theorem dX6_readStep_176 : decode cX6_readStep 176 = .ok (.invokevirtual 72, 3) := by decide +kernel
theorem dX6_readStep_179 : decode cX6_readStep 179 = .ok (.ifCond .eq 20, 3) := by decide +kernel
theorem dX6_readStep_182 : decode cX6_readStep 182 = .ok (.aload_n 0, 1) := by decide +kernel
theorem dX6_readStep_183 : decode cX6_readStep 183 = .ok (.aload_n 1, 1) := by decide +kernel
theorem dX6_readStep_184 : decode cX6_readStep 184 = .ok (.iload 4, 2) := by decide +kernel
theorem dX6_readStep_186 : decode cX6_readStep 186 = .ok (.sipush 999, 3) := by decide +kernel
theorem dX6_readStep_189 : decode cX6_readStep 189 = .ok (.invokevirtual 76, 3) := by decide +kernel
theorem dX6_readStep_192 : decode cX6_readStep 192 = .ok (.ifCond .eq 7, 3) := by decide +kernel
theorem dX6_readStep_195 : decode cX6_readStep 195 = .ok (.iconst 1, 1) := by decide +kernel
theorem dX6_readStep_196 : decode cX6_readStep 196 = .ok (.goto 4, 3) := by decide +kernel
theorem dX6_readStep_199 : decode cX6_readStep 199 = .ok (.iconst 0, 1) := by decide +kernel
theorem dX6_readStep_200 : decode cX6_readStep 200 = .ok (.ireturn, 1) := by decide +kernel
theorem dX6_readStep_201 : decode cX6_readStep 201 = .ok (.aload_n 0, 1) := by decide +kernel
theorem dX6_readStep_202 : decode cX6_readStep 202 = .ok (.aload_n 1, 1) := by decide +kernel
theorem dX6_readStep_203 : decode cX6_readStep 203 = .ok (.iload 4, 2) := by decide +kernel
theorem dX6_readStep_205 : decode cX6_readStep 205 = .ok (.iload_n 2, 1) := by decide +kernel
theorem dX6_readStep_206 : decode cX6_readStep 206 = .ok (.invokevirtual 80, 3) := by decide +kernel
theorem dX6_readStep_209 : decode cX6_readStep 209 = .ok (.ireturn, 1) := by decide +kernel
theorem dX6_readStep_210 : decode cX6_readStep 210 = .ok (.iconst 1, 1) := by decide +kernel
theorem dX6_readStep_211 : decode cX6_readStep 211 = .ok (.ireturn, 1) := by decide +kernel
theorem dX6_kindTaken_0 : decode cX6_kindTaken 0 = .ok (.aload_n 0, 1) := by decide +kernel
theorem dX6_kindTaken_1 : decode cX6_kindTaken 1 = .ok (.ldc 83, 2) := by decide +kernel
theorem dX6_kindTaken_3 : decode cX6_kindTaken 3 = .ok (.invokevirtual 85, 3) := by decide +kernel
theorem dX6_kindTaken_6 : decode cX6_kindTaken 6 = .ok (.ifCond .eq 7, 3) := by decide +kernel
theorem dX6_kindTaken_9 : decode cX6_kindTaken 9 = .ok (.iconst 0, 1) := by decide +kernel
theorem dX6_kindTaken_10 : decode cX6_kindTaken 10 = .ok (.goto 83, 3) := by decide +kernel
theorem dX6_kindTaken_13 : decode cX6_kindTaken 13 = .ok (.aload_n 0, 1) := by decide +kernel
theorem dX6_kindTaken_14 : decode cX6_kindTaken 14 = .ok (.ldc 89, 2) := by decide +kernel
theorem dX6_kindTaken_16 : decode cX6_kindTaken 16 = .ok (.invokevirtual 85, 3) := by decide +kernel
theorem dX6_kindTaken_19 : decode cX6_kindTaken 19 = .ok (.ifCond .eq 7, 3) := by decide +kernel
theorem dX6_kindTaken_22 : decode cX6_kindTaken 22 = .ok (.iconst 1, 1) := by decide +kernel
theorem dX6_kindTaken_23 : decode cX6_kindTaken 23 = .ok (.goto 70, 3) := by decide +kernel
theorem dX6_kindTaken_26 : decode cX6_kindTaken 26 = .ok (.aload_n 0, 1) := by decide +kernel
theorem dX6_kindTaken_27 : decode cX6_kindTaken 27 = .ok (.ldc 91, 2) := by decide +kernel
theorem dX6_kindTaken_29 : decode cX6_kindTaken 29 = .ok (.invokevirtual 85, 3) := by decide +kernel
theorem dX6_kindTaken_32 : decode cX6_kindTaken 32 = .ok (.ifCond .eq 7, 3) := by decide +kernel
theorem dX6_kindTaken_35 : decode cX6_kindTaken 35 = .ok (.iconst 2, 1) := by decide +kernel
theorem dX6_kindTaken_36 : decode cX6_kindTaken 36 = .ok (.goto 57, 3) := by decide +kernel
theorem dX6_kindTaken_39 : decode cX6_kindTaken 39 = .ok (.aload_n 0, 1) := by decide +kernel
theorem dX6_kindTaken_40 : decode cX6_kindTaken 40 = .ok (.ldc 93, 2) := by decide +kernel
theorem dX6_kindTaken_42 : decode cX6_kindTaken 42 = .ok (.invokevirtual 85, 3) := by decide +kernel
theorem dX6_kindTaken_45 : decode cX6_kindTaken 45 = .ok (.ifCond .eq 7, 3) := by decide +kernel
theorem dX6_kindTaken_48 : decode cX6_kindTaken 48 = .ok (.iconst 3, 1) := by decide +kernel
theorem dX6_kindTaken_49 : decode cX6_kindTaken 49 = .ok (.goto 44, 3) := by decide +kernel
theorem dX6_kindTaken_52 : decode cX6_kindTaken 52 = .ok (.aload_n 0, 1) := by decide +kernel
theorem dX6_kindTaken_53 : decode cX6_kindTaken 53 = .ok (.ldc 95, 2) := by decide +kernel
theorem dX6_kindTaken_55 : decode cX6_kindTaken 55 = .ok (.invokevirtual 85, 3) := by decide +kernel
theorem dX6_kindTaken_58 : decode cX6_kindTaken 58 = .ok (.ifCond .eq 7, 3) := by decide +kernel
theorem dX6_kindTaken_61 : decode cX6_kindTaken 61 = .ok (.iconst 4, 1) := by decide +kernel
theorem dX6_kindTaken_62 : decode cX6_kindTaken 62 = .ok (.goto 31, 3) := by decide +kernel
theorem dX6_kindTaken_65 : decode cX6_kindTaken 65 = .ok (.aload_n 0, 1) := by decide +kernel
theorem dX6_kindTaken_66 : decode cX6_kindTaken 66 = .ok (.ldc 97, 2) := by decide +kernel
theorem dX6_kindTaken_68 : decode cX6_kindTaken 68 = .ok (.invokevirtual 85, 3) := by decide +kernel
theorem dX6_kindTaken_71 : decode cX6_kindTaken 71 = .ok (.ifCond .eq 7, 3) := by decide +kernel
theorem dX6_kindTaken_74 : decode cX6_kindTaken 74 = .ok (.iconst 5, 1) := by decide +kernel
theorem dX6_kindTaken_75 : decode cX6_kindTaken 75 = .ok (.goto 18, 3) := by decide +kernel
theorem dX6_kindTaken_78 : decode cX6_kindTaken 78 = .ok (.aload_n 0, 1) := by decide +kernel
theorem dX6_kindTaken_79 : decode cX6_kindTaken 79 = .ok (.ldc 99, 2) := by decide +kernel
theorem dX6_kindTaken_81 : decode cX6_kindTaken 81 = .ok (.invokevirtual 85, 3) := by decide +kernel
theorem dX6_kindTaken_84 : decode cX6_kindTaken 84 = .ok (.ifCond .eq 8, 3) := by decide +kernel
theorem dX6_kindTaken_87 : decode cX6_kindTaken 87 = .ok (.bipush 6, 2) := by decide +kernel
theorem dX6_kindTaken_89 : decode cX6_kindTaken 89 = .ok (.goto 4, 3) := by decide +kernel
theorem dX6_kindTaken_92 : decode cX6_kindTaken 92 = .ok (.iconst (-1), 1) := by decide +kernel
theorem dX6_kindTaken_93 : decode cX6_kindTaken 93 = .ok (.ireturn, 1) := by decide +kernel
theorem dX6_readFirst_0 : decode cX6_readFirst 0 = .ok (.aload_n 1, 1) := by decide +kernel
theorem dX6_readFirst_1 : decode cX6_readFirst 1 = .ok (.iload_n 3, 1) := by decide +kernel
theorem dX6_readFirst_2 : decode cX6_readFirst 2 = .ok (.iload 4, 2) := by decide +kernel
theorem dX6_readFirst_4 : decode cX6_readFirst 4 = .ok (.invokevirtual 101, 3) := by decide +kernel
theorem dX6_readFirst_7 : decode cX6_readFirst 7 = .ok (.ifCond .ne 5, 3) := by decide +kernel
theorem dX6_readFirst_10 : decode cX6_readFirst 10 = .ok (.iconst 0, 1) := by decide +kernel
theorem dX6_readFirst_11 : decode cX6_readFirst 11 = .ok (.ireturn, 1) := by decide +kernel
theorem dX6_readFirst_12 : decode cX6_readFirst 12 = .ok (.aload_n 0, 1) := by decide +kernel
theorem dX6_readFirst_13 : decode cX6_readFirst 13 = .ok (.getfield 15, 3) := by decide +kernel
theorem dX6_readFirst_16 : decode cX6_readFirst 16 = .ok (.iload_n 2, 1) := by decide +kernel
theorem dX6_readFirst_17 : decode cX6_readFirst 17 = .ok (.aload_n 1, 1) := by decide +kernel
theorem dX6_readFirst_18 : decode cX6_readFirst 18 = .ok (.getfield 104, 3) := by decide +kernel
theorem dX6_readFirst_21 : decode cX6_readFirst 21 = .ok (.iastore, 1) := by decide +kernel
theorem dX6_readFirst_22 : decode cX6_readFirst 22 = .ok (.iconst 1, 1) := by decide +kernel
theorem dX6_readFirst_23 : decode cX6_readFirst 23 = .ok (.ireturn, 1) := by decide +kernel
theorem dX6_readSecond_0 : decode cX6_readSecond 0 = .ok (.aload_n 1, 1) := by decide +kernel
theorem dX6_readSecond_1 : decode cX6_readSecond 1 = .ok (.iconst 0, 1) := by decide +kernel
theorem dX6_readSecond_2 : decode cX6_readSecond 2 = .ok (.iload_n 3, 1) := by decide +kernel
theorem dX6_readSecond_3 : decode cX6_readSecond 3 = .ok (.invokevirtual 101, 3) := by decide +kernel
theorem dX6_readSecond_6 : decode cX6_readSecond 6 = .ok (.ifCond .ne 5, 3) := by decide +kernel
theorem dX6_readSecond_9 : decode cX6_readSecond 9 = .ok (.iconst 0, 1) := by decide +kernel
theorem dX6_readSecond_10 : decode cX6_readSecond 10 = .ok (.ireturn, 1) := by decide +kernel
theorem dX6_readSecond_11 : decode cX6_readSecond 11 = .ok (.aload_n 0, 1) := by decide +kernel
theorem dX6_readSecond_12 : decode cX6_readSecond 12 = .ok (.getfield 18, 3) := by decide +kernel
theorem dX6_readSecond_15 : decode cX6_readSecond 15 = .ok (.iload_n 2, 1) := by decide +kernel
theorem dX6_readSecond_16 : decode cX6_readSecond 16 = .ok (.aload_n 1, 1) := by decide +kernel
theorem dX6_readSecond_17 : decode cX6_readSecond 17 = .ok (.getfield 104, 3) := by decide +kernel
theorem dX6_readSecond_20 : decode cX6_readSecond 20 = .ok (.iastore, 1) := by decide +kernel
theorem dX6_readSecond_21 : decode cX6_readSecond 21 = .ok (.iconst 1, 1) := by decide +kernel
theorem dX6_readSecond_22 : decode cX6_readSecond 22 = .ok (.ireturn, 1) := by decide +kernel
theorem dX6_readStrike_0 : decode cX6_readStrike 0 = .ok (.aload_n 0, 1) := by decide +kernel
theorem dX6_readStrike_1 : decode cX6_readStrike 1 = .ok (.aload_n 1, 1) := by decide +kernel
theorem dX6_readStrike_2 : decode cX6_readStrike 2 = .ok (.iload_n 2, 1) := by decide +kernel
theorem dX6_readStrike_3 : decode cX6_readStrike 3 = .ok (.iconst 0, 1) := by decide +kernel
theorem dX6_readStrike_4 : decode cX6_readStrike 4 = .ok (.aload_n 0, 1) := by decide +kernel
theorem dX6_readStrike_5 : decode cX6_readStrike 5 = .ok (.getfield 31, 3) := by decide +kernel
theorem dX6_readStrike_8 : decode cX6_readStrike 8 = .ok (.iconst 1, 1) := by decide +kernel
theorem dX6_readStrike_9 : decode cX6_readStrike 9 = .ok (.isub, 1) := by decide +kernel
theorem dX6_readStrike_10 : decode cX6_readStrike 10 = .ok (.invokevirtual 72, 3) := by decide +kernel
theorem dX6_readStrike_13 : decode cX6_readStrike 13 = .ok (.ifCond .eq 24, 3) := by decide +kernel
theorem dX6_readStrike_16 : decode cX6_readStrike 16 = .ok (.aload_n 0, 1) := by decide +kernel
theorem dX6_readStrike_17 : decode cX6_readStrike 17 = .ok (.aload_n 1, 1) := by decide +kernel
theorem dX6_readStrike_18 : decode cX6_readStrike 18 = .ok (.iload_n 2, 1) := by decide +kernel
theorem dX6_readStrike_19 : decode cX6_readStrike 19 = .ok (.bipush 7, 2) := by decide +kernel
theorem dX6_readStrike_21 : decode cX6_readStrike 21 = .ok (.invokevirtual 76, 3) := by decide +kernel
theorem dX6_readStrike_24 : decode cX6_readStrike 24 = .ok (.ifCond .eq 13, 3) := by decide +kernel
theorem dX6_readStrike_27 : decode cX6_readStrike 27 = .ok (.aload_n 1, 1) := by decide +kernel
theorem dX6_readStrike_28 : decode cX6_readStrike 28 = .ok (.iconst 0, 1) := by decide +kernel
theorem dX6_readStrike_29 : decode cX6_readStrike 29 = .ok (.bipush 7, 2) := by decide +kernel
theorem dX6_readStrike_31 : decode cX6_readStrike 31 = .ok (.invokevirtual 101, 3) := by decide +kernel
theorem dX6_readStrike_34 : decode cX6_readStrike 34 = .ok (.ifCond .ne 5, 3) := by decide +kernel
theorem dX6_readStrike_37 : decode cX6_readStrike 37 = .ok (.iconst 0, 1) := by decide +kernel
theorem dX6_readStrike_38 : decode cX6_readStrike 38 = .ok (.ireturn, 1) := by decide +kernel
theorem dX6_readStrike_39 : decode cX6_readStrike 39 = .ok (.aload_n 0, 1) := by decide +kernel
theorem dX6_readStrike_40 : decode cX6_readStrike 40 = .ok (.getfield 21, 3) := by decide +kernel
theorem dX6_readStrike_43 : decode cX6_readStrike 43 = .ok (.iload_n 2, 1) := by decide +kernel
theorem dX6_readStrike_44 : decode cX6_readStrike 44 = .ok (.aload_n 1, 1) := by decide +kernel
theorem dX6_readStrike_45 : decode cX6_readStrike 45 = .ok (.getfield 104, 3) := by decide +kernel
theorem dX6_readStrike_48 : decode cX6_readStrike 48 = .ok (.iastore, 1) := by decide +kernel
theorem dX6_readStrike_49 : decode cX6_readStrike 49 = .ok (.iconst 1, 1) := by decide +kernel
theorem dX6_readStrike_50 : decode cX6_readStrike 50 = .ok (.ireturn, 1) := by decide +kernel
theorem dX6_readAgain_0 : decode cX6_readAgain 0 = .ok (.aload_n 0, 1) := by decide +kernel
theorem dX6_readAgain_1 : decode cX6_readAgain 1 = .ok (.aload_n 1, 1) := by decide +kernel
theorem dX6_readAgain_2 : decode cX6_readAgain 2 = .ok (.iload_n 2, 1) := by decide +kernel
theorem dX6_readAgain_3 : decode cX6_readAgain 3 = .ok (.iconst 0, 1) := by decide +kernel
theorem dX6_readAgain_4 : decode cX6_readAgain 4 = .ok (.bipush 60, 2) := by decide +kernel
theorem dX6_readAgain_6 : decode cX6_readAgain 6 = .ok (.invokevirtual 72, 3) := by decide +kernel
theorem dX6_readAgain_9 : decode cX6_readAgain 9 = .ok (.ifCond .eq 23, 3) := by decide +kernel
theorem dX6_readAgain_12 : decode cX6_readAgain 12 = .ok (.aload_n 1, 1) := by decide +kernel
theorem dX6_readAgain_13 : decode cX6_readAgain 13 = .ok (.bipush 91, 2) := by decide +kernel
theorem dX6_readAgain_15 : decode cX6_readAgain 15 = .ok (.invokevirtual 54, 3) := by decide +kernel
theorem dX6_readAgain_18 : decode cX6_readAgain 18 = .ok (.ifCond .eq 14, 3) := by decide +kernel
theorem dX6_readAgain_21 : decode cX6_readAgain 21 = .ok (.aload_n 0, 1) := by decide +kernel
theorem dX6_readAgain_22 : decode cX6_readAgain 22 = .ok (.aload_n 1, 1) := by decide +kernel
theorem dX6_readAgain_23 : decode cX6_readAgain 23 = .ok (.iload_n 3, 1) := by decide +kernel
theorem dX6_readAgain_24 : decode cX6_readAgain 24 = .ok (.iconst 1, 1) := by decide +kernel
theorem dX6_readAgain_25 : decode cX6_readAgain 25 = .ok (.iadd, 1) := by decide +kernel
theorem dX6_readAgain_26 : decode cX6_readAgain 26 = .ok (.invokevirtual 34, 3) := by decide +kernel
theorem dX6_readAgain_29 : decode cX6_readAgain 29 = .ok (.ifCond .ne 5, 3) := by decide +kernel
theorem dX6_readAgain_32 : decode cX6_readAgain 32 = .ok (.iconst 0, 1) := by decide +kernel
theorem dX6_readAgain_33 : decode cX6_readAgain 33 = .ok (.ireturn, 1) := by decide +kernel
theorem dX6_readAgain_34 : decode cX6_readAgain 34 = .ok (.aload_n 0, 1) := by decide +kernel
theorem dX6_readAgain_35 : decode cX6_readAgain 35 = .ok (.getfield 24, 3) := by decide +kernel
theorem dX6_readAgain_38 : decode cX6_readAgain 38 = .ok (.iload_n 2, 1) := by decide +kernel
theorem dX6_readAgain_39 : decode cX6_readAgain 39 = .ok (.aload_n 0, 1) := by decide +kernel
theorem dX6_readAgain_40 : decode cX6_readAgain 40 = .ok (.getfield 27, 3) := by decide +kernel
theorem dX6_readAgain_43 : decode cX6_readAgain 43 = .ok (.iastore, 1) := by decide +kernel
theorem dX6_readAgain_44 : decode cX6_readAgain 44 = .ok (.aload_n 1, 1) := by decide +kernel
theorem dX6_readAgain_45 : decode cX6_readAgain 45 = .ok (.bipush 93, 2) := by decide +kernel
theorem dX6_readAgain_47 : decode cX6_readAgain 47 = .ok (.invokevirtual 54, 3) := by decide +kernel
theorem dX6_readAgain_50 : decode cX6_readAgain 50 = .ok (.ireturn, 1) := by decide +kernel
theorem dX6_countAnew_0 : decode cX6_countAnew 0 = .ok (.aload_n 0, 1) := by decide +kernel
theorem dX6_countAnew_1 : decode cX6_countAnew 1 = .ok (.iconst 0, 1) := by decide +kernel
theorem dX6_countAnew_2 : decode cX6_countAnew 2 = .ok (.putfield 107, 3) := by decide +kernel
theorem dX6_countAnew_5 : decode cX6_countAnew 5 = .ok (.aload_n 0, 1) := by decide +kernel
theorem dX6_countAnew_6 : decode cX6_countAnew 6 = .ok (.iconst 0, 1) := by decide +kernel
theorem dX6_countAnew_7 : decode cX6_countAnew 7 = .ok (.putfield 110, 3) := by decide +kernel
theorem dX6_countAnew_10 : decode cX6_countAnew 10 = .ok (.aload_n 0, 1) := by decide +kernel
theorem dX6_countAnew_11 : decode cX6_countAnew 11 = .ok (.iconst 0, 1) := by decide +kernel
theorem dX6_countAnew_12 : decode cX6_countAnew 12 = .ok (.putfield 113, 3) := by decide +kernel
theorem dX6_countAnew_15 : decode cX6_countAnew 15 = .ok (.return_, 1) := by decide +kernel
theorem dX6_doSteps_0 : decode cX6_doSteps 0 = .ok (.iload 4, 2) := by decide +kernel
theorem dX6_doSteps_2 : decode cX6_doSteps 2 = .ok (.bipush 6, 2) := by decide +kernel
theorem dX6_doSteps_4 : decode cX6_doSteps 4 = .ok (.if_icmp .le 4, 3) := by decide +kernel
theorem dX6_doSteps_7 : decode cX6_doSteps 7 = .ok (.return_, 1) := by decide +kernel
theorem dX6_doSteps_8 : decode cX6_doSteps 8 = .ok (.iload_n 2, 1) := by decide +kernel
theorem dX6_doSteps_9 : decode cX6_doSteps 9 = .ok (.istore 5, 2) := by decide +kernel
theorem dX6_doSteps_11 : decode cX6_doSteps 11 = .ok (.iload 5, 2) := by decide +kernel
theorem dX6_doSteps_13 : decode cX6_doSteps 13 = .ok (.iload_n 3, 1) := by decide +kernel
theorem dX6_doSteps_14 : decode cX6_doSteps 14 = .ok (.if_icmp .ge 119, 3) := by decide +kernel
theorem dX6_doSteps_17 : decode cX6_doSteps 17 = .ok (.aload_n 0, 1) := by decide +kernel
theorem dX6_doSteps_18 : decode cX6_doSteps 18 = .ok (.getfield 107, 3) := by decide +kernel
theorem dX6_doSteps_21 : decode cX6_doSteps 21 = .ok (.sipush 200, 3) := by decide +kernel
theorem dX6_doSteps_24 : decode cX6_doSteps 24 = .ok (.if_icmp .ge 109, 3) := by decide +kernel
theorem dX6_doSteps_27 : decode cX6_doSteps 27 = .ok (.aload_n 0, 1) := by decide +kernel
theorem dX6_doSteps_28 : decode cX6_doSteps 28 = .ok (.dup, 1) := by decide +kernel
theorem dX6_doSteps_29 : decode cX6_doSteps 29 = .ok (.getfield 107, 3) := by decide +kernel
theorem dX6_doSteps_32 : decode cX6_doSteps 32 = .ok (.iconst 1, 1) := by decide +kernel
theorem dX6_doSteps_33 : decode cX6_doSteps 33 = .ok (.iadd, 1) := by decide +kernel
theorem dX6_doSteps_34 : decode cX6_doSteps 34 = .ok (.putfield 107, 3) := by decide +kernel
theorem dX6_doSteps_37 : decode cX6_doSteps 37 = .ok (.aload_n 0, 1) := by decide +kernel
theorem dX6_doSteps_38 : decode cX6_doSteps 38 = .ok (.getfield 11, 3) := by decide +kernel
theorem dX6_doSteps_41 : decode cX6_doSteps 41 = .ok (.iload 5, 2) := by decide +kernel
theorem dX6_doSteps_43 : decode cX6_doSteps 43 = .ok (.iaload, 1) := by decide +kernel
theorem dX6_doSteps_44 : decode cX6_doSteps 44 = .ok (.bipush 6, 2) := by decide +kernel
theorem dX6_doSteps_46 : decode cX6_doSteps 46 = .ok (.if_icmp .eq 17, 3) := by decide +kernel
theorem dX6_doSteps_49 : decode cX6_doSteps 49 = .ok (.aload_n 0, 1) := by decide +kernel
theorem dX6_doSteps_50 : decode cX6_doSteps 50 = .ok (.aload_n 0, 1) := by decide +kernel
theorem dX6_doSteps_51 : decode cX6_doSteps 51 = .ok (.aload_n 1, 1) := by decide +kernel
theorem dX6_doSteps_52 : decode cX6_doSteps 52 = .ok (.iload 5, 2) := by decide +kernel
theorem dX6_doSteps_54 : decode cX6_doSteps 54 = .ok (.invokevirtual 116, 3) := by decide +kernel
theorem dX6_doSteps_57 : decode cX6_doSteps 57 = .ok (.invokevirtual 120, 3) := by decide +kernel
theorem dX6_doSteps_60 : decode cX6_doSteps 60 = .ok (.goto 54, 3) := by decide +kernel
theorem dX6_doSteps_63 : decode cX6_doSteps 63 = .ok (.iconst 0, 1) := by decide +kernel
theorem dX6_doSteps_64 : decode cX6_doSteps 64 = .ok (.istore 6, 2) := by decide +kernel
theorem dX6_doSteps_66 : decode cX6_doSteps 66 = .ok (.iload 6, 2) := by decide +kernel
theorem dX6_doSteps_68 : decode cX6_doSteps 68 = .ok (.aload_n 0, 1) := by decide +kernel
theorem dX6_doSteps_69 : decode cX6_doSteps 69 = .ok (.getfield 15, 3) := by decide +kernel
theorem dX6_doSteps_72 : decode cX6_doSteps 72 = .ok (.iload 5, 2) := by decide +kernel
theorem dX6_doSteps_74 : decode cX6_doSteps 74 = .ok (.iaload, 1) := by decide +kernel
theorem dX6_doSteps_75 : decode cX6_doSteps 75 = .ok (.if_icmp .ge 39, 3) := by decide +kernel
theorem dX6_doSteps_78 : decode cX6_doSteps 78 = .ok (.aload_n 0, 1) := by decide +kernel
theorem dX6_doSteps_79 : decode cX6_doSteps 79 = .ok (.getfield 107, 3) := by decide +kernel
theorem dX6_doSteps_82 : decode cX6_doSteps 82 = .ok (.sipush 200, 3) := by decide +kernel
theorem dX6_doSteps_85 : decode cX6_doSteps 85 = .ok (.if_icmp .ge 29, 3) := by decide +kernel
theorem dX6_doSteps_88 : decode cX6_doSteps 88 = .ok (.aload_n 0, 1) := by decide +kernel
theorem dX6_doSteps_89 : decode cX6_doSteps 89 = .ok (.aload_n 1, 1) := by decide +kernel
theorem dX6_doSteps_90 : decode cX6_doSteps 90 = .ok (.iload 5, 2) := by decide +kernel
theorem dX6_doSteps_92 : decode cX6_doSteps 92 = .ok (.iconst 1, 1) := by decide +kernel
theorem dX6_doSteps_93 : decode cX6_doSteps 93 = .ok (.iadd, 1) := by decide +kernel
theorem dX6_doSteps_94 : decode cX6_doSteps 94 = .ok (.aload_n 0, 1) := by decide +kernel
theorem dX6_doSteps_95 : decode cX6_doSteps 95 = .ok (.getfield 24, 3) := by decide +kernel
theorem dX6_doSteps_98 : decode cX6_doSteps 98 = .ok (.iload 5, 2) := by decide +kernel
theorem dX6_doSteps_100 : decode cX6_doSteps 100 = .ok (.iaload, 1) := by decide +kernel
theorem dX6_doSteps_101 : decode cX6_doSteps 101 = .ok (.iload 4, 2) := by decide +kernel
theorem dX6_doSteps_103 : decode cX6_doSteps 103 = .ok (.iconst 1, 1) := by decide +kernel
theorem dX6_doSteps_104 : decode cX6_doSteps 104 = .ok (.iadd, 1) := by decide +kernel
theorem dX6_doSteps_105 : decode cX6_doSteps 105 = .ok (.invokevirtual 124, 3) := by decide +kernel
theorem dX6_doSteps_108 : decode cX6_doSteps 108 = .ok (.iinc 6 1, 3) := by decide +kernel
theorem dX6_doSteps_111 : decode cX6_doSteps 111 = .ok (.goto (-45), 3) := by decide +kernel
theorem dX6_doSteps_114 : decode cX6_doSteps 114 = .ok (.iload 5, 2) := by decide +kernel
theorem dX6_doSteps_116 : decode cX6_doSteps 116 = .ok (.iconst 1, 1) := by decide +kernel
theorem dX6_doSteps_117 : decode cX6_doSteps 117 = .ok (.iadd, 1) := by decide +kernel
theorem dX6_doSteps_118 : decode cX6_doSteps 118 = .ok (.aload_n 0, 1) := by decide +kernel
theorem dX6_doSteps_119 : decode cX6_doSteps 119 = .ok (.getfield 24, 3) := by decide +kernel
theorem dX6_doSteps_122 : decode cX6_doSteps 122 = .ok (.iload 5, 2) := by decide +kernel
theorem dX6_doSteps_124 : decode cX6_doSteps 124 = .ok (.iaload, 1) := by decide +kernel
theorem dX6_doSteps_125 : decode cX6_doSteps 125 = .ok (.invokestatic 128, 3) := by decide +kernel
theorem dX6_doSteps_128 : decode cX6_doSteps 128 = .ok (.istore 5, 2) := by decide +kernel
theorem dX6_doSteps_130 : decode cX6_doSteps 130 = .ok (.goto (-119), 3) := by decide +kernel
theorem dX6_doSteps_133 : decode cX6_doSteps 133 = .ok (.return_, 1) := by decide +kernel
theorem dX6_countStep_0 : decode cX6_countStep 0 = .ok (.iload_n 1, 1) := by decide +kernel
theorem dX6_countStep_1 : decode cX6_countStep 1 = .ok (.ifCond .eq 16, 3) := by decide +kernel
theorem dX6_countStep_4 : decode cX6_countStep 4 = .ok (.aload_n 0, 1) := by decide +kernel
theorem dX6_countStep_5 : decode cX6_countStep 5 = .ok (.dup, 1) := by decide +kernel
theorem dX6_countStep_6 : decode cX6_countStep 6 = .ok (.getfield 110, 3) := by decide +kernel
theorem dX6_countStep_9 : decode cX6_countStep 9 = .ok (.iconst 1, 1) := by decide +kernel
theorem dX6_countStep_10 : decode cX6_countStep 10 = .ok (.iadd, 1) := by decide +kernel
theorem dX6_countStep_11 : decode cX6_countStep 11 = .ok (.putfield 110, 3) := by decide +kernel
theorem dX6_countStep_14 : decode cX6_countStep 14 = .ok (.goto 13, 3) := by decide +kernel
theorem dX6_countStep_17 : decode cX6_countStep 17 = .ok (.aload_n 0, 1) := by decide +kernel
theorem dX6_countStep_18 : decode cX6_countStep 18 = .ok (.dup, 1) := by decide +kernel
theorem dX6_countStep_19 : decode cX6_countStep 19 = .ok (.getfield 113, 3) := by decide +kernel
theorem dX6_countStep_22 : decode cX6_countStep 22 = .ok (.iconst 1, 1) := by decide +kernel
theorem dX6_countStep_23 : decode cX6_countStep 23 = .ok (.iadd, 1) := by decide +kernel
theorem dX6_countStep_24 : decode cX6_countStep 24 = .ok (.putfield 113, 3) := by decide +kernel
theorem dX6_countStep_27 : decode cX6_countStep 27 = .ok (.return_, 1) := by decide +kernel
theorem dX6_doStep_0 : decode cX6_doStep 0 = .ok (.aload_n 0, 1) := by decide +kernel
theorem dX6_doStep_1 : decode cX6_doStep 1 = .ok (.getfield 15, 3) := by decide +kernel
theorem dX6_doStep_4 : decode cX6_doStep 4 = .ok (.iload_n 2, 1) := by decide +kernel
theorem dX6_doStep_5 : decode cX6_doStep 5 = .ok (.iaload, 1) := by decide +kernel
theorem dX6_doStep_6 : decode cX6_doStep 6 = .ok (.istore_n 3, 1) := by decide +kernel
theorem dX6_doStep_7 : decode cX6_doStep 7 = .ok (.aload_n 0, 1) := by decide +kernel
theorem dX6_doStep_8 : decode cX6_doStep 8 = .ok (.getfield 11, 3) := by decide +kernel
theorem dX6_doStep_11 : decode cX6_doStep 11 = .ok (.iload_n 2, 1) := by decide +kernel
theorem dX6_doStep_12 : decode cX6_doStep 12 = .ok (.iaload, 1) := by decide +kernel
theorem dX6_doStep_13 : decode cX6_doStep 13 = .ok (.tableswitch 75 0 4 #[35, 53, 59, 64, 70], 35) := by decide +kernel
theorem dX6_doStep_48 : decode cX6_doStep 48 = .ok (.aload_n 1, 1) := by decide +kernel
theorem dX6_doStep_49 : decode cX6_doStep 49 = .ok (.iload_n 3, 1) := by decide +kernel
theorem dX6_doStep_50 : decode cX6_doStep 50 = .ok (.aload_n 0, 1) := by decide +kernel
theorem dX6_doStep_51 : decode cX6_doStep 51 = .ok (.getfield 18, 3) := by decide +kernel
theorem dX6_doStep_54 : decode cX6_doStep 54 = .ok (.iload_n 2, 1) := by decide +kernel
theorem dX6_doStep_55 : decode cX6_doStep 55 = .ok (.iaload, 1) := by decide +kernel
theorem dX6_doStep_56 : decode cX6_doStep 56 = .ok (.aload_n 0, 1) := by decide +kernel
theorem dX6_doStep_57 : decode cX6_doStep 57 = .ok (.getfield 21, 3) := by decide +kernel
theorem dX6_doStep_60 : decode cX6_doStep 60 = .ok (.iload_n 2, 1) := by decide +kernel
theorem dX6_doStep_61 : decode cX6_doStep 61 = .ok (.iaload, 1) := by decide +kernel
theorem dX6_doStep_62 : decode cX6_doStep 62 = .ok (.invokevirtual 134, 3) := by decide +kernel
theorem dX6_doStep_65 : decode cX6_doStep 65 = .ok (.ireturn, 1) := by decide +kernel
theorem dX6_doStep_66 : decode cX6_doStep 66 = .ok (.aload_n 1, 1) := by decide +kernel
theorem dX6_doStep_67 : decode cX6_doStep 67 = .ok (.iload_n 3, 1) := by decide +kernel
theorem dX6_doStep_68 : decode cX6_doStep 68 = .ok (.invokevirtual 139, 3) := by decide +kernel
theorem dX6_doStep_71 : decode cX6_doStep 71 = .ok (.ireturn, 1) := by decide +kernel
theorem dX6_doStep_72 : decode cX6_doStep 72 = .ok (.aload_n 1, 1) := by decide +kernel
theorem dX6_doStep_73 : decode cX6_doStep 73 = .ok (.invokevirtual 143, 3) := by decide +kernel
theorem dX6_doStep_76 : decode cX6_doStep 76 = .ok (.ireturn, 1) := by decide +kernel
theorem dX6_doStep_77 : decode cX6_doStep 77 = .ok (.aload_n 1, 1) := by decide +kernel
theorem dX6_doStep_78 : decode cX6_doStep 78 = .ok (.iload_n 3, 1) := by decide +kernel
theorem dX6_doStep_79 : decode cX6_doStep 79 = .ok (.invokevirtual 146, 3) := by decide +kernel
theorem dX6_doStep_82 : decode cX6_doStep 82 = .ok (.ireturn, 1) := by decide +kernel
theorem dX6_doStep_83 : decode cX6_doStep 83 = .ok (.aload_n 1, 1) := by decide +kernel
theorem dX6_doStep_84 : decode cX6_doStep 84 = .ok (.invokevirtual 149, 3) := by decide +kernel
theorem dX6_doStep_87 : decode cX6_doStep 87 = .ok (.ireturn, 1) := by decide +kernel
theorem dX6_doStep_88 : decode cX6_doStep 88 = .ok (.aload_n 1, 1) := by decide +kernel
theorem dX6_doStep_89 : decode cX6_doStep 89 = .ok (.iload_n 3, 1) := by decide +kernel
theorem dX6_doStep_90 : decode cX6_doStep 90 = .ok (.aload_n 0, 1) := by decide +kernel
theorem dX6_doStep_91 : decode cX6_doStep 91 = .ok (.getfield 18, 3) := by decide +kernel
theorem dX6_doStep_94 : decode cX6_doStep 94 = .ok (.iload_n 2, 1) := by decide +kernel
theorem dX6_doStep_95 : decode cX6_doStep 95 = .ok (.iaload, 1) := by decide +kernel
theorem dX6_doStep_96 : decode cX6_doStep 96 = .ok (.invokevirtual 152, 3) := by decide +kernel
theorem dX6_doStep_99 : decode cX6_doStep 99 = .ok (.ireturn, 1) := by decide +kernel
theorem dX7_init_0 : decode cX7_init 0 = .ok (.aload_n 0, 1) := by decide +kernel
theorem dX7_init_1 : decode cX7_init 1 = .ok (.invokespecial 3, 3) := by decide +kernel
theorem dX7_init_4 : decode cX7_init 4 = .ok (.aload_n 0, 1) := by decide +kernel
theorem dX7_init_5 : decode cX7_init 5 = .ok (.sipush 600, 3) := by decide +kernel
theorem dX7_init_8 : decode cX7_init 8 = .ok (.newarray .int, 2) := by decide +kernel
theorem dX7_init_10 : decode cX7_init 10 = .ok (.putfield 9, 3) := by decide +kernel
theorem dX7_init_13 : decode cX7_init 13 = .ok (.aload_n 0, 1) := by decide +kernel
theorem dX7_init_14 : decode cX7_init 14 = .ok (.iconst (-1), 1) := by decide +kernel
theorem dX7_init_15 : decode cX7_init 15 = .ok (.putfield 15, 3) := by decide +kernel
theorem dX7_init_18 : decode cX7_init 18 = .ok (.return_, 1) := by decide +kernel
theorem dX7_put_0 : decode cX7_put 0 = .ok (.bipush 24, 2) := by decide +kernel
theorem dX7_put_2 : decode cX7_put 2 = .ok (.istore_n 2, 1) := by decide +kernel
theorem dX7_put_3 : decode cX7_put 3 = .ok (.iload_n 2, 1) := by decide +kernel
theorem dX7_put_4 : decode cX7_put 4 = .ok (.ifCond .lt 45, 3) := by decide +kernel
theorem dX7_put_7 : decode cX7_put 7 = .ok (.aload_n 0, 1) := by decide +kernel
theorem dX7_put_8 : decode cX7_put 8 = .ok (.getfield 19, 3) := by decide +kernel
theorem dX7_put_11 : decode cX7_put 11 = .ok (.sipush 600, 3) := by decide +kernel
theorem dX7_put_14 : decode cX7_put 14 = .ok (.if_icmp .ge 35, 3) := by decide +kernel
theorem dX7_put_17 : decode cX7_put 17 = .ok (.aload_n 0, 1) := by decide +kernel
theorem dX7_put_18 : decode cX7_put 18 = .ok (.getfield 9, 3) := by decide +kernel
theorem dX7_put_21 : decode cX7_put 21 = .ok (.aload_n 0, 1) := by decide +kernel
theorem dX7_put_22 : decode cX7_put 22 = .ok (.getfield 19, 3) := by decide +kernel
theorem dX7_put_25 : decode cX7_put 25 = .ok (.iload_n 1, 1) := by decide +kernel
theorem dX7_put_26 : decode cX7_put 26 = .ok (.iload_n 2, 1) := by decide +kernel
theorem dX7_put_27 : decode cX7_put 27 = .ok (.iushr, 1) := by decide +kernel
theorem dX7_put_28 : decode cX7_put 28 = .ok (.sipush 255, 3) := by decide +kernel
theorem dX7_put_31 : decode cX7_put 31 = .ok (.iand, 1) := by decide +kernel
theorem dX7_put_32 : decode cX7_put 32 = .ok (.iastore, 1) := by decide +kernel
theorem dX7_put_33 : decode cX7_put 33 = .ok (.aload_n 0, 1) := by decide +kernel
theorem dX7_put_34 : decode cX7_put 34 = .ok (.dup, 1) := by decide +kernel
theorem dX7_put_35 : decode cX7_put 35 = .ok (.getfield 19, 3) := by decide +kernel
theorem dX7_put_38 : decode cX7_put 38 = .ok (.iconst 1, 1) := by decide +kernel
theorem dX7_put_39 : decode cX7_put 39 = .ok (.iadd, 1) := by decide +kernel
theorem dX7_put_40 : decode cX7_put 40 = .ok (.putfield 19, 3) := by decide +kernel
theorem dX7_put_43 : decode cX7_put 43 = .ok (.iinc 2 (-8), 3) := by decide +kernel
theorem dX7_put_46 : decode cX7_put 46 = .ok (.goto (-43), 3) := by decide +kernel
theorem dX7_put_49 : decode cX7_put 49 = .ok (.return_, 1) := by decide +kernel
theorem dX7_open_0 : decode cX7_open 0 = .ok (.aload_n 0, 1) := by decide +kernel
theorem dX7_open_1 : decode cX7_open 1 = .ok (.iload_n 1, 1) := by decide +kernel
theorem dX7_open_2 : decode cX7_open 2 = .ok (.sipush 600, 3) := by decide +kernel
theorem dX7_open_5 : decode cX7_open 5 = .ok (.invokestatic 22, 3) := by decide +kernel
theorem dX7_open_8 : decode cX7_open 8 = .ok (.putfield 28, 3) := by decide +kernel
theorem dX7_open_11 : decode cX7_open 11 = .ok (.aload_n 0, 1) := by decide +kernel
theorem dX7_open_12 : decode cX7_open 12 = .ok (.iconst 0, 1) := by decide +kernel
theorem dX7_open_13 : decode cX7_open 13 = .ok (.putfield 19, 3) := by decide +kernel
theorem dX7_open_16 : decode cX7_open 16 = .ok (.aload_n 0, 1) := by decide +kernel
theorem dX7_open_17 : decode cX7_open 17 = .ok (.iconst 0, 1) := by decide +kernel
theorem dX7_open_18 : decode cX7_open 18 = .ok (.putfield 31, 3) := by decide +kernel
theorem dX7_open_21 : decode cX7_open 21 = .ok (.aload_n 0, 1) := by decide +kernel
theorem dX7_open_22 : decode cX7_open 22 = .ok (.iconst 0, 1) := by decide +kernel
theorem dX7_open_23 : decode cX7_open 23 = .ok (.putfield 34, 3) := by decide +kernel
theorem dX7_open_26 : decode cX7_open 26 = .ok (.aload_n 0, 1) := by decide +kernel
theorem dX7_open_27 : decode cX7_open 27 = .ok (.iconst (-1), 1) := by decide +kernel
theorem dX7_open_28 : decode cX7_open 28 = .ok (.putfield 15, 3) := by decide +kernel
theorem dX7_open_31 : decode cX7_open 31 = .ok (.return_, 1) := by decide +kernel
theorem dX7_fail_0 : decode cX7_fail 0 = .ok (.aload_n 0, 1) := by decide +kernel
theorem dX7_fail_1 : decode cX7_fail 1 = .ok (.iload_n 1, 1) := by decide +kernel
theorem dX7_fail_2 : decode cX7_fail 2 = .ok (.putfield 34, 3) := by decide +kernel
theorem dX7_fail_5 : decode cX7_fail 5 = .ok (.aload_n 0, 1) := by decide +kernel
theorem dX7_fail_6 : decode cX7_fail 6 = .ok (.iload_n 2, 1) := by decide +kernel
theorem dX7_fail_7 : decode cX7_fail 7 = .ok (.putfield 15, 3) := by decide +kernel
theorem dX7_fail_10 : decode cX7_fail 10 = .ok (.iconst 0, 1) := by decide +kernel
theorem dX7_fail_11 : decode cX7_fail 11 = .ok (.ireturn, 1) := by decide +kernel
theorem dX7_peek_0 : decode cX7_peek 0 = .ok (.aload_n 0, 1) := by decide +kernel
theorem dX7_peek_1 : decode cX7_peek 1 = .ok (.getfield 31, 3) := by decide +kernel
theorem dX7_peek_4 : decode cX7_peek 4 = .ok (.aload_n 0, 1) := by decide +kernel
theorem dX7_peek_5 : decode cX7_peek 5 = .ok (.getfield 28, 3) := by decide +kernel
theorem dX7_peek_8 : decode cX7_peek 8 = .ok (.if_icmp .ge 30, 3) := by decide +kernel
theorem dX7_peek_11 : decode cX7_peek 11 = .ok (.aload_n 0, 1) := by decide +kernel
theorem dX7_peek_12 : decode cX7_peek 12 = .ok (.getfield 9, 3) := by decide +kernel
theorem dX7_peek_15 : decode cX7_peek 15 = .ok (.aload_n 0, 1) := by decide +kernel
theorem dX7_peek_16 : decode cX7_peek 16 = .ok (.getfield 31, 3) := by decide +kernel
theorem dX7_peek_19 : decode cX7_peek 19 = .ok (.iaload, 1) := by decide +kernel
theorem dX7_peek_20 : decode cX7_peek 20 = .ok (.bipush 32, 2) := by decide +kernel
theorem dX7_peek_22 : decode cX7_peek 22 = .ok (.if_icmp .ne 16, 3) := by decide +kernel
theorem dX7_peek_25 : decode cX7_peek 25 = .ok (.aload_n 0, 1) := by decide +kernel
theorem dX7_peek_26 : decode cX7_peek 26 = .ok (.dup, 1) := by decide +kernel
theorem dX7_peek_27 : decode cX7_peek 27 = .ok (.getfield 31, 3) := by decide +kernel
theorem dX7_peek_30 : decode cX7_peek 30 = .ok (.iconst 1, 1) := by decide +kernel
theorem dX7_peek_31 : decode cX7_peek 31 = .ok (.iadd, 1) := by decide +kernel
theorem dX7_peek_32 : decode cX7_peek 32 = .ok (.putfield 31, 3) := by decide +kernel
theorem dX7_peek_35 : decode cX7_peek 35 = .ok (.goto (-35), 3) := by decide +kernel
theorem dX7_peek_38 : decode cX7_peek 38 = .ok (.aload_n 0, 1) := by decide +kernel
theorem dX7_peek_39 : decode cX7_peek 39 = .ok (.getfield 31, 3) := by decide +kernel
theorem dX7_peek_42 : decode cX7_peek 42 = .ok (.aload_n 0, 1) := by decide +kernel
theorem dX7_peek_43 : decode cX7_peek 43 = .ok (.getfield 28, 3) := by decide +kernel
theorem dX7_peek_46 : decode cX7_peek 46 = .ok (.if_icmp .ge 15, 3) := by decide +kernel
theorem dX7_peek_49 : decode cX7_peek 49 = .ok (.aload_n 0, 1) := by decide +kernel
theorem dX7_peek_50 : decode cX7_peek 50 = .ok (.getfield 9, 3) := by decide +kernel
theorem dX7_peek_53 : decode cX7_peek 53 = .ok (.aload_n 0, 1) := by decide +kernel
theorem dX7_peek_54 : decode cX7_peek 54 = .ok (.getfield 31, 3) := by decide +kernel
theorem dX7_peek_57 : decode cX7_peek 57 = .ok (.iaload, 1) := by decide +kernel
theorem dX7_peek_58 : decode cX7_peek 58 = .ok (.goto 4, 3) := by decide +kernel
theorem dX7_peek_61 : decode cX7_peek 61 = .ok (.iconst (-1), 1) := by decide +kernel
theorem dX7_peek_62 : decode cX7_peek 62 = .ok (.ireturn, 1) := by decide +kernel
theorem dX7_isAtDigit_0 : decode cX7_isAtDigit 0 = .ok (.aload_n 0, 1) := by decide +kernel
theorem dX7_isAtDigit_1 : decode cX7_isAtDigit 1 = .ok (.invokevirtual 37, 3) := by decide +kernel
theorem dX7_isAtDigit_4 : decode cX7_isAtDigit 4 = .ok (.istore_n 1, 1) := by decide +kernel
theorem dX7_isAtDigit_5 : decode cX7_isAtDigit 5 = .ok (.iload_n 1, 1) := by decide +kernel
theorem dX7_isAtDigit_6 : decode cX7_isAtDigit 6 = .ok (.bipush 48, 2) := by decide +kernel
theorem dX7_isAtDigit_8 : decode cX7_isAtDigit 8 = .ok (.if_icmp .lt 13, 3) := by decide +kernel
theorem dX7_isAtDigit_11 : decode cX7_isAtDigit 11 = .ok (.iload_n 1, 1) := by decide +kernel
theorem dX7_isAtDigit_12 : decode cX7_isAtDigit 12 = .ok (.bipush 57, 2) := by decide +kernel
theorem dX7_isAtDigit_14 : decode cX7_isAtDigit 14 = .ok (.if_icmp .gt 7, 3) := by decide +kernel
theorem dX7_isAtDigit_17 : decode cX7_isAtDigit 17 = .ok (.iconst 1, 1) := by decide +kernel
theorem dX7_isAtDigit_18 : decode cX7_isAtDigit 18 = .ok (.goto 4, 3) := by decide +kernel
theorem dX7_isAtDigit_21 : decode cX7_isAtDigit 21 = .ok (.iconst 0, 1) := by decide +kernel
theorem dX7_isAtDigit_22 : decode cX7_isAtDigit 22 = .ok (.ireturn, 1) := by decide +kernel
theorem dX7_isAtLetter_0 : decode cX7_isAtLetter 0 = .ok (.aload_n 0, 1) := by decide +kernel
theorem dX7_isAtLetter_1 : decode cX7_isAtLetter 1 = .ok (.invokevirtual 37, 3) := by decide +kernel
theorem dX7_isAtLetter_4 : decode cX7_isAtLetter 4 = .ok (.istore_n 1, 1) := by decide +kernel
theorem dX7_isAtLetter_5 : decode cX7_isAtLetter 5 = .ok (.iload_n 1, 1) := by decide +kernel
theorem dX7_isAtLetter_6 : decode cX7_isAtLetter 6 = .ok (.bipush 97, 2) := by decide +kernel
theorem dX7_isAtLetter_8 : decode cX7_isAtLetter 8 = .ok (.if_icmp .lt 13, 3) := by decide +kernel
theorem dX7_isAtLetter_11 : decode cX7_isAtLetter 11 = .ok (.iload_n 1, 1) := by decide +kernel
theorem dX7_isAtLetter_12 : decode cX7_isAtLetter 12 = .ok (.bipush 122, 2) := by decide +kernel
theorem dX7_isAtLetter_14 : decode cX7_isAtLetter 14 = .ok (.if_icmp .gt 7, 3) := by decide +kernel
theorem dX7_isAtLetter_17 : decode cX7_isAtLetter 17 = .ok (.iconst 1, 1) := by decide +kernel
theorem dX7_isAtLetter_18 : decode cX7_isAtLetter 18 = .ok (.goto 4, 3) := by decide +kernel
theorem dX7_isAtLetter_21 : decode cX7_isAtLetter 21 = .ok (.iconst 0, 1) := by decide +kernel
theorem dX7_isAtLetter_22 : decode cX7_isAtLetter 22 = .ok (.ireturn, 1) := by decide +kernel
theorem dX7_takeSign_0 : decode cX7_takeSign 0 = .ok (.aload_n 0, 1) := by decide +kernel
theorem dX7_takeSign_1 : decode cX7_takeSign 1 = .ok (.invokevirtual 37, 3) := by decide +kernel
theorem dX7_takeSign_4 : decode cX7_takeSign 4 = .ok (.iload_n 1, 1) := by decide +kernel
theorem dX7_takeSign_5 : decode cX7_takeSign 5 = .ok (.if_icmp .eq 13, 3) := by decide +kernel
theorem dX7_takeSign_8 : decode cX7_takeSign 8 = .ok (.aload_n 0, 1) := by decide +kernel
theorem dX7_takeSign_9 : decode cX7_takeSign 9 = .ok (.iconst 1, 1) := by decide +kernel
theorem dX7_takeSign_10 : decode cX7_takeSign 10 = .ok (.aload_n 0, 1) := by decide +kernel
theorem dX7_takeSign_11 : decode cX7_takeSign 11 = .ok (.getfield 31, 3) := by decide +kernel
theorem dX7_takeSign_14 : decode cX7_takeSign 14 = .ok (.invokevirtual 41, 3) := by decide +kernel
theorem dX7_takeSign_17 : decode cX7_takeSign 17 = .ok (.ireturn, 1) := by decide +kernel
theorem dX7_takeSign_18 : decode cX7_takeSign 18 = .ok (.aload_n 0, 1) := by decide +kernel
theorem dX7_takeSign_19 : decode cX7_takeSign 19 = .ok (.dup, 1) := by decide +kernel
theorem dX7_takeSign_20 : decode cX7_takeSign 20 = .ok (.getfield 31, 3) := by decide +kernel
theorem dX7_takeSign_23 : decode cX7_takeSign 23 = .ok (.iconst 1, 1) := by decide +kernel
theorem dX7_takeSign_24 : decode cX7_takeSign 24 = .ok (.iadd, 1) := by decide +kernel
theorem dX7_takeSign_25 : decode cX7_takeSign 25 = .ok (.putfield 31, 3) := by decide +kernel
theorem dX7_takeSign_28 : decode cX7_takeSign 28 = .ok (.iconst 1, 1) := by decide +kernel
theorem dX7_takeSign_29 : decode cX7_takeSign 29 = .ok (.ireturn, 1) := by decide +kernel
theorem dX7_takeNumber_0 : decode cX7_takeNumber 0 = .ok (.aload_n 0, 1) := by decide +kernel
theorem dX7_takeNumber_1 : decode cX7_takeNumber 1 = .ok (.invokevirtual 37, 3) := by decide +kernel
theorem dX7_takeNumber_4 : decode cX7_takeNumber 4 = .ok (.istore_n 3, 1) := by decide +kernel
theorem dX7_takeNumber_5 : decode cX7_takeNumber 5 = .ok (.iload_n 3, 1) := by decide +kernel
theorem dX7_takeNumber_6 : decode cX7_takeNumber 6 = .ok (.bipush 48, 2) := by decide +kernel
theorem dX7_takeNumber_8 : decode cX7_takeNumber 8 = .ok (.if_icmp .lt 9, 3) := by decide +kernel
theorem dX7_takeNumber_11 : decode cX7_takeNumber 11 = .ok (.iload_n 3, 1) := by decide +kernel
theorem dX7_takeNumber_12 : decode cX7_takeNumber 12 = .ok (.bipush 57, 2) := by decide +kernel
theorem dX7_takeNumber_14 : decode cX7_takeNumber 14 = .ok (.if_icmp .le 13, 3) := by decide +kernel
theorem dX7_takeNumber_17 : decode cX7_takeNumber 17 = .ok (.aload_n 0, 1) := by decide +kernel
theorem dX7_takeNumber_18 : decode cX7_takeNumber 18 = .ok (.iconst 1, 1) := by decide +kernel
theorem dX7_takeNumber_19 : decode cX7_takeNumber 19 = .ok (.aload_n 0, 1) := by decide +kernel
theorem dX7_takeNumber_20 : decode cX7_takeNumber 20 = .ok (.getfield 31, 3) := by decide +kernel
theorem dX7_takeNumber_23 : decode cX7_takeNumber 23 = .ok (.invokevirtual 41, 3) := by decide +kernel
theorem dX7_takeNumber_26 : decode cX7_takeNumber 26 = .ok (.ireturn, 1) := by decide +kernel
theorem dX7_takeNumber_27 : decode cX7_takeNumber 27 = .ok (.aload_n 0, 1) := by decide +kernel
theorem dX7_takeNumber_28 : decode cX7_takeNumber 28 = .ok (.aload_n 0, 1) := by decide +kernel
theorem dX7_takeNumber_29 : decode cX7_takeNumber 29 = .ok (.getfield 31, 3) := by decide +kernel
theorem dX7_takeNumber_32 : decode cX7_takeNumber 32 = .ok (.putfield 45, 3) := by decide +kernel
theorem dX7_takeNumber_35 : decode cX7_takeNumber 35 = .ok (.aload_n 0, 1) := by decide +kernel
theorem dX7_takeNumber_36 : decode cX7_takeNumber 36 = .ok (.iconst 0, 1) := by decide +kernel
theorem dX7_takeNumber_37 : decode cX7_takeNumber 37 = .ok (.putfield 48, 3) := by decide +kernel
theorem dX7_takeNumber_40 : decode cX7_takeNumber 40 = .ok (.aload_n 0, 1) := by decide +kernel
theorem dX7_takeNumber_41 : decode cX7_takeNumber 41 = .ok (.getfield 31, 3) := by decide +kernel
theorem dX7_takeNumber_44 : decode cX7_takeNumber 44 = .ok (.aload_n 0, 1) := by decide +kernel
theorem dX7_takeNumber_45 : decode cX7_takeNumber 45 = .ok (.getfield 28, 3) := by decide +kernel
theorem dX7_takeNumber_48 : decode cX7_takeNumber 48 = .ok (.if_icmp .ge 73, 3) := by decide +kernel
theorem dX7_takeNumber_51 : decode cX7_takeNumber 51 = .ok (.aload_n 0, 1) := by decide +kernel
theorem dX7_takeNumber_52 : decode cX7_takeNumber 52 = .ok (.getfield 9, 3) := by decide +kernel
theorem dX7_takeNumber_55 : decode cX7_takeNumber 55 = .ok (.aload_n 0, 1) := by decide +kernel
theorem dX7_takeNumber_56 : decode cX7_takeNumber 56 = .ok (.getfield 31, 3) := by decide +kernel
theorem dX7_takeNumber_59 : decode cX7_takeNumber 59 = .ok (.iaload, 1) := by decide +kernel
theorem dX7_takeNumber_60 : decode cX7_takeNumber 60 = .ok (.bipush 48, 2) := by decide +kernel
theorem dX7_takeNumber_62 : decode cX7_takeNumber 62 = .ok (.if_icmp .lt 59, 3) := by decide +kernel
theorem dX7_takeNumber_65 : decode cX7_takeNumber 65 = .ok (.aload_n 0, 1) := by decide +kernel
theorem dX7_takeNumber_66 : decode cX7_takeNumber 66 = .ok (.getfield 9, 3) := by decide +kernel
theorem dX7_takeNumber_69 : decode cX7_takeNumber 69 = .ok (.aload_n 0, 1) := by decide +kernel
theorem dX7_takeNumber_70 : decode cX7_takeNumber 70 = .ok (.getfield 31, 3) := by decide +kernel
theorem dX7_takeNumber_73 : decode cX7_takeNumber 73 = .ok (.iaload, 1) := by decide +kernel
theorem dX7_takeNumber_74 : decode cX7_takeNumber 74 = .ok (.bipush 57, 2) := by decide +kernel
theorem dX7_takeNumber_76 : decode cX7_takeNumber 76 = .ok (.if_icmp .gt 45, 3) := by decide +kernel
theorem dX7_takeNumber_79 : decode cX7_takeNumber 79 = .ok (.aload_n 0, 1) := by decide +kernel
theorem dX7_takeNumber_80 : decode cX7_takeNumber 80 = .ok (.ldc 51, 2) := by decide +kernel
theorem dX7_takeNumber_82 : decode cX7_takeNumber 82 = .ok (.aload_n 0, 1) := by decide +kernel
theorem dX7_takeNumber_83 : decode cX7_takeNumber 83 = .ok (.getfield 48, 3) := by decide +kernel
theorem dX7_takeNumber_86 : decode cX7_takeNumber 86 = .ok (.bipush 10, 2) := by decide +kernel
theorem dX7_takeNumber_88 : decode cX7_takeNumber 88 = .ok (.imul, 1) := by decide +kernel
theorem dX7_takeNumber_89 : decode cX7_takeNumber 89 = .ok (.aload_n 0, 1) := by decide +kernel
theorem dX7_takeNumber_90 : decode cX7_takeNumber 90 = .ok (.getfield 9, 3) := by decide +kernel
theorem dX7_takeNumber_93 : decode cX7_takeNumber 93 = .ok (.aload_n 0, 1) := by decide +kernel
theorem dX7_takeNumber_94 : decode cX7_takeNumber 94 = .ok (.getfield 31, 3) := by decide +kernel
theorem dX7_takeNumber_97 : decode cX7_takeNumber 97 = .ok (.iaload, 1) := by decide +kernel
theorem dX7_takeNumber_98 : decode cX7_takeNumber 98 = .ok (.iadd, 1) := by decide +kernel
theorem dX7_takeNumber_99 : decode cX7_takeNumber 99 = .ok (.bipush 48, 2) := by decide +kernel
theorem dX7_takeNumber_101 : decode cX7_takeNumber 101 = .ok (.isub, 1) := by decide +kernel
theorem dX7_takeNumber_102 : decode cX7_takeNumber 102 = .ok (.invokestatic 22, 3) := by decide +kernel
theorem dX7_takeNumber_105 : decode cX7_takeNumber 105 = .ok (.putfield 48, 3) := by decide +kernel
theorem dX7_takeNumber_108 : decode cX7_takeNumber 108 = .ok (.aload_n 0, 1) := by decide +kernel
theorem dX7_takeNumber_109 : decode cX7_takeNumber 109 = .ok (.dup, 1) := by decide +kernel
theorem dX7_takeNumber_110 : decode cX7_takeNumber 110 = .ok (.getfield 31, 3) := by decide +kernel
theorem dX7_takeNumber_113 : decode cX7_takeNumber 113 = .ok (.iconst 1, 1) := by decide +kernel
theorem dX7_takeNumber_114 : decode cX7_takeNumber 114 = .ok (.iadd, 1) := by decide +kernel
theorem dX7_takeNumber_115 : decode cX7_takeNumber 115 = .ok (.putfield 31, 3) := by decide +kernel
theorem dX7_takeNumber_118 : decode cX7_takeNumber 118 = .ok (.goto (-78), 3) := by decide +kernel
theorem dX7_takeNumber_121 : decode cX7_takeNumber 121 = .ok (.aload_n 0, 1) := by decide +kernel
theorem dX7_takeNumber_122 : decode cX7_takeNumber 122 = .ok (.getfield 48, 3) := by decide +kernel
theorem dX7_takeNumber_125 : decode cX7_takeNumber 125 = .ok (.iload_n 1, 1) := by decide +kernel
theorem dX7_takeNumber_126 : decode cX7_takeNumber 126 = .ok (.if_icmp .lt 11, 3) := by decide +kernel
theorem dX7_takeNumber_129 : decode cX7_takeNumber 129 = .ok (.aload_n 0, 1) := by decide +kernel
theorem dX7_takeNumber_130 : decode cX7_takeNumber 130 = .ok (.getfield 48, 3) := by decide +kernel
theorem dX7_takeNumber_133 : decode cX7_takeNumber 133 = .ok (.iload_n 2, 1) := by decide +kernel
theorem dX7_takeNumber_134 : decode cX7_takeNumber 134 = .ok (.if_icmp .le 15, 3) := by decide +kernel
theorem dX7_takeNumber_137 : decode cX7_takeNumber 137 = .ok (.aload_n 0, 1) := by decide +kernel
theorem dX7_takeNumber_138 : decode cX7_takeNumber 138 = .ok (.iconst 2, 1) := by decide +kernel
theorem dX7_takeNumber_139 : decode cX7_takeNumber 139 = .ok (.aload_n 0, 1) := by decide +kernel
theorem dX7_takeNumber_140 : decode cX7_takeNumber 140 = .ok (.getfield 45, 3) := by decide +kernel
theorem dX7_takeNumber_143 : decode cX7_takeNumber 143 = .ok (.invokevirtual 41, 3) := by decide +kernel
theorem dX7_takeNumber_146 : decode cX7_takeNumber 146 = .ok (.ifCond .eq 7, 3) := by decide +kernel
theorem dX7_takeNumber_149 : decode cX7_takeNumber 149 = .ok (.iconst 1, 1) := by decide +kernel
theorem dX7_takeNumber_150 : decode cX7_takeNumber 150 = .ok (.goto 4, 3) := by decide +kernel
theorem dX7_takeNumber_153 : decode cX7_takeNumber 153 = .ok (.iconst 0, 1) := by decide +kernel
theorem dX7_takeNumber_154 : decode cX7_takeNumber 154 = .ok (.ireturn, 1) := by decide +kernel
theorem dX7_takeLetters_0 : decode cX7_takeLetters 0 = .ok (.aload_n 0, 1) := by decide +kernel
theorem dX7_takeLetters_1 : decode cX7_takeLetters 1 = .ok (.invokevirtual 52, 3) := by decide +kernel
theorem dX7_takeLetters_4 : decode cX7_takeLetters 4 = .ok (.ifCond .ne 13, 3) := by decide +kernel
theorem dX7_takeLetters_7 : decode cX7_takeLetters 7 = .ok (.aload_n 0, 1) := by decide +kernel
theorem dX7_takeLetters_8 : decode cX7_takeLetters 8 = .ok (.iconst 1, 1) := by decide +kernel
theorem dX7_takeLetters_9 : decode cX7_takeLetters 9 = .ok (.aload_n 0, 1) := by decide +kernel
theorem dX7_takeLetters_10 : decode cX7_takeLetters 10 = .ok (.getfield 31, 3) := by decide +kernel
theorem dX7_takeLetters_13 : decode cX7_takeLetters 13 = .ok (.invokevirtual 41, 3) := by decide +kernel
theorem dX7_takeLetters_16 : decode cX7_takeLetters 16 = .ok (.ireturn, 1) := by decide +kernel
theorem dX7_takeLetters_17 : decode cX7_takeLetters 17 = .ok (.aload_n 0, 1) := by decide +kernel
theorem dX7_takeLetters_18 : decode cX7_takeLetters 18 = .ok (.aload_n 0, 1) := by decide +kernel
theorem dX7_takeLetters_19 : decode cX7_takeLetters 19 = .ok (.getfield 31, 3) := by decide +kernel
theorem dX7_takeLetters_22 : decode cX7_takeLetters 22 = .ok (.putfield 45, 3) := by decide +kernel
theorem dX7_takeLetters_25 : decode cX7_takeLetters 25 = .ok (.aload_n 0, 1) := by decide +kernel
theorem dX7_takeLetters_26 : decode cX7_takeLetters 26 = .ok (.getfield 31, 3) := by decide +kernel
theorem dX7_takeLetters_29 : decode cX7_takeLetters 29 = .ok (.aload_n 0, 1) := by decide +kernel
theorem dX7_takeLetters_30 : decode cX7_takeLetters 30 = .ok (.getfield 28, 3) := by decide +kernel
theorem dX7_takeLetters_33 : decode cX7_takeLetters 33 = .ok (.if_icmp .ge 44, 3) := by decide +kernel
theorem dX7_takeLetters_36 : decode cX7_takeLetters 36 = .ok (.aload_n 0, 1) := by decide +kernel
theorem dX7_takeLetters_37 : decode cX7_takeLetters 37 = .ok (.getfield 9, 3) := by decide +kernel
theorem dX7_takeLetters_40 : decode cX7_takeLetters 40 = .ok (.aload_n 0, 1) := by decide +kernel
theorem dX7_takeLetters_41 : decode cX7_takeLetters 41 = .ok (.getfield 31, 3) := by decide +kernel
theorem dX7_takeLetters_44 : decode cX7_takeLetters 44 = .ok (.iaload, 1) := by decide +kernel
theorem dX7_takeLetters_45 : decode cX7_takeLetters 45 = .ok (.bipush 97, 2) := by decide +kernel
theorem dX7_takeLetters_47 : decode cX7_takeLetters 47 = .ok (.if_icmp .lt 30, 3) := by decide +kernel
theorem dX7_takeLetters_50 : decode cX7_takeLetters 50 = .ok (.aload_n 0, 1) := by decide +kernel
theorem dX7_takeLetters_51 : decode cX7_takeLetters 51 = .ok (.getfield 9, 3) := by decide +kernel
theorem dX7_takeLetters_54 : decode cX7_takeLetters 54 = .ok (.aload_n 0, 1) := by decide +kernel
theorem dX7_takeLetters_55 : decode cX7_takeLetters 55 = .ok (.getfield 31, 3) := by decide +kernel
theorem dX7_takeLetters_58 : decode cX7_takeLetters 58 = .ok (.iaload, 1) := by decide +kernel
theorem dX7_takeLetters_59 : decode cX7_takeLetters 59 = .ok (.bipush 122, 2) := by decide +kernel
theorem dX7_takeLetters_61 : decode cX7_takeLetters 61 = .ok (.if_icmp .gt 16, 3) := by decide +kernel
theorem dX7_takeLetters_64 : decode cX7_takeLetters 64 = .ok (.aload_n 0, 1) := by decide +kernel
theorem dX7_takeLetters_65 : decode cX7_takeLetters 65 = .ok (.dup, 1) := by decide +kernel
theorem dX7_takeLetters_66 : decode cX7_takeLetters 66 = .ok (.getfield 31, 3) := by decide +kernel
theorem dX7_takeLetters_69 : decode cX7_takeLetters 69 = .ok (.iconst 1, 1) := by decide +kernel
theorem dX7_takeLetters_70 : decode cX7_takeLetters 70 = .ok (.iadd, 1) := by decide +kernel
theorem dX7_takeLetters_71 : decode cX7_takeLetters 71 = .ok (.putfield 31, 3) := by decide +kernel
theorem dX7_takeLetters_74 : decode cX7_takeLetters 74 = .ok (.goto (-49), 3) := by decide +kernel
theorem dX7_takeLetters_77 : decode cX7_takeLetters 77 = .ok (.iconst 1, 1) := by decide +kernel
theorem dX7_takeLetters_78 : decode cX7_takeLetters 78 = .ok (.ireturn, 1) := by decide +kernel
theorem dX7_took_0 : decode cX7_took 0 = .ok (.aload_n 0, 1) := by decide +kernel
theorem dX7_took_1 : decode cX7_took 1 = .ok (.getfield 31, 3) := by decide +kernel
theorem dX7_took_4 : decode cX7_took 4 = .ok (.aload_n 0, 1) := by decide +kernel
theorem dX7_took_5 : decode cX7_took 5 = .ok (.getfield 45, 3) := by decide +kernel
theorem dX7_took_8 : decode cX7_took 8 = .ok (.isub, 1) := by decide +kernel
theorem dX7_took_9 : decode cX7_took 9 = .ok (.aload_n 1, 1) := by decide +kernel
theorem dX7_took_10 : decode cX7_took 10 = .ok (.invokevirtual 56, 3) := by decide +kernel
theorem dX7_took_13 : decode cX7_took 13 = .ok (.if_icmp .eq 5, 3) := by decide +kernel
theorem dX7_took_16 : decode cX7_took 16 = .ok (.iconst 0, 1) := by decide +kernel
theorem dX7_took_17 : decode cX7_took 17 = .ok (.ireturn, 1) := by decide +kernel
theorem dX7_took_18 : decode cX7_took 18 = .ok (.iconst 0, 1) := by decide +kernel
theorem dX7_took_19 : decode cX7_took 19 = .ok (.istore_n 2, 1) := by decide +kernel
theorem dX7_took_20 : decode cX7_took 20 = .ok (.iload_n 2, 1) := by decide +kernel
theorem dX7_took_21 : decode cX7_took 21 = .ok (.aload_n 1, 1) := by decide +kernel
theorem dX7_took_22 : decode cX7_took 22 = .ok (.invokevirtual 56, 3) := by decide +kernel
theorem dX7_took_25 : decode cX7_took 25 = .ok (.if_icmp .ge 43, 3) := by decide +kernel
theorem dX7_took_28 : decode cX7_took 28 = .ok (.aload_n 0, 1) := by decide +kernel
theorem dX7_took_29 : decode cX7_took 29 = .ok (.getfield 45, 3) := by decide +kernel
theorem dX7_took_32 : decode cX7_took 32 = .ok (.iload_n 2, 1) := by decide +kernel
theorem dX7_took_33 : decode cX7_took 33 = .ok (.iadd, 1) := by decide +kernel
theorem dX7_took_34 : decode cX7_took 34 = .ok (.aload_n 0, 1) := by decide +kernel
theorem dX7_took_35 : decode cX7_took 35 = .ok (.getfield 28, 3) := by decide +kernel
theorem dX7_took_38 : decode cX7_took 38 = .ok (.if_icmp .ge 30, 3) := by decide +kernel
theorem dX7_took_41 : decode cX7_took 41 = .ok (.aload_n 0, 1) := by decide +kernel
theorem dX7_took_42 : decode cX7_took 42 = .ok (.getfield 9, 3) := by decide +kernel
theorem dX7_took_45 : decode cX7_took 45 = .ok (.aload_n 0, 1) := by decide +kernel
theorem dX7_took_46 : decode cX7_took 46 = .ok (.getfield 45, 3) := by decide +kernel
theorem dX7_took_49 : decode cX7_took 49 = .ok (.iload_n 2, 1) := by decide +kernel
theorem dX7_took_50 : decode cX7_took 50 = .ok (.iadd, 1) := by decide +kernel
theorem dX7_took_51 : decode cX7_took 51 = .ok (.iaload, 1) := by decide +kernel
theorem dX7_took_52 : decode cX7_took 52 = .ok (.aload_n 1, 1) := by decide +kernel
theorem dX7_took_53 : decode cX7_took 53 = .ok (.iload_n 2, 1) := by decide +kernel
theorem dX7_took_54 : decode cX7_took 54 = .ok (.invokevirtual 60, 3) := by decide +kernel
theorem dX7_took_57 : decode cX7_took 57 = .ok (.if_icmp .eq 5, 3) := by decide +kernel
theorem dX7_took_60 : decode cX7_took 60 = .ok (.iconst 0, 1) := by decide +kernel
theorem dX7_took_61 : decode cX7_took 61 = .ok (.ireturn, 1) := by decide +kernel
theorem dX7_took_62 : decode cX7_took 62 = .ok (.iinc 2 1, 3) := by decide +kernel
theorem dX7_took_65 : decode cX7_took 65 = .ok (.goto (-45), 3) := by decide +kernel
theorem dX7_took_68 : decode cX7_took 68 = .ok (.iconst 1, 1) := by decide +kernel
theorem dX7_took_69 : decode cX7_took 69 = .ok (.ireturn, 1) := by decide +kernel
theorem dX8_init_0 : decode cX8_init 0 = .ok (.aload_n 0, 1) := by decide +kernel
theorem dX8_init_1 : decode cX8_init 1 = .ok (.invokespecial 1, 3) := by decide +kernel
theorem dX8_init_4 : decode cX8_init 4 = .ok (.aload_n 0, 1) := by decide +kernel
theorem dX8_init_5 : decode cX8_init 5 = .ok (.new 7, 3) := by decide +kernel
theorem dX8_init_8 : decode cX8_init 8 = .ok (.dup, 1) := by decide +kernel
theorem dX8_init_9 : decode cX8_init 9 = .ok (.invokespecial 9, 3) := by decide +kernel
theorem dX8_init_12 : decode cX8_init 12 = .ok (.putfield 10, 3) := by decide +kernel
theorem dX8_init_15 : decode cX8_init 15 = .ok (.aload_n 0, 1) := by decide +kernel
theorem dX8_init_16 : decode cX8_init 16 = .ok (.new 16, 3) := by decide +kernel
theorem dX8_init_19 : decode cX8_init 19 = .ok (.dup, 1) := by decide +kernel
theorem dX8_init_20 : decode cX8_init 20 = .ok (.invokespecial 18, 3) := by decide +kernel
theorem dX8_init_23 : decode cX8_init 23 = .ok (.putfield 19, 3) := by decide +kernel
theorem dX8_init_26 : decode cX8_init 26 = .ok (.aload_n 0, 1) := by decide +kernel
theorem dX8_init_27 : decode cX8_init 27 = .ok (.new 16, 3) := by decide +kernel
theorem dX8_init_30 : decode cX8_init 30 = .ok (.dup, 1) := by decide +kernel
theorem dX8_init_31 : decode cX8_init 31 = .ok (.invokespecial 18, 3) := by decide +kernel
theorem dX8_init_34 : decode cX8_init 34 = .ok (.putfield 23, 3) := by decide +kernel
theorem dX8_init_37 : decode cX8_init 37 = .ok (.aload_n 0, 1) := by decide +kernel
theorem dX8_init_38 : decode cX8_init 38 = .ok (.new 26, 3) := by decide +kernel
theorem dX8_init_41 : decode cX8_init 41 = .ok (.dup, 1) := by decide +kernel
theorem dX8_init_42 : decode cX8_init 42 = .ok (.invokespecial 28, 3) := by decide +kernel
theorem dX8_init_45 : decode cX8_init 45 = .ok (.putfield 29, 3) := by decide +kernel
theorem dX8_init_48 : decode cX8_init 48 = .ok (.aload_n 0, 1) := by decide +kernel
theorem dX8_init_49 : decode cX8_init 49 = .ok (.new 26, 3) := by decide +kernel
theorem dX8_init_52 : decode cX8_init 52 = .ok (.dup, 1) := by decide +kernel
theorem dX8_init_53 : decode cX8_init 53 = .ok (.invokespecial 28, 3) := by decide +kernel
theorem dX8_init_56 : decode cX8_init 56 = .ok (.putfield 33, 3) := by decide +kernel
theorem dX8_init_59 : decode cX8_init 59 = .ok (.aload_n 0, 1) := by decide +kernel
theorem dX8_init_60 : decode cX8_init 60 = .ok (.new 36, 3) := by decide +kernel
theorem dX8_init_63 : decode cX8_init 63 = .ok (.dup, 1) := by decide +kernel
theorem dX8_init_64 : decode cX8_init 64 = .ok (.invokespecial 38, 3) := by decide +kernel
theorem dX8_init_67 : decode cX8_init 67 = .ok (.putfield 39, 3) := by decide +kernel
theorem dX8_init_70 : decode cX8_init 70 = .ok (.aload_n 0, 1) := by decide +kernel
theorem dX8_init_71 : decode cX8_init 71 = .ok (.new 36, 3) := by decide +kernel
theorem dX8_init_74 : decode cX8_init 74 = .ok (.dup, 1) := by decide +kernel
theorem dX8_init_75 : decode cX8_init 75 = .ok (.invokespecial 38, 3) := by decide +kernel
theorem dX8_init_78 : decode cX8_init 78 = .ok (.putfield 43, 3) := by decide +kernel
theorem dX8_init_81 : decode cX8_init 81 = .ok (.aload_n 0, 1) := by decide +kernel
theorem dX8_init_82 : decode cX8_init 82 = .ok (.new 46, 3) := by decide +kernel
theorem dX8_init_85 : decode cX8_init 85 = .ok (.dup, 1) := by decide +kernel
theorem dX8_init_86 : decode cX8_init 86 = .ok (.invokespecial 48, 3) := by decide +kernel
theorem dX8_init_89 : decode cX8_init 89 = .ok (.putfield 49, 3) := by decide +kernel
theorem dX8_init_92 : decode cX8_init 92 = .ok (.aload_n 0, 1) := by decide +kernel
theorem dX8_init_93 : decode cX8_init 93 = .ok (.new 53, 3) := by decide +kernel
theorem dX8_init_96 : decode cX8_init 96 = .ok (.dup, 1) := by decide +kernel
theorem dX8_init_97 : decode cX8_init 97 = .ok (.aload_n 0, 1) := by decide +kernel
theorem dX8_init_98 : decode cX8_init 98 = .ok (.getfield 19, 3) := by decide +kernel
theorem dX8_init_101 : decode cX8_init 101 = .ok (.aload_n 0, 1) := by decide +kernel
theorem dX8_init_102 : decode cX8_init 102 = .ok (.getfield 29, 3) := by decide +kernel
theorem dX8_init_105 : decode cX8_init 105 = .ok (.invokespecial 55, 3) := by decide +kernel
theorem dX8_init_108 : decode cX8_init 108 = .ok (.putfield 58, 3) := by decide +kernel
theorem dX8_init_111 : decode cX8_init 111 = .ok (.aload_n 0, 1) := by decide +kernel
theorem dX8_init_112 : decode cX8_init 112 = .ok (.new 53, 3) := by decide +kernel
theorem dX8_init_115 : decode cX8_init 115 = .ok (.dup, 1) := by decide +kernel
theorem dX8_init_116 : decode cX8_init 116 = .ok (.aload_n 0, 1) := by decide +kernel
theorem dX8_init_117 : decode cX8_init 117 = .ok (.getfield 19, 3) := by decide +kernel
theorem dX8_init_120 : decode cX8_init 120 = .ok (.aload_n 0, 1) := by decide +kernel
theorem dX8_init_121 : decode cX8_init 121 = .ok (.getfield 29, 3) := by decide +kernel
theorem dX8_init_124 : decode cX8_init 124 = .ok (.invokespecial 55, 3) := by decide +kernel
theorem dX8_init_127 : decode cX8_init 127 = .ok (.putfield 62, 3) := by decide +kernel
theorem dX8_init_130 : decode cX8_init 130 = .ok (.aload_n 0, 1) := by decide +kernel
theorem dX8_init_131 : decode cX8_init 131 = .ok (.new 65, 3) := by decide +kernel
theorem dX8_init_134 : decode cX8_init 134 = .ok (.dup, 1) := by decide +kernel
theorem dX8_init_135 : decode cX8_init 135 = .ok (.invokespecial 67, 3) := by decide +kernel
theorem dX8_init_138 : decode cX8_init 138 = .ok (.putfield 68, 3) := by decide +kernel
theorem dX8_init_141 : decode cX8_init 141 = .ok (.aload_n 0, 1) := by decide +kernel
theorem dX8_init_142 : decode cX8_init 142 = .ok (.new 72, 3) := by decide +kernel
theorem dX8_init_145 : decode cX8_init 145 = .ok (.dup, 1) := by decide +kernel
theorem dX8_init_146 : decode cX8_init 146 = .ok (.aload_n 0, 1) := by decide +kernel
theorem dX8_init_147 : decode cX8_init 147 = .ok (.getfield 19, 3) := by decide +kernel
theorem dX8_init_150 : decode cX8_init 150 = .ok (.invokespecial 74, 3) := by decide +kernel
theorem dX8_init_153 : decode cX8_init 153 = .ok (.putfield 77, 3) := by decide +kernel
theorem dX8_init_156 : decode cX8_init 156 = .ok (.return_, 1) := by decide +kernel
theorem dX8_feed_0 : decode cX8_feed 0 = .ok (.aload_n 0, 1) := by decide +kernel
theorem dX8_feed_1 : decode cX8_feed 1 = .ok (.getfield 10, 3) := by decide +kernel
theorem dX8_feed_4 : decode cX8_feed 4 = .ok (.getfield 81, 3) := by decide +kernel
theorem dX8_feed_7 : decode cX8_feed 7 = .ok (.bipush 20, 2) := by decide +kernel
theorem dX8_feed_9 : decode cX8_feed 9 = .ok (.iadd, 1) := by decide +kernel
theorem dX8_feed_10 : decode cX8_feed 10 = .ok (.sipush 600, 3) := by decide +kernel
theorem dX8_feed_13 : decode cX8_feed 13 = .ok (.if_icmp .le 5, 3) := by decide +kernel
theorem dX8_feed_16 : decode cX8_feed 16 = .ok (.iconst (-1), 1) := by decide +kernel
theorem dX8_feed_17 : decode cX8_feed 17 = .ok (.ireturn, 1) := by decide +kernel
theorem dX8_feed_18 : decode cX8_feed 18 = .ok (.aload_n 0, 1) := by decide +kernel
theorem dX8_feed_19 : decode cX8_feed 19 = .ok (.getfield 10, 3) := by decide +kernel
theorem dX8_feed_22 : decode cX8_feed 22 = .ok (.iload_n 1, 1) := by decide +kernel
theorem dX8_feed_23 : decode cX8_feed 23 = .ok (.invokevirtual 85, 3) := by decide +kernel
theorem dX8_feed_26 : decode cX8_feed 26 = .ok (.aload_n 0, 1) := by decide +kernel
theorem dX8_feed_27 : decode cX8_feed 27 = .ok (.getfield 10, 3) := by decide +kernel
theorem dX8_feed_30 : decode cX8_feed 30 = .ok (.iload_n 2, 1) := by decide +kernel
theorem dX8_feed_31 : decode cX8_feed 31 = .ok (.invokevirtual 85, 3) := by decide +kernel
theorem dX8_feed_34 : decode cX8_feed 34 = .ok (.aload_n 0, 1) := by decide +kernel
theorem dX8_feed_35 : decode cX8_feed 35 = .ok (.getfield 10, 3) := by decide +kernel
theorem dX8_feed_38 : decode cX8_feed 38 = .ok (.iload_n 3, 1) := by decide +kernel
theorem dX8_feed_39 : decode cX8_feed 39 = .ok (.invokevirtual 85, 3) := by decide +kernel
theorem dX8_feed_42 : decode cX8_feed 42 = .ok (.aload_n 0, 1) := by decide +kernel
theorem dX8_feed_43 : decode cX8_feed 43 = .ok (.getfield 10, 3) := by decide +kernel
theorem dX8_feed_46 : decode cX8_feed 46 = .ok (.iload 4, 2) := by decide +kernel
theorem dX8_feed_48 : decode cX8_feed 48 = .ok (.invokevirtual 85, 3) := by decide +kernel
theorem dX8_feed_51 : decode cX8_feed 51 = .ok (.aload_n 0, 1) := by decide +kernel
theorem dX8_feed_52 : decode cX8_feed 52 = .ok (.getfield 10, 3) := by decide +kernel
theorem dX8_feed_55 : decode cX8_feed 55 = .ok (.iload 5, 2) := by decide +kernel
theorem dX8_feed_57 : decode cX8_feed 57 = .ok (.invokevirtual 85, 3) := by decide +kernel
theorem dX8_feed_60 : decode cX8_feed 60 = .ok (.aload_n 0, 1) := by decide +kernel
theorem dX8_feed_61 : decode cX8_feed 61 = .ok (.getfield 10, 3) := by decide +kernel
theorem dX8_feed_64 : decode cX8_feed 64 = .ok (.getfield 81, 3) := by decide +kernel
theorem dX8_feed_67 : decode cX8_feed 67 = .ok (.ireturn, 1) := by decide +kernel
theorem dX8_page_0 : decode cX8_page 0 = .ok (.aload_n 0, 1) := by decide +kernel
theorem dX8_page_1 : decode cX8_page 1 = .ok (.iload_n 1, 1) := by decide +kernel
theorem dX8_page_2 : decode cX8_page 2 = .ok (.sipush 600, 3) := by decide +kernel
theorem dX8_page_5 : decode cX8_page 5 = .ok (.invokevirtual 89, 3) := by decide +kernel
theorem dX8_page_8 : decode cX8_page 8 = .ok (.aload_n 0, 1) := by decide +kernel
theorem dX8_page_9 : decode cX8_page 9 = .ok (.getfield 23, 3) := by decide +kernel
theorem dX8_page_12 : decode cX8_page 12 = .ok (.aload_n 0, 1) := by decide +kernel
theorem dX8_page_13 : decode cX8_page 13 = .ok (.getfield 10, 3) := by decide +kernel
theorem dX8_page_16 : decode cX8_page 16 = .ok (.invokevirtual 93, 3) := by decide +kernel
theorem dX8_page_19 : decode cX8_page 19 = .ok (.ifCond .ne 14, 3) := by decide +kernel
theorem dX8_page_22 : decode cX8_page 22 = .ok (.aload_n 0, 1) := by decide +kernel
theorem dX8_page_23 : decode cX8_page 23 = .ok (.getfield 10, 3) := by decide +kernel
theorem dX8_page_26 : decode cX8_page 26 = .ok (.getfield 97, 3) := by decide +kernel
theorem dX8_page_29 : decode cX8_page 29 = .ok (.bipush 10, 2) := by decide +kernel
theorem dX8_page_31 : decode cX8_page 31 = .ok (.isub, 1) := by decide +kernel
theorem dX8_page_32 : decode cX8_page 32 = .ok (.ireturn, 1) := by decide +kernel
theorem dX8_page_33 : decode cX8_page 33 = .ok (.aload_n 0, 1) := by decide +kernel
theorem dX8_page_34 : decode cX8_page 34 = .ok (.getfield 19, 3) := by decide +kernel
theorem dX8_page_37 : decode cX8_page 37 = .ok (.aload_n 0, 1) := by decide +kernel
theorem dX8_page_38 : decode cX8_page 38 = .ok (.getfield 23, 3) := by decide +kernel
theorem dX8_page_41 : decode cX8_page 41 = .ok (.invokevirtual 100, 3) := by decide +kernel
theorem dX8_page_44 : decode cX8_page 44 = .ok (.aload_n 0, 1) := by decide +kernel
theorem dX8_page_45 : decode cX8_page 45 = .ok (.getfield 29, 3) := by decide +kernel
theorem dX8_page_48 : decode cX8_page 48 = .ok (.invokevirtual 103, 3) := by decide +kernel
theorem dX8_page_51 : decode cX8_page 51 = .ok (.aload_n 0, 1) := by decide +kernel
theorem dX8_page_52 : decode cX8_page 52 = .ok (.getfield 39, 3) := by decide +kernel
theorem dX8_page_55 : decode cX8_page 55 = .ok (.iconst 0, 1) := by decide +kernel
theorem dX8_page_56 : decode cX8_page 56 = .ok (.putfield 106, 3) := by decide +kernel
theorem dX8_page_59 : decode cX8_page 59 = .ok (.aload_n 0, 1) := by decide +kernel
theorem dX8_page_60 : decode cX8_page 60 = .ok (.getfield 68, 3) := by decide +kernel
theorem dX8_page_63 : decode cX8_page 63 = .ok (.invokevirtual 109, 3) := by decide +kernel
theorem dX8_page_66 : decode cX8_page 66 = .ok (.aload_n 0, 1) := by decide +kernel
theorem dX8_page_67 : decode cX8_page 67 = .ok (.getfield 58, 3) := by decide +kernel
theorem dX8_page_70 : decode cX8_page 70 = .ok (.invokevirtual 112, 3) := by decide +kernel
theorem dX8_page_73 : decode cX8_page 73 = .ok (.aload_n 0, 1) := by decide +kernel
theorem dX8_page_74 : decode cX8_page 74 = .ok (.iconst 0, 1) := by decide +kernel
theorem dX8_page_75 : decode cX8_page 75 = .ok (.putfield 115, 3) := by decide +kernel
theorem dX8_page_78 : decode cX8_page 78 = .ok (.aload_n 0, 1) := by decide +kernel
theorem dX8_page_79 : decode cX8_page 79 = .ok (.getfield 19, 3) := by decide +kernel
theorem dX8_page_82 : decode cX8_page 82 = .ok (.getfield 118, 3) := by decide +kernel
theorem dX8_page_85 : decode cX8_page 85 = .ok (.ireturn, 1) := by decide +kernel
theorem dX8_law_0 : decode cX8_law 0 = .ok (.aload_n 0, 1) := by decide +kernel
theorem dX8_law_1 : decode cX8_law 1 = .ok (.iload_n 1, 1) := by decide +kernel
theorem dX8_law_2 : decode cX8_law 2 = .ok (.sipush 150, 3) := by decide +kernel
theorem dX8_law_5 : decode cX8_law 5 = .ok (.invokevirtual 89, 3) := by decide +kernel
theorem dX8_law_8 : decode cX8_law 8 = .ok (.aload_n 0, 1) := by decide +kernel
theorem dX8_law_9 : decode cX8_law 9 = .ok (.getfield 33, 3) := by decide +kernel
theorem dX8_law_12 : decode cX8_law 12 = .ok (.aload_n 0, 1) := by decide +kernel
theorem dX8_law_13 : decode cX8_law 13 = .ok (.getfield 10, 3) := by decide +kernel
theorem dX8_law_16 : decode cX8_law 16 = .ok (.invokevirtual 121, 3) := by decide +kernel
theorem dX8_law_19 : decode cX8_law 19 = .ok (.ifCond .ne 14, 3) := by decide +kernel
theorem dX8_law_22 : decode cX8_law 22 = .ok (.aload_n 0, 1) := by decide +kernel
theorem dX8_law_23 : decode cX8_law 23 = .ok (.getfield 10, 3) := by decide +kernel
theorem dX8_law_26 : decode cX8_law 26 = .ok (.getfield 97, 3) := by decide +kernel
theorem dX8_law_29 : decode cX8_law 29 = .ok (.bipush 10, 2) := by decide +kernel
theorem dX8_law_31 : decode cX8_law 31 = .ok (.isub, 1) := by decide +kernel
theorem dX8_law_32 : decode cX8_law 32 = .ok (.ireturn, 1) := by decide +kernel
theorem dX8_law_33 : decode cX8_law 33 = .ok (.aload_n 0, 1) := by decide +kernel
theorem dX8_law_34 : decode cX8_law 34 = .ok (.getfield 29, 3) := by decide +kernel
theorem dX8_law_37 : decode cX8_law 37 = .ok (.aload_n 0, 1) := by decide +kernel
theorem dX8_law_38 : decode cX8_law 38 = .ok (.getfield 33, 3) := by decide +kernel
theorem dX8_law_41 : decode cX8_law 41 = .ok (.invokevirtual 122, 3) := by decide +kernel
theorem dX8_law_44 : decode cX8_law 44 = .ok (.iconst 1, 1) := by decide +kernel
theorem dX8_law_45 : decode cX8_law 45 = .ok (.ireturn, 1) := by decide +kernel
theorem dX8_work_0 : decode cX8_work 0 = .ok (.aload_n 0, 1) := by decide +kernel
theorem dX8_work_1 : decode cX8_work 1 = .ok (.iload_n 1, 1) := by decide +kernel
theorem dX8_work_2 : decode cX8_work 2 = .ok (.sipush 150, 3) := by decide +kernel
theorem dX8_work_5 : decode cX8_work 5 = .ok (.invokevirtual 89, 3) := by decide +kernel
theorem dX8_work_8 : decode cX8_work 8 = .ok (.aload_n 0, 1) := by decide +kernel
theorem dX8_work_9 : decode cX8_work 9 = .ok (.getfield 68, 3) := by decide +kernel
theorem dX8_work_12 : decode cX8_work 12 = .ok (.getfield 125, 3) := by decide +kernel
theorem dX8_work_15 : decode cX8_work 15 = .ok (.bipush 16, 2) := by decide +kernel
theorem dX8_work_17 : decode cX8_work 17 = .ok (.if_icmp .lt 6, 3) := by decide +kernel
theorem dX8_work_20 : decode cX8_work 20 = .ok (.bipush (-20), 2) := by decide +kernel
theorem dX8_work_22 : decode cX8_work 22 = .ok (.ireturn, 1) := by decide +kernel
theorem dX8_work_23 : decode cX8_work 23 = .ok (.aload_n 0, 1) := by decide +kernel
theorem dX8_work_24 : decode cX8_work 24 = .ok (.getfield 49, 3) := by decide +kernel
theorem dX8_work_27 : decode cX8_work 27 = .ok (.aload_n 0, 1) := by decide +kernel
theorem dX8_work_28 : decode cX8_work 28 = .ok (.getfield 10, 3) := by decide +kernel
theorem dX8_work_31 : decode cX8_work 31 = .ok (.aload_n 0, 1) := by decide +kernel
theorem dX8_work_32 : decode cX8_work 32 = .ok (.getfield 19, 3) := by decide +kernel
theorem dX8_work_35 : decode cX8_work 35 = .ok (.getfield 128, 3) := by decide +kernel
theorem dX8_work_38 : decode cX8_work 38 = .ok (.invokevirtual 131, 3) := by decide +kernel
theorem dX8_work_41 : decode cX8_work 41 = .ok (.ifCond .ne 14, 3) := by decide +kernel
theorem dX8_work_44 : decode cX8_work 44 = .ok (.aload_n 0, 1) := by decide +kernel
theorem dX8_work_45 : decode cX8_work 45 = .ok (.getfield 10, 3) := by decide +kernel
theorem dX8_work_48 : decode cX8_work 48 = .ok (.getfield 97, 3) := by decide +kernel
theorem dX8_work_51 : decode cX8_work 51 = .ok (.bipush 10, 2) := by decide +kernel
theorem dX8_work_53 : decode cX8_work 53 = .ok (.isub, 1) := by decide +kernel
theorem dX8_work_54 : decode cX8_work 54 = .ok (.ireturn, 1) := by decide +kernel
theorem dX8_work_55 : decode cX8_work 55 = .ok (.aload_n 0, 1) := by decide +kernel
theorem dX8_work_56 : decode cX8_work 56 = .ok (.getfield 68, 3) := by decide +kernel
theorem dX8_work_59 : decode cX8_work 59 = .ok (.aload_n 0, 1) := by decide +kernel
theorem dX8_work_60 : decode cX8_work 60 = .ok (.getfield 58, 3) := by decide +kernel
theorem dX8_work_63 : decode cX8_work 63 = .ok (.invokevirtual 134, 3) := by decide +kernel
theorem dX8_work_66 : decode cX8_work 66 = .ok (.aload_n 0, 1) := by decide +kernel
theorem dX8_work_67 : decode cX8_work 67 = .ok (.getfield 49, 3) := by decide +kernel
theorem dX8_work_70 : decode cX8_work 70 = .ok (.invokevirtual 138, 3) := by decide +kernel
theorem dX8_work_73 : decode cX8_work 73 = .ok (.aload_n 0, 1) := by decide +kernel
theorem dX8_work_74 : decode cX8_work 74 = .ok (.getfield 49, 3) := by decide +kernel
theorem dX8_work_77 : decode cX8_work 77 = .ok (.aload_n 0, 1) := by decide +kernel
theorem dX8_work_78 : decode cX8_work 78 = .ok (.getfield 58, 3) := by decide +kernel
theorem dX8_work_81 : decode cX8_work 81 = .ok (.iconst 0, 1) := by decide +kernel
theorem dX8_work_82 : decode cX8_work 82 = .ok (.aload_n 0, 1) := by decide +kernel
theorem dX8_work_83 : decode cX8_work 83 = .ok (.getfield 49, 3) := by decide +kernel
theorem dX8_work_86 : decode cX8_work 86 = .ok (.getfield 141, 3) := by decide +kernel
theorem dX8_work_89 : decode cX8_work 89 = .ok (.iconst 0, 1) := by decide +kernel
theorem dX8_work_90 : decode cX8_work 90 = .ok (.invokevirtual 142, 3) := by decide +kernel
theorem dX8_work_93 : decode cX8_work 93 = .ok (.aload_n 0, 1) := by decide +kernel
theorem dX8_work_94 : decode cX8_work 94 = .ok (.aload_n 0, 1) := by decide +kernel
theorem dX8_work_95 : decode cX8_work 95 = .ok (.getfield 49, 3) := by decide +kernel
theorem dX8_work_98 : decode cX8_work 98 = .ok (.getfield 146, 3) := by decide +kernel
theorem dX8_work_101 : decode cX8_work 101 = .ok (.putfield 115, 3) := by decide +kernel
theorem dX8_work_104 : decode cX8_work 104 = .ok (.aload_n 0, 1) := by decide +kernel
theorem dX8_work_105 : decode cX8_work 105 = .ok (.getfield 49, 3) := by decide +kernel
theorem dX8_work_108 : decode cX8_work 108 = .ok (.getfield 149, 3) := by decide +kernel
theorem dX8_work_111 : decode cX8_work 111 = .ok (.ireturn, 1) := by decide +kernel
theorem dX8_sentence_0 : decode cX8_sentence 0 = .ok (.aload_n 0, 1) := by decide +kernel
theorem dX8_sentence_1 : decode cX8_sentence 1 = .ok (.iload_n 1, 1) := by decide +kernel
theorem dX8_sentence_2 : decode cX8_sentence 2 = .ok (.bipush 60, 2) := by decide +kernel
theorem dX8_sentence_4 : decode cX8_sentence 4 = .ok (.invokevirtual 89, 3) := by decide +kernel
theorem dX8_sentence_7 : decode cX8_sentence 7 = .ok (.aload_n 0, 1) := by decide +kernel
theorem dX8_sentence_8 : decode cX8_sentence 8 = .ok (.getfield 43, 3) := by decide +kernel
theorem dX8_sentence_11 : decode cX8_sentence 11 = .ok (.aload_n 0, 1) := by decide +kernel
theorem dX8_sentence_12 : decode cX8_sentence 12 = .ok (.getfield 10, 3) := by decide +kernel
theorem dX8_sentence_15 : decode cX8_sentence 15 = .ok (.invokevirtual 152, 3) := by decide +kernel
theorem dX8_sentence_18 : decode cX8_sentence 18 = .ok (.ifCond .ne 14, 3) := by decide +kernel
theorem dX8_sentence_21 : decode cX8_sentence 21 = .ok (.aload_n 0, 1) := by decide +kernel
theorem dX8_sentence_22 : decode cX8_sentence 22 = .ok (.getfield 10, 3) := by decide +kernel
theorem dX8_sentence_25 : decode cX8_sentence 25 = .ok (.getfield 97, 3) := by decide +kernel
theorem dX8_sentence_28 : decode cX8_sentence 28 = .ok (.bipush 10, 2) := by decide +kernel
