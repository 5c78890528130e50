theorem dX0_drawnBy_12 : decode cX0_drawnBy 12 = .ok (.putfield 139, 3) := by decide +kernel
theorem dX0_drawnBy_15 : decode cX0_drawnBy 15 = .ok (.iload_n 1, 1) := by decide +kernel
theorem dX0_drawnBy_16 : decode cX0_drawnBy 16 = .ok (.ifCond .le 19, 3) := by decide +kernel
theorem dX0_drawnBy_19 : decode cX0_drawnBy 19 = .ok (.aload_n 0, 1) := by decide +kernel
theorem dX0_drawnBy_20 : decode cX0_drawnBy 20 = .ok (.getfield 139, 3) := by decide +kernel
theorem dX0_drawnBy_23 : decode cX0_drawnBy 23 = .ok (.bipush 16, 2) := by decide +kernel
theorem dX0_drawnBy_25 : decode cX0_drawnBy 25 = .ok (.iushr, 1) := by decide +kernel
theorem dX0_drawnBy_26 : decode cX0_drawnBy 26 = .ok (.sipush 32767, 3) := by decide +kernel
theorem dX0_drawnBy_29 : decode cX0_drawnBy 29 = .ok (.iand, 1) := by decide +kernel
theorem dX0_drawnBy_30 : decode cX0_drawnBy 30 = .ok (.iload_n 1, 1) := by decide +kernel
theorem dX0_drawnBy_31 : decode cX0_drawnBy 31 = .ok (.irem, 1) := by decide +kernel
theorem dX0_drawnBy_32 : decode cX0_drawnBy 32 = .ok (.goto 4, 3) := by decide +kernel
theorem dX0_drawnBy_35 : decode cX0_drawnBy 35 = .ok (.iconst 0, 1) := by decide +kernel
theorem dX0_drawnBy_36 : decode cX0_drawnBy 36 = .ok (.ireturn, 1) := by decide +kernel
theorem dX1_init_0 : decode cX1_init 0 = .ok (.aload_n 0, 1) := by decide +kernel
theorem dX1_init_1 : decode cX1_init 1 = .ok (.invokespecial 3, 3) := by decide +kernel
theorem dX1_init_4 : decode cX1_init 4 = .ok (.aload_n 0, 1) := by decide +kernel
theorem dX1_init_5 : decode cX1_init 5 = .ok (.sipush 150, 3) := by decide +kernel
theorem dX1_init_8 : decode cX1_init 8 = .ok (.newarray .int, 2) := by decide +kernel
theorem dX1_init_10 : decode cX1_init 10 = .ok (.putfield 9, 3) := by decide +kernel
theorem dX1_init_13 : decode cX1_init 13 = .ok (.aload_n 0, 1) := by decide +kernel
theorem dX1_init_14 : decode cX1_init 14 = .ok (.bipush 22, 2) := by decide +kernel
theorem dX1_init_16 : decode cX1_init 16 = .ok (.newarray .int, 2) := by decide +kernel
theorem dX1_init_18 : decode cX1_init 18 = .ok (.putfield 15, 3) := by decide +kernel
theorem dX1_init_21 : decode cX1_init 21 = .ok (.aload_n 0, 1) := by decide +kernel
theorem dX1_init_22 : decode cX1_init 22 = .ok (.bipush 7, 2) := by decide +kernel
theorem dX1_init_24 : decode cX1_init 24 = .ok (.newarray .int, 2) := by decide +kernel
theorem dX1_init_26 : decode cX1_init 26 = .ok (.putfield 18, 3) := by decide +kernel
theorem dX1_init_29 : decode cX1_init 29 = .ok (.aload_n 0, 1) := by decide +kernel
theorem dX1_init_30 : decode cX1_init 30 = .ok (.invokevirtual 21, 3) := by decide +kernel
theorem dX1_init_33 : decode cX1_init 33 = .ok (.return_, 1) := by decide +kernel
theorem dX1_makePlain_0 : decode cX1_makePlain 0 = .ok (.getstatic 24, 3) := by decide +kernel
theorem dX1_makePlain_3 : decode cX1_makePlain 3 = .ok (.iconst 0, 1) := by decide +kernel
theorem dX1_makePlain_4 : decode cX1_makePlain 4 = .ok (.aload_n 0, 1) := by decide +kernel
theorem dX1_makePlain_5 : decode cX1_makePlain 5 = .ok (.getfield 9, 3) := by decide +kernel
theorem dX1_makePlain_8 : decode cX1_makePlain 8 = .ok (.iconst 0, 1) := by decide +kernel
theorem dX1_makePlain_9 : decode cX1_makePlain 9 = .ok (.getstatic 24, 3) := by decide +kernel
theorem dX1_makePlain_12 : decode cX1_makePlain 12 = .ok (.arraylength, 1) := by decide +kernel
theorem dX1_makePlain_13 : decode cX1_makePlain 13 = .ok (.invokestatic 27, 3) := by decide +kernel
theorem dX1_makePlain_16 : decode cX1_makePlain 16 = .ok (.aload_n 0, 1) := by decide +kernel
theorem dX1_makePlain_17 : decode cX1_makePlain 17 = .ok (.getstatic 24, 3) := by decide +kernel
theorem dX1_makePlain_20 : decode cX1_makePlain 20 = .ok (.arraylength, 1) := by decide +kernel
theorem dX1_makePlain_21 : decode cX1_makePlain 21 = .ok (.putfield 33, 3) := by decide +kernel
theorem dX1_makePlain_24 : decode cX1_makePlain 24 = .ok (.return_, 1) := by decide +kernel
theorem dX1_takeOver_0 : decode cX1_takeOver 0 = .ok (.aload_n 1, 1) := by decide +kernel
theorem dX1_takeOver_1 : decode cX1_takeOver 1 = .ok (.getfield 9, 3) := by decide +kernel
theorem dX1_takeOver_4 : decode cX1_takeOver 4 = .ok (.iconst 0, 1) := by decide +kernel
theorem dX1_takeOver_5 : decode cX1_takeOver 5 = .ok (.aload_n 0, 1) := by decide +kernel
theorem dX1_takeOver_6 : decode cX1_takeOver 6 = .ok (.getfield 9, 3) := by decide +kernel
theorem dX1_takeOver_9 : decode cX1_takeOver 9 = .ok (.iconst 0, 1) := by decide +kernel
theorem dX1_takeOver_10 : decode cX1_takeOver 10 = .ok (.sipush 150, 3) := by decide +kernel
theorem dX1_takeOver_13 : decode cX1_takeOver 13 = .ok (.invokestatic 27, 3) := by decide +kernel
theorem dX1_takeOver_16 : decode cX1_takeOver 16 = .ok (.aload_n 0, 1) := by decide +kernel
theorem dX1_takeOver_17 : decode cX1_takeOver 17 = .ok (.aload_n 1, 1) := by decide +kernel
theorem dX1_takeOver_18 : decode cX1_takeOver 18 = .ok (.getfield 33, 3) := by decide +kernel
theorem dX1_takeOver_21 : decode cX1_takeOver 21 = .ok (.putfield 33, 3) := by decide +kernel
theorem dX1_takeOver_24 : decode cX1_takeOver 24 = .ok (.return_, 1) := by decide +kernel
theorem dX1_priceFor_0 : decode cX1_priceFor 0 = .ok (.aload_n 0, 1) := by decide +kernel
theorem dX1_priceFor_1 : decode cX1_priceFor 1 = .ok (.getfield 18, 3) := by decide +kernel
theorem dX1_priceFor_4 : decode cX1_priceFor 4 = .ok (.iconst 0, 1) := by decide +kernel
theorem dX1_priceFor_5 : decode cX1_priceFor 5 = .ok (.iload_n 1, 1) := by decide +kernel
theorem dX1_priceFor_6 : decode cX1_priceFor 6 = .ok (.iastore, 1) := by decide +kernel
theorem dX1_priceFor_7 : decode cX1_priceFor 7 = .ok (.aload_n 0, 1) := by decide +kernel
theorem dX1_priceFor_8 : decode cX1_priceFor 8 = .ok (.getfield 18, 3) := by decide +kernel
theorem dX1_priceFor_11 : decode cX1_priceFor 11 = .ok (.iconst 1, 1) := by decide +kernel
theorem dX1_priceFor_12 : decode cX1_priceFor 12 = .ok (.iload_n 2, 1) := by decide +kernel
theorem dX1_priceFor_13 : decode cX1_priceFor 13 = .ok (.iastore, 1) := by decide +kernel
theorem dX1_priceFor_14 : decode cX1_priceFor 14 = .ok (.aload_n 0, 1) := by decide +kernel
theorem dX1_priceFor_15 : decode cX1_priceFor 15 = .ok (.getfield 18, 3) := by decide +kernel
theorem dX1_priceFor_18 : decode cX1_priceFor 18 = .ok (.iconst 2, 1) := by decide +kernel
theorem dX1_priceFor_19 : decode cX1_priceFor 19 = .ok (.iload_n 3, 1) := by decide +kernel
theorem dX1_priceFor_20 : decode cX1_priceFor 20 = .ok (.iastore, 1) := by decide +kernel
theorem dX1_priceFor_21 : decode cX1_priceFor 21 = .ok (.aload_n 0, 1) := by decide +kernel
theorem dX1_priceFor_22 : decode cX1_priceFor 22 = .ok (.getfield 18, 3) := by decide +kernel
theorem dX1_priceFor_25 : decode cX1_priceFor 25 = .ok (.iconst 3, 1) := by decide +kernel
theorem dX1_priceFor_26 : decode cX1_priceFor 26 = .ok (.iload 4, 2) := by decide +kernel
theorem dX1_priceFor_28 : decode cX1_priceFor 28 = .ok (.iastore, 1) := by decide +kernel
theorem dX1_priceFor_29 : decode cX1_priceFor 29 = .ok (.aload_n 0, 1) := by decide +kernel
theorem dX1_priceFor_30 : decode cX1_priceFor 30 = .ok (.getfield 18, 3) := by decide +kernel
theorem dX1_priceFor_33 : decode cX1_priceFor 33 = .ok (.iconst 4, 1) := by decide +kernel
theorem dX1_priceFor_34 : decode cX1_priceFor 34 = .ok (.iload 5, 2) := by decide +kernel
theorem dX1_priceFor_36 : decode cX1_priceFor 36 = .ok (.iastore, 1) := by decide +kernel
theorem dX1_priceFor_37 : decode cX1_priceFor 37 = .ok (.aload_n 0, 1) := by decide +kernel
theorem dX1_priceFor_38 : decode cX1_priceFor 38 = .ok (.getfield 18, 3) := by decide +kernel
theorem dX1_priceFor_41 : decode cX1_priceFor 41 = .ok (.iconst 5, 1) := by decide +kernel
theorem dX1_priceFor_42 : decode cX1_priceFor 42 = .ok (.iload 6, 2) := by decide +kernel
theorem dX1_priceFor_44 : decode cX1_priceFor 44 = .ok (.iastore, 1) := by decide +kernel
theorem dX1_priceFor_45 : decode cX1_priceFor 45 = .ok (.aload_n 0, 1) := by decide +kernel
theorem dX1_priceFor_46 : decode cX1_priceFor 46 = .ok (.getfield 18, 3) := by decide +kernel
theorem dX1_priceFor_49 : decode cX1_priceFor 49 = .ok (.bipush 6, 2) := by decide +kernel
theorem dX1_priceFor_51 : decode cX1_priceFor 51 = .ok (.iload 7, 2) := by decide +kernel
theorem dX1_priceFor_53 : decode cX1_priceFor 53 = .ok (.iastore, 1) := by decide +kernel
theorem dX1_priceFor_54 : decode cX1_priceFor 54 = .ok (.iconst 0, 1) := by decide +kernel
theorem dX1_priceFor_55 : decode cX1_priceFor 55 = .ok (.istore 8, 2) := by decide +kernel
theorem dX1_priceFor_57 : decode cX1_priceFor 57 = .ok (.iconst 0, 1) := by decide +kernel
theorem dX1_priceFor_58 : decode cX1_priceFor 58 = .ok (.istore 9, 2) := by decide +kernel
theorem dX1_priceFor_60 : decode cX1_priceFor 60 = .ok (.iload 9, 2) := by decide +kernel
theorem dX1_priceFor_62 : decode cX1_priceFor 62 = .ok (.aload_n 0, 1) := by decide +kernel
theorem dX1_priceFor_63 : decode cX1_priceFor 63 = .ok (.getfield 33, 3) := by decide +kernel
theorem dX1_priceFor_66 : decode cX1_priceFor 66 = .ok (.if_icmp .ge 110, 3) := by decide +kernel
theorem dX1_priceFor_69 : decode cX1_priceFor 69 = .ok (.aload_n 0, 1) := by decide +kernel
theorem dX1_priceFor_70 : decode cX1_priceFor 70 = .ok (.getfield 9, 3) := by decide +kernel
theorem dX1_priceFor_73 : decode cX1_priceFor 73 = .ok (.iload 9, 2) := by decide +kernel
theorem dX1_priceFor_75 : decode cX1_priceFor 75 = .ok (.iaload, 1) := by decide +kernel
theorem dX1_priceFor_76 : decode cX1_priceFor 76 = .ok (.istore 10, 2) := by decide +kernel
theorem dX1_priceFor_78 : decode cX1_priceFor 78 = .ok (.iload 10, 2) := by decide +kernel
theorem dX1_priceFor_80 : decode cX1_priceFor 80 = .ok (.bipush (-7), 2) := by decide +kernel
theorem dX1_priceFor_82 : decode cX1_priceFor 82 = .ok (.if_icmp .ge 45, 3) := by decide +kernel
theorem dX1_priceFor_85 : decode cX1_priceFor 85 = .ok (.iload 8, 2) := by decide +kernel
theorem dX1_priceFor_87 : decode cX1_priceFor 87 = .ok (.iconst 2, 1) := by decide +kernel
theorem dX1_priceFor_88 : decode cX1_priceFor 88 = .ok (.if_icmp .lt 39, 3) := by decide +kernel
theorem dX1_priceFor_91 : decode cX1_priceFor 91 = .ok (.iinc 8 (-1), 3) := by decide +kernel
theorem dX1_priceFor_94 : decode cX1_priceFor 94 = .ok (.aload_n 0, 1) := by decide +kernel
theorem dX1_priceFor_95 : decode cX1_priceFor 95 = .ok (.getfield 15, 3) := by decide +kernel
theorem dX1_priceFor_98 : decode cX1_priceFor 98 = .ok (.iload 8, 2) := by decide +kernel
theorem dX1_priceFor_100 : decode cX1_priceFor 100 = .ok (.iconst 1, 1) := by decide +kernel
theorem dX1_priceFor_101 : decode cX1_priceFor 101 = .ok (.isub, 1) := by decide +kernel
theorem dX1_priceFor_102 : decode cX1_priceFor 102 = .ok (.iload 10, 2) := by decide +kernel
theorem dX1_priceFor_104 : decode cX1_priceFor 104 = .ok (.aload_n 0, 1) := by decide +kernel
theorem dX1_priceFor_105 : decode cX1_priceFor 105 = .ok (.getfield 15, 3) := by decide +kernel
theorem dX1_priceFor_108 : decode cX1_priceFor 108 = .ok (.iload 8, 2) := by decide +kernel
theorem dX1_priceFor_110 : decode cX1_priceFor 110 = .ok (.iconst 1, 1) := by decide +kernel
theorem dX1_priceFor_111 : decode cX1_priceFor 111 = .ok (.isub, 1) := by decide +kernel
theorem dX1_priceFor_112 : decode cX1_priceFor 112 = .ok (.iaload, 1) := by decide +kernel
theorem dX1_priceFor_113 : decode cX1_priceFor 113 = .ok (.aload_n 0, 1) := by decide +kernel
theorem dX1_priceFor_114 : decode cX1_priceFor 114 = .ok (.getfield 15, 3) := by decide +kernel
theorem dX1_priceFor_117 : decode cX1_priceFor 117 = .ok (.iload 8, 2) := by decide +kernel
theorem dX1_priceFor_119 : decode cX1_priceFor 119 = .ok (.iaload, 1) := by decide +kernel
theorem dX1_priceFor_120 : decode cX1_priceFor 120 = .ok (.invokestatic 37, 3) := by decide +kernel
theorem dX1_priceFor_123 : decode cX1_priceFor 123 = .ok (.iastore, 1) := by decide +kernel
theorem dX1_priceFor_124 : decode cX1_priceFor 124 = .ok (.goto 46, 3) := by decide +kernel
theorem dX1_priceFor_127 : decode cX1_priceFor 127 = .ok (.iload 10, 2) := by decide +kernel
theorem dX1_priceFor_129 : decode cX1_priceFor 129 = .ok (.bipush (-7), 2) := by decide +kernel
theorem dX1_priceFor_131 : decode cX1_priceFor 131 = .ok (.if_icmp .lt 39, 3) := by decide +kernel
theorem dX1_priceFor_134 : decode cX1_priceFor 134 = .ok (.iload 8, 2) := by decide +kernel
theorem dX1_priceFor_136 : decode cX1_priceFor 136 = .ok (.bipush 22, 2) := by decide +kernel
theorem dX1_priceFor_138 : decode cX1_priceFor 138 = .ok (.if_icmp .ge 32, 3) := by decide +kernel
theorem dX1_priceFor_141 : decode cX1_priceFor 141 = .ok (.aload_n 0, 1) := by decide +kernel
theorem dX1_priceFor_142 : decode cX1_priceFor 142 = .ok (.getfield 15, 3) := by decide +kernel
theorem dX1_priceFor_145 : decode cX1_priceFor 145 = .ok (.iload 8, 2) := by decide +kernel
theorem dX1_priceFor_147 : decode cX1_priceFor 147 = .ok (.iload 10, 2) := by decide +kernel
theorem dX1_priceFor_149 : decode cX1_priceFor 149 = .ok (.ifCond .lt 8, 3) := by decide +kernel
theorem dX1_priceFor_152 : decode cX1_priceFor 152 = .ok (.iload 10, 2) := by decide +kernel
theorem dX1_priceFor_154 : decode cX1_priceFor 154 = .ok (.goto 12, 3) := by decide +kernel
theorem dX1_priceFor_157 : decode cX1_priceFor 157 = .ok (.aload_n 0, 1) := by decide +kernel
theorem dX1_priceFor_158 : decode cX1_priceFor 158 = .ok (.getfield 18, 3) := by decide +kernel
theorem dX1_priceFor_161 : decode cX1_priceFor 161 = .ok (.iconst (-1), 1) := by decide +kernel
theorem dX1_priceFor_162 : decode cX1_priceFor 162 = .ok (.iload 10, 2) := by decide +kernel
theorem dX1_priceFor_164 : decode cX1_priceFor 164 = .ok (.isub, 1) := by decide +kernel
theorem dX1_priceFor_165 : decode cX1_priceFor 165 = .ok (.iaload, 1) := by decide +kernel
theorem dX1_priceFor_166 : decode cX1_priceFor 166 = .ok (.iastore, 1) := by decide +kernel
theorem dX1_priceFor_167 : decode cX1_priceFor 167 = .ok (.iinc 8 1, 3) := by decide +kernel
theorem dX1_priceFor_170 : decode cX1_priceFor 170 = .ok (.iinc 9 1, 3) := by decide +kernel
theorem dX1_priceFor_173 : decode cX1_priceFor 173 = .ok (.goto (-113), 3) := by decide +kernel
theorem dX1_priceFor_176 : decode cX1_priceFor 176 = .ok (.iconst 0, 1) := by decide +kernel
theorem dX1_priceFor_177 : decode cX1_priceFor 177 = .ok (.bipush 60, 2) := by decide +kernel
theorem dX1_priceFor_179 : decode cX1_priceFor 179 = .ok (.aload_n 0, 1) := by decide +kernel
theorem dX1_priceFor_180 : decode cX1_priceFor 180 = .ok (.getfield 15, 3) := by decide +kernel
theorem dX1_priceFor_183 : decode cX1_priceFor 183 = .ok (.iconst 0, 1) := by decide +kernel
theorem dX1_priceFor_184 : decode cX1_priceFor 184 = .ok (.iaload, 1) := by decide +kernel
theorem dX1_priceFor_185 : decode cX1_priceFor 185 = .ok (.invokestatic 41, 3) := by decide +kernel
theorem dX1_priceFor_188 : decode cX1_priceFor 188 = .ok (.invokestatic 47, 3) := by decide +kernel
theorem dX1_priceFor_191 : decode cX1_priceFor 191 = .ok (.ireturn, 1) := by decide +kernel
theorem dX1_joined_0 : decode cX1_joined 0 = .ok (.iload_n 0, 1) := by decide +kernel
theorem dX1_joined_1 : decode cX1_joined 1 = .ok (.tableswitch 81 (-13) (-8) #[75, 63, 51, 47, 43, 39], 39) := by decide +kernel
theorem dX1_joined_40 : decode cX1_joined 40 = .ok (.iload_n 1, 1) := by decide +kernel
theorem dX1_joined_41 : decode cX1_joined 41 = .ok (.iload_n 2, 1) := by decide +kernel
theorem dX1_joined_42 : decode cX1_joined 42 = .ok (.iadd, 1) := by decide +kernel
theorem dX1_joined_43 : decode cX1_joined 43 = .ok (.ireturn, 1) := by decide +kernel
theorem dX1_joined_44 : decode cX1_joined 44 = .ok (.iload_n 1, 1) := by decide +kernel
theorem dX1_joined_45 : decode cX1_joined 45 = .ok (.iload_n 2, 1) := by decide +kernel
theorem dX1_joined_46 : decode cX1_joined 46 = .ok (.isub, 1) := by decide +kernel
theorem dX1_joined_47 : decode cX1_joined 47 = .ok (.ireturn, 1) := by decide +kernel
theorem dX1_joined_48 : decode cX1_joined 48 = .ok (.iload_n 1, 1) := by decide +kernel
theorem dX1_joined_49 : decode cX1_joined 49 = .ok (.iload_n 2, 1) := by decide +kernel
theorem dX1_joined_50 : decode cX1_joined 50 = .ok (.imul, 1) := by decide +kernel
theorem dX1_joined_51 : decode cX1_joined 51 = .ok (.ireturn, 1) := by decide +kernel
theorem dX1_joined_52 : decode cX1_joined 52 = .ok (.iload_n 2, 1) := by decide +kernel
theorem dX1_joined_53 : decode cX1_joined 53 = .ok (.ifCond .ne 7, 3) := by decide +kernel
theorem dX1_joined_56 : decode cX1_joined 56 = .ok (.iconst 0, 1) := by decide +kernel
theorem dX1_joined_57 : decode cX1_joined 57 = .ok (.goto 6, 3) := by decide +kernel
theorem dX1_joined_60 : decode cX1_joined 60 = .ok (.iload_n 1, 1) := by decide +kernel
theorem dX1_joined_61 : decode cX1_joined 61 = .ok (.iload_n 2, 1) := by decide +kernel
theorem dX1_joined_62 : decode cX1_joined 62 = .ok (.idiv, 1) := by decide +kernel
theorem dX1_joined_63 : decode cX1_joined 63 = .ok (.ireturn, 1) := by decide +kernel
theorem dX1_joined_64 : decode cX1_joined 64 = .ok (.iload_n 2, 1) := by decide +kernel
theorem dX1_joined_65 : decode cX1_joined 65 = .ok (.ifCond .ne 7, 3) := by decide +kernel
theorem dX1_joined_68 : decode cX1_joined 68 = .ok (.iconst 0, 1) := by decide +kernel
theorem dX1_joined_69 : decode cX1_joined 69 = .ok (.goto 6, 3) := by decide +kernel
theorem dX1_joined_72 : decode cX1_joined 72 = .ok (.iload_n 1, 1) := by decide +kernel
theorem dX1_joined_73 : decode cX1_joined 73 = .ok (.iload_n 2, 1) := by decide +kernel
theorem dX1_joined_74 : decode cX1_joined 74 = .ok (.irem, 1) := by decide +kernel
theorem dX1_joined_75 : decode cX1_joined 75 = .ok (.ireturn, 1) := by decide +kernel
theorem dX1_joined_76 : decode cX1_joined 76 = .ok (.iload_n 1, 1) := by decide +kernel
theorem dX1_joined_77 : decode cX1_joined 77 = .ok (.iload_n 2, 1) := by decide +kernel
theorem dX1_joined_78 : decode cX1_joined 78 = .ok (.invokestatic 41, 3) := by decide +kernel
theorem dX1_joined_81 : decode cX1_joined 81 = .ok (.ireturn, 1) := by decide +kernel
theorem dX1_joined_82 : decode cX1_joined 82 = .ok (.iload_n 1, 1) := by decide +kernel
theorem dX1_joined_83 : decode cX1_joined 83 = .ok (.iload_n 2, 1) := by decide +kernel
theorem dX1_joined_84 : decode cX1_joined 84 = .ok (.invokestatic 47, 3) := by decide +kernel
theorem dX1_joined_87 : decode cX1_joined 87 = .ok (.ireturn, 1) := by decide +kernel
theorem dX1_readFrom_0 : decode cX1_readFrom 0 = .ok (.aload_n 0, 1) := by decide +kernel
theorem dX1_readFrom_1 : decode cX1_readFrom 1 = .ok (.iconst 0, 1) := by decide +kernel
theorem dX1_readFrom_2 : decode cX1_readFrom 2 = .ok (.putfield 33, 3) := by decide +kernel
theorem dX1_readFrom_5 : decode cX1_readFrom 5 = .ok (.aload_n 0, 1) := by decide +kernel
theorem dX1_readFrom_6 : decode cX1_readFrom 6 = .ok (.aload_n 1, 1) := by decide +kernel
theorem dX1_readFrom_7 : decode cX1_readFrom 7 = .ok (.iconst 0, 1) := by decide +kernel
theorem dX1_readFrom_8 : decode cX1_readFrom 8 = .ok (.invokevirtual 50, 3) := by decide +kernel
theorem dX1_readFrom_11 : decode cX1_readFrom 11 = .ok (.ifCond .ne 5, 3) := by decide +kernel
theorem dX1_readFrom_14 : decode cX1_readFrom 14 = .ok (.iconst 0, 1) := by decide +kernel
theorem dX1_readFrom_15 : decode cX1_readFrom 15 = .ok (.ireturn, 1) := by decide +kernel
theorem dX1_readFrom_16 : decode cX1_readFrom 16 = .ok (.aload_n 1, 1) := by decide +kernel
theorem dX1_readFrom_17 : decode cX1_readFrom 17 = .ok (.invokevirtual 54, 3) := by decide +kernel
theorem dX1_readFrom_20 : decode cX1_readFrom 20 = .ok (.iconst (-1), 1) := by decide +kernel
theorem dX1_readFrom_21 : decode cX1_readFrom 21 = .ok (.if_icmp .eq 15, 3) := by decide +kernel
theorem dX1_readFrom_24 : decode cX1_readFrom 24 = .ok (.aload_n 1, 1) := by decide +kernel
theorem dX1_readFrom_25 : decode cX1_readFrom 25 = .ok (.iconst 1, 1) := by decide +kernel
theorem dX1_readFrom_26 : decode cX1_readFrom 26 = .ok (.aload_n 1, 1) := by decide +kernel
theorem dX1_readFrom_27 : decode cX1_readFrom 27 = .ok (.getfield 60, 3) := by decide +kernel
theorem dX1_readFrom_30 : decode cX1_readFrom 30 = .ok (.invokevirtual 63, 3) := by decide +kernel
theorem dX1_readFrom_33 : decode cX1_readFrom 33 = .ok (.ifCond .eq 7, 3) := by decide +kernel
theorem dX1_readFrom_36 : decode cX1_readFrom 36 = .ok (.iconst 1, 1) := by decide +kernel
theorem dX1_readFrom_37 : decode cX1_readFrom 37 = .ok (.goto 4, 3) := by decide +kernel
theorem dX1_readFrom_40 : decode cX1_readFrom 40 = .ok (.iconst 0, 1) := by decide +kernel
theorem dX1_readFrom_41 : decode cX1_readFrom 41 = .ok (.ireturn, 1) := by decide +kernel
theorem dX1_append_0 : decode cX1_append 0 = .ok (.aload_n 0, 1) := by decide +kernel
theorem dX1_append_1 : decode cX1_append 1 = .ok (.getfield 33, 3) := by decide +kernel
theorem dX1_append_4 : decode cX1_append 4 = .ok (.sipush 150, 3) := by decide +kernel
theorem dX1_append_7 : decode cX1_append 7 = .ok (.if_icmp .ge 23, 3) := by decide +kernel
theorem dX1_append_10 : decode cX1_append 10 = .ok (.aload_n 0, 1) := by decide +kernel
theorem dX1_append_11 : decode cX1_append 11 = .ok (.getfield 9, 3) := by decide +kernel
theorem dX1_append_14 : decode cX1_append 14 = .ok (.aload_n 0, 1) := by decide +kernel
theorem dX1_append_15 : decode cX1_append 15 = .ok (.getfield 33, 3) := by decide +kernel
theorem dX1_append_18 : decode cX1_append 18 = .ok (.iload_n 1, 1) := by decide +kernel
theorem dX1_append_19 : decode cX1_append 19 = .ok (.iastore, 1) := by decide +kernel
theorem dX1_append_20 : decode cX1_append 20 = .ok (.aload_n 0, 1) := by decide +kernel
theorem dX1_append_21 : decode cX1_append 21 = .ok (.dup, 1) := by decide +kernel
theorem dX1_append_22 : decode cX1_append 22 = .ok (.getfield 33, 3) := by decide +kernel
theorem dX1_append_25 : decode cX1_append 25 = .ok (.iconst 1, 1) := by decide +kernel
theorem dX1_append_26 : decode cX1_append 26 = .ok (.iadd, 1) := by decide +kernel
theorem dX1_append_27 : decode cX1_append 27 = .ok (.putfield 33, 3) := by decide +kernel
theorem dX1_append_30 : decode cX1_append 30 = .ok (.iconst 1, 1) := by decide +kernel
theorem dX1_append_31 : decode cX1_append 31 = .ok (.ireturn, 1) := by decide +kernel
theorem dX1_readSum_0 : decode cX1_readSum 0 = .ok (.aload_n 0, 1) := by decide +kernel
theorem dX1_readSum_1 : decode cX1_readSum 1 = .ok (.aload_n 1, 1) := by decide +kernel
theorem dX1_readSum_2 : decode cX1_readSum 2 = .ok (.iload_n 2, 1) := by decide +kernel
theorem dX1_readSum_3 : decode cX1_readSum 3 = .ok (.invokevirtual 67, 3) := by decide +kernel
theorem dX1_readSum_6 : decode cX1_readSum 6 = .ok (.ifCond .ne 5, 3) := by decide +kernel
theorem dX1_readSum_9 : decode cX1_readSum 9 = .ok (.iconst 0, 1) := by decide +kernel
theorem dX1_readSum_10 : decode cX1_readSum 10 = .ok (.ireturn, 1) := by decide +kernel
theorem dX1_readSum_11 : decode cX1_readSum 11 = .ok (.iconst 0, 1) := by decide +kernel
theorem dX1_readSum_12 : decode cX1_readSum 12 = .ok (.istore_n 3, 1) := by decide +kernel
theorem dX1_readSum_13 : decode cX1_readSum 13 = .ok (.iload_n 3, 1) := by decide +kernel
theorem dX1_readSum_14 : decode cX1_readSum 14 = .ok (.sipush 150, 3) := by decide +kernel
theorem dX1_readSum_17 : decode cX1_readSum 17 = .ok (.if_icmp .ge 71, 3) := by decide +kernel
theorem dX1_readSum_20 : decode cX1_readSum 20 = .ok (.aload_n 1, 1) := by decide +kernel
theorem dX1_readSum_21 : decode cX1_readSum 21 = .ok (.invokevirtual 54, 3) := by decide +kernel
theorem dX1_readSum_24 : decode cX1_readSum 24 = .ok (.istore 4, 2) := by decide +kernel
theorem dX1_readSum_26 : decode cX1_readSum 26 = .ok (.iload 4, 2) := by decide +kernel
theorem dX1_readSum_28 : decode cX1_readSum 28 = .ok (.bipush 43, 2) := by decide +kernel
theorem dX1_readSum_30 : decode cX1_readSum 30 = .ok (.if_icmp .eq 12, 3) := by decide +kernel
theorem dX1_readSum_33 : decode cX1_readSum 33 = .ok (.iload 4, 2) := by decide +kernel
theorem dX1_readSum_35 : decode cX1_readSum 35 = .ok (.bipush 45, 2) := by decide +kernel
theorem dX1_readSum_37 : decode cX1_readSum 37 = .ok (.if_icmp .eq 5, 3) := by decide +kernel
theorem dX1_readSum_40 : decode cX1_readSum 40 = .ok (.iconst 1, 1) := by decide +kernel
theorem dX1_readSum_41 : decode cX1_readSum 41 = .ok (.ireturn, 1) := by decide +kernel
theorem dX1_readSum_42 : decode cX1_readSum 42 = .ok (.aload_n 1, 1) := by decide +kernel
theorem dX1_readSum_43 : decode cX1_readSum 43 = .ok (.dup, 1) := by decide +kernel
theorem dX1_readSum_44 : decode cX1_readSum 44 = .ok (.getfield 60, 3) := by decide +kernel
theorem dX1_readSum_47 : decode cX1_readSum 47 = .ok (.iconst 1, 1) := by decide +kernel
theorem dX1_readSum_48 : decode cX1_readSum 48 = .ok (.iadd, 1) := by decide +kernel
theorem dX1_readSum_49 : decode cX1_readSum 49 = .ok (.putfield 60, 3) := by decide +kernel
theorem dX1_readSum_52 : decode cX1_readSum 52 = .ok (.aload_n 0, 1) := by decide +kernel
theorem dX1_readSum_53 : decode cX1_readSum 53 = .ok (.aload_n 1, 1) := by decide +kernel
theorem dX1_readSum_54 : decode cX1_readSum 54 = .ok (.iload_n 2, 1) := by decide +kernel
theorem dX1_readSum_55 : decode cX1_readSum 55 = .ok (.invokevirtual 67, 3) := by decide +kernel
theorem dX1_readSum_58 : decode cX1_readSum 58 = .ok (.ifCond .ne 5, 3) := by decide +kernel
theorem dX1_readSum_61 : decode cX1_readSum 61 = .ok (.iconst 0, 1) := by decide +kernel
theorem dX1_readSum_62 : decode cX1_readSum 62 = .ok (.ireturn, 1) := by decide +kernel
theorem dX1_readSum_63 : decode cX1_readSum 63 = .ok (.aload_n 0, 1) := by decide +kernel
theorem dX1_readSum_64 : decode cX1_readSum 64 = .ok (.iload 4, 2) := by decide +kernel
theorem dX1_readSum_66 : decode cX1_readSum 66 = .ok (.bipush 43, 2) := by decide +kernel
theorem dX1_readSum_68 : decode cX1_readSum 68 = .ok (.if_icmp .ne 8, 3) := by decide +kernel
theorem dX1_readSum_71 : decode cX1_readSum 71 = .ok (.bipush (-8), 2) := by decide +kernel
theorem dX1_readSum_73 : decode cX1_readSum 73 = .ok (.goto 5, 3) := by decide +kernel
theorem dX1_readSum_76 : decode cX1_readSum 76 = .ok (.bipush (-9), 2) := by decide +kernel
theorem dX1_readSum_78 : decode cX1_readSum 78 = .ok (.invokevirtual 70, 3) := by decide +kernel
theorem dX1_readSum_81 : decode cX1_readSum 81 = .ok (.pop, 1) := by decide +kernel
theorem dX1_readSum_82 : decode cX1_readSum 82 = .ok (.iinc 3 1, 3) := by decide +kernel
theorem dX1_readSum_85 : decode cX1_readSum 85 = .ok (.goto (-72), 3) := by decide +kernel
theorem dX1_readSum_88 : decode cX1_readSum 88 = .ok (.iconst 1, 1) := by decide +kernel
theorem dX1_readSum_89 : decode cX1_readSum 89 = .ok (.ireturn, 1) := by decide +kernel
theorem dX1_readProduct_0 : decode cX1_readProduct 0 = .ok (.aload_n 0, 1) := by decide +kernel
theorem dX1_readProduct_1 : decode cX1_readProduct 1 = .ok (.aload_n 1, 1) := by decide +kernel
theorem dX1_readProduct_2 : decode cX1_readProduct 2 = .ok (.iload_n 2, 1) := by decide +kernel
theorem dX1_readProduct_3 : decode cX1_readProduct 3 = .ok (.invokevirtual 74, 3) := by decide +kernel
theorem dX1_readProduct_6 : decode cX1_readProduct 6 = .ok (.ifCond .ne 5, 3) := by decide +kernel
theorem dX1_readProduct_9 : decode cX1_readProduct 9 = .ok (.iconst 0, 1) := by decide +kernel
theorem dX1_readProduct_10 : decode cX1_readProduct 10 = .ok (.ireturn, 1) := by decide +kernel
theorem dX1_readProduct_11 : decode cX1_readProduct 11 = .ok (.iconst 0, 1) := by decide +kernel
theorem dX1_readProduct_12 : decode cX1_readProduct 12 = .ok (.istore_n 3, 1) := by decide +kernel
theorem dX1_readProduct_13 : decode cX1_readProduct 13 = .ok (.iload_n 3, 1) := by decide +kernel
theorem dX1_readProduct_14 : decode cX1_readProduct 14 = .ok (.sipush 150, 3) := by decide +kernel
theorem dX1_readProduct_17 : decode cX1_readProduct 17 = .ok (.if_icmp .ge 90, 3) := by decide +kernel
theorem dX1_readProduct_20 : decode cX1_readProduct 20 = .ok (.aload_n 1, 1) := by decide +kernel
theorem dX1_readProduct_21 : decode cX1_readProduct 21 = .ok (.invokevirtual 54, 3) := by decide +kernel
theorem dX1_readProduct_24 : decode cX1_readProduct 24 = .ok (.istore 4, 2) := by decide +kernel
theorem dX1_readProduct_26 : decode cX1_readProduct 26 = .ok (.iload 4, 2) := by decide +kernel
theorem dX1_readProduct_28 : decode cX1_readProduct 28 = .ok (.bipush 42, 2) := by decide +kernel
theorem dX1_readProduct_30 : decode cX1_readProduct 30 = .ok (.if_icmp .eq 19, 3) := by decide +kernel
theorem dX1_readProduct_33 : decode cX1_readProduct 33 = .ok (.iload 4, 2) := by decide +kernel
theorem dX1_readProduct_35 : decode cX1_readProduct 35 = .ok (.bipush 47, 2) := by decide +kernel
theorem dX1_readProduct_37 : decode cX1_readProduct 37 = .ok (.if_icmp .eq 12, 3) := by decide +kernel
theorem dX1_readProduct_40 : decode cX1_readProduct 40 = .ok (.iload 4, 2) := by decide +kernel
theorem dX1_readProduct_42 : decode cX1_readProduct 42 = .ok (.bipush 37, 2) := by decide +kernel
theorem dX1_readProduct_44 : decode cX1_readProduct 44 = .ok (.if_icmp .eq 5, 3) := by decide +kernel
theorem dX1_readProduct_47 : decode cX1_readProduct 47 = .ok (.iconst 1, 1) := by decide +kernel
theorem dX1_readProduct_48 : decode cX1_readProduct 48 = .ok (.ireturn, 1) := by decide +kernel
theorem dX1_readProduct_49 : decode cX1_readProduct 49 = .ok (.aload_n 1, 1) := by decide +kernel
theorem dX1_readProduct_50 : decode cX1_readProduct 50 = .ok (.dup, 1) := by decide +kernel
theorem dX1_readProduct_51 : decode cX1_readProduct 51 = .ok (.getfield 60, 3) := by decide +kernel
theorem dX1_readProduct_54 : decode cX1_readProduct 54 = .ok (.iconst 1, 1) := by decide +kernel
theorem dX1_readProduct_55 : decode cX1_readProduct 55 = .ok (.iadd, 1) := by decide +kernel
theorem dX1_readProduct_56 : decode cX1_readProduct 56 = .ok (.putfield 60, 3) := by decide +kernel
theorem dX1_readProduct_59 : decode cX1_readProduct 59 = .ok (.aload_n 0, 1) := by decide +kernel
theorem dX1_readProduct_60 : decode cX1_readProduct 60 = .ok (.aload_n 1, 1) := by decide +kernel
theorem dX1_readProduct_61 : decode cX1_readProduct 61 = .ok (.iload_n 2, 1) := by decide +kernel
theorem dX1_readProduct_62 : decode cX1_readProduct 62 = .ok (.invokevirtual 74, 3) := by decide +kernel
theorem dX1_readProduct_65 : decode cX1_readProduct 65 = .ok (.ifCond .ne 5, 3) := by decide +kernel
theorem dX1_readProduct_68 : decode cX1_readProduct 68 = .ok (.iconst 0, 1) := by decide +kernel
theorem dX1_readProduct_69 : decode cX1_readProduct 69 = .ok (.ireturn, 1) := by decide +kernel
theorem dX1_readProduct_70 : decode cX1_readProduct 70 = .ok (.aload_n 0, 1) := by decide +kernel
theorem dX1_readProduct_71 : decode cX1_readProduct 71 = .ok (.iload 4, 2) := by decide +kernel
theorem dX1_readProduct_73 : decode cX1_readProduct 73 = .ok (.bipush 42, 2) := by decide +kernel
theorem dX1_readProduct_75 : decode cX1_readProduct 75 = .ok (.if_icmp .ne 8, 3) := by decide +kernel
theorem dX1_readProduct_78 : decode cX1_readProduct 78 = .ok (.bipush (-10), 2) := by decide +kernel
theorem dX1_readProduct_80 : decode cX1_readProduct 80 = .ok (.goto 17, 3) := by decide +kernel
theorem dX1_readProduct_83 : decode cX1_readProduct 83 = .ok (.iload 4, 2) := by decide +kernel
theorem dX1_readProduct_85 : decode cX1_readProduct 85 = .ok (.bipush 47, 2) := by decide +kernel
theorem dX1_readProduct_87 : decode cX1_readProduct 87 = .ok (.if_icmp .ne 8, 3) := by decide +kernel
theorem dX1_readProduct_90 : decode cX1_readProduct 90 = .ok (.bipush (-11), 2) := by decide +kernel
theorem dX1_readProduct_92 : decode cX1_readProduct 92 = .ok (.goto 5, 3) := by decide +kernel
theorem dX1_readProduct_95 : decode cX1_readProduct 95 = .ok (.bipush (-12), 2) := by decide +kernel
theorem dX1_readProduct_97 : decode cX1_readProduct 97 = .ok (.invokevirtual 70, 3) := by decide +kernel
theorem dX1_readProduct_100 : decode cX1_readProduct 100 = .ok (.pop, 1) := by decide +kernel
theorem dX1_readProduct_101 : decode cX1_readProduct 101 = .ok (.iinc 3 1, 3) := by decide +kernel
theorem dX1_readProduct_104 : decode cX1_readProduct 104 = .ok (.goto (-91), 3) := by decide +kernel
theorem dX1_readProduct_107 : decode cX1_readProduct 107 = .ok (.iconst 1, 1) := by decide +kernel
theorem dX1_readProduct_108 : decode cX1_readProduct 108 = .ok (.ireturn, 1) := by decide +kernel
theorem dX1_readUnit_0 : decode cX1_readUnit 0 = .ok (.aload_n 1, 1) := by decide +kernel
theorem dX1_readUnit_1 : decode cX1_readUnit 1 = .ok (.invokevirtual 77, 3) := by decide +kernel
theorem dX1_readUnit_4 : decode cX1_readUnit 4 = .ok (.ifCond .eq 31, 3) := by decide +kernel
theorem dX1_readUnit_7 : decode cX1_readUnit 7 = .ok (.aload_n 1, 1) := by decide +kernel
theorem dX1_readUnit_8 : decode cX1_readUnit 8 = .ok (.iconst 0, 1) := by decide +kernel
theorem dX1_readUnit_9 : decode cX1_readUnit 9 = .ok (.sipush 999, 3) := by decide +kernel
theorem dX1_readUnit_12 : decode cX1_readUnit 12 = .ok (.invokevirtual 81, 3) := by decide +kernel
theorem dX1_readUnit_15 : decode cX1_readUnit 15 = .ok (.ifCond .eq 18, 3) := by decide +kernel
theorem dX1_readUnit_18 : decode cX1_readUnit 18 = .ok (.aload_n 0, 1) := by decide +kernel
theorem dX1_readUnit_19 : decode cX1_readUnit 19 = .ok (.aload_n 1, 1) := by decide +kernel
theorem dX1_readUnit_20 : decode cX1_readUnit 20 = .ok (.getfield 84, 3) := by decide +kernel
theorem dX1_readUnit_23 : decode cX1_readUnit 23 = .ok (.invokevirtual 70, 3) := by decide +kernel
theorem dX1_readUnit_26 : decode cX1_readUnit 26 = .ok (.ifCond .eq 7, 3) := by decide +kernel
theorem dX1_readUnit_29 : decode cX1_readUnit 29 = .ok (.iconst 1, 1) := by decide +kernel
theorem dX1_readUnit_30 : decode cX1_readUnit 30 = .ok (.goto 4, 3) := by decide +kernel
theorem dX1_readUnit_33 : decode cX1_readUnit 33 = .ok (.iconst 0, 1) := by decide +kernel
theorem dX1_readUnit_34 : decode cX1_readUnit 34 = .ok (.ireturn, 1) := by decide +kernel
theorem dX1_readUnit_35 : decode cX1_readUnit 35 = .ok (.aload_n 1, 1) := by decide +kernel
theorem dX1_readUnit_36 : decode cX1_readUnit 36 = .ok (.invokevirtual 54, 3) := by decide +kernel
theorem dX1_readUnit_39 : decode cX1_readUnit 39 = .ok (.bipush 40, 2) := by decide +kernel
theorem dX1_readUnit_41 : decode cX1_readUnit 41 = .ok (.if_icmp .ne 54, 3) := by decide +kernel
theorem dX1_readUnit_44 : decode cX1_readUnit 44 = .ok (.iload_n 2, 1) := by decide +kernel
theorem dX1_readUnit_45 : decode cX1_readUnit 45 = .ok (.bipush 6, 2) := by decide +kernel
theorem dX1_readUnit_47 : decode cX1_readUnit 47 = .ok (.if_icmp .lt 13, 3) := by decide +kernel
theorem dX1_readUnit_50 : decode cX1_readUnit 50 = .ok (.aload_n 1, 1) := by decide +kernel
theorem dX1_readUnit_51 : decode cX1_readUnit 51 = .ok (.iconst 3, 1) := by decide +kernel
theorem dX1_readUnit_52 : decode cX1_readUnit 52 = .ok (.aload_n 1, 1) := by decide +kernel
theorem dX1_readUnit_53 : decode cX1_readUnit 53 = .ok (.getfield 60, 3) := by decide +kernel
theorem dX1_readUnit_56 : decode cX1_readUnit 56 = .ok (.invokevirtual 63, 3) := by decide +kernel
theorem dX1_readUnit_59 : decode cX1_readUnit 59 = .ok (.ireturn, 1) := by decide +kernel
theorem dX1_readUnit_60 : decode cX1_readUnit 60 = .ok (.aload_n 1, 1) := by decide +kernel
theorem dX1_readUnit_61 : decode cX1_readUnit 61 = .ok (.bipush 40, 2) := by decide +kernel
theorem dX1_readUnit_63 : decode cX1_readUnit 63 = .ok (.invokevirtual 87, 3) := by decide +kernel
theorem dX1_readUnit_66 : decode cX1_readUnit 66 = .ok (.ifCond .eq 27, 3) := by decide +kernel
theorem dX1_readUnit_69 : decode cX1_readUnit 69 = .ok (.aload_n 0, 1) := by decide +kernel
theorem dX1_readUnit_70 : decode cX1_readUnit 70 = .ok (.aload_n 1, 1) := by decide +kernel
theorem dX1_readUnit_71 : decode cX1_readUnit 71 = .ok (.iload_n 2, 1) := by decide +kernel
theorem dX1_readUnit_72 : decode cX1_readUnit 72 = .ok (.iconst 1, 1) := by decide +kernel
theorem dX1_readUnit_73 : decode cX1_readUnit 73 = .ok (.iadd, 1) := by decide +kernel
theorem dX1_readUnit_74 : decode cX1_readUnit 74 = .ok (.invokevirtual 50, 3) := by decide +kernel
theorem dX1_readUnit_77 : decode cX1_readUnit 77 = .ok (.ifCond .eq 16, 3) := by decide +kernel
theorem dX1_readUnit_80 : decode cX1_readUnit 80 = .ok (.aload_n 1, 1) := by decide +kernel
theorem dX1_readUnit_81 : decode cX1_readUnit 81 = .ok (.bipush 41, 2) := by decide +kernel
theorem dX1_readUnit_83 : decode cX1_readUnit 83 = .ok (.invokevirtual 87, 3) := by decide +kernel
theorem dX1_readUnit_86 : decode cX1_readUnit 86 = .ok (.ifCond .eq 7, 3) := by decide +kernel
theorem dX1_readUnit_89 : decode cX1_readUnit 89 = .ok (.iconst 1, 1) := by decide +kernel
theorem dX1_readUnit_90 : decode cX1_readUnit 90 = .ok (.goto 4, 3) := by decide +kernel
theorem dX1_readUnit_93 : decode cX1_readUnit 93 = .ok (.iconst 0, 1) := by decide +kernel
theorem dX1_readUnit_94 : decode cX1_readUnit 94 = .ok (.ireturn, 1) := by decide +kernel
theorem dX1_readUnit_95 : decode cX1_readUnit 95 = .ok (.aload_n 1, 1) := by decide +kernel
theorem dX1_readUnit_96 : decode cX1_readUnit 96 = .ok (.invokevirtual 91, 3) := by decide +kernel
theorem dX1_readUnit_99 : decode cX1_readUnit 99 = .ok (.ifCond .ne 5, 3) := by decide +kernel
theorem dX1_readUnit_102 : decode cX1_readUnit 102 = .ok (.iconst 0, 1) := by decide +kernel
theorem dX1_readUnit_103 : decode cX1_readUnit 103 = .ok (.ireturn, 1) := by decide +kernel
theorem dX1_readUnit_104 : decode cX1_readUnit 104 = .ok (.aload_n 1, 1) := by decide +kernel
theorem dX1_readUnit_105 : decode cX1_readUnit 105 = .ok (.ldc 94, 2) := by decide +kernel
theorem dX1_readUnit_107 : decode cX1_readUnit 107 = .ok (.invokevirtual 96, 3) := by decide +kernel
theorem dX1_readUnit_110 : decode cX1_readUnit 110 = .ok (.ifCond .ne 12, 3) := by decide +kernel
theorem dX1_readUnit_113 : decode cX1_readUnit 113 = .ok (.aload_n 1, 1) := by decide +kernel
theorem dX1_readUnit_114 : decode cX1_readUnit 114 = .ok (.ldc 100, 2) := by decide +kernel
theorem dX1_readUnit_116 : decode cX1_readUnit 116 = .ok (.invokevirtual 96, 3) := by decide +kernel
theorem dX1_readUnit_119 : decode cX1_readUnit 119 = .ok (.ifCond .eq 26, 3) := by decide +kernel
theorem dX1_readUnit_122 : decode cX1_readUnit 122 = .ok (.aload_n 0, 1) := by decide +kernel
theorem dX1_readUnit_123 : decode cX1_readUnit 123 = .ok (.aload_n 1, 1) := by decide +kernel
theorem dX1_readUnit_124 : decode cX1_readUnit 124 = .ok (.iload_n 2, 1) := by decide +kernel
theorem dX1_readUnit_125 : decode cX1_readUnit 125 = .ok (.aload_n 1, 1) := by decide +kernel
theorem dX1_readUnit_126 : decode cX1_readUnit 126 = .ok (.ldc 94, 2) := by decide +kernel
theorem dX1_readUnit_128 : decode cX1_readUnit 128 = .ok (.invokevirtual 96, 3) := by decide +kernel
theorem dX1_readUnit_131 : decode cX1_readUnit 131 = .ok (.ifCond .eq 8, 3) := by decide +kernel
theorem dX1_readUnit_134 : decode cX1_readUnit 134 = .ok (.bipush (-13), 2) := by decide +kernel
theorem dX1_readUnit_136 : decode cX1_readUnit 136 = .ok (.goto 5, 3) := by decide +kernel
theorem dX1_readUnit_139 : decode cX1_readUnit 139 = .ok (.bipush (-14), 2) := by decide +kernel
theorem dX1_readUnit_141 : decode cX1_readUnit 141 = .ok (.invokevirtual 102, 3) := by decide +kernel
theorem dX1_readUnit_144 : decode cX1_readUnit 144 = .ok (.ireturn, 1) := by decide +kernel
theorem dX1_readUnit_145 : decode cX1_readUnit 145 = .ok (.aload_n 1, 1) := by decide +kernel
theorem dX1_readUnit_146 : decode cX1_readUnit 146 = .ok (.invokestatic 106, 3) := by decide +kernel
theorem dX1_readUnit_149 : decode cX1_readUnit 149 = .ok (.istore_n 3, 1) := by decide +kernel
theorem dX1_readUnit_150 : decode cX1_readUnit 150 = .ok (.iload_n 3, 1) := by decide +kernel
theorem dX1_readUnit_151 : decode cX1_readUnit 151 = .ok (.ifCond .ne 15, 3) := by decide +kernel
theorem dX1_readUnit_154 : decode cX1_readUnit 154 = .ok (.aload_n 1, 1) := by decide +kernel
theorem dX1_readUnit_155 : decode cX1_readUnit 155 = .ok (.iconst 1, 1) := by decide +kernel
theorem dX1_readUnit_156 : decode cX1_readUnit 156 = .ok (.aload_n 1, 1) := by decide +kernel
theorem dX1_readUnit_157 : decode cX1_readUnit 157 = .ok (.getfield 110, 3) := by decide +kernel
theorem dX1_readUnit_160 : decode cX1_readUnit 160 = .ok (.invokevirtual 63, 3) := by decide +kernel
theorem dX1_readUnit_163 : decode cX1_readUnit 163 = .ok (.goto 8, 3) := by decide +kernel
theorem dX1_readUnit_166 : decode cX1_readUnit 166 = .ok (.aload_n 0, 1) := by decide +kernel
theorem dX1_readUnit_167 : decode cX1_readUnit 167 = .ok (.iload_n 3, 1) := by decide +kernel
theorem dX1_readUnit_168 : decode cX1_readUnit 168 = .ok (.invokevirtual 70, 3) := by decide +kernel
theorem dX1_readUnit_171 : decode cX1_readUnit 171 = .ok (.ireturn, 1) := by decide +kernel
theorem dX1_readPair_0 : decode cX1_readPair 0 = .ok (.iload_n 2, 1) := by decide +kernel
theorem dX1_readPair_1 : decode cX1_readPair 1 = .ok (.bipush 6, 2) := by decide +kernel
theorem dX1_readPair_3 : decode cX1_readPair 3 = .ok (.if_icmp .lt 13, 3) := by decide +kernel
theorem dX1_readPair_6 : decode cX1_readPair 6 = .ok (.aload_n 1, 1) := by decide +kernel
theorem dX1_readPair_7 : decode cX1_readPair 7 = .ok (.iconst 3, 1) := by decide +kernel
theorem dX1_readPair_8 : decode cX1_readPair 8 = .ok (.aload_n 1, 1) := by decide +kernel
theorem dX1_readPair_9 : decode cX1_readPair 9 = .ok (.getfield 110, 3) := by decide +kernel
theorem dX1_readPair_12 : decode cX1_readPair 12 = .ok (.invokevirtual 63, 3) := by decide +kernel
theorem dX1_readPair_15 : decode cX1_readPair 15 = .ok (.ireturn, 1) := by decide +kernel
theorem dX1_readPair_16 : decode cX1_readPair 16 = .ok (.aload_n 1, 1) := by decide +kernel
theorem dX1_readPair_17 : decode cX1_readPair 17 = .ok (.bipush 91, 2) := by decide +kernel
theorem dX1_readPair_19 : decode cX1_readPair 19 = .ok (.invokevirtual 87, 3) := by decide +kernel
theorem dX1_readPair_22 : decode cX1_readPair 22 = .ok (.ifCond .eq 55, 3) := by decide +kernel
theorem dX1_readPair_25 : decode cX1_readPair 25 = .ok (.aload_n 0, 1) := by decide +kernel
theorem dX1_readPair_26 : decode cX1_readPair 26 = .ok (.aload_n 1, 1) := by decide +kernel
theorem dX1_readPair_27 : decode cX1_readPair 27 = .ok (.iload_n 2, 1) := by decide +kernel
theorem dX1_readPair_28 : decode cX1_readPair 28 = .ok (.iconst 1, 1) := by decide +kernel
theorem dX1_readPair_29 : decode cX1_readPair 29 = .ok (.iadd, 1) := by decide +kernel
theorem dX1_readPair_30 : decode cX1_readPair 30 = .ok (.invokevirtual 50, 3) := by decide +kernel
theorem dX1_readPair_33 : decode cX1_readPair 33 = .ok (.ifCond .eq 44, 3) := by decide +kernel
theorem dX1_readPair_36 : decode cX1_readPair 36 = .ok (.aload_n 1, 1) := by decide +kernel
theorem dX1_readPair_37 : decode cX1_readPair 37 = .ok (.bipush 44, 2) := by decide +kernel
theorem dX1_readPair_39 : decode cX1_readPair 39 = .ok (.invokevirtual 87, 3) := by decide +kernel
theorem dX1_readPair_42 : decode cX1_readPair 42 = .ok (.ifCond .eq 35, 3) := by decide +kernel
theorem dX1_readPair_45 : decode cX1_readPair 45 = .ok (.aload_n 0, 1) := by decide +kernel
theorem dX1_readPair_46 : decode cX1_readPair 46 = .ok (.aload_n 1, 1) := by decide +kernel
theorem dX1_readPair_47 : decode cX1_readPair 47 = .ok (.iload_n 2, 1) := by decide +kernel
theorem dX1_readPair_48 : decode cX1_readPair 48 = .ok (.iconst 1, 1) := by decide +kernel
theorem dX1_readPair_49 : decode cX1_readPair 49 = .ok (.iadd, 1) := by decide +kernel
theorem dX1_readPair_50 : decode cX1_readPair 50 = .ok (.invokevirtual 50, 3) := by decide +kernel
theorem dX1_readPair_53 : decode cX1_readPair 53 = .ok (.ifCond .eq 24, 3) := by decide +kernel
theorem dX1_readPair_56 : decode cX1_readPair 56 = .ok (.aload_n 1, 1) := by decide +kernel
theorem dX1_readPair_57 : decode cX1_readPair 57 = .ok (.bipush 93, 2) := by decide +kernel
theorem dX1_readPair_59 : decode cX1_readPair 59 = .ok (.invokevirtual 87, 3) := by decide +kernel
theorem dX1_readPair_62 : decode cX1_readPair 62 = .ok (.ifCond .eq 15, 3) := by decide +kernel
theorem dX1_readPair_65 : decode cX1_readPair 65 = .ok (.aload_n 0, 1) := by decide +kernel
theorem dX1_readPair_66 : decode cX1_readPair 66 = .ok (.iload_n 3, 1) := by decide +kernel
theorem dX1_readPair_67 : decode cX1_readPair 67 = .ok (.invokevirtual 70, 3) := by decide +kernel
theorem dX1_readPair_70 : decode cX1_readPair 70 = .ok (.ifCond .eq 7, 3) := by decide +kernel
theorem dX1_readPair_73 : decode cX1_readPair 73 = .ok (.iconst 1, 1) := by decide +kernel
theorem dX1_readPair_74 : decode cX1_readPair 74 = .ok (.goto 4, 3) := by decide +kernel
theorem dX1_readPair_77 : decode cX1_readPair 77 = .ok (.iconst 0, 1) := by decide +kernel
theorem dX1_readPair_78 : decode cX1_readPair 78 = .ok (.ireturn, 1) := by decide +kernel
theorem dX1_nameTaken_0 : decode cX1_nameTaken 0 = .ok (.aload_n 0, 1) := by decide +kernel
theorem dX1_nameTaken_1 : decode cX1_nameTaken 1 = .ok (.ldc 113, 2) := by decide +kernel
theorem dX1_nameTaken_3 : decode cX1_nameTaken 3 = .ok (.invokevirtual 96, 3) := by decide +kernel
theorem dX1_nameTaken_6 : decode cX1_nameTaken 6 = .ok (.ifCond .eq 7, 3) := by decide +kernel
theorem dX1_nameTaken_9 : decode cX1_nameTaken 9 = .ok (.iconst (-1), 1) := by decide +kernel
theorem dX1_nameTaken_10 : decode cX1_nameTaken 10 = .ok (.goto 88, 3) := by decide +kernel
theorem dX1_nameTaken_13 : decode cX1_nameTaken 13 = .ok (.aload_n 0, 1) := by decide +kernel
theorem dX1_nameTaken_14 : decode cX1_nameTaken 14 = .ok (.ldc 115, 2) := by decide +kernel
theorem dX1_nameTaken_16 : decode cX1_nameTaken 16 = .ok (.invokevirtual 96, 3) := by decide +kernel
theorem dX1_nameTaken_19 : decode cX1_nameTaken 19 = .ok (.ifCond .eq 8, 3) := by decide +kernel
theorem dX1_nameTaken_22 : decode cX1_nameTaken 22 = .ok (.bipush (-2), 2) := by decide +kernel
theorem dX1_nameTaken_24 : decode cX1_nameTaken 24 = .ok (.goto 74, 3) := by decide +kernel
theorem dX1_nameTaken_27 : decode cX1_nameTaken 27 = .ok (.aload_n 0, 1) := by decide +kernel
theorem dX1_nameTaken_28 : decode cX1_nameTaken 28 = .ok (.ldc 117, 2) := by decide +kernel
theorem dX1_nameTaken_30 : decode cX1_nameTaken 30 = .ok (.invokevirtual 96, 3) := by decide +kernel
theorem dX1_nameTaken_33 : decode cX1_nameTaken 33 = .ok (.ifCond .eq 8, 3) := by decide +kernel
theorem dX1_nameTaken_36 : decode cX1_nameTaken 36 = .ok (.bipush (-3), 2) := by decide +kernel
theorem dX1_nameTaken_38 : decode cX1_nameTaken 38 = .ok (.goto 60, 3) := by decide +kernel
theorem dX1_nameTaken_41 : decode cX1_nameTaken 41 = .ok (.aload_n 0, 1) := by decide +kernel
theorem dX1_nameTaken_42 : decode cX1_nameTaken 42 = .ok (.ldc 119, 2) := by decide +kernel
theorem dX1_nameTaken_44 : decode cX1_nameTaken 44 = .ok (.invokevirtual 96, 3) := by decide +kernel
theorem dX1_nameTaken_47 : decode cX1_nameTaken 47 = .ok (.ifCond .eq 8, 3) := by decide +kernel
theorem dX1_nameTaken_50 : decode cX1_nameTaken 50 = .ok (.bipush (-4), 2) := by decide +kernel
theorem dX1_nameTaken_52 : decode cX1_nameTaken 52 = .ok (.goto 46, 3) := by decide +kernel
theorem dX1_nameTaken_55 : decode cX1_nameTaken 55 = .ok (.aload_n 0, 1) := by decide +kernel
theorem dX1_nameTaken_56 : decode cX1_nameTaken 56 = .ok (.ldc 121, 2) := by decide +kernel
theorem dX1_nameTaken_58 : decode cX1_nameTaken 58 = .ok (.invokevirtual 96, 3) := by decide +kernel
theorem dX1_nameTaken_61 : decode cX1_nameTaken 61 = .ok (.ifCond .eq 8, 3) := by decide +kernel
theorem dX1_nameTaken_64 : decode cX1_nameTaken 64 = .ok (.bipush (-5), 2) := by decide +kernel
theorem dX1_nameTaken_66 : decode cX1_nameTaken 66 = .ok (.goto 32, 3) := by decide +kernel
theorem dX1_nameTaken_69 : decode cX1_nameTaken 69 = .ok (.aload_n 0, 1) := by decide +kernel
theorem dX1_nameTaken_70 : decode cX1_nameTaken 70 = .ok (.ldc 123, 2) := by decide +kernel
theorem dX1_nameTaken_72 : decode cX1_nameTaken 72 = .ok (.invokevirtual 96, 3) := by decide +kernel
theorem dX1_nameTaken_75 : decode cX1_nameTaken 75 = .ok (.ifCond .eq 8, 3) := by decide +kernel
theorem dX1_nameTaken_78 : decode cX1_nameTaken 78 = .ok (.bipush (-6), 2) := by decide +kernel
theorem dX1_nameTaken_80 : decode cX1_nameTaken 80 = .ok (.goto 18, 3) := by decide +kernel
theorem dX1_nameTaken_83 : decode cX1_nameTaken 83 = .ok (.aload_n 0, 1) := by decide +kernel
theorem dX1_nameTaken_84 : decode cX1_nameTaken 84 = .ok (.ldc 125, 2) := by decide +kernel
theorem dX1_nameTaken_86 : decode cX1_nameTaken 86 = .ok (.invokevirtual 96, 3) := by decide +kernel
theorem dX1_nameTaken_89 : decode cX1_nameTaken 89 = .ok (.ifCond .eq 8, 3) := by decide +kernel
theorem dX1_nameTaken_92 : decode cX1_nameTaken 92 = .ok (.bipush (-7), 2) := by decide +kernel
theorem dX1_nameTaken_94 : decode cX1_nameTaken 94 = .ok (.goto 4, 3) := by decide +kernel
theorem dX1_nameTaken_97 : decode cX1_nameTaken 97 = .ok (.iconst 0, 1) := by decide +kernel
theorem dX1_nameTaken_98 : decode cX1_nameTaken 98 = .ok (.ireturn, 1) := by decide +kernel
theorem dX2_init_0 : decode cX2_init 0 = .ok (.aload_n 0, 1) := by decide +kernel
theorem dX2_init_1 : decode cX2_init 1 = .ok (.invokespecial 3, 3) := by decide +kernel
theorem dX2_init_4 : decode cX2_init 4 = .ok (.aload_n 0, 1) := by decide +kernel
theorem dX2_init_5 : decode cX2_init 5 = .ok (.bipush 6, 2) := by decide +kernel
theorem dX2_init_7 : decode cX2_init 7 = .ok (.newarray .int, 2) := by decide +kernel
theorem dX2_init_9 : decode cX2_init 9 = .ok (.putfield 9, 3) := by decide +kernel
theorem dX2_init_12 : decode cX2_init 12 = .ok (.aload_n 0, 1) := by decide +kernel
theorem dX2_init_13 : decode cX2_init 13 = .ok (.bipush 48, 2) := by decide +kernel
theorem dX2_init_15 : decode cX2_init 15 = .ok (.newarray .int, 2) := by decide +kernel
theorem dX2_init_17 : decode cX2_init 17 = .ok (.putfield 15, 3) := by decide +kernel
theorem dX2_init_20 : decode cX2_init 20 = .ok (.aload_n 0, 1) := by decide +kernel
theorem dX2_init_21 : decode cX2_init 21 = .ok (.iconst 4, 1) := by decide +kernel
theorem dX2_init_22 : decode cX2_init 22 = .ok (.newarray .int, 2) := by decide +kernel
theorem dX2_init_24 : decode cX2_init 24 = .ok (.putfield 18, 3) := by decide +kernel
theorem dX2_init_27 : decode cX2_init 27 = .ok (.aload_n 0, 1) := by decide +kernel
theorem dX2_init_28 : decode cX2_init 28 = .ok (.bipush 60, 2) := by decide +kernel
theorem dX2_init_30 : decode cX2_init 30 = .ok (.putfield 21, 3) := by decide +kernel
theorem dX2_init_33 : decode cX2_init 33 = .ok (.return_, 1) := by decide +kernel
theorem dX2_hasLine_0 : decode cX2_hasLine 0 = .ok (.iload_n 1, 1) := by decide +kernel
theorem dX2_hasLine_1 : decode cX2_hasLine 1 = .ok (.ifCond .lt 15, 3) := by decide +kernel
theorem dX2_hasLine_4 : decode cX2_hasLine 4 = .ok (.iload_n 1, 1) := by decide +kernel
theorem dX2_hasLine_5 : decode cX2_hasLine 5 = .ok (.aload_n 0, 1) := by decide +kernel
theorem dX2_hasLine_6 : decode cX2_hasLine 6 = .ok (.getfield 25, 3) := by decide +kernel
theorem dX2_hasLine_9 : decode cX2_hasLine 9 = .ok (.if_icmp .ge 7, 3) := by decide +kernel
theorem dX2_hasLine_12 : decode cX2_hasLine 12 = .ok (.iconst 1, 1) := by decide +kernel
theorem dX2_hasLine_13 : decode cX2_hasLine 13 = .ok (.goto 4, 3) := by decide +kernel
theorem dX2_hasLine_16 : decode cX2_hasLine 16 = .ok (.iconst 0, 1) := by decide +kernel
theorem dX2_hasLine_17 : decode cX2_hasLine 17 = .ok (.ireturn, 1) := by decide +kernel
theorem dX2_hasWord_0 : decode cX2_hasWord 0 = .ok (.iload_n 1, 1) := by decide +kernel
theorem dX2_hasWord_1 : decode cX2_hasWord 1 = .ok (.ifCond .lt 29, 3) := by decide +kernel
theorem dX2_hasWord_4 : decode cX2_hasWord 4 = .ok (.iload_n 1, 1) := by decide +kernel
theorem dX2_hasWord_5 : decode cX2_hasWord 5 = .ok (.aload_n 0, 1) := by decide +kernel
theorem dX2_hasWord_6 : decode cX2_hasWord 6 = .ok (.getfield 25, 3) := by decide +kernel
theorem dX2_hasWord_9 : decode cX2_hasWord 9 = .ok (.if_icmp .ge 21, 3) := by decide +kernel
theorem dX2_hasWord_12 : decode cX2_hasWord 12 = .ok (.iload_n 2, 1) := by decide +kernel
theorem dX2_hasWord_13 : decode cX2_hasWord 13 = .ok (.ifCond .lt 17, 3) := by decide +kernel
theorem dX2_hasWord_16 : decode cX2_hasWord 16 = .ok (.iload_n 2, 1) := by decide +kernel
theorem dX2_hasWord_17 : decode cX2_hasWord 17 = .ok (.aload_n 0, 1) := by decide +kernel
theorem dX2_hasWord_18 : decode cX2_hasWord 18 = .ok (.getfield 9, 3) := by decide +kernel
theorem dX2_hasWord_21 : decode cX2_hasWord 21 = .ok (.iload_n 1, 1) := by decide +kernel
theorem dX2_hasWord_22 : decode cX2_hasWord 22 = .ok (.iaload, 1) := by decide +kernel
theorem dX2_hasWord_23 : decode cX2_hasWord 23 = .ok (.if_icmp .ge 7, 3) := by decide +kernel
theorem dX2_hasWord_26 : decode cX2_hasWord 26 = .ok (.iconst 1, 1) := by decide +kernel
theorem dX2_hasWord_27 : decode cX2_hasWord 27 = .ok (.goto 4, 3) := by decide +kernel
theorem dX2_hasWord_30 : decode cX2_hasWord 30 = .ok (.iconst 0, 1) := by decide +kernel
theorem dX2_hasWord_31 : decode cX2_hasWord 31 = .ok (.ireturn, 1) := by decide +kernel
theorem dX2_wordAt_0 : decode cX2_wordAt 0 = .ok (.iload_n 1, 1) := by decide +kernel
theorem dX2_wordAt_1 : decode cX2_wordAt 1 = .ok (.ifCond .lt 39, 3) := by decide +kernel
theorem dX2_wordAt_4 : decode cX2_wordAt 4 = .ok (.iload_n 1, 1) := by decide +kernel
theorem dX2_wordAt_5 : decode cX2_wordAt 5 = .ok (.aload_n 0, 1) := by decide +kernel
theorem dX2_wordAt_6 : decode cX2_wordAt 6 = .ok (.getfield 25, 3) := by decide +kernel
theorem dX2_wordAt_9 : decode cX2_wordAt 9 = .ok (.if_icmp .ge 31, 3) := by decide +kernel
theorem dX2_wordAt_12 : decode cX2_wordAt 12 = .ok (.iload_n 2, 1) := by decide +kernel
theorem dX2_wordAt_13 : decode cX2_wordAt 13 = .ok (.ifCond .lt 27, 3) := by decide +kernel
theorem dX2_wordAt_16 : decode cX2_wordAt 16 = .ok (.iload_n 2, 1) := by decide +kernel
theorem dX2_wordAt_17 : decode cX2_wordAt 17 = .ok (.aload_n 0, 1) := by decide +kernel
theorem dX2_wordAt_18 : decode cX2_wordAt 18 = .ok (.getfield 9, 3) := by decide +kernel
theorem dX2_wordAt_21 : decode cX2_wordAt 21 = .ok (.iload_n 1, 1) := by decide +kernel
theorem dX2_wordAt_22 : decode cX2_wordAt 22 = .ok (.iaload, 1) := by decide +kernel
theorem dX2_wordAt_23 : decode cX2_wordAt 23 = .ok (.if_icmp .ge 17, 3) := by decide +kernel
theorem dX2_wordAt_26 : decode cX2_wordAt 26 = .ok (.aload_n 0, 1) := by decide +kernel
theorem dX2_wordAt_27 : decode cX2_wordAt 27 = .ok (.getfield 15, 3) := by decide +kernel
theorem dX2_wordAt_30 : decode cX2_wordAt 30 = .ok (.iload_n 1, 1) := by decide +kernel
theorem dX2_wordAt_31 : decode cX2_wordAt 31 = .ok (.bipush 8, 2) := by decide +kernel
theorem dX2_wordAt_33 : decode cX2_wordAt 33 = .ok (.imul, 1) := by decide +kernel
theorem dX2_wordAt_34 : decode cX2_wordAt 34 = .ok (.iload_n 2, 1) := by decide +kernel
theorem dX2_wordAt_35 : decode cX2_wordAt 35 = .ok (.iadd, 1) := by decide +kernel
theorem dX2_wordAt_36 : decode cX2_wordAt 36 = .ok (.iaload, 1) := by decide +kernel
theorem dX2_wordAt_37 : decode cX2_wordAt 37 = .ok (.goto 4, 3) := by decide +kernel
theorem dX2_wordAt_40 : decode cX2_wordAt 40 = .ok (.iconst 0, 1) := by decide +kernel
theorem dX2_wordAt_41 : decode cX2_wordAt 41 = .ok (.ireturn, 1) := by decide +kernel
theorem dX2_takeOver_0 : decode cX2_takeOver 0 = .ok (.aload_n 1, 1) := by decide +kernel
theorem dX2_takeOver_1 : decode cX2_takeOver 1 = .ok (.getfield 9, 3) := by decide +kernel
theorem dX2_takeOver_4 : decode cX2_takeOver 4 = .ok (.iconst 0, 1) := by decide +kernel
theorem dX2_takeOver_5 : decode cX2_takeOver 5 = .ok (.aload_n 0, 1) := by decide +kernel
theorem dX2_takeOver_6 : decode cX2_takeOver 6 = .ok (.getfield 9, 3) := by decide +kernel
theorem dX2_takeOver_9 : decode cX2_takeOver 9 = .ok (.iconst 0, 1) := by decide +kernel
theorem dX2_takeOver_10 : decode cX2_takeOver 10 = .ok (.bipush 6, 2) := by decide +kernel
theorem dX2_takeOver_12 : decode cX2_takeOver 12 = .ok (.invokestatic 28, 3) := by decide +kernel
theorem dX2_takeOver_15 : decode cX2_takeOver 15 = .ok (.aload_n 1, 1) := by decide +kernel
theorem dX2_takeOver_16 : decode cX2_takeOver 16 = .ok (.getfield 15, 3) := by decide +kernel
theorem dX2_takeOver_19 : decode cX2_takeOver 19 = .ok (.iconst 0, 1) := by decide +kernel
theorem dX2_takeOver_20 : decode cX2_takeOver 20 = .ok (.aload_n 0, 1) := by decide +kernel
theorem dX2_takeOver_21 : decode cX2_takeOver 21 = .ok (.getfield 15, 3) := by decide +kernel
theorem dX2_takeOver_24 : decode cX2_takeOver 24 = .ok (.iconst 0, 1) := by decide +kernel
theorem dX2_takeOver_25 : decode cX2_takeOver 25 = .ok (.bipush 48, 2) := by decide +kernel
theorem dX2_takeOver_27 : decode cX2_takeOver 27 = .ok (.invokestatic 28, 3) := by decide +kernel
theorem dX2_takeOver_30 : decode cX2_takeOver 30 = .ok (.aload_n 1, 1) := by decide +kernel
theorem dX2_takeOver_31 : decode cX2_takeOver 31 = .ok (.getfield 18, 3) := by decide +kernel
theorem dX2_takeOver_34 : decode cX2_takeOver 34 = .ok (.iconst 0, 1) := by decide +kernel
theorem dX2_takeOver_35 : decode cX2_takeOver 35 = .ok (.aload_n 0, 1) := by decide +kernel
theorem dX2_takeOver_36 : decode cX2_takeOver 36 = .ok (.getfield 18, 3) := by decide +kernel
theorem dX2_takeOver_39 : decode cX2_takeOver 39 = .ok (.iconst 0, 1) := by decide +kernel
theorem dX2_takeOver_40 : decode cX2_takeOver 40 = .ok (.iconst 4, 1) := by decide +kernel
theorem dX2_takeOver_41 : decode cX2_takeOver 41 = .ok (.invokestatic 28, 3) := by decide +kernel
theorem dX2_takeOver_44 : decode cX2_takeOver 44 = .ok (.aload_n 0, 1) := by decide +kernel
theorem dX2_takeOver_45 : decode cX2_takeOver 45 = .ok (.aload_n 1, 1) := by decide +kernel
theorem dX2_takeOver_46 : decode cX2_takeOver 46 = .ok (.getfield 25, 3) := by decide +kernel
theorem dX2_takeOver_49 : decode cX2_takeOver 49 = .ok (.putfield 25, 3) := by decide +kernel
theorem dX2_takeOver_52 : decode cX2_takeOver 52 = .ok (.aload_n 0, 1) := by decide +kernel
theorem dX2_takeOver_53 : decode cX2_takeOver 53 = .ok (.aload_n 1, 1) := by decide +kernel
theorem dX2_takeOver_54 : decode cX2_takeOver 54 = .ok (.getfield 34, 3) := by decide +kernel
theorem dX2_takeOver_57 : decode cX2_takeOver 57 = .ok (.putfield 34, 3) := by decide +kernel
theorem dX2_takeOver_60 : decode cX2_takeOver 60 = .ok (.aload_n 0, 1) := by decide +kernel
theorem dX2_takeOver_61 : decode cX2_takeOver 61 = .ok (.aload_n 1, 1) := by decide +kernel
theorem dX2_takeOver_62 : decode cX2_takeOver 62 = .ok (.getfield 21, 3) := by decide +kernel
theorem dX2_takeOver_65 : decode cX2_takeOver 65 = .ok (.putfield 21, 3) := by decide +kernel
theorem dX2_takeOver_68 : decode cX2_takeOver 68 = .ok (.return_, 1) := by decide +kernel
theorem dX2_readFrom_0 : decode cX2_readFrom 0 = .ok (.aload_n 0, 1) := by decide +kernel
theorem dX2_readFrom_1 : decode cX2_readFrom 1 = .ok (.iconst 0, 1) := by decide +kernel
theorem dX2_readFrom_2 : decode cX2_readFrom 2 = .ok (.putfield 25, 3) := by decide +kernel
theorem dX2_readFrom_5 : decode cX2_readFrom 5 = .ok (.aload_n 0, 1) := by decide +kernel
theorem dX2_readFrom_6 : decode cX2_readFrom 6 = .ok (.iconst 0, 1) := by decide +kernel
theorem dX2_readFrom_7 : decode cX2_readFrom 7 = .ok (.putfield 34, 3) := by decide +kernel
theorem dX2_readFrom_10 : decode cX2_readFrom 10 = .ok (.aload_n 0, 1) := by decide +kernel
theorem dX2_readFrom_11 : decode cX2_readFrom 11 = .ok (.bipush 60, 2) := by decide +kernel
theorem dX2_readFrom_13 : decode cX2_readFrom 13 = .ok (.putfield 21, 3) := by decide +kernel
theorem dX2_readFrom_16 : decode cX2_readFrom 16 = .ok (.iconst 0, 1) := by decide +kernel
theorem dX2_readFrom_17 : decode cX2_readFrom 17 = .ok (.istore_n 2, 1) := by decide +kernel
theorem dX2_readFrom_18 : decode cX2_readFrom 18 = .ok (.iload_n 2, 1) := by decide +kernel
theorem dX2_readFrom_19 : decode cX2_readFrom 19 = .ok (.iconst 4, 1) := by decide +kernel
theorem dX2_readFrom_20 : decode cX2_readFrom 20 = .ok (.if_icmp .ge 16, 3) := by decide +kernel
theorem dX2_readFrom_23 : decode cX2_readFrom 23 = .ok (.aload_n 0, 1) := by decide +kernel
theorem dX2_readFrom_24 : decode cX2_readFrom 24 = .ok (.getfield 18, 3) := by decide +kernel
theorem dX2_readFrom_27 : decode cX2_readFrom 27 = .ok (.iload_n 2, 1) := by decide +kernel
theorem dX2_readFrom_28 : decode cX2_readFrom 28 = .ok (.iconst 0, 1) := by decide +kernel
theorem dX2_readFrom_29 : decode cX2_readFrom 29 = .ok (.iastore, 1) := by decide +kernel
theorem dX2_readFrom_30 : decode cX2_readFrom 30 = .ok (.iinc 2 1, 3) := by decide +kernel
theorem dX2_readFrom_33 : decode cX2_readFrom 33 = .ok (.goto (-15), 3) := by decide +kernel
theorem dX2_readFrom_36 : decode cX2_readFrom 36 = .ok (.iconst 0, 1) := by decide +kernel
theorem dX2_readFrom_37 : decode cX2_readFrom 37 = .ok (.istore_n 2, 1) := by decide +kernel
theorem dX2_readFrom_38 : decode cX2_readFrom 38 = .ok (.iload_n 2, 1) := by decide +kernel
theorem dX2_readFrom_39 : decode cX2_readFrom 39 = .ok (.bipush 60, 2) := by decide +kernel
theorem dX2_readFrom_41 : decode cX2_readFrom 41 = .ok (.if_icmp .gt 30, 3) := by decide +kernel
theorem dX2_readFrom_44 : decode cX2_readFrom 44 = .ok (.aload_n 1, 1) := by decide +kernel
theorem dX2_readFrom_45 : decode cX2_readFrom 45 = .ok (.invokevirtual 37, 3) := by decide +kernel
theorem dX2_readFrom_48 : decode cX2_readFrom 48 = .ok (.iconst (-1), 1) := by decide +kernel
theorem dX2_readFrom_49 : decode cX2_readFrom 49 = .ok (.if_icmp .ne 5, 3) := by decide +kernel
theorem dX2_readFrom_52 : decode cX2_readFrom 52 = .ok (.iconst 1, 1) := by decide +kernel
theorem dX2_readFrom_53 : decode cX2_readFrom 53 = .ok (.ireturn, 1) := by decide +kernel
theorem dX2_readFrom_54 : decode cX2_readFrom 54 = .ok (.aload_n 0, 1) := by decide +kernel
theorem dX2_readFrom_55 : decode cX2_readFrom 55 = .ok (.aload_n 1, 1) := by decide +kernel
theorem dX2_readFrom_56 : decode cX2_readFrom 56 = .ok (.iload_n 2, 1) := by decide +kernel
theorem dX2_readFrom_57 : decode cX2_readFrom 57 = .ok (.invokevirtual 43, 3) := by decide +kernel
theorem dX2_readFrom_60 : decode cX2_readFrom 60 = .ok (.ifCond .ne 5, 3) := by decide +kernel
theorem dX2_readFrom_63 : decode cX2_readFrom 63 = .ok (.iconst 0, 1) := by decide +kernel
theorem dX2_readFrom_64 : decode cX2_readFrom 64 = .ok (.ireturn, 1) := by decide +kernel
theorem dX2_readFrom_65 : decode cX2_readFrom 65 = .ok (.iinc 2 1, 3) := by decide +kernel
theorem dX2_readFrom_68 : decode cX2_readFrom 68 = .ok (.goto (-30), 3) := by decide +kernel
theorem dX2_readFrom_71 : decode cX2_readFrom 71 = .ok (.iconst 0, 1) := by decide +kernel
theorem dX2_readFrom_72 : decode cX2_readFrom 72 = .ok (.ireturn, 1) := by decide +kernel
theorem dX2_readClause_0 : decode cX2_readClause 0 = .ok (.aload_n 1, 1) := by decide +kernel
theorem dX2_readClause_1 : decode cX2_readClause 1 = .ok (.invokevirtual 47, 3) := by decide +kernel
theorem dX2_readClause_4 : decode cX2_readClause 4 = .ok (.ifCond .ne 5, 3) := by decide +kernel
theorem dX2_readClause_7 : decode cX2_readClause 7 = .ok (.iconst 0, 1) := by decide +kernel
theorem dX2_readClause_8 : decode cX2_readClause 8 = .ok (.ireturn, 1) := by decide +kernel
theorem dX2_readClause_9 : decode cX2_readClause 9 = .ok (.aload_n 1, 1) := by decide +kernel
theorem dX2_readClause_10 : decode cX2_readClause 10 = .ok (.ldc 51, 2) := by decide +kernel
theorem dX2_readClause_12 : decode cX2_readClause 12 = .ok (.invokevirtual 53, 3) := by decide +kernel
theorem dX2_readClause_15 : decode cX2_readClause 15 = .ok (.istore_n 3, 1) := by decide +kernel
theorem dX2_readClause_16 : decode cX2_readClause 16 = .ok (.aload_n 1, 1) := by decide +kernel
theorem dX2_readClause_17 : decode cX2_readClause 17 = .ok (.ldc 57, 2) := by decide +kernel
theorem dX2_readClause_19 : decode cX2_readClause 19 = .ok (.invokevirtual 53, 3) := by decide +kernel
theorem dX2_readClause_22 : decode cX2_readClause 22 = .ok (.istore 4, 2) := by decide +kernel
theorem dX2_readClause_24 : decode cX2_readClause 24 = .ok (.iload_n 3, 1) := by decide +kernel
theorem dX2_readClause_25 : decode cX2_readClause 25 = .ok (.ifCond .ne 27, 3) := by decide +kernel
theorem dX2_readClause_28 : decode cX2_readClause 28 = .ok (.iload 4, 2) := by decide +kernel
theorem dX2_readClause_30 : decode cX2_readClause 30 = .ok (.ifCond .ne 22, 3) := by decide +kernel
theorem dX2_readClause_33 : decode cX2_readClause 33 = .ok (.aload_n 1, 1) := by decide +kernel
theorem dX2_readClause_34 : decode cX2_readClause 34 = .ok (.ldc 59, 2) := by decide +kernel
theorem dX2_readClause_36 : decode cX2_readClause 36 = .ok (.invokevirtual 53, 3) := by decide +kernel
theorem dX2_readClause_39 : decode cX2_readClause 39 = .ok (.ifCond .ne 13, 3) := by decide +kernel
theorem dX2_readClause_42 : decode cX2_readClause 42 = .ok (.aload_n 1, 1) := by decide +kernel
theorem dX2_readClause_43 : decode cX2_readClause 43 = .ok (.iconst 1, 1) := by decide +kernel
theorem dX2_readClause_44 : decode cX2_readClause 44 = .ok (.aload_n 1, 1) := by decide +kernel
theorem dX2_readClause_45 : decode cX2_readClause 45 = .ok (.getfield 61, 3) := by decide +kernel
theorem dX2_readClause_48 : decode cX2_readClause 48 = .ok (.invokevirtual 64, 3) := by decide +kernel
theorem dX2_readClause_51 : decode cX2_readClause 51 = .ok (.ireturn, 1) := by decide +kernel
theorem dX2_readClause_52 : decode cX2_readClause 52 = .ok (.iload_n 2, 1) := by decide +kernel
theorem dX2_readClause_53 : decode cX2_readClause 53 = .ok (.bipush 60, 2) := by decide +kernel
theorem dX2_readClause_55 : decode cX2_readClause 55 = .ok (.if_icmp .ge 16, 3) := by decide +kernel
theorem dX2_readClause_58 : decode cX2_readClause 58 = .ok (.iload_n 3, 1) := by decide +kernel
theorem dX2_readClause_59 : decode cX2_readClause 59 = .ok (.ifCond .eq 22, 3) := by decide +kernel
theorem dX2_readClause_62 : decode cX2_readClause 62 = .ok (.aload_n 0, 1) := by decide +kernel
theorem dX2_readClause_63 : decode cX2_readClause 63 = .ok (.getfield 25, 3) := by decide +kernel
theorem dX2_readClause_66 : decode cX2_readClause 66 = .ok (.bipush 6, 2) := by decide +kernel
theorem dX2_readClause_68 : decode cX2_readClause 68 = .ok (.if_icmp .lt 13, 3) := by decide +kernel
theorem dX2_readClause_71 : decode cX2_readClause 71 = .ok (.aload_n 1, 1) := by decide +kernel
theorem dX2_readClause_72 : decode cX2_readClause 72 = .ok (.iconst 3, 1) := by decide +kernel
theorem dX2_readClause_73 : decode cX2_readClause 73 = .ok (.aload_n 1, 1) := by decide +kernel
theorem dX2_readClause_74 : decode cX2_readClause 74 = .ok (.getfield 61, 3) := by decide +kernel
theorem dX2_readClause_77 : decode cX2_readClause 77 = .ok (.invokevirtual 64, 3) := by decide +kernel
theorem dX2_readClause_80 : decode cX2_readClause 80 = .ok (.ireturn, 1) := by decide +kernel
theorem dX2_readClause_81 : decode cX2_readClause 81 = .ok (.iload_n 3, 1) := by decide +kernel
theorem dX2_readClause_82 : decode cX2_readClause 82 = .ok (.ifCond .eq 11, 3) := by decide +kernel
theorem dX2_readClause_85 : decode cX2_readClause 85 = .ok (.aload_n 0, 1) := by decide +kernel
theorem dX2_readClause_86 : decode cX2_readClause 86 = .ok (.aload_n 1, 1) := by decide +kernel
theorem dX2_readClause_87 : decode cX2_readClause 87 = .ok (.invokevirtual 68, 3) := by decide +kernel
theorem dX2_readClause_90 : decode cX2_readClause 90 = .ok (.goto 21, 3) := by decide +kernel
theorem dX2_readClause_93 : decode cX2_readClause 93 = .ok (.iload 4, 2) := by decide +kernel
theorem dX2_readClause_95 : decode cX2_readClause 95 = .ok (.ifCond .eq 11, 3) := by decide +kernel
theorem dX2_readClause_98 : decode cX2_readClause 98 = .ok (.aload_n 0, 1) := by decide +kernel
theorem dX2_readClause_99 : decode cX2_readClause 99 = .ok (.aload_n 1, 1) := by decide +kernel
theorem dX2_readClause_100 : decode cX2_readClause 100 = .ok (.invokevirtual 72, 3) := by decide +kernel
theorem dX2_readClause_103 : decode cX2_readClause 103 = .ok (.goto 8, 3) := by decide +kernel
theorem dX2_readClause_106 : decode cX2_readClause 106 = .ok (.aload_n 0, 1) := by decide +kernel
theorem dX2_readClause_107 : decode cX2_readClause 107 = .ok (.aload_n 1, 1) := by decide +kernel
theorem dX2_readClause_108 : decode cX2_readClause 108 = .ok (.invokevirtual 75, 3) := by decide +kernel
theorem dX2_readClause_111 : decode cX2_readClause 111 = .ok (.istore 5, 2) := by decide +kernel
theorem dX2_readClause_113 : decode cX2_readClause 113 = .ok (.iload 5, 2) := by decide +kernel
theorem dX2_readClause_115 : decode cX2_readClause 115 = .ok (.ifCond .eq 16, 3) := by decide +kernel
theorem dX2_readClause_118 : decode cX2_readClause 118 = .ok (.aload_n 1, 1) := by decide +kernel
theorem dX2_readClause_119 : decode cX2_readClause 119 = .ok (.bipush 59, 2) := by decide +kernel
theorem dX2_readClause_121 : decode cX2_readClause 121 = .ok (.invokevirtual 78, 3) := by decide +kernel
theorem dX2_readClause_124 : decode cX2_readClause 124 = .ok (.ifCond .eq 7, 3) := by decide +kernel
theorem dX2_readClause_127 : decode cX2_readClause 127 = .ok (.iconst 1, 1) := by decide +kernel
theorem dX2_readClause_128 : decode cX2_readClause 128 = .ok (.goto 4, 3) := by decide +kernel
theorem dX2_readClause_131 : decode cX2_readClause 131 = .ok (.iconst 0, 1) := by decide +kernel
theorem dX2_readClause_132 : decode cX2_readClause 132 = .ok (.ireturn, 1) := by decide +kernel
theorem dX2_readLine_0 : decode cX2_readLine 0 = .ok (.iconst 0, 1) := by decide +kernel
theorem dX2_readLine_1 : decode cX2_readLine 1 = .ok (.istore_n 2, 1) := by decide +kernel
theorem dX2_readLine_2 : decode cX2_readLine 2 = .ok (.aload_n 1, 1) := by decide +kernel
theorem dX2_readLine_3 : decode cX2_readLine 3 = .ok (.iconst 0, 1) := by decide +kernel
theorem dX2_readLine_4 : decode cX2_readLine 4 = .ok (.bipush 15, 2) := by decide +kernel
theorem dX2_readLine_6 : decode cX2_readLine 6 = .ok (.invokevirtual 82, 3) := by decide +kernel
theorem dX2_readLine_9 : decode cX2_readLine 9 = .ok (.ifCond .ne 5, 3) := by decide +kernel
theorem dX2_readLine_12 : decode cX2_readLine 12 = .ok (.iconst 0, 1) := by decide +kernel
theorem dX2_readLine_13 : decode cX2_readLine 13 = .ok (.ireturn, 1) := by decide +kernel
theorem dX2_readLine_14 : decode cX2_readLine 14 = .ok (.iload_n 2, 1) := by decide +kernel
theorem dX2_readLine_15 : decode cX2_readLine 15 = .ok (.bipush 8, 2) := by decide +kernel
theorem dX2_readLine_17 : decode cX2_readLine 17 = .ok (.if_icmp .lt 13, 3) := by decide +kernel
theorem dX2_readLine_20 : decode cX2_readLine 20 = .ok (.aload_n 1, 1) := by decide +kernel
theorem dX2_readLine_21 : decode cX2_readLine 21 = .ok (.iconst 3, 1) := by decide +kernel
theorem dX2_readLine_22 : decode cX2_readLine 22 = .ok (.aload_n 1, 1) := by decide +kernel
theorem dX2_readLine_23 : decode cX2_readLine 23 = .ok (.getfield 61, 3) := by decide +kernel
theorem dX2_readLine_26 : decode cX2_readLine 26 = .ok (.invokevirtual 64, 3) := by decide +kernel
theorem dX2_readLine_29 : decode cX2_readLine 29 = .ok (.ireturn, 1) := by decide +kernel
theorem dX2_readLine_30 : decode cX2_readLine 30 = .ok (.aload_n 0, 1) := by decide +kernel
theorem dX2_readLine_31 : decode cX2_readLine 31 = .ok (.getfield 15, 3) := by decide +kernel
theorem dX2_readLine_34 : decode cX2_readLine 34 = .ok (.aload_n 0, 1) := by decide +kernel
theorem dX2_readLine_35 : decode cX2_readLine 35 = .ok (.getfield 25, 3) := by decide +kernel
theorem dX2_readLine_38 : decode cX2_readLine 38 = .ok (.bipush 8, 2) := by decide +kernel
theorem dX2_readLine_40 : decode cX2_readLine 40 = .ok (.imul, 1) := by decide +kernel
theorem dX2_readLine_41 : decode cX2_readLine 41 = .ok (.iload_n 2, 1) := by decide +kernel
theorem dX2_readLine_42 : decode cX2_readLine 42 = .ok (.iadd, 1) := by decide +kernel
theorem dX2_readLine_43 : decode cX2_readLine 43 = .ok (.aload_n 1, 1) := by decide +kernel
theorem dX2_readLine_44 : decode cX2_readLine 44 = .ok (.getfield 85, 3) := by decide +kernel
theorem dX2_readLine_47 : decode cX2_readLine 47 = .ok (.iastore, 1) := by decide +kernel
theorem dX2_readLine_48 : decode cX2_readLine 48 = .ok (.iinc 2 1, 3) := by decide +kernel
theorem dX2_readLine_51 : decode cX2_readLine 51 = .ok (.iload_n 2, 1) := by decide +kernel
theorem dX2_readLine_52 : decode cX2_readLine 52 = .ok (.bipush 8, 2) := by decide +kernel
theorem dX2_readLine_54 : decode cX2_readLine 54 = .ok (.if_icmp .gt 10, 3) := by decide +kernel
theorem dX2_readLine_57 : decode cX2_readLine 57 = .ok (.aload_n 1, 1) := by decide +kernel
theorem dX2_readLine_58 : decode cX2_readLine 58 = .ok (.invokevirtual 88, 3) := by decide +kernel
theorem dX2_readLine_61 : decode cX2_readLine 61 = .ok (.ifCond .ne (-59), 3) := by decide +kernel
theorem dX2_readLine_64 : decode cX2_readLine 64 = .ok (.aload_n 0, 1) := by decide +kernel
theorem dX2_readLine_65 : decode cX2_readLine 65 = .ok (.getfield 9, 3) := by decide +kernel
theorem dX2_readLine_68 : decode cX2_readLine 68 = .ok (.aload_n 0, 1) := by decide +kernel
theorem dX2_readLine_69 : decode cX2_readLine 69 = .ok (.getfield 25, 3) := by decide +kernel
theorem dX2_readLine_72 : decode cX2_readLine 72 = .ok (.iload_n 2, 1) := by decide +kernel
theorem dX2_readLine_73 : decode cX2_readLine 73 = .ok (.iastore, 1) := by decide +kernel
theorem dX2_readLine_74 : decode cX2_readLine 74 = .ok (.aload_n 0, 1) := by decide +kernel
theorem dX2_readLine_75 : decode cX2_readLine 75 = .ok (.dup, 1) := by decide +kernel
theorem dX2_readLine_76 : decode cX2_readLine 76 = .ok (.getfield 25, 3) := by decide +kernel
theorem dX2_readLine_79 : decode cX2_readLine 79 = .ok (.iconst 1, 1) := by decide +kernel
theorem dX2_readLine_80 : decode cX2_readLine 80 = .ok (.iadd, 1) := by decide +kernel
theorem dX2_readLine_81 : decode cX2_readLine 81 = .ok (.putfield 25, 3) := by decide +kernel
theorem dX2_readLine_84 : decode cX2_readLine 84 = .ok (.aload_n 0, 1) := by decide +kernel
theorem dX2_readLine_85 : decode cX2_readLine 85 = .ok (.dup, 1) := by decide +kernel
theorem dX2_readLine_86 : decode cX2_readLine 86 = .ok (.getfield 34, 3) := by decide +kernel
theorem dX2_readLine_89 : decode cX2_readLine 89 = .ok (.iload_n 2, 1) := by decide +kernel
theorem dX2_readLine_90 : decode cX2_readLine 90 = .ok (.iadd, 1) := by decide +kernel
theorem dX2_readLine_91 : decode cX2_readLine 91 = .ok (.putfield 34, 3) := by decide +kernel
theorem dX2_readLine_94 : decode cX2_readLine 94 = .ok (.iconst 1, 1) := by decide +kernel
theorem dX2_readLine_95 : decode cX2_readLine 95 = .ok (.ireturn, 1) := by decide +kernel
theorem dX2_readCell_0 : decode cX2_readCell 0 = .ok (.aload_n 1, 1) := by decide +kernel
theorem dX2_readCell_1 : decode cX2_readCell 1 = .ok (.iconst 0, 1) := by decide +kernel
theorem dX2_readCell_2 : decode cX2_readCell 2 = .ok (.iconst 3, 1) := by decide +kernel
theorem dX2_readCell_3 : decode cX2_readCell 3 = .ok (.invokevirtual 82, 3) := by decide +kernel
theorem dX2_readCell_6 : decode cX2_readCell 6 = .ok (.ifCond .ne 5, 3) := by decide +kernel
theorem dX2_readCell_9 : decode cX2_readCell 9 = .ok (.iconst 0, 1) := by decide +kernel
theorem dX2_readCell_10 : decode cX2_readCell 10 = .ok (.ireturn, 1) := by decide +kernel
theorem dX2_readCell_11 : decode cX2_readCell 11 = .ok (.aload_n 1, 1) := by decide +kernel
theorem dX2_readCell_12 : decode cX2_readCell 12 = .ok (.getfield 85, 3) := by decide +kernel
theorem dX2_readCell_15 : decode cX2_readCell 15 = .ok (.istore_n 2, 1) := by decide +kernel
theorem dX2_readCell_16 : decode cX2_readCell 16 = .ok (.aload_n 1, 1) := by decide +kernel
theorem dX2_readCell_17 : decode cX2_readCell 17 = .ok (.iconst 0, 1) := by decide +kernel
theorem dX2_readCell_18 : decode cX2_readCell 18 = .ok (.bipush 99, 2) := by decide +kernel
theorem dX2_readCell_20 : decode cX2_readCell 20 = .ok (.invokevirtual 82, 3) := by decide +kernel
theorem dX2_readCell_23 : decode cX2_readCell 23 = .ok (.ifCond .ne 5, 3) := by decide +kernel
theorem dX2_readCell_26 : decode cX2_readCell 26 = .ok (.iconst 0, 1) := by decide +kernel
theorem dX2_readCell_27 : decode cX2_readCell 27 = .ok (.ireturn, 1) := by decide +kernel
theorem dX2_readCell_28 : decode cX2_readCell 28 = .ok (.aload_n 0, 1) := by decide +kernel
theorem dX2_readCell_29 : decode cX2_readCell 29 = .ok (.getfield 18, 3) := by decide +kernel
theorem dX2_readCell_32 : decode cX2_readCell 32 = .ok (.iload_n 2, 1) := by decide +kernel
theorem dX2_readCell_33 : decode cX2_readCell 33 = .ok (.aload_n 1, 1) := by decide +kernel
theorem dX2_readCell_34 : decode cX2_readCell 34 = .ok (.getfield 85, 3) := by decide +kernel
theorem dX2_readCell_37 : decode cX2_readCell 37 = .ok (.iastore, 1) := by decide +kernel
theorem dX2_readCell_38 : decode cX2_readCell 38 = .ok (.iconst 1, 1) := by decide +kernel
theorem dX2_readCell_39 : decode cX2_readCell 39 = .ok (.ireturn, 1) := by decide +kernel
theorem dX2_readInk_0 : decode cX2_readInk 0 = .ok (.aload_n 1, 1) := by decide +kernel
theorem dX2_readInk_1 : decode cX2_readInk 1 = .ok (.iconst 0, 1) := by decide +kernel
theorem dX2_readInk_2 : decode cX2_readInk 2 = .ok (.sipush 200, 3) := by decide +kernel
theorem dX2_readInk_5 : decode cX2_readInk 5 = .ok (.invokevirtual 82, 3) := by decide +kernel
theorem dX2_readInk_8 : decode cX2_readInk 8 = .ok (.ifCond .ne 5, 3) := by decide +kernel
theorem dX2_readInk_11 : decode cX2_readInk 11 = .ok (.iconst 0, 1) := by decide +kernel
theorem dX2_readInk_12 : decode cX2_readInk 12 = .ok (.ireturn, 1) := by decide +kernel
theorem dX2_readInk_13 : decode cX2_readInk 13 = .ok (.aload_n 0, 1) := by decide +kernel
theorem dX2_readInk_14 : decode cX2_readInk 14 = .ok (.aload_n 1, 1) := by decide +kernel
theorem dX2_readInk_15 : decode cX2_readInk 15 = .ok (.getfield 85, 3) := by decide +kernel
theorem dX2_readInk_18 : decode cX2_readInk 18 = .ok (.putfield 21, 3) := by decide +kernel
theorem dX2_readInk_21 : decode cX2_readInk 21 = .ok (.iconst 1, 1) := by decide +kernel
theorem dX2_readInk_22 : decode cX2_readInk 22 = .ok (.ireturn, 1) := by decide +kernel
theorem dX3_init_0 : decode cX3_init 0 = .ok (.aload_n 0, 1) := by decide +kernel
theorem dX3_init_1 : decode cX3_init 1 = .ok (.invokespecial 3, 3) := by decide +kernel
theorem dX3_init_4 : decode cX3_init 4 = .ok (.aload_n 0, 1) := by decide +kernel
theorem dX3_init_5 : decode cX3_init 5 = .ok (.bipush 12, 2) := by decide +kernel
theorem dX3_init_7 : decode cX3_init 7 = .ok (.newarray .int, 2) := by decide +kernel
theorem dX3_init_9 : decode cX3_init 9 = .ok (.putfield 9, 3) := by decide +kernel
theorem dX3_init_12 : decode cX3_init 12 = .ok (.return_, 1) := by decide +kernel
theorem dX3_takeOver_0 : decode cX3_takeOver 0 = .ok (.aload_n 1, 1) := by decide +kernel
theorem dX3_takeOver_1 : decode cX3_takeOver 1 = .ok (.getfield 9, 3) := by decide +kernel
theorem dX3_takeOver_4 : decode cX3_takeOver 4 = .ok (.iconst 0, 1) := by decide +kernel
theorem dX3_takeOver_5 : decode cX3_takeOver 5 = .ok (.aload_n 0, 1) := by decide +kernel
theorem dX3_takeOver_6 : decode cX3_takeOver 6 = .ok (.getfield 9, 3) := by decide +kernel
theorem dX3_takeOver_9 : decode cX3_takeOver 9 = .ok (.iconst 0, 1) := by decide +kernel
theorem dX3_takeOver_10 : decode cX3_takeOver 10 = .ok (.bipush 12, 2) := by decide +kernel
theorem dX3_takeOver_12 : decode cX3_takeOver 12 = .ok (.invokestatic 15, 3) := by decide +kernel
theorem dX3_takeOver_15 : decode cX3_takeOver 15 = .ok (.aload_n 0, 1) := by decide +kernel
theorem dX3_takeOver_16 : decode cX3_takeOver 16 = .ok (.aload_n 1, 1) := by decide +kernel
theorem dX3_takeOver_17 : decode cX3_takeOver 17 = .ok (.getfield 21, 3) := by decide +kernel
theorem dX3_takeOver_20 : decode cX3_takeOver 20 = .ok (.putfield 21, 3) := by decide +kernel
theorem dX3_takeOver_23 : decode cX3_takeOver 23 = .ok (.return_, 1) := by decide +kernel
theorem dX3_readFrom_0 : decode cX3_readFrom 0 = .ok (.aload_n 0, 1) := by decide +kernel
theorem dX3_readFrom_1 : decode cX3_readFrom 1 = .ok (.iconst 0, 1) := by decide +kernel
theorem dX3_readFrom_2 : decode cX3_readFrom 2 = .ok (.putfield 21, 3) := by decide +kernel
theorem dX3_readFrom_5 : decode cX3_readFrom 5 = .ok (.iconst 0, 1) := by decide +kernel
theorem dX3_readFrom_6 : decode cX3_readFrom 6 = .ok (.istore_n 2, 1) := by decide +kernel
theorem dX3_readFrom_7 : decode cX3_readFrom 7 = .ok (.iload_n 2, 1) := by decide +kernel
theorem dX3_readFrom_8 : decode cX3_readFrom 8 = .ok (.bipush 12, 2) := by decide +kernel
theorem dX3_readFrom_10 : decode cX3_readFrom 10 = .ok (.if_icmp .gt 75, 3) := by decide +kernel
theorem dX3_readFrom_13 : decode cX3_readFrom 13 = .ok (.aload_n 1, 1) := by decide +kernel
theorem dX3_readFrom_14 : decode cX3_readFrom 14 = .ok (.invokevirtual 25, 3) := by decide +kernel
theorem dX3_readFrom_17 : decode cX3_readFrom 17 = .ok (.iconst (-1), 1) := by decide +kernel
theorem dX3_readFrom_18 : decode cX3_readFrom 18 = .ok (.if_icmp .ne 5, 3) := by decide +kernel
theorem dX3_readFrom_21 : decode cX3_readFrom 21 = .ok (.iconst 1, 1) := by decide +kernel
theorem dX3_readFrom_22 : decode cX3_readFrom 22 = .ok (.ireturn, 1) := by decide +kernel
theorem dX3_readFrom_23 : decode cX3_readFrom 23 = .ok (.aload_n 1, 1) := by decide +kernel
theorem dX3_readFrom_24 : decode cX3_readFrom 24 = .ok (.iconst 0, 1) := by decide +kernel
theorem dX3_readFrom_25 : decode cX3_readFrom 25 = .ok (.bipush 15, 2) := by decide +kernel
theorem dX3_readFrom_27 : decode cX3_readFrom 27 = .ok (.invokevirtual 31, 3) := by decide +kernel
theorem dX3_readFrom_30 : decode cX3_readFrom 30 = .ok (.ifCond .ne 5, 3) := by decide +kernel
theorem dX3_readFrom_33 : decode cX3_readFrom 33 = .ok (.iconst 0, 1) := by decide +kernel
theorem dX3_readFrom_34 : decode cX3_readFrom 34 = .ok (.ireturn, 1) := by decide +kernel
theorem dX3_readFrom_35 : decode cX3_readFrom 35 = .ok (.iload_n 2, 1) := by decide +kernel
theorem dX3_readFrom_36 : decode cX3_readFrom 36 = .ok (.bipush 12, 2) := by decide +kernel
theorem dX3_readFrom_38 : decode cX3_readFrom 38 = .ok (.if_icmp .lt 13, 3) := by decide +kernel
theorem dX3_readFrom_41 : decode cX3_readFrom 41 = .ok (.aload_n 1, 1) := by decide +kernel
theorem dX3_readFrom_42 : decode cX3_readFrom 42 = .ok (.iconst 3, 1) := by decide +kernel
theorem dX3_readFrom_43 : decode cX3_readFrom 43 = .ok (.aload_n 1, 1) := by decide +kernel
theorem dX3_readFrom_44 : decode cX3_readFrom 44 = .ok (.getfield 35, 3) := by decide +kernel
theorem dX3_readFrom_47 : decode cX3_readFrom 47 = .ok (.invokevirtual 38, 3) := by decide +kernel
theorem dX3_readFrom_50 : decode cX3_readFrom 50 = .ok (.ireturn, 1) := by decide +kernel
theorem dX3_readFrom_51 : decode cX3_readFrom 51 = .ok (.aload_n 0, 1) := by decide +kernel
theorem dX3_readFrom_52 : decode cX3_readFrom 52 = .ok (.getfield 9, 3) := by decide +kernel
theorem dX3_readFrom_55 : decode cX3_readFrom 55 = .ok (.iload_n 2, 1) := by decide +kernel
theorem dX3_readFrom_56 : decode cX3_readFrom 56 = .ok (.aload_n 1, 1) := by decide +kernel
theorem dX3_readFrom_57 : decode cX3_readFrom 57 = .ok (.getfield 41, 3) := by decide +kernel
theorem dX3_readFrom_60 : decode cX3_readFrom 60 = .ok (.iastore, 1) := by decide +kernel
theorem dX3_readFrom_61 : decode cX3_readFrom 61 = .ok (.aload_n 0, 1) := by decide +kernel
theorem dX3_readFrom_62 : decode cX3_readFrom 62 = .ok (.iload_n 2, 1) := by decide +kernel
theorem dX3_readFrom_63 : decode cX3_readFrom 63 = .ok (.iconst 1, 1) := by decide +kernel
theorem dX3_readFrom_64 : decode cX3_readFrom 64 = .ok (.iadd, 1) := by decide +kernel
theorem dX3_readFrom_65 : decode cX3_readFrom 65 = .ok (.putfield 21, 3) := by decide +kernel
theorem dX3_readFrom_68 : decode cX3_readFrom 68 = .ok (.aload_n 1, 1) := by decide +kernel
