theorem dX9_laysPiles_49 : decode cX9_laysPiles 49 = .ok (.aload_n 0, 1) := by decide +kernel
theorem dX9_laysPiles_50 : decode cX9_laysPiles 50 = .ok (.getfield 100, 3) := by decide +kernel
theorem dX9_laysPiles_53 : decode cX9_laysPiles 53 = .ok (.iload_n 3, 1) := by decide +kernel
theorem dX9_laysPiles_54 : decode cX9_laysPiles 54 = .ok (.iaload, 1) := by decide +kernel
theorem dX9_laysPiles_55 : decode cX9_laysPiles 55 = .ok (.aload_n 0, 1) := by decide +kernel
theorem dX9_laysPiles_56 : decode cX9_laysPiles 56 = .ok (.getfield 100, 3) := by decide +kernel
theorem dX9_laysPiles_59 : decode cX9_laysPiles 59 = .ok (.iload_n 1, 1) := by decide +kernel
theorem dX9_laysPiles_60 : decode cX9_laysPiles 60 = .ok (.iload_n 3, 1) := by decide +kernel
theorem dX9_laysPiles_61 : decode cX9_laysPiles 61 = .ok (.isub, 1) := by decide +kernel
theorem dX9_laysPiles_62 : decode cX9_laysPiles 62 = .ok (.iload_n 2, 1) := by decide +kernel
theorem dX9_laysPiles_63 : decode cX9_laysPiles 63 = .ok (.isub, 1) := by decide +kernel
theorem dX9_laysPiles_64 : decode cX9_laysPiles 64 = .ok (.iaload, 1) := by decide +kernel
theorem dX9_laysPiles_65 : decode cX9_laysPiles 65 = .ok (.ixor, 1) := by decide +kernel
theorem dX9_laysPiles_66 : decode cX9_laysPiles 66 = .ok (.iconst 1, 1) := by decide +kernel
theorem dX9_laysPiles_67 : decode cX9_laysPiles 67 = .ok (.bastore, 1) := by decide +kernel
theorem dX9_laysPiles_68 : decode cX9_laysPiles 68 = .ok (.iinc 3 1, 3) := by decide +kernel
theorem dX9_laysPiles_71 : decode cX9_laysPiles 71 = .ok (.goto (-33), 3) := by decide +kernel
theorem dX9_laysPiles_74 : decode cX9_laysPiles 74 = .ok (.iinc 2 1, 3) := by decide +kernel
theorem dX9_laysPiles_77 : decode cX9_laysPiles 77 = .ok (.goto (-46), 3) := by decide +kernel
theorem dX9_laysPiles_80 : decode cX9_laysPiles 80 = .ok (.iconst 0, 1) := by decide +kernel
theorem dX9_laysPiles_81 : decode cX9_laysPiles 81 = .ok (.istore_n 2, 1) := by decide +kernel
theorem dX9_laysPiles_82 : decode cX9_laysPiles 82 = .ok (.aload_n 0, 1) := by decide +kernel
theorem dX9_laysPiles_83 : decode cX9_laysPiles 83 = .ok (.getfield 103, 3) := by decide +kernel
theorem dX9_laysPiles_86 : decode cX9_laysPiles 86 = .ok (.iload_n 2, 1) := by decide +kernel
theorem dX9_laysPiles_87 : decode cX9_laysPiles 87 = .ok (.baload, 1) := by decide +kernel
theorem dX9_laysPiles_88 : decode cX9_laysPiles 88 = .ok (.ifCond .eq 9, 3) := by decide +kernel
theorem dX9_laysPiles_91 : decode cX9_laysPiles 91 = .ok (.iinc 2 1, 3) := by decide +kernel
theorem dX9_laysPiles_94 : decode cX9_laysPiles 94 = .ok (.goto (-12), 3) := by decide +kernel
theorem dX9_laysPiles_97 : decode cX9_laysPiles 97 = .ok (.aload_n 0, 1) := by decide +kernel
theorem dX9_laysPiles_98 : decode cX9_laysPiles 98 = .ok (.getfield 100, 3) := by decide +kernel
theorem dX9_laysPiles_101 : decode cX9_laysPiles 101 = .ok (.iload_n 1, 1) := by decide +kernel
theorem dX9_laysPiles_102 : decode cX9_laysPiles 102 = .ok (.iload_n 2, 1) := by decide +kernel
theorem dX9_laysPiles_103 : decode cX9_laysPiles 103 = .ok (.iastore, 1) := by decide +kernel
theorem dX9_laysPiles_104 : decode cX9_laysPiles 104 = .ok (.iinc 1 1, 3) := by decide +kernel
theorem dX9_laysPiles_107 : decode cX9_laysPiles 107 = .ok (.goto (-105), 3) := by decide +kernel
theorem dX9_laysPiles_110 : decode cX9_laysPiles 110 = .ok (.return_, 1) := by decide +kernel
theorem dX9_valueOf_0 : decode cX9_valueOf 0 = .ok (.iconst 0, 1) := by decide +kernel
theorem dX9_valueOf_1 : decode cX9_valueOf 1 = .ok (.istore_n 3, 1) := by decide +kernel
theorem dX9_valueOf_2 : decode cX9_valueOf 2 = .ok (.iconst 0, 1) := by decide +kernel
theorem dX9_valueOf_3 : decode cX9_valueOf 3 = .ok (.istore 4, 2) := by decide +kernel
theorem dX9_valueOf_5 : decode cX9_valueOf 5 = .ok (.iconst 0, 1) := by decide +kernel
theorem dX9_valueOf_6 : decode cX9_valueOf 6 = .ok (.istore 5, 2) := by decide +kernel
theorem dX9_valueOf_8 : decode cX9_valueOf 8 = .ok (.iload 5, 2) := by decide +kernel
theorem dX9_valueOf_10 : decode cX9_valueOf 10 = .ok (.aload_n 0, 1) := by decide +kernel
theorem dX9_valueOf_11 : decode cX9_valueOf 11 = .ok (.getfield 26, 3) := by decide +kernel
theorem dX9_valueOf_14 : decode cX9_valueOf 14 = .ok (.iload_n 2, 1) := by decide +kernel
theorem dX9_valueOf_15 : decode cX9_valueOf 15 = .ok (.iaload, 1) := by decide +kernel
theorem dX9_valueOf_16 : decode cX9_valueOf 16 = .ok (.if_icmp .gt 48, 3) := by decide +kernel
theorem dX9_valueOf_19 : decode cX9_valueOf 19 = .ok (.iload 5, 2) := by decide +kernel
theorem dX9_valueOf_21 : decode cX9_valueOf 21 = .ok (.aload_n 0, 1) := by decide +kernel
theorem dX9_valueOf_22 : decode cX9_valueOf 22 = .ok (.getfield 26, 3) := by decide +kernel
theorem dX9_valueOf_25 : decode cX9_valueOf 25 = .ok (.iload_n 2, 1) := by decide +kernel
theorem dX9_valueOf_26 : decode cX9_valueOf 26 = .ok (.iaload, 1) := by decide +kernel
theorem dX9_valueOf_27 : decode cX9_valueOf 27 = .ok (.if_icmp .ge 18, 3) := by decide +kernel
theorem dX9_valueOf_30 : decode cX9_valueOf 30 = .ok (.iload_n 1, 1) := by decide +kernel
theorem dX9_valueOf_31 : decode cX9_valueOf 31 = .ok (.iload 5, 2) := by decide +kernel
theorem dX9_valueOf_33 : decode cX9_valueOf 33 = .ok (.invokestatic 317, 3) := by decide +kernel
theorem dX9_valueOf_36 : decode cX9_valueOf 36 = .ok (.ifCond .ne 9, 3) := by decide +kernel
theorem dX9_valueOf_39 : decode cX9_valueOf 39 = .ok (.iinc 4 1, 3) := by decide +kernel
theorem dX9_valueOf_42 : decode cX9_valueOf 42 = .ok (.goto 16, 3) := by decide +kernel
theorem dX9_valueOf_45 : decode cX9_valueOf 45 = .ok (.iload_n 3, 1) := by decide +kernel
theorem dX9_valueOf_46 : decode cX9_valueOf 46 = .ok (.aload_n 0, 1) := by decide +kernel
theorem dX9_valueOf_47 : decode cX9_valueOf 47 = .ok (.getfield 100, 3) := by decide +kernel
theorem dX9_valueOf_50 : decode cX9_valueOf 50 = .ok (.iload 4, 2) := by decide +kernel
theorem dX9_valueOf_52 : decode cX9_valueOf 52 = .ok (.iaload, 1) := by decide +kernel
theorem dX9_valueOf_53 : decode cX9_valueOf 53 = .ok (.ixor, 1) := by decide +kernel
theorem dX9_valueOf_54 : decode cX9_valueOf 54 = .ok (.istore_n 3, 1) := by decide +kernel
theorem dX9_valueOf_55 : decode cX9_valueOf 55 = .ok (.iconst 0, 1) := by decide +kernel
theorem dX9_valueOf_56 : decode cX9_valueOf 56 = .ok (.istore 4, 2) := by decide +kernel
theorem dX9_valueOf_58 : decode cX9_valueOf 58 = .ok (.iinc 5 1, 3) := by decide +kernel
theorem dX9_valueOf_61 : decode cX9_valueOf 61 = .ok (.goto (-53), 3) := by decide +kernel
theorem dX9_valueOf_64 : decode cX9_valueOf 64 = .ok (.iload_n 3, 1) := by decide +kernel
theorem dX9_valueOf_65 : decode cX9_valueOf 65 = .ok (.ireturn, 1) := by decide +kernel
theorem dX9_value_0 : decode cX9_value 0 = .ok (.aload_n 0, 1) := by decide +kernel
theorem dX9_value_1 : decode cX9_value 1 = .ok (.iconst 0, 1) := by decide +kernel
theorem dX9_value_2 : decode cX9_value 2 = .ok (.putfield 128, 3) := by decide +kernel
theorem dX9_value_5 : decode cX9_value 5 = .ok (.aload_n 0, 1) := by decide +kernel
theorem dX9_value_6 : decode cX9_value 6 = .ok (.aload_n 0, 1) := by decide +kernel
theorem dX9_value_7 : decode cX9_value 7 = .ok (.iload_n 1, 1) := by decide +kernel
theorem dX9_value_8 : decode cX9_value 8 = .ok (.invokevirtual 377, 3) := by decide +kernel
theorem dX9_value_11 : decode cX9_value 11 = .ok (.ifCond .ne 7, 3) := by decide +kernel
theorem dX9_value_14 : decode cX9_value 14 = .ok (.iconst 1, 1) := by decide +kernel
theorem dX9_value_15 : decode cX9_value 15 = .ok (.goto 4, 3) := by decide +kernel
theorem dX9_value_18 : decode cX9_value 18 = .ok (.iconst 0, 1) := by decide +kernel
theorem dX9_value_19 : decode cX9_value 19 = .ok (.iconst 1, 1) := by decide +kernel
theorem dX9_value_20 : decode cX9_value 20 = .ok (.iconst 0, 1) := by decide +kernel
theorem dX9_value_21 : decode cX9_value 21 = .ok (.invokevirtual 207, 3) := by decide +kernel
theorem dX9_value_24 : decode cX9_value 24 = .ok (.ifCond .eq 5, 3) := by decide +kernel
theorem dX9_value_27 : decode cX9_value 27 = .ok (.iconst 0, 1) := by decide +kernel
theorem dX9_value_28 : decode cX9_value 28 = .ok (.ireturn, 1) := by decide +kernel
theorem dX9_value_29 : decode cX9_value 29 = .ok (.aload_n 0, 1) := by decide +kernel
theorem dX9_value_30 : decode cX9_value 30 = .ok (.invokevirtual 397, 3) := by decide +kernel
theorem dX9_value_33 : decode cX9_value 33 = .ok (.aload_n 0, 1) := by decide +kernel
theorem dX9_value_34 : decode cX9_value 34 = .ok (.aload_n 0, 1) := by decide +kernel
theorem dX9_value_35 : decode cX9_value 35 = .ok (.getfield 58, 3) := by decide +kernel
theorem dX9_value_38 : decode cX9_value 38 = .ok (.iconst 0, 1) := by decide +kernel
theorem dX9_value_39 : decode cX9_value 39 = .ok (.iload_n 1, 1) := by decide +kernel
theorem dX9_value_40 : decode cX9_value 40 = .ok (.iadd, 1) := by decide +kernel
theorem dX9_value_41 : decode cX9_value 41 = .ok (.iaload, 1) := by decide +kernel
theorem dX9_value_42 : decode cX9_value 42 = .ok (.iload_n 1, 1) := by decide +kernel
theorem dX9_value_43 : decode cX9_value 43 = .ok (.invokevirtual 400, 3) := by decide +kernel
theorem dX9_value_46 : decode cX9_value 46 = .ok (.ireturn, 1) := by decide +kernel
theorem dX9_allLines_0 : decode cX9_allLines 0 = .ok (.iconst 1, 1) := by decide +kernel
theorem dX9_allLines_1 : decode cX9_allLines 1 = .ok (.aload_n 0, 1) := by decide +kernel
theorem dX9_allLines_2 : decode cX9_allLines 2 = .ok (.getfield 223, 3) := by decide +kernel
theorem dX9_allLines_5 : decode cX9_allLines 5 = .ok (.ishl, 1) := by decide +kernel
theorem dX9_allLines_6 : decode cX9_allLines 6 = .ok (.iconst 1, 1) := by decide +kernel
theorem dX9_allLines_7 : decode cX9_allLines 7 = .ok (.isub, 1) := by decide +kernel
theorem dX9_allLines_8 : decode cX9_allLines 8 = .ok (.ireturn, 1) := by decide +kernel
theorem dX9_argument_0 : decode cX9_argument 0 = .ok (.aload_n 0, 1) := by decide +kernel
theorem dX9_argument_1 : decode cX9_argument 1 = .ok (.iconst 0, 1) := by decide +kernel
theorem dX9_argument_2 : decode cX9_argument 2 = .ok (.putfield 128, 3) := by decide +kernel
theorem dX9_argument_5 : decode cX9_argument 5 = .ok (.aload_n 0, 1) := by decide +kernel
theorem dX9_argument_6 : decode cX9_argument 6 = .ok (.iload_n 1, 1) := by decide +kernel
theorem dX9_argument_7 : decode cX9_argument 7 = .ok (.iconst 0, 1) := by decide +kernel
theorem dX9_argument_8 : decode cX9_argument 8 = .ok (.aload_n 0, 1) := by decide +kernel
theorem dX9_argument_9 : decode cX9_argument 9 = .ok (.invokevirtual 403, 3) := by decide +kernel
theorem dX9_argument_12 : decode cX9_argument 12 = .ok (.invokestatic 162, 3) := by decide +kernel
theorem dX9_argument_15 : decode cX9_argument 15 = .ok (.ifCond .eq 12, 3) := by decide +kernel
theorem dX9_argument_18 : decode cX9_argument 18 = .ok (.iload_n 2, 1) := by decide +kernel
theorem dX9_argument_19 : decode cX9_argument 19 = .ok (.iconst 0, 1) := by decide +kernel
theorem dX9_argument_20 : decode cX9_argument 20 = .ok (.iconst 1, 1) := by decide +kernel
theorem dX9_argument_21 : decode cX9_argument 21 = .ok (.invokestatic 162, 3) := by decide +kernel
theorem dX9_argument_24 : decode cX9_argument 24 = .ok (.ifCond .ne 7, 3) := by decide +kernel
theorem dX9_argument_27 : decode cX9_argument 27 = .ok (.iconst 1, 1) := by decide +kernel
theorem dX9_argument_28 : decode cX9_argument 28 = .ok (.goto 4, 3) := by decide +kernel
theorem dX9_argument_31 : decode cX9_argument 31 = .ok (.iconst 0, 1) := by decide +kernel
theorem dX9_argument_32 : decode cX9_argument 32 = .ok (.iconst 1, 1) := by decide +kernel
theorem dX9_argument_33 : decode cX9_argument 33 = .ok (.iconst 1, 1) := by decide +kernel
theorem dX9_argument_34 : decode cX9_argument 34 = .ok (.invokevirtual 207, 3) := by decide +kernel
theorem dX9_argument_37 : decode cX9_argument 37 = .ok (.ifCond .eq 5, 3) := by decide +kernel
theorem dX9_argument_40 : decode cX9_argument 40 = .ok (.iconst 0, 1) := by decide +kernel
theorem dX9_argument_41 : decode cX9_argument 41 = .ok (.ireturn, 1) := by decide +kernel
theorem dX9_argument_42 : decode cX9_argument 42 = .ok (.aload_n 0, 1) := by decide +kernel
theorem dX9_argument_43 : decode cX9_argument 43 = .ok (.invokevirtual 397, 3) := by decide +kernel
theorem dX9_argument_46 : decode cX9_argument 46 = .ok (.iconst 0, 1) := by decide +kernel
theorem dX9_argument_47 : decode cX9_argument 47 = .ok (.istore_n 3, 1) := by decide +kernel
theorem dX9_argument_48 : decode cX9_argument 48 = .ok (.iconst 0, 1) := by decide +kernel
theorem dX9_argument_49 : decode cX9_argument 49 = .ok (.istore 4, 2) := by decide +kernel
theorem dX9_argument_51 : decode cX9_argument 51 = .ok (.iload 4, 2) := by decide +kernel
theorem dX9_argument_53 : decode cX9_argument 53 = .ok (.aload_n 0, 1) := by decide +kernel
theorem dX9_argument_54 : decode cX9_argument 54 = .ok (.getfield 223, 3) := by decide +kernel
theorem dX9_argument_57 : decode cX9_argument 57 = .ok (.if_icmp .ge 40, 3) := by decide +kernel
theorem dX9_argument_60 : decode cX9_argument 60 = .ok (.iload_n 3, 1) := by decide +kernel
theorem dX9_argument_61 : decode cX9_argument 61 = .ok (.iload_n 1, 1) := by decide +kernel
theorem dX9_argument_62 : decode cX9_argument 62 = .ok (.iload 4, 2) := by decide +kernel
theorem dX9_argument_64 : decode cX9_argument 64 = .ok (.invokestatic 317, 3) := by decide +kernel
theorem dX9_argument_67 : decode cX9_argument 67 = .ok (.ifCond .eq 21, 3) := by decide +kernel
theorem dX9_argument_70 : decode cX9_argument 70 = .ok (.aload_n 0, 1) := by decide +kernel
theorem dX9_argument_71 : decode cX9_argument 71 = .ok (.aload_n 0, 1) := by decide +kernel
theorem dX9_argument_72 : decode cX9_argument 72 = .ok (.getfield 58, 3) := by decide +kernel
theorem dX9_argument_75 : decode cX9_argument 75 = .ok (.iconst 0, 1) := by decide +kernel
theorem dX9_argument_76 : decode cX9_argument 76 = .ok (.iload 4, 2) := by decide +kernel
theorem dX9_argument_78 : decode cX9_argument 78 = .ok (.iadd, 1) := by decide +kernel
theorem dX9_argument_79 : decode cX9_argument 79 = .ok (.iaload, 1) := by decide +kernel
theorem dX9_argument_80 : decode cX9_argument 80 = .ok (.iload 4, 2) := by decide +kernel
theorem dX9_argument_82 : decode cX9_argument 82 = .ok (.invokevirtual 400, 3) := by decide +kernel
theorem dX9_argument_85 : decode cX9_argument 85 = .ok (.goto 4, 3) := by decide +kernel
theorem dX9_argument_88 : decode cX9_argument 88 = .ok (.iconst 0, 1) := by decide +kernel
theorem dX9_argument_89 : decode cX9_argument 89 = .ok (.ixor, 1) := by decide +kernel
theorem dX9_argument_90 : decode cX9_argument 90 = .ok (.istore_n 3, 1) := by decide +kernel
theorem dX9_argument_91 : decode cX9_argument 91 = .ok (.iinc 4 1, 3) := by decide +kernel
theorem dX9_argument_94 : decode cX9_argument 94 = .ok (.goto (-43), 3) := by decide +kernel
theorem dX9_argument_97 : decode cX9_argument 97 = .ok (.iload_n 2, 1) := by decide +kernel
theorem dX9_argument_98 : decode cX9_argument 98 = .ok (.ifCond .ne 5, 3) := by decide +kernel
theorem dX9_argument_101 : decode cX9_argument 101 = .ok (.iload_n 3, 1) := by decide +kernel
theorem dX9_argument_102 : decode cX9_argument 102 = .ok (.ireturn, 1) := by decide +kernel
theorem dX9_argument_103 : decode cX9_argument 103 = .ok (.iconst 0, 1) := by decide +kernel
theorem dX9_argument_104 : decode cX9_argument 104 = .ok (.istore 4, 2) := by decide +kernel
theorem dX9_argument_106 : decode cX9_argument 106 = .ok (.iload 4, 2) := by decide +kernel
theorem dX9_argument_108 : decode cX9_argument 108 = .ok (.aload_n 0, 1) := by decide +kernel
theorem dX9_argument_109 : decode cX9_argument 109 = .ok (.getfield 223, 3) := by decide +kernel
theorem dX9_argument_112 : decode cX9_argument 112 = .ok (.if_icmp .ge 149, 3) := by decide +kernel
theorem dX9_argument_115 : decode cX9_argument 115 = .ok (.iconst 0, 1) := by decide +kernel
theorem dX9_argument_116 : decode cX9_argument 116 = .ok (.istore 5, 2) := by decide +kernel
theorem dX9_argument_118 : decode cX9_argument 118 = .ok (.iload 5, 2) := by decide +kernel
theorem dX9_argument_120 : decode cX9_argument 120 = .ok (.iconst 2, 1) := by decide +kernel
theorem dX9_argument_121 : decode cX9_argument 121 = .ok (.aload_n 0, 1) := by decide +kernel
theorem dX9_argument_122 : decode cX9_argument 122 = .ok (.getfield 26, 3) := by decide +kernel
theorem dX9_argument_125 : decode cX9_argument 125 = .ok (.iload 4, 2) := by decide +kernel
theorem dX9_argument_127 : decode cX9_argument 127 = .ok (.iaload, 1) := by decide +kernel
theorem dX9_argument_128 : decode cX9_argument 128 = .ok (.imul, 1) := by decide +kernel
theorem dX9_argument_129 : decode cX9_argument 129 = .ok (.if_icmp .ge 126, 3) := by decide +kernel
theorem dX9_argument_132 : decode cX9_argument 132 = .ok (.iload_n 1, 1) := by decide +kernel
theorem dX9_argument_133 : decode cX9_argument 133 = .ok (.iload 4, 2) := by decide +kernel
theorem dX9_argument_135 : decode cX9_argument 135 = .ok (.invokestatic 317, 3) := by decide +kernel
theorem dX9_argument_138 : decode cX9_argument 138 = .ok (.ifCond .eq 117, 3) := by decide +kernel
theorem dX9_argument_141 : decode cX9_argument 141 = .ok (.iload 5, 2) := by decide +kernel
theorem dX9_argument_143 : decode cX9_argument 143 = .ok (.iconst 2, 1) := by decide +kernel
theorem dX9_argument_144 : decode cX9_argument 144 = .ok (.idiv, 1) := by decide +kernel
theorem dX9_argument_145 : decode cX9_argument 145 = .ok (.istore 6, 2) := by decide +kernel
theorem dX9_argument_147 : decode cX9_argument 147 = .ok (.iload 6, 2) := by decide +kernel
theorem dX9_argument_149 : decode cX9_argument 149 = .ok (.iload 5, 2) := by decide +kernel
theorem dX9_argument_151 : decode cX9_argument 151 = .ok (.iconst 2, 1) := by decide +kernel
theorem dX9_argument_152 : decode cX9_argument 152 = .ok (.irem, 1) := by decide +kernel
theorem dX9_argument_153 : decode cX9_argument 153 = .ok (.iadd, 1) := by decide +kernel
theorem dX9_argument_154 : decode cX9_argument 154 = .ok (.istore 7, 2) := by decide +kernel
theorem dX9_argument_156 : decode cX9_argument 156 = .ok (.iload 6, 2) := by decide +kernel
theorem dX9_argument_158 : decode cX9_argument 158 = .ok (.iload 7, 2) := by decide +kernel
theorem dX9_argument_160 : decode cX9_argument 160 = .ok (.invokestatic 302, 3) := by decide +kernel
theorem dX9_argument_163 : decode cX9_argument 163 = .ok (.istore 8, 2) := by decide +kernel
theorem dX9_argument_165 : decode cX9_argument 165 = .ok (.iload 7, 2) := by decide +kernel
theorem dX9_argument_167 : decode cX9_argument 167 = .ok (.aload_n 0, 1) := by decide +kernel
theorem dX9_argument_168 : decode cX9_argument 168 = .ok (.getfield 26, 3) := by decide +kernel
theorem dX9_argument_171 : decode cX9_argument 171 = .ok (.iload 4, 2) := by decide +kernel
theorem dX9_argument_173 : decode cX9_argument 173 = .ok (.iaload, 1) := by decide +kernel
theorem dX9_argument_174 : decode cX9_argument 174 = .ok (.if_icmp .ge 75, 3) := by decide +kernel
theorem dX9_argument_177 : decode cX9_argument 177 = .ok (.aload_n 0, 1) := by decide +kernel
theorem dX9_argument_178 : decode cX9_argument 178 = .ok (.getfield 58, 3) := by decide +kernel
theorem dX9_argument_181 : decode cX9_argument 181 = .ok (.iconst 0, 1) := by decide +kernel
theorem dX9_argument_182 : decode cX9_argument 182 = .ok (.iload 4, 2) := by decide +kernel
theorem dX9_argument_184 : decode cX9_argument 184 = .ok (.iadd, 1) := by decide +kernel
theorem dX9_argument_185 : decode cX9_argument 185 = .ok (.iaload, 1) := by decide +kernel
theorem dX9_argument_186 : decode cX9_argument 186 = .ok (.iload 8, 2) := by decide +kernel
theorem dX9_argument_188 : decode cX9_argument 188 = .ok (.iand, 1) := by decide +kernel
theorem dX9_argument_189 : decode cX9_argument 189 = .ok (.ifCond .eq 6, 3) := by decide +kernel
theorem dX9_argument_192 : decode cX9_argument 192 = .ok (.goto 57, 3) := by decide +kernel
theorem dX9_argument_195 : decode cX9_argument 195 = .ok (.iload_n 3, 1) := by decide +kernel
theorem dX9_argument_196 : decode cX9_argument 196 = .ok (.aload_n 0, 1) := by decide +kernel
theorem dX9_argument_197 : decode cX9_argument 197 = .ok (.aload_n 0, 1) := by decide +kernel
theorem dX9_argument_198 : decode cX9_argument 198 = .ok (.getfield 58, 3) := by decide +kernel
theorem dX9_argument_201 : decode cX9_argument 201 = .ok (.iconst 0, 1) := by decide +kernel
theorem dX9_argument_202 : decode cX9_argument 202 = .ok (.iload 4, 2) := by decide +kernel
theorem dX9_argument_204 : decode cX9_argument 204 = .ok (.iadd, 1) := by decide +kernel
theorem dX9_argument_205 : decode cX9_argument 205 = .ok (.iaload, 1) := by decide +kernel
theorem dX9_argument_206 : decode cX9_argument 206 = .ok (.iload 4, 2) := by decide +kernel
theorem dX9_argument_208 : decode cX9_argument 208 = .ok (.invokevirtual 400, 3) := by decide +kernel
theorem dX9_argument_211 : decode cX9_argument 211 = .ok (.ixor, 1) := by decide +kernel
theorem dX9_argument_212 : decode cX9_argument 212 = .ok (.aload_n 0, 1) := by decide +kernel
theorem dX9_argument_213 : decode cX9_argument 213 = .ok (.aload_n 0, 1) := by decide +kernel
theorem dX9_argument_214 : decode cX9_argument 214 = .ok (.getfield 58, 3) := by decide +kernel
theorem dX9_argument_217 : decode cX9_argument 217 = .ok (.iconst 0, 1) := by decide +kernel
theorem dX9_argument_218 : decode cX9_argument 218 = .ok (.iload 4, 2) := by decide +kernel
theorem dX9_argument_220 : decode cX9_argument 220 = .ok (.iadd, 1) := by decide +kernel
theorem dX9_argument_221 : decode cX9_argument 221 = .ok (.iaload, 1) := by decide +kernel
theorem dX9_argument_222 : decode cX9_argument 222 = .ok (.iload 8, 2) := by decide +kernel
theorem dX9_argument_224 : decode cX9_argument 224 = .ok (.ior, 1) := by decide +kernel
theorem dX9_argument_225 : decode cX9_argument 225 = .ok (.iload 4, 2) := by decide +kernel
theorem dX9_argument_227 : decode cX9_argument 227 = .ok (.invokevirtual 400, 3) := by decide +kernel
theorem dX9_argument_230 : decode cX9_argument 230 = .ok (.ixor, 1) := by decide +kernel
theorem dX9_argument_231 : decode cX9_argument 231 = .ok (.ifCond .ne 18, 3) := by decide +kernel
theorem dX9_argument_234 : decode cX9_argument 234 = .ok (.bipush 100, 2) := by decide +kernel
theorem dX9_argument_236 : decode cX9_argument 236 = .ok (.iload 4, 2) := by decide +kernel
theorem dX9_argument_238 : decode cX9_argument 238 = .ok (.imul, 1) := by decide +kernel
theorem dX9_argument_239 : decode cX9_argument 239 = .ok (.bipush 10, 2) := by decide +kernel
theorem dX9_argument_241 : decode cX9_argument 241 = .ok (.iload 6, 2) := by decide +kernel
theorem dX9_argument_243 : decode cX9_argument 243 = .ok (.imul, 1) := by decide +kernel
theorem dX9_argument_244 : decode cX9_argument 244 = .ok (.iadd, 1) := by decide +kernel
theorem dX9_argument_245 : decode cX9_argument 245 = .ok (.iload 7, 2) := by decide +kernel
theorem dX9_argument_247 : decode cX9_argument 247 = .ok (.iadd, 1) := by decide +kernel
theorem dX9_argument_248 : decode cX9_argument 248 = .ok (.ireturn, 1) := by decide +kernel
theorem dX9_argument_249 : decode cX9_argument 249 = .ok (.iinc 5 1, 3) := by decide +kernel
theorem dX9_argument_252 : decode cX9_argument 252 = .ok (.goto (-134), 3) := by decide +kernel
theorem dX9_argument_255 : decode cX9_argument 255 = .ok (.iinc 4 1, 3) := by decide +kernel
theorem dX9_argument_258 : decode cX9_argument 258 = .ok (.goto (-152), 3) := by decide +kernel
theorem dX9_argument_261 : decode cX9_argument 261 = .ok (.iconst (-1), 1) := by decide +kernel
theorem dX9_argument_262 : decode cX9_argument 262 = .ok (.ireturn, 1) := by decide +kernel
theorem dX9_common_0 : decode cX9_common 0 = .ok (.aload_n 0, 1) := by decide +kernel
theorem dX9_common_1 : decode cX9_common 1 = .ok (.iconst 0, 1) := by decide +kernel
theorem dX9_common_2 : decode cX9_common 2 = .ok (.putfield 128, 3) := by decide +kernel
theorem dX9_common_5 : decode cX9_common 5 = .ok (.aload_n 0, 1) := by decide +kernel
theorem dX9_common_6 : decode cX9_common 6 = .ok (.aload_n 0, 1) := by decide +kernel
theorem dX9_common_7 : decode cX9_common 7 = .ok (.iload_n 1, 1) := by decide +kernel
theorem dX9_common_8 : decode cX9_common 8 = .ok (.invokevirtual 377, 3) := by decide +kernel
theorem dX9_common_11 : decode cX9_common 11 = .ok (.ifCond .eq 11, 3) := by decide +kernel
theorem dX9_common_14 : decode cX9_common 14 = .ok (.aload_n 0, 1) := by decide +kernel
theorem dX9_common_15 : decode cX9_common 15 = .ok (.iload_n 2, 1) := by decide +kernel
theorem dX9_common_16 : decode cX9_common 16 = .ok (.invokevirtual 377, 3) := by decide +kernel
theorem dX9_common_19 : decode cX9_common 19 = .ok (.ifCond .ne 7, 3) := by decide +kernel
theorem dX9_common_22 : decode cX9_common 22 = .ok (.iconst 1, 1) := by decide +kernel
theorem dX9_common_23 : decode cX9_common 23 = .ok (.goto 4, 3) := by decide +kernel
theorem dX9_common_26 : decode cX9_common 26 = .ok (.iconst 0, 1) := by decide +kernel
theorem dX9_common_27 : decode cX9_common 27 = .ok (.iconst 1, 1) := by decide +kernel
theorem dX9_common_28 : decode cX9_common 28 = .ok (.iconst 0, 1) := by decide +kernel
theorem dX9_common_29 : decode cX9_common 29 = .ok (.invokevirtual 207, 3) := by decide +kernel
theorem dX9_common_32 : decode cX9_common 32 = .ok (.ifCond .eq 5, 3) := by decide +kernel
theorem dX9_common_35 : decode cX9_common 35 = .ok (.iconst 0, 1) := by decide +kernel
theorem dX9_common_36 : decode cX9_common 36 = .ok (.ireturn, 1) := by decide +kernel
theorem dX9_common_37 : decode cX9_common 37 = .ok (.aload_n 0, 1) := by decide +kernel
theorem dX9_common_38 : decode cX9_common 38 = .ok (.aload_n 0, 1) := by decide +kernel
theorem dX9_common_39 : decode cX9_common 39 = .ok (.getfield 58, 3) := by decide +kernel
theorem dX9_common_42 : decode cX9_common 42 = .ok (.iload_n 1, 1) := by decide +kernel
theorem dX9_common_43 : decode cX9_common 43 = .ok (.invokevirtual 298, 3) := by decide +kernel
theorem dX9_common_46 : decode cX9_common 46 = .ok (.istore_n 3, 1) := by decide +kernel
theorem dX9_common_47 : decode cX9_common 47 = .ok (.aload_n 0, 1) := by decide +kernel
theorem dX9_common_48 : decode cX9_common 48 = .ok (.aload_n 0, 1) := by decide +kernel
theorem dX9_common_49 : decode cX9_common 49 = .ok (.getfield 58, 3) := by decide +kernel
theorem dX9_common_52 : decode cX9_common 52 = .ok (.iload_n 2, 1) := by decide +kernel
theorem dX9_common_53 : decode cX9_common 53 = .ok (.invokevirtual 298, 3) := by decide +kernel
theorem dX9_common_56 : decode cX9_common 56 = .ok (.istore 4, 2) := by decide +kernel
theorem dX9_common_58 : decode cX9_common 58 = .ok (.iload_n 3, 1) := by decide +kernel
theorem dX9_common_59 : decode cX9_common 59 = .ok (.istore 5, 2) := by decide +kernel
theorem dX9_common_61 : decode cX9_common 61 = .ok (.iload 5, 2) := by decide +kernel
theorem dX9_common_63 : decode cX9_common 63 = .ok (.ifCond .lt 142, 3) := by decide +kernel
theorem dX9_common_66 : decode cX9_common 66 = .ok (.iload 4, 2) := by decide +kernel
theorem dX9_common_68 : decode cX9_common 68 = .ok (.istore 6, 2) := by decide +kernel
theorem dX9_common_70 : decode cX9_common 70 = .ok (.iload 6, 2) := by decide +kernel
theorem dX9_common_72 : decode cX9_common 72 = .ok (.ifCond .lt 127, 3) := by decide +kernel
theorem dX9_common_75 : decode cX9_common 75 = .ok (.iload 5, 2) := by decide +kernel
theorem dX9_common_77 : decode cX9_common 77 = .ok (.iload_n 3, 1) := by decide +kernel
theorem dX9_common_78 : decode cX9_common 78 = .ok (.if_icmp .eq 10, 3) := by decide +kernel
theorem dX9_common_81 : decode cX9_common 81 = .ok (.iload 6, 2) := by decide +kernel
theorem dX9_common_83 : decode cX9_common 83 = .ok (.iload 4, 2) := by decide +kernel
theorem dX9_common_85 : decode cX9_common 85 = .ok (.if_icmp .ne 17, 3) := by decide +kernel
theorem dX9_common_88 : decode cX9_common 88 = .ok (.aload_n 0, 1) := by decide +kernel
theorem dX9_common_89 : decode cX9_common 89 = .ok (.getfield 107, 3) := by decide +kernel
theorem dX9_common_92 : decode cX9_common 92 = .ok (.iload 5, 2) := by decide +kernel
theorem dX9_common_94 : decode cX9_common 94 = .ok (.aaload, 1) := by decide +kernel
theorem dX9_common_95 : decode cX9_common 95 = .ok (.iload 6, 2) := by decide +kernel
theorem dX9_common_97 : decode cX9_common 97 = .ok (.iconst 0, 1) := by decide +kernel
theorem dX9_common_98 : decode cX9_common 98 = .ok (.iastore, 1) := by decide +kernel
theorem dX9_common_99 : decode cX9_common 99 = .ok (.goto 94, 3) := by decide +kernel
theorem dX9_common_102 : decode cX9_common 102 = .ok (.aload_n 0, 1) := by decide +kernel
theorem dX9_common_103 : decode cX9_common 103 = .ok (.aload_n 0, 1) := by decide +kernel
theorem dX9_common_104 : decode cX9_common 104 = .ok (.getfield 58, 3) := by decide +kernel
theorem dX9_common_107 : decode cX9_common 107 = .ok (.iload_n 1, 1) := by decide +kernel
theorem dX9_common_108 : decode cX9_common 108 = .ok (.iload 5, 2) := by decide +kernel
theorem dX9_common_110 : decode cX9_common 110 = .ok (.invokevirtual 321, 3) := by decide +kernel
theorem dX9_common_113 : decode cX9_common 113 = .ok (.aload_n 0, 1) := by decide +kernel
theorem dX9_common_114 : decode cX9_common 114 = .ok (.aload_n 0, 1) := by decide +kernel
theorem dX9_common_115 : decode cX9_common 115 = .ok (.getfield 58, 3) := by decide +kernel
theorem dX9_common_118 : decode cX9_common 118 = .ok (.iload_n 2, 1) := by decide +kernel
theorem dX9_common_119 : decode cX9_common 119 = .ok (.iload 6, 2) := by decide +kernel
theorem dX9_common_121 : decode cX9_common 121 = .ok (.invokevirtual 321, 3) := by decide +kernel
theorem dX9_common_124 : decode cX9_common 124 = .ok (.if_icmp .ne 32, 3) := by decide +kernel
theorem dX9_common_127 : decode cX9_common 127 = .ok (.aload_n 0, 1) := by decide +kernel
theorem dX9_common_128 : decode cX9_common 128 = .ok (.getfield 107, 3) := by decide +kernel
theorem dX9_common_131 : decode cX9_common 131 = .ok (.iload 5, 2) := by decide +kernel
theorem dX9_common_133 : decode cX9_common 133 = .ok (.aaload, 1) := by decide +kernel
theorem dX9_common_134 : decode cX9_common 134 = .ok (.iload 6, 2) := by decide +kernel
theorem dX9_common_136 : decode cX9_common 136 = .ok (.iconst 1, 1) := by decide +kernel
theorem dX9_common_137 : decode cX9_common 137 = .ok (.aload_n 0, 1) := by decide +kernel
theorem dX9_common_138 : decode cX9_common 138 = .ok (.getfield 107, 3) := by decide +kernel
theorem dX9_common_141 : decode cX9_common 141 = .ok (.iload 5, 2) := by decide +kernel
theorem dX9_common_143 : decode cX9_common 143 = .ok (.iconst 1, 1) := by decide +kernel
theorem dX9_common_144 : decode cX9_common 144 = .ok (.iadd, 1) := by decide +kernel
theorem dX9_common_145 : decode cX9_common 145 = .ok (.aaload, 1) := by decide +kernel
theorem dX9_common_146 : decode cX9_common 146 = .ok (.iload 6, 2) := by decide +kernel
theorem dX9_common_148 : decode cX9_common 148 = .ok (.iconst 1, 1) := by decide +kernel
theorem dX9_common_149 : decode cX9_common 149 = .ok (.iadd, 1) := by decide +kernel
theorem dX9_common_150 : decode cX9_common 150 = .ok (.iaload, 1) := by decide +kernel
theorem dX9_common_151 : decode cX9_common 151 = .ok (.iadd, 1) := by decide +kernel
theorem dX9_common_152 : decode cX9_common 152 = .ok (.iastore, 1) := by decide +kernel
theorem dX9_common_153 : decode cX9_common 153 = .ok (.goto 40, 3) := by decide +kernel
theorem dX9_common_156 : decode cX9_common 156 = .ok (.aload_n 0, 1) := by decide +kernel
theorem dX9_common_157 : decode cX9_common 157 = .ok (.getfield 107, 3) := by decide +kernel
theorem dX9_common_160 : decode cX9_common 160 = .ok (.iload 5, 2) := by decide +kernel
theorem dX9_common_162 : decode cX9_common 162 = .ok (.aaload, 1) := by decide +kernel
theorem dX9_common_163 : decode cX9_common 163 = .ok (.iload 6, 2) := by decide +kernel
theorem dX9_common_165 : decode cX9_common 165 = .ok (.aload_n 0, 1) := by decide +kernel
theorem dX9_common_166 : decode cX9_common 166 = .ok (.getfield 107, 3) := by decide +kernel
theorem dX9_common_169 : decode cX9_common 169 = .ok (.iload 5, 2) := by decide +kernel
theorem dX9_common_171 : decode cX9_common 171 = .ok (.iconst 1, 1) := by decide +kernel
theorem dX9_common_172 : decode cX9_common 172 = .ok (.iadd, 1) := by decide +kernel
theorem dX9_common_173 : decode cX9_common 173 = .ok (.aaload, 1) := by decide +kernel
theorem dX9_common_174 : decode cX9_common 174 = .ok (.iload 6, 2) := by decide +kernel
theorem dX9_common_176 : decode cX9_common 176 = .ok (.iaload, 1) := by decide +kernel
theorem dX9_common_177 : decode cX9_common 177 = .ok (.aload_n 0, 1) := by decide +kernel
theorem dX9_common_178 : decode cX9_common 178 = .ok (.getfield 107, 3) := by decide +kernel
theorem dX9_common_181 : decode cX9_common 181 = .ok (.iload 5, 2) := by decide +kernel
theorem dX9_common_183 : decode cX9_common 183 = .ok (.aaload, 1) := by decide +kernel
theorem dX9_common_184 : decode cX9_common 184 = .ok (.iload 6, 2) := by decide +kernel
theorem dX9_common_186 : decode cX9_common 186 = .ok (.iconst 1, 1) := by decide +kernel
theorem dX9_common_187 : decode cX9_common 187 = .ok (.iadd, 1) := by decide +kernel
theorem dX9_common_188 : decode cX9_common 188 = .ok (.iaload, 1) := by decide +kernel
theorem dX9_common_189 : decode cX9_common 189 = .ok (.invokestatic 276, 3) := by decide +kernel
theorem dX9_common_192 : decode cX9_common 192 = .ok (.iastore, 1) := by decide +kernel
theorem dX9_common_193 : decode cX9_common 193 = .ok (.iinc 6 (-1), 3) := by decide +kernel
theorem dX9_common_196 : decode cX9_common 196 = .ok (.goto (-126), 3) := by decide +kernel
theorem dX9_common_199 : decode cX9_common 199 = .ok (.iinc 5 (-1), 3) := by decide +kernel
theorem dX9_common_202 : decode cX9_common 202 = .ok (.goto (-141), 3) := by decide +kernel
theorem dX9_common_205 : decode cX9_common 205 = .ok (.aload_n 0, 1) := by decide +kernel
theorem dX9_common_206 : decode cX9_common 206 = .ok (.getfield 107, 3) := by decide +kernel
theorem dX9_common_209 : decode cX9_common 209 = .ok (.iconst 0, 1) := by decide +kernel
theorem dX9_common_210 : decode cX9_common 210 = .ok (.aaload, 1) := by decide +kernel
theorem dX9_common_211 : decode cX9_common 211 = .ok (.iconst 0, 1) := by decide +kernel
theorem dX9_common_212 : decode cX9_common 212 = .ok (.iaload, 1) := by decide +kernel
theorem dX9_common_213 : decode cX9_common 213 = .ok (.ireturn, 1) := by decide +kernel
theorem dX9_otherwise_0 : decode cX9_otherwise 0 = .ok (.aload_n 0, 1) := by decide +kernel
theorem dX9_otherwise_1 : decode cX9_otherwise 1 = .ok (.getfield 58, 3) := by decide +kernel
theorem dX9_otherwise_4 : decode cX9_otherwise 4 = .ok (.iconst 0, 1) := by decide +kernel
theorem dX9_otherwise_5 : decode cX9_otherwise 5 = .ok (.iload_n 1, 1) := by decide +kernel
theorem dX9_otherwise_6 : decode cX9_otherwise 6 = .ok (.iadd, 1) := by decide +kernel
theorem dX9_otherwise_7 : decode cX9_otherwise 7 = .ok (.iaload, 1) := by decide +kernel
theorem dX9_otherwise_8 : decode cX9_otherwise 8 = .ok (.aload_n 0, 1) := by decide +kernel
theorem dX9_otherwise_9 : decode cX9_otherwise 9 = .ok (.getfield 67, 3) := by decide +kernel
theorem dX9_otherwise_12 : decode cX9_otherwise 12 = .ok (.aload_n 0, 1) := by decide +kernel
theorem dX9_otherwise_13 : decode cX9_otherwise 13 = .ok (.getfield 242, 3) := by decide +kernel
theorem dX9_otherwise_16 : decode cX9_otherwise 16 = .ok (.iconst 1, 1) := by decide +kernel
theorem dX9_otherwise_17 : decode cX9_otherwise 17 = .ok (.isub, 1) := by decide +kernel
theorem dX9_otherwise_18 : decode cX9_otherwise 18 = .ok (.aaload, 1) := by decide +kernel
theorem dX9_otherwise_19 : decode cX9_otherwise 19 = .ok (.iconst 1, 1) := by decide +kernel
theorem dX9_otherwise_20 : decode cX9_otherwise 20 = .ok (.iload_n 1, 1) := by decide +kernel
theorem dX9_otherwise_21 : decode cX9_otherwise 21 = .ok (.iadd, 1) := by decide +kernel
theorem dX9_otherwise_22 : decode cX9_otherwise 22 = .ok (.iaload, 1) := by decide +kernel
theorem dX9_otherwise_23 : decode cX9_otherwise 23 = .ok (.ixor, 1) := by decide +kernel
theorem dX9_otherwise_24 : decode cX9_otherwise 24 = .ok (.ireturn, 1) := by decide +kernel
theorem dX9_apart_0 : decode cX9_apart 0 = .ok (.aload_n 0, 1) := by decide +kernel
theorem dX9_apart_1 : decode cX9_apart 1 = .ok (.iconst 0, 1) := by decide +kernel
theorem dX9_apart_2 : decode cX9_apart 2 = .ok (.putfield 128, 3) := by decide +kernel
theorem dX9_apart_5 : decode cX9_apart 5 = .ok (.aload_n 0, 1) := by decide +kernel
theorem dX9_apart_6 : decode cX9_apart 6 = .ok (.getfield 242, 3) := by decide +kernel
theorem dX9_apart_9 : decode cX9_apart 9 = .ok (.ifCond .ne 7, 3) := by decide +kernel
theorem dX9_apart_12 : decode cX9_apart 12 = .ok (.iconst (-1), 1) := by decide +kernel
theorem dX9_apart_13 : decode cX9_apart 13 = .ok (.goto 4, 3) := by decide +kernel
theorem dX9_apart_16 : decode cX9_apart 16 = .ok (.iconst 0, 1) := by decide +kernel
theorem dX9_apart_17 : decode cX9_apart 17 = .ok (.istore_n 1, 1) := by decide +kernel
theorem dX9_apart_18 : decode cX9_apart 18 = .ok (.iconst 0, 1) := by decide +kernel
theorem dX9_apart_19 : decode cX9_apart 19 = .ok (.istore_n 2, 1) := by decide +kernel
theorem dX9_apart_20 : decode cX9_apart 20 = .ok (.iload_n 2, 1) := by decide +kernel
theorem dX9_apart_21 : decode cX9_apart 21 = .ok (.aload_n 0, 1) := by decide +kernel
theorem dX9_apart_22 : decode cX9_apart 22 = .ok (.getfield 223, 3) := by decide +kernel
theorem dX9_apart_25 : decode cX9_apart 25 = .ok (.if_icmp .ge 27, 3) := by decide +kernel
theorem dX9_apart_28 : decode cX9_apart 28 = .ok (.aload_n 0, 1) := by decide +kernel
theorem dX9_apart_29 : decode cX9_apart 29 = .ok (.getfield 242, 3) := by decide +kernel
theorem dX9_apart_32 : decode cX9_apart 32 = .ok (.ifCond .le 20, 3) := by decide +kernel
theorem dX9_apart_35 : decode cX9_apart 35 = .ok (.iload_n 1, 1) := by decide +kernel
theorem dX9_apart_36 : decode cX9_apart 36 = .ok (.aload_n 0, 1) := by decide +kernel
theorem dX9_apart_37 : decode cX9_apart 37 = .ok (.iload_n 2, 1) := by decide +kernel
theorem dX9_apart_38 : decode cX9_apart 38 = .ok (.invokevirtual 406, 3) := by decide +kernel
theorem dX9_apart_41 : decode cX9_apart 41 = .ok (.invokestatic 295, 3) := by decide +kernel
theorem dX9_apart_44 : decode cX9_apart 44 = .ok (.iadd, 1) := by decide +kernel
theorem dX9_apart_45 : decode cX9_apart 45 = .ok (.istore_n 1, 1) := by decide +kernel
theorem dX9_apart_46 : decode cX9_apart 46 = .ok (.iinc 2 1, 3) := by decide +kernel
theorem dX9_apart_49 : decode cX9_apart 49 = .ok (.goto (-29), 3) := by decide +kernel
theorem dX9_apart_52 : decode cX9_apart 52 = .ok (.iload_n 1, 1) := by decide +kernel
theorem dX9_apart_53 : decode cX9_apart 53 = .ok (.ireturn, 1) := by decide +kernel
theorem dX9_mends_0 : decode cX9_mends 0 = .ok (.aload_n 0, 1) := by decide +kernel
theorem dX9_mends_1 : decode cX9_mends 1 = .ok (.iconst 0, 1) := by decide +kernel
theorem dX9_mends_2 : decode cX9_mends 2 = .ok (.putfield 128, 3) := by decide +kernel
theorem dX9_mends_5 : decode cX9_mends 5 = .ok (.aload_n 0, 1) := by decide +kernel
theorem dX9_mends_6 : decode cX9_mends 6 = .ok (.getfield 242, 3) := by decide +kernel
theorem dX9_mends_9 : decode cX9_mends 9 = .ok (.ifCond .ne 7, 3) := by decide +kernel
theorem dX9_mends_12 : decode cX9_mends 12 = .ok (.iconst (-1), 1) := by decide +kernel
theorem dX9_mends_13 : decode cX9_mends 13 = .ok (.goto 4, 3) := by decide +kernel
theorem dX9_mends_16 : decode cX9_mends 16 = .ok (.iconst 0, 1) := by decide +kernel
theorem dX9_mends_17 : decode cX9_mends 17 = .ok (.istore_n 1, 1) := by decide +kernel
theorem dX9_mends_18 : decode cX9_mends 18 = .ok (.iconst 0, 1) := by decide +kernel
theorem dX9_mends_19 : decode cX9_mends 19 = .ok (.istore_n 2, 1) := by decide +kernel
theorem dX9_mends_20 : decode cX9_mends 20 = .ok (.iload_n 2, 1) := by decide +kernel
theorem dX9_mends_21 : decode cX9_mends 21 = .ok (.aload_n 0, 1) := by decide +kernel
theorem dX9_mends_22 : decode cX9_mends 22 = .ok (.getfield 223, 3) := by decide +kernel
theorem dX9_mends_25 : decode cX9_mends 25 = .ok (.if_icmp .ge 35, 3) := by decide +kernel
theorem dX9_mends_28 : decode cX9_mends 28 = .ok (.aload_n 0, 1) := by decide +kernel
theorem dX9_mends_29 : decode cX9_mends 29 = .ok (.getfield 242, 3) := by decide +kernel
theorem dX9_mends_32 : decode cX9_mends 32 = .ok (.ifCond .le 28, 3) := by decide +kernel
theorem dX9_mends_35 : decode cX9_mends 35 = .ok (.aload_n 0, 1) := by decide +kernel
theorem dX9_mends_36 : decode cX9_mends 36 = .ok (.iload_n 2, 1) := by decide +kernel
theorem dX9_mends_37 : decode cX9_mends 37 = .ok (.invokevirtual 406, 3) := by decide +kernel
theorem dX9_mends_40 : decode cX9_mends 40 = .ok (.istore_n 3, 1) := by decide +kernel
theorem dX9_mends_41 : decode cX9_mends 41 = .ok (.iload_n 1, 1) := by decide +kernel
theorem dX9_mends_42 : decode cX9_mends 42 = .ok (.iload_n 3, 1) := by decide +kernel
theorem dX9_mends_43 : decode cX9_mends 43 = .ok (.iload_n 3, 1) := by decide +kernel
theorem dX9_mends_44 : decode cX9_mends 44 = .ok (.iconst 1, 1) := by decide +kernel
theorem dX9_mends_45 : decode cX9_mends 45 = .ok (.ishl, 1) := by decide +kernel
theorem dX9_mends_46 : decode cX9_mends 46 = .ok (.iconst (-1), 1) := by decide +kernel
theorem dX9_mends_47 : decode cX9_mends 47 = .ok (.ixor, 1) := by decide +kernel
theorem dX9_mends_48 : decode cX9_mends 48 = .ok (.iand, 1) := by decide +kernel
theorem dX9_mends_49 : decode cX9_mends 49 = .ok (.invokestatic 295, 3) := by decide +kernel
theorem dX9_mends_52 : decode cX9_mends 52 = .ok (.iadd, 1) := by decide +kernel
theorem dX9_mends_53 : decode cX9_mends 53 = .ok (.istore_n 1, 1) := by decide +kernel
theorem dX9_mends_54 : decode cX9_mends 54 = .ok (.iinc 2 1, 3) := by decide +kernel
theorem dX9_mends_57 : decode cX9_mends 57 = .ok (.goto (-37), 3) := by decide +kernel
theorem dX9_mends_60 : decode cX9_mends 60 = .ok (.iload_n 1, 1) := by decide +kernel
theorem dX9_mends_61 : decode cX9_mends 61 = .ok (.ireturn, 1) := by decide +kernel
theorem dX9_hasBy_0 : decode cX9_hasBy 0 = .ok (.iload_n 0, 1) := by decide +kernel
theorem dX9_hasBy_1 : decode cX9_hasBy 1 = .ok (.iload_n 1, 1) := by decide +kernel
theorem dX9_hasBy_2 : decode cX9_hasBy 2 = .ok (.if_icmp .ne 16, 3) := by decide +kernel
theorem dX9_hasBy_5 : decode cX9_hasBy 5 = .ok (.iload_n 0, 1) := by decide +kernel
theorem dX9_hasBy_6 : decode cX9_hasBy 6 = .ok (.ifCond .ne 8, 3) := by decide +kernel
theorem dX9_hasBy_9 : decode cX9_hasBy 9 = .ok (.iload_n 3, 1) := by decide +kernel
theorem dX9_hasBy_10 : decode cX9_hasBy 10 = .ok (.ineg, 1) := by decide +kernel
theorem dX9_hasBy_11 : decode cX9_hasBy 11 = .ok (.goto 16, 3) := by decide +kernel
theorem dX9_hasBy_14 : decode cX9_hasBy 14 = .ok (.iload_n 3, 1) := by decide +kernel
theorem dX9_hasBy_15 : decode cX9_hasBy 15 = .ok (.goto 12, 3) := by decide +kernel
theorem dX9_hasBy_18 : decode cX9_hasBy 18 = .ok (.iload_n 0, 1) := by decide +kernel
theorem dX9_hasBy_19 : decode cX9_hasBy 19 = .ok (.ifCond .ne 7, 3) := by decide +kernel
theorem dX9_hasBy_22 : decode cX9_hasBy 22 = .ok (.iload_n 2, 1) := by decide +kernel
theorem dX9_hasBy_23 : decode cX9_hasBy 23 = .ok (.goto 4, 3) := by decide +kernel
theorem dX9_hasBy_26 : decode cX9_hasBy 26 = .ok (.iconst 0, 1) := by decide +kernel
theorem dX9_hasBy_27 : decode cX9_hasBy 27 = .ok (.ireturn, 1) := by decide +kernel
theorem dX9_isBest_0 : decode cX9_isBest 0 = .ok (.iload_n 0, 1) := by decide +kernel
theorem dX9_isBest_1 : decode cX9_isBest 1 = .ok (.iload_n 1, 1) := by decide +kernel
theorem dX9_isBest_2 : decode cX9_isBest 2 = .ok (.iload_n 2, 1) := by decide +kernel
theorem dX9_isBest_3 : decode cX9_isBest 3 = .ok (.iload_n 3, 1) := by decide +kernel
theorem dX9_isBest_4 : decode cX9_isBest 4 = .ok (.invokestatic 409, 3) := by decide +kernel
theorem dX9_isBest_7 : decode cX9_isBest 7 = .ok (.iconst 1, 1) := by decide +kernel
theorem dX9_isBest_8 : decode cX9_isBest 8 = .ok (.iload_n 0, 1) := by decide +kernel
theorem dX9_isBest_9 : decode cX9_isBest 9 = .ok (.isub, 1) := by decide +kernel
theorem dX9_isBest_10 : decode cX9_isBest 10 = .ok (.iload_n 1, 1) := by decide +kernel
theorem dX9_isBest_11 : decode cX9_isBest 11 = .ok (.iload_n 2, 1) := by decide +kernel
theorem dX9_isBest_12 : decode cX9_isBest 12 = .ok (.iload_n 3, 1) := by decide +kernel
theorem dX9_isBest_13 : decode cX9_isBest 13 = .ok (.invokestatic 409, 3) := by decide +kernel
theorem dX9_isBest_16 : decode cX9_isBest 16 = .ok (.if_icmp .lt 7, 3) := by decide +kernel
theorem dX9_isBest_19 : decode cX9_isBest 19 = .ok (.iconst 1, 1) := by decide +kernel
theorem dX9_isBest_20 : decode cX9_isBest 20 = .ok (.goto 4, 3) := by decide +kernel
theorem dX9_isBest_23 : decode cX9_isBest 23 = .ok (.iconst 0, 1) := by decide +kernel
theorem dX9_isBest_24 : decode cX9_isBest 24 = .ok (.ireturn, 1) := by decide +kernel
theorem dX9_duel_0 : decode cX9_duel 0 = .ok (.aload_n 0, 1) := by decide +kernel
theorem dX9_duel_1 : decode cX9_duel 1 = .ok (.iconst 0, 1) := by decide +kernel
theorem dX9_duel_2 : decode cX9_duel 2 = .ok (.putfield 128, 3) := by decide +kernel
theorem dX9_duel_5 : decode cX9_duel 5 = .ok (.aload_n 0, 1) := by decide +kernel
theorem dX9_duel_6 : decode cX9_duel 6 = .ok (.iload_n 1, 1) := by decide +kernel
theorem dX9_duel_7 : decode cX9_duel 7 = .ok (.iconst 0, 1) := by decide +kernel
theorem dX9_duel_8 : decode cX9_duel 8 = .ok (.bipush 99, 2) := by decide +kernel
theorem dX9_duel_10 : decode cX9_duel 10 = .ok (.invokestatic 162, 3) := by decide +kernel
theorem dX9_duel_13 : decode cX9_duel 13 = .ok (.ifCond .eq 22, 3) := by decide +kernel
theorem dX9_duel_16 : decode cX9_duel 16 = .ok (.iload_n 2, 1) := by decide +kernel
theorem dX9_duel_17 : decode cX9_duel 17 = .ok (.iconst 0, 1) := by decide +kernel
theorem dX9_duel_18 : decode cX9_duel 18 = .ok (.bipush 99, 2) := by decide +kernel
theorem dX9_duel_20 : decode cX9_duel 20 = .ok (.invokestatic 162, 3) := by decide +kernel
theorem dX9_duel_23 : decode cX9_duel 23 = .ok (.ifCond .eq 12, 3) := by decide +kernel
theorem dX9_duel_26 : decode cX9_duel 26 = .ok (.iload_n 3, 1) := by decide +kernel
theorem dX9_duel_27 : decode cX9_duel 27 = .ok (.iconst 0, 1) := by decide +kernel
theorem dX9_duel_28 : decode cX9_duel 28 = .ok (.iconst 2, 1) := by decide +kernel
theorem dX9_duel_29 : decode cX9_duel 29 = .ok (.invokestatic 162, 3) := by decide +kernel
theorem dX9_duel_32 : decode cX9_duel 32 = .ok (.ifCond .ne 7, 3) := by decide +kernel
theorem dX9_duel_35 : decode cX9_duel 35 = .ok (.iconst 1, 1) := by decide +kernel
theorem dX9_duel_36 : decode cX9_duel 36 = .ok (.goto 4, 3) := by decide +kernel
theorem dX9_duel_39 : decode cX9_duel 39 = .ok (.iconst 0, 1) := by decide +kernel
theorem dX9_duel_40 : decode cX9_duel 40 = .ok (.iconst 1, 1) := by decide +kernel
theorem dX9_duel_41 : decode cX9_duel 41 = .ok (.iconst 1, 1) := by decide +kernel
theorem dX9_duel_42 : decode cX9_duel 42 = .ok (.invokevirtual 207, 3) := by decide +kernel
theorem dX9_duel_45 : decode cX9_duel 45 = .ok (.ifCond .eq 5, 3) := by decide +kernel
theorem dX9_duel_48 : decode cX9_duel 48 = .ok (.iconst 0, 1) := by decide +kernel
theorem dX9_duel_49 : decode cX9_duel 49 = .ok (.ireturn, 1) := by decide +kernel
theorem dX9_duel_50 : decode cX9_duel 50 = .ok (.iconst 0, 1) := by decide +kernel
theorem dX9_duel_51 : decode cX9_duel 51 = .ok (.istore 4, 2) := by decide +kernel
theorem dX9_duel_53 : decode cX9_duel 53 = .ok (.iconst (-1), 1) := by decide +kernel
theorem dX9_duel_54 : decode cX9_duel 54 = .ok (.istore 5, 2) := by decide +kernel
theorem dX9_duel_56 : decode cX9_duel 56 = .ok (.iconst 0, 1) := by decide +kernel
theorem dX9_duel_57 : decode cX9_duel 57 = .ok (.istore 6, 2) := by decide +kernel
theorem dX9_duel_59 : decode cX9_duel 59 = .ok (.iconst 0, 1) := by decide +kernel
theorem dX9_duel_60 : decode cX9_duel 60 = .ok (.istore 7, 2) := by decide +kernel
theorem dX9_duel_62 : decode cX9_duel 62 = .ok (.iload 7, 2) := by decide +kernel
theorem dX9_duel_64 : decode cX9_duel 64 = .ok (.iconst 2, 1) := by decide +kernel
theorem dX9_duel_65 : decode cX9_duel 65 = .ok (.if_icmp .ge 105, 3) := by decide +kernel
theorem dX9_duel_68 : decode cX9_duel 68 = .ok (.iconst 0, 1) := by decide +kernel
theorem dX9_duel_69 : decode cX9_duel 69 = .ok (.istore 8, 2) := by decide +kernel
theorem dX9_duel_71 : decode cX9_duel 71 = .ok (.iload 8, 2) := by decide +kernel
theorem dX9_duel_73 : decode cX9_duel 73 = .ok (.iconst 2, 1) := by decide +kernel
theorem dX9_duel_74 : decode cX9_duel 74 = .ok (.if_icmp .ge 90, 3) := by decide +kernel
theorem dX9_duel_77 : decode cX9_duel 77 = .ok (.iload 7, 2) := by decide +kernel
theorem dX9_duel_79 : decode cX9_duel 79 = .ok (.iload 8, 2) := by decide +kernel
theorem dX9_duel_81 : decode cX9_duel 81 = .ok (.iload_n 1, 1) := by decide +kernel
theorem dX9_duel_82 : decode cX9_duel 82 = .ok (.iload_n 2, 1) := by decide +kernel
theorem dX9_duel_83 : decode cX9_duel 83 = .ok (.invokestatic 413, 3) := by decide +kernel
theorem dX9_duel_86 : decode cX9_duel 86 = .ok (.ifCond .eq 72, 3) := by decide +kernel
theorem dX9_duel_89 : decode cX9_duel 89 = .ok (.iload 8, 2) := by decide +kernel
theorem dX9_duel_91 : decode cX9_duel 91 = .ok (.iload 7, 2) := by decide +kernel
theorem dX9_duel_93 : decode cX9_duel 93 = .ok (.iload_n 1, 1) := by decide +kernel
theorem dX9_duel_94 : decode cX9_duel 94 = .ok (.iload_n 2, 1) := by decide +kernel
theorem dX9_duel_95 : decode cX9_duel 95 = .ok (.invokestatic 413, 3) := by decide +kernel
theorem dX9_duel_98 : decode cX9_duel 98 = .ok (.ifCond .ne 6, 3) := by decide +kernel
theorem dX9_duel_101 : decode cX9_duel 101 = .ok (.goto 57, 3) := by decide +kernel
theorem dX9_duel_104 : decode cX9_duel 104 = .ok (.iload 4, 2) := by decide +kernel
theorem dX9_duel_106 : decode cX9_duel 106 = .ok (.ifCond .ne 25, 3) := by decide +kernel
theorem dX9_duel_109 : decode cX9_duel 109 = .ok (.iload 7, 2) := by decide +kernel
theorem dX9_duel_111 : decode cX9_duel 111 = .ok (.iload 8, 2) := by decide +kernel
theorem dX9_duel_113 : decode cX9_duel 113 = .ok (.iload_n 1, 1) := by decide +kernel
theorem dX9_duel_114 : decode cX9_duel 114 = .ok (.iload_n 2, 1) := by decide +kernel
theorem dX9_duel_115 : decode cX9_duel 115 = .ok (.invokestatic 409, 3) := by decide +kernel
theorem dX9_duel_118 : decode cX9_duel 118 = .ok (.iload 8, 2) := by decide +kernel
theorem dX9_duel_120 : decode cX9_duel 120 = .ok (.iload 7, 2) := by decide +kernel
theorem dX9_duel_122 : decode cX9_duel 122 = .ok (.iload_n 1, 1) := by decide +kernel
theorem dX9_duel_123 : decode cX9_duel 123 = .ok (.iload_n 2, 1) := by decide +kernel
theorem dX9_duel_124 : decode cX9_duel 124 = .ok (.invokestatic 409, 3) := by decide +kernel
theorem dX9_duel_127 : decode cX9_duel 127 = .ok (.iadd, 1) := by decide +kernel
theorem dX9_duel_128 : decode cX9_duel 128 = .ok (.goto 5, 3) := by decide +kernel
theorem dX9_duel_131 : decode cX9_duel 131 = .ok (.iload 6, 2) := by decide +kernel
theorem dX9_duel_133 : decode cX9_duel 133 = .ok (.istore 6, 2) := by decide +kernel
theorem dX9_duel_135 : decode cX9_duel 135 = .ok (.iload 4, 2) := by decide +kernel
theorem dX9_duel_137 : decode cX9_duel 137 = .ok (.ifCond .ne 14, 3) := by decide +kernel
theorem dX9_duel_140 : decode cX9_duel 140 = .ok (.bipush 10, 2) := by decide +kernel
theorem dX9_duel_142 : decode cX9_duel 142 = .ok (.iload 7, 2) := by decide +kernel
theorem dX9_duel_144 : decode cX9_duel 144 = .ok (.imul, 1) := by decide +kernel
theorem dX9_duel_145 : decode cX9_duel 145 = .ok (.iload 8, 2) := by decide +kernel
theorem dX9_duel_147 : decode cX9_duel 147 = .ok (.iadd, 1) := by decide +kernel
theorem dX9_duel_148 : decode cX9_duel 148 = .ok (.goto 5, 3) := by decide +kernel
theorem dX9_duel_151 : decode cX9_duel 151 = .ok (.iload 5, 2) := by decide +kernel
theorem dX9_duel_153 : decode cX9_duel 153 = .ok (.istore 5, 2) := by decide +kernel
theorem dX9_duel_155 : decode cX9_duel 155 = .ok (.iinc 4 1, 3) := by decide +kernel
theorem dX9_duel_158 : decode cX9_duel 158 = .ok (.iinc 8 1, 3) := by decide +kernel
theorem dX9_duel_161 : decode cX9_duel 161 = .ok (.goto (-90), 3) := by decide +kernel
theorem dX9_duel_164 : decode cX9_duel 164 = .ok (.iinc 7 1, 3) := by decide +kernel
theorem dX9_duel_167 : decode cX9_duel 167 = .ok (.goto (-105), 3) := by decide +kernel
theorem dX9_duel_170 : decode cX9_duel 170 = .ok (.iload_n 3, 1) := by decide +kernel
theorem dX9_duel_171 : decode cX9_duel 171 = .ok (.ifCond .ne 8, 3) := by decide +kernel
theorem dX9_duel_174 : decode cX9_duel 174 = .ok (.iload 4, 2) := by decide +kernel
theorem dX9_duel_176 : decode cX9_duel 176 = .ok (.goto 15, 3) := by decide +kernel
theorem dX9_duel_179 : decode cX9_duel 179 = .ok (.iload_n 3, 1) := by decide +kernel
theorem dX9_duel_180 : decode cX9_duel 180 = .ok (.iconst 1, 1) := by decide +kernel
theorem dX9_duel_181 : decode cX9_duel 181 = .ok (.if_icmp .ne 8, 3) := by decide +kernel
theorem dX9_duel_184 : decode cX9_duel 184 = .ok (.iload 5, 2) := by decide +kernel
theorem dX9_duel_186 : decode cX9_duel 186 = .ok (.goto 5, 3) := by decide +kernel
theorem dX9_duel_189 : decode cX9_duel 189 = .ok (.iload 6, 2) := by decide +kernel
theorem dX9_duel_191 : decode cX9_duel 191 = .ok (.ireturn, 1) := by decide +kernel
theorem dX9_chance_0 : decode cX9_chance 0 = .ok (.aload_n 0, 1) := by decide +kernel
theorem dX9_chance_1 : decode cX9_chance 1 = .ok (.iconst 0, 1) := by decide +kernel
theorem dX9_chance_2 : decode cX9_chance 2 = .ok (.putfield 128, 3) := by decide +kernel
theorem dX9_chance_5 : decode cX9_chance 5 = .ok (.aload_n 0, 1) := by decide +kernel
theorem dX9_chance_6 : decode cX9_chance 6 = .ok (.iload_n 1, 1) := by decide +kernel
theorem dX9_chance_7 : decode cX9_chance 7 = .ok (.iconst 0, 1) := by decide +kernel
theorem dX9_chance_8 : decode cX9_chance 8 = .ok (.bipush 12, 2) := by decide +kernel
theorem dX9_chance_10 : decode cX9_chance 10 = .ok (.invokestatic 162, 3) := by decide +kernel
theorem dX9_chance_13 : decode cX9_chance 13 = .ok (.ifCond .eq 33, 3) := by decide +kernel
theorem dX9_chance_16 : decode cX9_chance 16 = .ok (.iload_n 2, 1) := by decide +kernel
theorem dX9_chance_17 : decode cX9_chance 17 = .ok (.iconst 0, 1) := by decide +kernel
theorem dX9_chance_18 : decode cX9_chance 18 = .ok (.bipush 13, 2) := by decide +kernel
theorem dX9_chance_20 : decode cX9_chance 20 = .ok (.invokestatic 162, 3) := by decide +kernel
theorem dX9_chance_23 : decode cX9_chance 23 = .ok (.ifCond .eq 23, 3) := by decide +kernel
theorem dX9_chance_26 : decode cX9_chance 26 = .ok (.iload_n 3, 1) := by decide +kernel
theorem dX9_chance_27 : decode cX9_chance 27 = .ok (.iconst 0, 1) := by decide +kernel
theorem dX9_chance_28 : decode cX9_chance 28 = .ok (.bipush 16, 2) := by decide +kernel
theorem dX9_chance_30 : decode cX9_chance 30 = .ok (.invokestatic 162, 3) := by decide +kernel
theorem dX9_chance_33 : decode cX9_chance 33 = .ok (.ifCond .eq 13, 3) := by decide +kernel
theorem dX9_chance_36 : decode cX9_chance 36 = .ok (.iload 4, 2) := by decide +kernel
theorem dX9_chance_38 : decode cX9_chance 38 = .ok (.iconst 0, 1) := by decide +kernel
theorem dX9_chance_39 : decode cX9_chance 39 = .ok (.iconst 1, 1) := by decide +kernel
theorem dX9_chance_40 : decode cX9_chance 40 = .ok (.invokestatic 162, 3) := by decide +kernel
theorem dX9_chance_43 : decode cX9_chance 43 = .ok (.ifCond .ne 7, 3) := by decide +kernel
theorem dX9_chance_46 : decode cX9_chance 46 = .ok (.iconst 1, 1) := by decide +kernel
theorem dX9_chance_47 : decode cX9_chance 47 = .ok (.goto 4, 3) := by decide +kernel
theorem dX9_chance_50 : decode cX9_chance 50 = .ok (.iconst 0, 1) := by decide +kernel
theorem dX9_chance_51 : decode cX9_chance 51 = .ok (.iconst 1, 1) := by decide +kernel
theorem dX9_chance_52 : decode cX9_chance 52 = .ok (.iconst 1, 1) := by decide +kernel
theorem dX9_chance_53 : decode cX9_chance 53 = .ok (.invokevirtual 207, 3) := by decide +kernel
theorem dX9_chance_56 : decode cX9_chance 56 = .ok (.ifCond .eq 5, 3) := by decide +kernel
theorem dX9_chance_59 : decode cX9_chance 59 = .ok (.lconst 0, 1) := by decide +kernel
theorem dX9_chance_60 : decode cX9_chance 60 = .ok (.lreturn, 1) := by decide +kernel
theorem dX9_chance_61 : decode cX9_chance 61 = .ok (.iconst 0, 1) := by decide +kernel
theorem dX9_chance_62 : decode cX9_chance 62 = .ok (.istore 5, 2) := by decide +kernel
theorem dX9_chance_64 : decode cX9_chance 64 = .ok (.iload 5, 2) := by decide +kernel
theorem dX9_chance_66 : decode cX9_chance 66 = .ok (.bipush 14, 2) := by decide +kernel
theorem dX9_chance_68 : decode cX9_chance 68 = .ok (.if_icmp .ge 26, 3) := by decide +kernel
theorem dX9_chance_71 : decode cX9_chance 71 = .ok (.aload_n 0, 1) := by decide +kernel
theorem dX9_chance_72 : decode cX9_chance 72 = .ok (.getfield 110, 3) := by decide +kernel
theorem dX9_chance_75 : decode cX9_chance 75 = .ok (.iload 5, 2) := by decide +kernel
theorem dX9_chance_77 : decode cX9_chance 77 = .ok (.iload 5, 2) := by decide +kernel
theorem dX9_chance_79 : decode cX9_chance 79 = .ok (.ifCond .ne 7, 3) := by decide +kernel
theorem dX9_chance_82 : decode cX9_chance 82 = .ok (.lconst 1, 1) := by decide +kernel
theorem dX9_chance_83 : decode cX9_chance 83 = .ok (.goto 4, 3) := by decide +kernel
theorem dX9_chance_86 : decode cX9_chance 86 = .ok (.lconst 0, 1) := by decide +kernel
theorem dX9_chance_87 : decode cX9_chance 87 = .ok (.lastore, 1) := by decide +kernel
theorem dX9_chance_88 : decode cX9_chance 88 = .ok (.iinc 5 1, 3) := by decide +kernel
theorem dX9_chance_91 : decode cX9_chance 91 = .ok (.goto (-27), 3) := by decide +kernel
theorem dX9_chance_94 : decode cX9_chance 94 = .ok (.iconst 0, 1) := by decide +kernel
theorem dX9_chance_95 : decode cX9_chance 95 = .ok (.istore 5, 2) := by decide +kernel
theorem dX9_chance_97 : decode cX9_chance 97 = .ok (.iload 5, 2) := by decide +kernel
theorem dX9_chance_99 : decode cX9_chance 99 = .ok (.iload_n 1, 1) := by decide +kernel
theorem dX9_chance_100 : decode cX9_chance 100 = .ok (.if_icmp .ge 66, 3) := by decide +kernel
theorem dX9_chance_103 : decode cX9_chance 103 = .ok (.bipush 13, 2) := by decide +kernel
theorem dX9_chance_105 : decode cX9_chance 105 = .ok (.istore 6, 2) := by decide +kernel
theorem dX9_chance_107 : decode cX9_chance 107 = .ok (.iload 6, 2) := by decide +kernel
theorem dX9_chance_109 : decode cX9_chance 109 = .ok (.ifCond .lt 51, 3) := by decide +kernel
theorem dX9_chance_112 : decode cX9_chance 112 = .ok (.aload_n 0, 1) := by decide +kernel
theorem dX9_chance_113 : decode cX9_chance 113 = .ok (.getfield 110, 3) := by decide +kernel
theorem dX9_chance_116 : decode cX9_chance 116 = .ok (.iload 6, 2) := by decide +kernel
theorem dX9_chance_118 : decode cX9_chance 118 = .ok (.aload_n 0, 1) := by decide +kernel
theorem dX9_chance_119 : decode cX9_chance 119 = .ok (.getfield 110, 3) := by decide +kernel
theorem dX9_chance_122 : decode cX9_chance 122 = .ok (.iload 6, 2) := by decide +kernel
theorem dX9_chance_124 : decode cX9_chance 124 = .ok (.laload, 1) := by decide +kernel
theorem dX9_chance_125 : decode cX9_chance 125 = .ok (.iload_n 3, 1) := by decide +kernel
theorem dX9_chance_126 : decode cX9_chance 126 = .ok (.i2l, 1) := by decide +kernel
theorem dX9_chance_127 : decode cX9_chance 127 = .ok (.lmul, 1) := by decide +kernel
theorem dX9_chance_128 : decode cX9_chance 128 = .ok (.iload 6, 2) := by decide +kernel
theorem dX9_chance_130 : decode cX9_chance 130 = .ok (.ifCond .le 21, 3) := by decide +kernel
theorem dX9_chance_133 : decode cX9_chance 133 = .ok (.aload_n 0, 1) := by decide +kernel
theorem dX9_chance_134 : decode cX9_chance 134 = .ok (.getfield 110, 3) := by decide +kernel
theorem dX9_chance_137 : decode cX9_chance 137 = .ok (.iload 6, 2) := by decide +kernel
theorem dX9_chance_139 : decode cX9_chance 139 = .ok (.iconst 1, 1) := by decide +kernel
theorem dX9_chance_140 : decode cX9_chance 140 = .ok (.isub, 1) := by decide +kernel
theorem dX9_chance_141 : decode cX9_chance 141 = .ok (.laload, 1) := by decide +kernel
theorem dX9_chance_142 : decode cX9_chance 142 = .ok (.bipush 16, 2) := by decide +kernel
theorem dX9_chance_144 : decode cX9_chance 144 = .ok (.iload_n 3, 1) := by decide +kernel
theorem dX9_chance_145 : decode cX9_chance 145 = .ok (.isub, 1) := by decide +kernel
theorem dX9_chance_146 : decode cX9_chance 146 = .ok (.i2l, 1) := by decide +kernel
theorem dX9_chance_147 : decode cX9_chance 147 = .ok (.lmul, 1) := by decide +kernel
theorem dX9_chance_148 : decode cX9_chance 148 = .ok (.goto 4, 3) := by decide +kernel
theorem dX9_chance_151 : decode cX9_chance 151 = .ok (.lconst 0, 1) := by decide +kernel
theorem dX9_chance_152 : decode cX9_chance 152 = .ok (.ladd, 1) := by decide +kernel
theorem dX9_chance_153 : decode cX9_chance 153 = .ok (.lastore, 1) := by decide +kernel
theorem dX9_chance_154 : decode cX9_chance 154 = .ok (.iinc 6 (-1), 3) := by decide +kernel
theorem dX9_chance_157 : decode cX9_chance 157 = .ok (.goto (-50), 3) := by decide +kernel
theorem dX9_chance_160 : decode cX9_chance 160 = .ok (.iinc 5 1, 3) := by decide +kernel
theorem dX9_chance_163 : decode cX9_chance 163 = .ok (.goto (-66), 3) := by decide +kernel
theorem dX9_chance_166 : decode cX9_chance 166 = .ok (.lconst 0, 1) := by decide +kernel
theorem dX9_chance_167 : decode cX9_chance 167 = .ok (.lstore 5, 2) := by decide +kernel
theorem dX9_chance_169 : decode cX9_chance 169 = .ok (.lconst 1, 1) := by decide +kernel
theorem dX9_chance_170 : decode cX9_chance 170 = .ok (.iconst 4, 1) := by decide +kernel
theorem dX9_chance_171 : decode cX9_chance 171 = .ok (.iload_n 1, 1) := by decide +kernel
theorem dX9_chance_172 : decode cX9_chance 172 = .ok (.imul, 1) := by decide +kernel
theorem dX9_chance_173 : decode cX9_chance 173 = .ok (.lshl, 1) := by decide +kernel
theorem dX9_chance_174 : decode cX9_chance 174 = .ok (.lstore 7, 2) := by decide +kernel
theorem dX9_chance_176 : decode cX9_chance 176 = .ok (.iload_n 2, 1) := by decide +kernel
theorem dX9_chance_177 : decode cX9_chance 177 = .ok (.istore 9, 2) := by decide +kernel
theorem dX9_chance_179 : decode cX9_chance 179 = .ok (.iload 9, 2) := by decide +kernel
theorem dX9_chance_181 : decode cX9_chance 181 = .ok (.bipush 14, 2) := by decide +kernel
theorem dX9_chance_183 : decode cX9_chance 183 = .ok (.if_icmp .ge 21, 3) := by decide +kernel
theorem dX9_chance_186 : decode cX9_chance 186 = .ok (.lload 5, 2) := by decide +kernel
theorem dX9_chance_188 : decode cX9_chance 188 = .ok (.aload_n 0, 1) := by decide +kernel
theorem dX9_chance_189 : decode cX9_chance 189 = .ok (.getfield 110, 3) := by decide +kernel
theorem dX9_chance_192 : decode cX9_chance 192 = .ok (.iload 9, 2) := by decide +kernel
theorem dX9_chance_194 : decode cX9_chance 194 = .ok (.laload, 1) := by decide +kernel
theorem dX9_chance_195 : decode cX9_chance 195 = .ok (.ladd, 1) := by decide +kernel
theorem dX9_chance_196 : decode cX9_chance 196 = .ok (.lstore 5, 2) := by decide +kernel
theorem dX9_chance_198 : decode cX9_chance 198 = .ok (.iinc 9 1, 3) := by decide +kernel
theorem dX9_chance_201 : decode cX9_chance 201 = .ok (.goto (-22), 3) := by decide +kernel
theorem dX9_chance_204 : decode cX9_chance 204 = .ok (.lload 7, 2) := by decide +kernel
theorem dX9_chance_206 : decode cX9_chance 206 = .ok (.lstore 9, 2) := by decide +kernel
theorem dX9_chance_208 : decode cX9_chance 208 = .ok (.lload 5, 2) := by decide +kernel
theorem dX9_chance_210 : decode cX9_chance 210 = .ok (.lstore 11, 2) := by decide +kernel
theorem dX9_chance_212 : decode cX9_chance 212 = .ok (.lload 11, 2) := by decide +kernel
theorem dX9_chance_214 : decode cX9_chance 214 = .ok (.lconst 0, 1) := by decide +kernel
theorem dX9_chance_215 : decode cX9_chance 215 = .ok (.lcmp, 1) := by decide +kernel
theorem dX9_chance_216 : decode cX9_chance 216 = .ok (.ifCond .eq 21, 3) := by decide +kernel
theorem dX9_chance_219 : decode cX9_chance 219 = .ok (.lload 9, 2) := by decide +kernel
theorem dX9_chance_221 : decode cX9_chance 221 = .ok (.lload 11, 2) := by decide +kernel
theorem dX9_chance_223 : decode cX9_chance 223 = .ok (.lrem, 1) := by decide +kernel
theorem dX9_chance_224 : decode cX9_chance 224 = .ok (.lstore 13, 2) := by decide +kernel
theorem dX9_chance_226 : decode cX9_chance 226 = .ok (.lload 11, 2) := by decide +kernel
theorem dX9_chance_228 : decode cX9_chance 228 = .ok (.lstore 9, 2) := by decide +kernel
theorem dX9_chance_230 : decode cX9_chance 230 = .ok (.lload 13, 2) := by decide +kernel
theorem dX9_chance_232 : decode cX9_chance 232 = .ok (.lstore 11, 2) := by decide +kernel
theorem dX9_chance_234 : decode cX9_chance 234 = .ok (.goto (-22), 3) := by decide +kernel
theorem dX9_chance_237 : decode cX9_chance 237 = .ok (.iload 4, 2) := by decide +kernel
theorem dX9_chance_239 : decode cX9_chance 239 = .ok (.ifCond .ne 11, 3) := by decide +kernel
theorem dX9_chance_242 : decode cX9_chance 242 = .ok (.lload 5, 2) := by decide +kernel
theorem dX9_chance_244 : decode cX9_chance 244 = .ok (.lload 9, 2) := by decide +kernel
theorem dX9_chance_246 : decode cX9_chance 246 = .ok (.ldiv, 1) := by decide +kernel
theorem dX9_chance_247 : decode cX9_chance 247 = .ok (.goto 8, 3) := by decide +kernel
theorem dX9_chance_250 : decode cX9_chance 250 = .ok (.lload 7, 2) := by decide +kernel
theorem dX9_chance_252 : decode cX9_chance 252 = .ok (.lload 9, 2) := by decide +kernel
theorem dX9_chance_254 : decode cX9_chance 254 = .ok (.ldiv, 1) := by decide +kernel
theorem dX9_chance_255 : decode cX9_chance 255 = .ok (.lreturn, 1) := by decide +kernel
theorem dX9_givenBy_0 : decode cX9_givenBy 0 = .ok (.iconst 0, 1) := by decide +kernel
theorem dX9_givenBy_1 : decode cX9_givenBy 1 = .ok (.istore_n 3, 1) := by decide +kernel
theorem dX9_givenBy_2 : decode cX9_givenBy 2 = .ok (.iconst 0, 1) := by decide +kernel
theorem dX9_givenBy_3 : decode cX9_givenBy 3 = .ok (.istore 4, 2) := by decide +kernel
theorem dX9_givenBy_5 : decode cX9_givenBy 5 = .ok (.iload 4, 2) := by decide +kernel
theorem dX9_givenBy_7 : decode cX9_givenBy 7 = .ok (.aload_n 0, 1) := by decide +kernel
theorem dX9_givenBy_8 : decode cX9_givenBy 8 = .ok (.getfield 223, 3) := by decide +kernel
theorem dX9_givenBy_11 : decode cX9_givenBy 11 = .ok (.if_icmp .ge 39, 3) := by decide +kernel
theorem dX9_givenBy_14 : decode cX9_givenBy 14 = .ok (.iload_n 3, 1) := by decide +kernel
theorem dX9_givenBy_15 : decode cX9_givenBy 15 = .ok (.iload_n 1, 1) := by decide +kernel
theorem dX9_givenBy_16 : decode cX9_givenBy 16 = .ok (.iload 4, 2) := by decide +kernel
theorem dX9_givenBy_18 : decode cX9_givenBy 18 = .ok (.invokestatic 317, 3) := by decide +kernel
theorem dX9_givenBy_21 : decode cX9_givenBy 21 = .ok (.ifCond .eq 20, 3) := by decide +kernel
theorem dX9_givenBy_24 : decode cX9_givenBy 24 = .ok (.iload_n 2, 1) := by decide +kernel
theorem dX9_givenBy_25 : decode cX9_givenBy 25 = .ok (.aload_n 0, 1) := by decide +kernel
theorem dX9_givenBy_26 : decode cX9_givenBy 26 = .ok (.aload_n 0, 1) := by decide +kernel
theorem dX9_givenBy_27 : decode cX9_givenBy 27 = .ok (.getfield 58, 3) := by decide +kernel
theorem dX9_givenBy_30 : decode cX9_givenBy 30 = .ok (.iload 4, 2) := by decide +kernel
theorem dX9_givenBy_32 : decode cX9_givenBy 32 = .ok (.invokevirtual 298, 3) := by decide +kernel
theorem dX9_givenBy_35 : decode cX9_givenBy 35 = .ok (.invokestatic 273, 3) := by decide +kernel
theorem dX9_givenBy_38 : decode cX9_givenBy 38 = .ok (.goto 4, 3) := by decide +kernel
theorem dX9_givenBy_41 : decode cX9_givenBy 41 = .ok (.iconst 0, 1) := by decide +kernel
theorem dX9_givenBy_42 : decode cX9_givenBy 42 = .ok (.iadd, 1) := by decide +kernel
theorem dX9_givenBy_43 : decode cX9_givenBy 43 = .ok (.istore_n 3, 1) := by decide +kernel
theorem dX9_givenBy_44 : decode cX9_givenBy 44 = .ok (.iinc 4 1, 3) := by decide +kernel
theorem dX9_givenBy_47 : decode cX9_givenBy 47 = .ok (.goto (-42), 3) := by decide +kernel
theorem dX9_givenBy_50 : decode cX9_givenBy 50 = .ok (.iload_n 3, 1) := by decide +kernel
theorem dX9_givenBy_51 : decode cX9_givenBy 51 = .ok (.ireturn, 1) := by decide +kernel
theorem dX9_share_0 : decode cX9_share 0 = .ok (.aload_n 0, 1) := by decide +kernel
theorem dX9_share_1 : decode cX9_share 1 = .ok (.iconst 0, 1) := by decide +kernel
theorem dX9_share_2 : decode cX9_share 2 = .ok (.putfield 128, 3) := by decide +kernel
theorem dX9_share_5 : decode cX9_share 5 = .ok (.aload_n 0, 1) := by decide +kernel
theorem dX9_share_6 : decode cX9_share 6 = .ok (.aload_n 0, 1) := by decide +kernel
theorem dX9_share_7 : decode cX9_share 7 = .ok (.iload_n 1, 1) := by decide +kernel
theorem dX9_share_8 : decode cX9_share 8 = .ok (.invokevirtual 377, 3) := by decide +kernel
theorem dX9_share_11 : decode cX9_share 11 = .ok (.ifCond .ne 7, 3) := by decide +kernel
theorem dX9_share_14 : decode cX9_share 14 = .ok (.iconst 1, 1) := by decide +kernel
theorem dX9_share_15 : decode cX9_share 15 = .ok (.goto 4, 3) := by decide +kernel
theorem dX9_share_18 : decode cX9_share 18 = .ok (.iconst 0, 1) := by decide +kernel
theorem dX9_share_19 : decode cX9_share 19 = .ok (.iconst 1, 1) := by decide +kernel
theorem dX9_share_20 : decode cX9_share 20 = .ok (.iconst 0, 1) := by decide +kernel
theorem dX9_share_21 : decode cX9_share 21 = .ok (.invokevirtual 207, 3) := by decide +kernel
theorem dX9_share_24 : decode cX9_share 24 = .ok (.ifCond .ne 40, 3) := by decide +kernel
theorem dX9_share_27 : decode cX9_share 27 = .ok (.aload_n 0, 1) := by decide +kernel
theorem dX9_share_28 : decode cX9_share 28 = .ok (.iload_n 2, 1) := by decide +kernel
theorem dX9_share_29 : decode cX9_share 29 = .ok (.iconst 0, 1) := by decide +kernel
theorem dX9_share_30 : decode cX9_share 30 = .ok (.aload_n 0, 1) := by decide +kernel
theorem dX9_share_31 : decode cX9_share 31 = .ok (.invokevirtual 403, 3) := by decide +kernel
theorem dX9_share_34 : decode cX9_share 34 = .ok (.invokestatic 162, 3) := by decide +kernel
theorem dX9_share_37 : decode cX9_share 37 = .ok (.ifCond .eq 14, 3) := by decide +kernel
theorem dX9_share_40 : decode cX9_share 40 = .ok (.iload_n 3, 1) := by decide +kernel
theorem dX9_share_41 : decode cX9_share 41 = .ok (.iconst 0, 1) := by decide +kernel
theorem dX9_share_42 : decode cX9_share 42 = .ok (.sipush 200, 3) := by decide +kernel
theorem dX9_share_45 : decode cX9_share 45 = .ok (.invokestatic 162, 3) := by decide +kernel
theorem dX9_share_48 : decode cX9_share 48 = .ok (.ifCond .ne 7, 3) := by decide +kernel
theorem dX9_share_51 : decode cX9_share 51 = .ok (.iconst 1, 1) := by decide +kernel
theorem dX9_share_52 : decode cX9_share 52 = .ok (.goto 4, 3) := by decide +kernel
theorem dX9_share_55 : decode cX9_share 55 = .ok (.iconst 0, 1) := by decide +kernel
theorem dX9_share_56 : decode cX9_share 56 = .ok (.iconst 2, 1) := by decide +kernel
theorem dX9_share_57 : decode cX9_share 57 = .ok (.iconst 1, 1) := by decide +kernel
theorem dX9_share_58 : decode cX9_share 58 = .ok (.invokevirtual 207, 3) := by decide +kernel
theorem dX9_share_61 : decode cX9_share 61 = .ok (.ifCond .eq 5, 3) := by decide +kernel
theorem dX9_share_64 : decode cX9_share 64 = .ok (.iconst 0, 1) := by decide +kernel
theorem dX9_share_65 : decode cX9_share 65 = .ok (.ireturn, 1) := by decide +kernel
theorem dX9_share_66 : decode cX9_share 66 = .ok (.iconst 0, 1) := by decide +kernel
theorem dX9_share_67 : decode cX9_share 67 = .ok (.istore 4, 2) := by decide +kernel
theorem dX9_share_69 : decode cX9_share 69 = .ok (.iload 4, 2) := by decide +kernel
theorem dX9_share_71 : decode cX9_share 71 = .ok (.bipush 8, 2) := by decide +kernel
theorem dX9_share_73 : decode cX9_share 73 = .ok (.if_icmp .ge 22, 3) := by decide +kernel
theorem dX9_share_76 : decode cX9_share 76 = .ok (.aload_n 0, 1) := by decide +kernel
theorem dX9_share_77 : decode cX9_share 77 = .ok (.iload_n 2, 1) := by decide +kernel
theorem dX9_share_78 : decode cX9_share 78 = .ok (.iload 4, 2) := by decide +kernel
theorem dX9_share_80 : decode cX9_share 80 = .ok (.iconst 1, 1) := by decide +kernel
theorem dX9_share_81 : decode cX9_share 81 = .ok (.iadd, 1) := by decide +kernel
theorem dX9_share_82 : decode cX9_share 82 = .ok (.invokevirtual 417, 3) := by decide +kernel
theorem dX9_share_85 : decode cX9_share 85 = .ok (.iload_n 3, 1) := by decide +kernel
theorem dX9_share_86 : decode cX9_share 86 = .ok (.if_icmp .gt 9, 3) := by decide +kernel
theorem dX9_share_89 : decode cX9_share 89 = .ok (.iinc 4 1, 3) := by decide +kernel
theorem dX9_share_92 : decode cX9_share 92 = .ok (.goto (-23), 3) := by decide +kernel
theorem dX9_share_95 : decode cX9_share 95 = .ok (.iload_n 2, 1) := by decide +kernel
theorem dX9_share_96 : decode cX9_share 96 = .ok (.iload_n 1, 1) := by decide +kernel
theorem dX9_share_97 : decode cX9_share 97 = .ok (.invokestatic 317, 3) := by decide +kernel
theorem dX9_share_100 : decode cX9_share 100 = .ok (.ifCond .eq 20, 3) := by decide +kernel
theorem dX9_share_103 : decode cX9_share 103 = .ok (.iload 4, 2) := by decide +kernel
theorem dX9_share_105 : decode cX9_share 105 = .ok (.aload_n 0, 1) := by decide +kernel
theorem dX9_share_106 : decode cX9_share 106 = .ok (.aload_n 0, 1) := by decide +kernel
theorem dX9_share_107 : decode cX9_share 107 = .ok (.getfield 58, 3) := by decide +kernel
theorem dX9_share_110 : decode cX9_share 110 = .ok (.iload_n 1, 1) := by decide +kernel
theorem dX9_share_111 : decode cX9_share 111 = .ok (.invokevirtual 298, 3) := by decide +kernel
theorem dX9_share_114 : decode cX9_share 114 = .ok (.invokestatic 273, 3) := by decide +kernel
theorem dX9_share_117 : decode cX9_share 117 = .ok (.goto 4, 3) := by decide +kernel
theorem dX9_share_120 : decode cX9_share 120 = .ok (.iconst 0, 1) := by decide +kernel
theorem dX9_share_121 : decode cX9_share 121 = .ok (.ireturn, 1) := by decide +kernel
theorem dX9_often_0 : decode cX9_often 0 = .ok (.aload_n 0, 1) := by decide +kernel
theorem dX9_often_1 : decode cX9_often 1 = .ok (.iconst 0, 1) := by decide +kernel
theorem dX9_often_2 : decode cX9_often 2 = .ok (.putfield 128, 3) := by decide +kernel
theorem dX9_often_5 : decode cX9_often 5 = .ok (.aload_n 0, 1) := by decide +kernel
theorem dX9_often_6 : decode cX9_often 6 = .ok (.iload_n 1, 1) := by decide +kernel
theorem dX9_often_7 : decode cX9_often 7 = .ok (.iconst 0, 1) := by decide +kernel
theorem dX9_often_8 : decode cX9_often 8 = .ok (.iconst 1, 1) := by decide +kernel
theorem dX9_often_9 : decode cX9_often 9 = .ok (.invokestatic 162, 3) := by decide +kernel
theorem dX9_often_12 : decode cX9_often 12 = .ok (.ifCond .ne 7, 3) := by decide +kernel
theorem dX9_often_15 : decode cX9_often 15 = .ok (.iconst 1, 1) := by decide +kernel
theorem dX9_often_16 : decode cX9_often 16 = .ok (.goto 4, 3) := by decide +kernel
theorem dX9_often_19 : decode cX9_often 19 = .ok (.iconst 0, 1) := by decide +kernel
theorem dX9_often_20 : decode cX9_often 20 = .ok (.iconst 1, 1) := by decide +kernel
theorem dX9_often_21 : decode cX9_often 21 = .ok (.iconst 1, 1) := by decide +kernel
theorem dX9_often_22 : decode cX9_often 22 = .ok (.invokevirtual 207, 3) := by decide +kernel
theorem dX9_often_25 : decode cX9_often 25 = .ok (.ifCond .eq 5, 3) := by decide +kernel
theorem dX9_often_28 : decode cX9_often 28 = .ok (.iconst 0, 1) := by decide +kernel
theorem dX9_often_29 : decode cX9_often 29 = .ok (.ireturn, 1) := by decide +kernel
theorem dX9_often_30 : decode cX9_often 30 = .ok (.iconst 0, 1) := by decide +kernel
theorem dX9_often_31 : decode cX9_often 31 = .ok (.istore_n 2, 1) := by decide +kernel
theorem dX9_often_32 : decode cX9_often 32 = .ok (.iload_n 2, 1) := by decide +kernel
theorem dX9_often_33 : decode cX9_often 33 = .ok (.bipush 16, 2) := by decide +kernel
theorem dX9_often_35 : decode cX9_often 35 = .ok (.if_icmp .ge 16, 3) := by decide +kernel
theorem dX9_often_38 : decode cX9_often 38 = .ok (.aload_n 0, 1) := by decide +kernel
theorem dX9_often_39 : decode cX9_often 39 = .ok (.getfield 113, 3) := by decide +kernel
theorem dX9_often_42 : decode cX9_often 42 = .ok (.iload_n 2, 1) := by decide +kernel
theorem dX9_often_43 : decode cX9_often 43 = .ok (.iconst 0, 1) := by decide +kernel
theorem dX9_often_44 : decode cX9_often 44 = .ok (.iastore, 1) := by decide +kernel
theorem dX9_often_45 : decode cX9_often 45 = .ok (.iinc 2 1, 3) := by decide +kernel
theorem dX9_often_48 : decode cX9_often 48 = .ok (.goto (-16), 3) := by decide +kernel
theorem dX9_often_51 : decode cX9_often 51 = .ok (.aload_n 0, 1) := by decide +kernel
theorem dX9_often_52 : decode cX9_often 52 = .ok (.invokevirtual 380, 3) := by decide +kernel
theorem dX9_often_55 : decode cX9_often 55 = .ok (.istore_n 2, 1) := by decide +kernel
theorem dX9_often_56 : decode cX9_often 56 = .ok (.iconst (-1), 1) := by decide +kernel
theorem dX9_often_57 : decode cX9_often 57 = .ok (.istore_n 3, 1) := by decide +kernel
theorem dX9_often_58 : decode cX9_often 58 = .ok (.iconst 0, 1) := by decide +kernel
theorem dX9_often_59 : decode cX9_often 59 = .ok (.istore 4, 2) := by decide +kernel
theorem dX9_often_61 : decode cX9_often 61 = .ok (.iload 4, 2) := by decide +kernel
theorem dX9_often_63 : decode cX9_often 63 = .ok (.iload_n 2, 1) := by decide +kernel
theorem dX9_often_64 : decode cX9_often 64 = .ok (.if_icmp .ge 33, 3) := by decide +kernel
theorem dX9_often_67 : decode cX9_often 67 = .ok (.aload_n 0, 1) := by decide +kernel
theorem dX9_often_68 : decode cX9_often 68 = .ok (.getfield 113, 3) := by decide +kernel
theorem dX9_often_71 : decode cX9_often 71 = .ok (.aload_n 0, 1) := by decide +kernel
theorem dX9_often_72 : decode cX9_often 72 = .ok (.getfield 70, 3) := by decide +kernel
theorem dX9_often_75 : decode cX9_often 75 = .ok (.iload 4, 2) := by decide +kernel
theorem dX9_often_77 : decode cX9_often 77 = .ok (.iaload, 1) := by decide +kernel
theorem dX9_often_78 : decode cX9_often 78 = .ok (.dup2, 1) := by decide +kernel
theorem dX9_often_79 : decode cX9_often 79 = .ok (.iaload, 1) := by decide +kernel
theorem dX9_often_80 : decode cX9_often 80 = .ok (.iconst 1, 1) := by decide +kernel
theorem dX9_often_81 : decode cX9_often 81 = .ok (.aload_n 0, 1) := by decide +kernel
theorem dX9_often_82 : decode cX9_often 82 = .ok (.getfield 73, 3) := by decide +kernel
theorem dX9_often_85 : decode cX9_often 85 = .ok (.iload 4, 2) := by decide +kernel
theorem dX9_often_87 : decode cX9_often 87 = .ok (.iaload, 1) := by decide +kernel
theorem dX9_often_88 : decode cX9_often 88 = .ok (.isub, 1) := by decide +kernel
theorem dX9_often_89 : decode cX9_often 89 = .ok (.iadd, 1) := by decide +kernel
theorem dX9_often_90 : decode cX9_often 90 = .ok (.iastore, 1) := by decide +kernel
theorem dX9_often_91 : decode cX9_often 91 = .ok (.iinc 4 1, 3) := by decide +kernel
theorem dX9_often_94 : decode cX9_often 94 = .ok (.goto (-33), 3) := by decide +kernel
theorem dX9_often_97 : decode cX9_often 97 = .ok (.iconst 0, 1) := by decide +kernel
theorem dX9_often_98 : decode cX9_often 98 = .ok (.istore 4, 2) := by decide +kernel
theorem dX9_often_100 : decode cX9_often 100 = .ok (.iload 4, 2) := by decide +kernel
theorem dX9_often_102 : decode cX9_often 102 = .ok (.bipush 16, 2) := by decide +kernel
theorem dX9_often_104 : decode cX9_often 104 = .ok (.if_icmp .ge 47, 3) := by decide +kernel
theorem dX9_often_107 : decode cX9_often 107 = .ok (.aload_n 0, 1) := by decide +kernel
theorem dX9_often_108 : decode cX9_often 108 = .ok (.getfield 113, 3) := by decide +kernel
theorem dX9_often_111 : decode cX9_often 111 = .ok (.iload 4, 2) := by decide +kernel
theorem dX9_often_113 : decode cX9_often 113 = .ok (.iaload, 1) := by decide +kernel
theorem dX9_often_114 : decode cX9_often 114 = .ok (.ifCond .le 29, 3) := by decide +kernel
theorem dX9_often_117 : decode cX9_often 117 = .ok (.iload_n 3, 1) := by decide +kernel
theorem dX9_often_118 : decode cX9_often 118 = .ok (.iconst (-1), 1) := by decide +kernel
theorem dX9_often_119 : decode cX9_often 119 = .ok (.if_icmp .eq 19, 3) := by decide +kernel
theorem dX9_often_122 : decode cX9_often 122 = .ok (.aload_n 0, 1) := by decide +kernel
