theorem dX0_doWords_0 : decode cX0_doWords 0 = .ok (.iload_n 1, 1) := by decide +kernel
theorem dX0_doWords_1 : decode cX0_doWords 1 = .ok (.tableswitch 155 0 7 #[47, 48, 55, 78, 95, 112, 118, 143], 47) := by decide +kernel
theorem dX0_doWords_48 : decode cX0_doWords 48 = .ok (.return_, 1) := by decide +kernel
theorem dX0_doWords_49 : decode cX0_doWords 49 = .ok (.aload_n 0, 1) := by decide +kernel
theorem dX0_doWords_50 : decode cX0_doWords 50 = .ok (.iload_n 2, 1) := by decide +kernel
theorem dX0_doWords_51 : decode cX0_doWords 51 = .ok (.iload_n 3, 1) := by decide +kernel
theorem dX0_doWords_52 : decode cX0_doWords 52 = .ok (.invokevirtual 132, 3) := by decide +kernel
theorem dX0_doWords_55 : decode cX0_doWords 55 = .ok (.return_, 1) := by decide +kernel
theorem dX0_doWords_56 : decode cX0_doWords 56 = .ok (.aload_n 0, 1) := by decide +kernel
theorem dX0_doWords_57 : decode cX0_doWords 57 = .ok (.getfield 15, 3) := by decide +kernel
theorem dX0_doWords_60 : decode cX0_doWords 60 = .ok (.iload_n 2, 1) := by decide +kernel
theorem dX0_doWords_61 : decode cX0_doWords 61 = .ok (.iconst 4, 1) := by decide +kernel
theorem dX0_doWords_62 : decode cX0_doWords 62 = .ok (.irem, 1) := by decide +kernel
theorem dX0_doWords_63 : decode cX0_doWords 63 = .ok (.iconst 0, 1) := by decide +kernel
theorem dX0_doWords_64 : decode cX0_doWords 64 = .ok (.aload_n 0, 1) := by decide +kernel
theorem dX0_doWords_65 : decode cX0_doWords 65 = .ok (.getfield 15, 3) := by decide +kernel
theorem dX0_doWords_68 : decode cX0_doWords 68 = .ok (.iload_n 2, 1) := by decide +kernel
theorem dX0_doWords_69 : decode cX0_doWords 69 = .ok (.iconst 4, 1) := by decide +kernel
theorem dX0_doWords_70 : decode cX0_doWords 70 = .ok (.irem, 1) := by decide +kernel
theorem dX0_doWords_71 : decode cX0_doWords 71 = .ok (.iaload, 1) := by decide +kernel
theorem dX0_doWords_72 : decode cX0_doWords 72 = .ok (.iload_n 3, 1) := by decide +kernel
theorem dX0_doWords_73 : decode cX0_doWords 73 = .ok (.isub, 1) := by decide +kernel
theorem dX0_doWords_74 : decode cX0_doWords 74 = .ok (.invokestatic 136, 3) := by decide +kernel
theorem dX0_doWords_77 : decode cX0_doWords 77 = .ok (.iastore, 1) := by decide +kernel
theorem dX0_doWords_78 : decode cX0_doWords 78 = .ok (.return_, 1) := by decide +kernel
theorem dX0_doWords_79 : decode cX0_doWords 79 = .ok (.aload_n 0, 1) := by decide +kernel
theorem dX0_doWords_80 : decode cX0_doWords 80 = .ok (.getfield 15, 3) := by decide +kernel
theorem dX0_doWords_83 : decode cX0_doWords 83 = .ok (.iload_n 2, 1) := by decide +kernel
theorem dX0_doWords_84 : decode cX0_doWords 84 = .ok (.iconst 4, 1) := by decide +kernel
theorem dX0_doWords_85 : decode cX0_doWords 85 = .ok (.irem, 1) := by decide +kernel
theorem dX0_doWords_86 : decode cX0_doWords 86 = .ok (.aload_n 0, 1) := by decide +kernel
theorem dX0_doWords_87 : decode cX0_doWords 87 = .ok (.getfield 15, 3) := by decide +kernel
theorem dX0_doWords_90 : decode cX0_doWords 90 = .ok (.iload_n 3, 1) := by decide +kernel
theorem dX0_doWords_91 : decode cX0_doWords 91 = .ok (.iconst 4, 1) := by decide +kernel
theorem dX0_doWords_92 : decode cX0_doWords 92 = .ok (.irem, 1) := by decide +kernel
theorem dX0_doWords_93 : decode cX0_doWords 93 = .ok (.iaload, 1) := by decide +kernel
theorem dX0_doWords_94 : decode cX0_doWords 94 = .ok (.iastore, 1) := by decide +kernel
theorem dX0_doWords_95 : decode cX0_doWords 95 = .ok (.return_, 1) := by decide +kernel
theorem dX0_doWords_96 : decode cX0_doWords 96 = .ok (.aload_n 0, 1) := by decide +kernel
theorem dX0_doWords_97 : decode cX0_doWords 97 = .ok (.getfield 15, 3) := by decide +kernel
theorem dX0_doWords_100 : decode cX0_doWords 100 = .ok (.iload_n 2, 1) := by decide +kernel
theorem dX0_doWords_101 : decode cX0_doWords 101 = .ok (.iconst 4, 1) := by decide +kernel
theorem dX0_doWords_102 : decode cX0_doWords 102 = .ok (.irem, 1) := by decide +kernel
theorem dX0_doWords_103 : decode cX0_doWords 103 = .ok (.iaload, 1) := by decide +kernel
theorem dX0_doWords_104 : decode cX0_doWords 104 = .ok (.ifCond .ne 8, 3) := by decide +kernel
theorem dX0_doWords_107 : decode cX0_doWords 107 = .ok (.aload_n 0, 1) := by decide +kernel
theorem dX0_doWords_108 : decode cX0_doWords 108 = .ok (.iload_n 3, 1) := by decide +kernel
theorem dX0_doWords_109 : decode cX0_doWords 109 = .ok (.invokevirtual 139, 3) := by decide +kernel
theorem dX0_doWords_112 : decode cX0_doWords 112 = .ok (.return_, 1) := by decide +kernel
theorem dX0_doWords_113 : decode cX0_doWords 113 = .ok (.aload_n 0, 1) := by decide +kernel
theorem dX0_doWords_114 : decode cX0_doWords 114 = .ok (.iload_n 2, 1) := by decide +kernel
theorem dX0_doWords_115 : decode cX0_doWords 115 = .ok (.invokevirtual 139, 3) := by decide +kernel
theorem dX0_doWords_118 : decode cX0_doWords 118 = .ok (.return_, 1) := by decide +kernel
theorem dX0_doWords_119 : decode cX0_doWords 119 = .ok (.aload_n 0, 1) := by decide +kernel
theorem dX0_doWords_120 : decode cX0_doWords 120 = .ok (.getfield 24, 3) := by decide +kernel
theorem dX0_doWords_123 : decode cX0_doWords 123 = .ok (.iload_n 2, 1) := by decide +kernel
theorem dX0_doWords_124 : decode cX0_doWords 124 = .ok (.iload_n 3, 1) := by decide +kernel
theorem dX0_doWords_125 : decode cX0_doWords 125 = .ok (.invokevirtual 53, 3) := by decide +kernel
theorem dX0_doWords_128 : decode cX0_doWords 128 = .ok (.ifCond .eq 15, 3) := by decide +kernel
theorem dX0_doWords_131 : decode cX0_doWords 131 = .ok (.aload_n 0, 1) := by decide +kernel
theorem dX0_doWords_132 : decode cX0_doWords 132 = .ok (.getfield 9, 3) := by decide +kernel
theorem dX0_doWords_135 : decode cX0_doWords 135 = .ok (.iload_n 2, 1) := by decide +kernel
theorem dX0_doWords_136 : decode cX0_doWords 136 = .ok (.dup2, 1) := by decide +kernel
theorem dX0_doWords_137 : decode cX0_doWords 137 = .ok (.iaload, 1) := by decide +kernel
theorem dX0_doWords_138 : decode cX0_doWords 138 = .ok (.iconst 1, 1) := by decide +kernel
theorem dX0_doWords_139 : decode cX0_doWords 139 = .ok (.iload_n 3, 1) := by decide +kernel
theorem dX0_doWords_140 : decode cX0_doWords 140 = .ok (.ishl, 1) := by decide +kernel
theorem dX0_doWords_141 : decode cX0_doWords 141 = .ok (.ixor, 1) := by decide +kernel
theorem dX0_doWords_142 : decode cX0_doWords 142 = .ok (.iastore, 1) := by decide +kernel
theorem dX0_doWords_143 : decode cX0_doWords 143 = .ok (.return_, 1) := by decide +kernel
theorem dX0_doWords_144 : decode cX0_doWords 144 = .ok (.aload_n 0, 1) := by decide +kernel
theorem dX0_doWords_145 : decode cX0_doWords 145 = .ok (.aload_n 0, 1) := by decide +kernel
theorem dX0_doWords_146 : decode cX0_doWords 146 = .ok (.getfield 24, 3) := by decide +kernel
theorem dX0_doWords_149 : decode cX0_doWords 149 = .ok (.getfield 73, 3) := by decide +kernel
theorem dX0_doWords_152 : decode cX0_doWords 152 = .ok (.putfield 41, 3) := by decide +kernel
theorem dX0_doWords_155 : decode cX0_doWords 155 = .ok (.return_, 1) := by decide +kernel
theorem dX0_doWords_156 : decode cX0_doWords 156 = .ok (.aload_n 0, 1) := by decide +kernel
theorem dX0_doWords_157 : decode cX0_doWords 157 = .ok (.iload_n 1, 1) := by decide +kernel
theorem dX0_doWords_158 : decode cX0_doWords 158 = .ok (.iconst 1, 1) := by decide +kernel
theorem dX0_doWords_159 : decode cX0_doWords 159 = .ok (.invokevirtual 132, 3) := by decide +kernel
theorem dX0_doWords_162 : decode cX0_doWords 162 = .ok (.return_, 1) := by decide +kernel
theorem dX0_doDeed_0 : decode cX0_doDeed 0 = .ok (.aload_n 0, 1) := by decide +kernel
theorem dX0_doDeed_1 : decode cX0_doDeed 1 = .ok (.getfield 41, 3) := by decide +kernel
theorem dX0_doDeed_4 : decode cX0_doDeed 4 = .ok (.aload_n 0, 1) := by decide +kernel
theorem dX0_doDeed_5 : decode cX0_doDeed 5 = .ok (.getfield 24, 3) := by decide +kernel
theorem dX0_doDeed_8 : decode cX0_doDeed 8 = .ok (.getfield 73, 3) := by decide +kernel
theorem dX0_doDeed_11 : decode cX0_doDeed 11 = .ok (.if_icmp .ge 27, 3) := by decide +kernel
theorem dX0_doDeed_14 : decode cX0_doDeed 14 = .ok (.aload_n 0, 1) := by decide +kernel
theorem dX0_doDeed_15 : decode cX0_doDeed 15 = .ok (.aload_n 0, 1) := by decide +kernel
theorem dX0_doDeed_16 : decode cX0_doDeed 16 = .ok (.getfield 41, 3) := by decide +kernel
theorem dX0_doDeed_19 : decode cX0_doDeed 19 = .ok (.invokevirtual 76, 3) := by decide +kernel
theorem dX0_doDeed_22 : decode cX0_doDeed 22 = .ok (.ifCond .ne 16, 3) := by decide +kernel
theorem dX0_doDeed_25 : decode cX0_doDeed 25 = .ok (.aload_n 0, 1) := by decide +kernel
theorem dX0_doDeed_26 : decode cX0_doDeed 26 = .ok (.dup, 1) := by decide +kernel
theorem dX0_doDeed_27 : decode cX0_doDeed 27 = .ok (.getfield 41, 3) := by decide +kernel
theorem dX0_doDeed_30 : decode cX0_doDeed 30 = .ok (.iconst 1, 1) := by decide +kernel
theorem dX0_doDeed_31 : decode cX0_doDeed 31 = .ok (.iadd, 1) := by decide +kernel
theorem dX0_doDeed_32 : decode cX0_doDeed 32 = .ok (.putfield 41, 3) := by decide +kernel
theorem dX0_doDeed_35 : decode cX0_doDeed 35 = .ok (.goto (-35), 3) := by decide +kernel
theorem dX0_doDeed_38 : decode cX0_doDeed 38 = .ok (.aload_n 0, 1) := by decide +kernel
theorem dX0_doDeed_39 : decode cX0_doDeed 39 = .ok (.getfield 41, 3) := by decide +kernel
theorem dX0_doDeed_42 : decode cX0_doDeed 42 = .ok (.aload_n 0, 1) := by decide +kernel
theorem dX0_doDeed_43 : decode cX0_doDeed 43 = .ok (.getfield 24, 3) := by decide +kernel
theorem dX0_doDeed_46 : decode cX0_doDeed 46 = .ok (.getfield 73, 3) := by decide +kernel
theorem dX0_doDeed_49 : decode cX0_doDeed 49 = .ok (.if_icmp .lt 5, 3) := by decide +kernel
theorem dX0_doDeed_52 : decode cX0_doDeed 52 = .ok (.iconst 0, 1) := by decide +kernel
theorem dX0_doDeed_53 : decode cX0_doDeed 53 = .ok (.ireturn, 1) := by decide +kernel
theorem dX0_doDeed_54 : decode cX0_doDeed 54 = .ok (.aload_n 0, 1) := by decide +kernel
theorem dX0_doDeed_55 : decode cX0_doDeed 55 = .ok (.getfield 41, 3) := by decide +kernel
theorem dX0_doDeed_58 : decode cX0_doDeed 58 = .ok (.istore_n 1, 1) := by decide +kernel
theorem dX0_doDeed_59 : decode cX0_doDeed 59 = .ok (.aload_n 0, 1) := by decide +kernel
theorem dX0_doDeed_60 : decode cX0_doDeed 60 = .ok (.dup, 1) := by decide +kernel
theorem dX0_doDeed_61 : decode cX0_doDeed 61 = .ok (.getfield 41, 3) := by decide +kernel
theorem dX0_doDeed_64 : decode cX0_doDeed 64 = .ok (.iconst 1, 1) := by decide +kernel
theorem dX0_doDeed_65 : decode cX0_doDeed 65 = .ok (.iadd, 1) := by decide +kernel
theorem dX0_doDeed_66 : decode cX0_doDeed 66 = .ok (.putfield 41, 3) := by decide +kernel
theorem dX0_doDeed_69 : decode cX0_doDeed 69 = .ok (.aload_n 0, 1) := by decide +kernel
theorem dX0_doDeed_70 : decode cX0_doDeed 70 = .ok (.dup, 1) := by decide +kernel
theorem dX0_doDeed_71 : decode cX0_doDeed 71 = .ok (.getfield 50, 3) := by decide +kernel
theorem dX0_doDeed_74 : decode cX0_doDeed 74 = .ok (.iconst 1, 1) := by decide +kernel
theorem dX0_doDeed_75 : decode cX0_doDeed 75 = .ok (.iadd, 1) := by decide +kernel
theorem dX0_doDeed_76 : decode cX0_doDeed 76 = .ok (.putfield 50, 3) := by decide +kernel
theorem dX0_doDeed_79 : decode cX0_doDeed 79 = .ok (.aload_n 0, 1) := by decide +kernel
theorem dX0_doDeed_80 : decode cX0_doDeed 80 = .ok (.iload_n 1, 1) := by decide +kernel
theorem dX0_doDeed_81 : decode cX0_doDeed 81 = .ok (.invokevirtual 76, 3) := by decide +kernel
theorem dX0_doDeed_84 : decode cX0_doDeed 84 = .ok (.istore_n 2, 1) := by decide +kernel
theorem dX0_doDeed_85 : decode cX0_doDeed 85 = .ok (.iload_n 2, 1) := by decide +kernel
theorem dX0_doDeed_86 : decode cX0_doDeed 86 = .ok (.iload_n 2, 1) := by decide +kernel
theorem dX0_doDeed_87 : decode cX0_doDeed 87 = .ok (.iconst 1, 1) := by decide +kernel
theorem dX0_doDeed_88 : decode cX0_doDeed 88 = .ok (.isub, 1) := by decide +kernel
theorem dX0_doDeed_89 : decode cX0_doDeed 89 = .ok (.iand, 1) := by decide +kernel
theorem dX0_doDeed_90 : decode cX0_doDeed 90 = .ok (.istore_n 3, 1) := by decide +kernel
theorem dX0_doDeed_91 : decode cX0_doDeed 91 = .ok (.iload_n 3, 1) := by decide +kernel
theorem dX0_doDeed_92 : decode cX0_doDeed 92 = .ok (.iload_n 3, 1) := by decide +kernel
theorem dX0_doDeed_93 : decode cX0_doDeed 93 = .ok (.iconst 1, 1) := by decide +kernel
theorem dX0_doDeed_94 : decode cX0_doDeed 94 = .ok (.isub, 1) := by decide +kernel
theorem dX0_doDeed_95 : decode cX0_doDeed 95 = .ok (.iand, 1) := by decide +kernel
theorem dX0_doDeed_96 : decode cX0_doDeed 96 = .ok (.istore 4, 2) := by decide +kernel
theorem dX0_doDeed_98 : decode cX0_doDeed 98 = .ok (.aload_n 0, 1) := by decide +kernel
theorem dX0_doDeed_99 : decode cX0_doDeed 99 = .ok (.aload_n 0, 1) := by decide +kernel
theorem dX0_doDeed_100 : decode cX0_doDeed 100 = .ok (.iload_n 1, 1) := by decide +kernel
theorem dX0_doDeed_101 : decode cX0_doDeed 101 = .ok (.iload_n 2, 1) := by decide +kernel
theorem dX0_doDeed_102 : decode cX0_doDeed 102 = .ok (.invokevirtual 79, 3) := by decide +kernel
theorem dX0_doDeed_105 : decode cX0_doDeed 105 = .ok (.aload_n 0, 1) := by decide +kernel
theorem dX0_doDeed_106 : decode cX0_doDeed 106 = .ok (.iload_n 1, 1) := by decide +kernel
theorem dX0_doDeed_107 : decode cX0_doDeed 107 = .ok (.iload_n 3, 1) := by decide +kernel
theorem dX0_doDeed_108 : decode cX0_doDeed 108 = .ok (.invokevirtual 79, 3) := by decide +kernel
theorem dX0_doDeed_111 : decode cX0_doDeed 111 = .ok (.aload_n 0, 1) := by decide +kernel
theorem dX0_doDeed_112 : decode cX0_doDeed 112 = .ok (.iload_n 1, 1) := by decide +kernel
theorem dX0_doDeed_113 : decode cX0_doDeed 113 = .ok (.iload 4, 2) := by decide +kernel
theorem dX0_doDeed_115 : decode cX0_doDeed 115 = .ok (.invokevirtual 79, 3) := by decide +kernel
theorem dX0_doDeed_118 : decode cX0_doDeed 118 = .ok (.invokevirtual 128, 3) := by decide +kernel
theorem dX0_doDeed_121 : decode cX0_doDeed 121 = .ok (.iconst 1, 1) := by decide +kernel
theorem dX0_doDeed_122 : decode cX0_doDeed 122 = .ok (.ireturn, 1) := by decide +kernel
theorem dX0_doDeeds_0 : decode cX0_doDeeds 0 = .ok (.iconst 0, 1) := by decide +kernel
theorem dX0_doDeeds_1 : decode cX0_doDeeds 1 = .ok (.istore_n 2, 1) := by decide +kernel
theorem dX0_doDeeds_2 : decode cX0_doDeeds 2 = .ok (.iload_n 2, 1) := by decide +kernel
theorem dX0_doDeeds_3 : decode cX0_doDeeds 3 = .ok (.iload_n 1, 1) := by decide +kernel
theorem dX0_doDeeds_4 : decode cX0_doDeeds 4 = .ok (.if_icmp .ge 17, 3) := by decide +kernel
theorem dX0_doDeeds_7 : decode cX0_doDeeds 7 = .ok (.aload_n 0, 1) := by decide +kernel
theorem dX0_doDeeds_8 : decode cX0_doDeeds 8 = .ok (.invokevirtual 124, 3) := by decide +kernel
theorem dX0_doDeeds_11 : decode cX0_doDeeds 11 = .ok (.ifCond .ne 4, 3) := by decide +kernel
theorem dX0_doDeeds_14 : decode cX0_doDeeds 14 = .ok (.return_, 1) := by decide +kernel
theorem dX0_doDeeds_15 : decode cX0_doDeeds 15 = .ok (.iinc 2 1, 3) := by decide +kernel
theorem dX0_doDeeds_18 : decode cX0_doDeeds 18 = .ok (.goto (-16), 3) := by decide +kernel
theorem dX0_doDeeds_21 : decode cX0_doDeeds 21 = .ok (.return_, 1) := by decide +kernel
theorem dX0_runOn_0 : decode cX0_runOn 0 = .ok (.aload_n 0, 1) := by decide +kernel
theorem dX0_runOn_1 : decode cX0_runOn 1 = .ok (.getfield 41, 3) := by decide +kernel
theorem dX0_runOn_4 : decode cX0_runOn 4 = .ok (.aload_n 0, 1) := by decide +kernel
theorem dX0_runOn_5 : decode cX0_runOn 5 = .ok (.getfield 24, 3) := by decide +kernel
theorem dX0_runOn_8 : decode cX0_runOn 8 = .ok (.getfield 73, 3) := by decide +kernel
theorem dX0_runOn_11 : decode cX0_runOn 11 = .ok (.if_icmp .lt 5, 3) := by decide +kernel
theorem dX0_runOn_14 : decode cX0_runOn 14 = .ok (.iconst 0, 1) := by decide +kernel
theorem dX0_runOn_15 : decode cX0_runOn 15 = .ok (.ireturn, 1) := by decide +kernel
theorem dX0_runOn_16 : decode cX0_runOn 16 = .ok (.aload_n 0, 1) := by decide +kernel
theorem dX0_runOn_17 : decode cX0_runOn 17 = .ok (.iload_n 1, 1) := by decide +kernel
theorem dX0_runOn_18 : decode cX0_runOn 18 = .ok (.invokevirtual 115, 3) := by decide +kernel
theorem dX0_runOn_21 : decode cX0_runOn 21 = .ok (.iconst 1, 1) := by decide +kernel
theorem dX0_runOn_22 : decode cX0_runOn 22 = .ok (.ireturn, 1) := by decide +kernel
theorem dX0_beginAgain_0 : decode cX0_beginAgain 0 = .ok (.aload_n 0, 1) := by decide +kernel
theorem dX0_beginAgain_1 : decode cX0_beginAgain 1 = .ok (.getfield 41, 3) := by decide +kernel
theorem dX0_beginAgain_4 : decode cX0_beginAgain 4 = .ok (.ifCond .eq 13, 3) := by decide +kernel
theorem dX0_beginAgain_7 : decode cX0_beginAgain 7 = .ok (.aload_n 0, 1) := by decide +kernel
theorem dX0_beginAgain_8 : decode cX0_beginAgain 8 = .ok (.getfield 24, 3) := by decide +kernel
theorem dX0_beginAgain_11 : decode cX0_beginAgain 11 = .ok (.getfield 73, 3) := by decide +kernel
theorem dX0_beginAgain_14 : decode cX0_beginAgain 14 = .ok (.ifCond .ne 5, 3) := by decide +kernel
theorem dX0_beginAgain_17 : decode cX0_beginAgain 17 = .ok (.iconst 0, 1) := by decide +kernel
theorem dX0_beginAgain_18 : decode cX0_beginAgain 18 = .ok (.ireturn, 1) := by decide +kernel
theorem dX0_beginAgain_19 : decode cX0_beginAgain 19 = .ok (.aload_n 0, 1) := by decide +kernel
theorem dX0_beginAgain_20 : decode cX0_beginAgain 20 = .ok (.iconst 0, 1) := by decide +kernel
theorem dX0_beginAgain_21 : decode cX0_beginAgain 21 = .ok (.putfield 41, 3) := by decide +kernel
theorem dX0_beginAgain_24 : decode cX0_beginAgain 24 = .ok (.iconst 1, 1) := by decide +kernel
theorem dX0_beginAgain_25 : decode cX0_beginAgain 25 = .ok (.ireturn, 1) := by decide +kernel
theorem dX0_fillUp_0 : decode cX0_fillUp 0 = .ok (.aload_n 0, 1) := by decide +kernel
theorem dX0_fillUp_1 : decode cX0_fillUp 1 = .ok (.getfield 20, 3) := by decide +kernel
theorem dX0_fillUp_4 : decode cX0_fillUp 4 = .ok (.sipush 200, 3) := by decide +kernel
theorem dX0_fillUp_7 : decode cX0_fillUp 7 = .ok (.if_icmp .lt 5, 3) := by decide +kernel
theorem dX0_fillUp_10 : decode cX0_fillUp 10 = .ok (.iconst 0, 1) := by decide +kernel
theorem dX0_fillUp_11 : decode cX0_fillUp 11 = .ok (.ireturn, 1) := by decide +kernel
theorem dX0_fillUp_12 : decode cX0_fillUp 12 = .ok (.aload_n 0, 1) := by decide +kernel
theorem dX0_fillUp_13 : decode cX0_fillUp 13 = .ok (.sipush 200, 3) := by decide +kernel
theorem dX0_fillUp_16 : decode cX0_fillUp 16 = .ok (.aload_n 0, 1) := by decide +kernel
theorem dX0_fillUp_17 : decode cX0_fillUp 17 = .ok (.getfield 20, 3) := by decide +kernel
theorem dX0_fillUp_20 : decode cX0_fillUp 20 = .ok (.iload_n 1, 1) := by decide +kernel
theorem dX0_fillUp_21 : decode cX0_fillUp 21 = .ok (.iadd, 1) := by decide +kernel
theorem dX0_fillUp_22 : decode cX0_fillUp 22 = .ok (.invokestatic 119, 3) := by decide +kernel
theorem dX0_fillUp_25 : decode cX0_fillUp 25 = .ok (.putfield 20, 3) := by decide +kernel
theorem dX0_fillUp_28 : decode cX0_fillUp 28 = .ok (.iconst 1, 1) := by decide +kernel
theorem dX0_fillUp_29 : decode cX0_fillUp 29 = .ok (.ireturn, 1) := by decide +kernel
theorem dX0_wipeAll_0 : decode cX0_wipeAll 0 = .ok (.iconst 0, 1) := by decide +kernel
theorem dX0_wipeAll_1 : decode cX0_wipeAll 1 = .ok (.istore_n 1, 1) := by decide +kernel
theorem dX0_wipeAll_2 : decode cX0_wipeAll 2 = .ok (.iconst 0, 1) := by decide +kernel
theorem dX0_wipeAll_3 : decode cX0_wipeAll 3 = .ok (.istore_n 2, 1) := by decide +kernel
theorem dX0_wipeAll_4 : decode cX0_wipeAll 4 = .ok (.iload_n 2, 1) := by decide +kernel
theorem dX0_wipeAll_5 : decode cX0_wipeAll 5 = .ok (.bipush 6, 2) := by decide +kernel
theorem dX0_wipeAll_7 : decode cX0_wipeAll 7 = .ok (.if_icmp .ge 33, 3) := by decide +kernel
theorem dX0_wipeAll_10 : decode cX0_wipeAll 10 = .ok (.iload_n 1, 1) := by decide +kernel
theorem dX0_wipeAll_11 : decode cX0_wipeAll 11 = .ok (.aload_n 0, 1) := by decide +kernel
theorem dX0_wipeAll_12 : decode cX0_wipeAll 12 = .ok (.getfield 9, 3) := by decide +kernel
theorem dX0_wipeAll_15 : decode cX0_wipeAll 15 = .ok (.iload_n 2, 1) := by decide +kernel
theorem dX0_wipeAll_16 : decode cX0_wipeAll 16 = .ok (.iaload, 1) := by decide +kernel
theorem dX0_wipeAll_17 : decode cX0_wipeAll 17 = .ok (.ifCond .eq 7, 3) := by decide +kernel
theorem dX0_wipeAll_20 : decode cX0_wipeAll 20 = .ok (.iconst 1, 1) := by decide +kernel
theorem dX0_wipeAll_21 : decode cX0_wipeAll 21 = .ok (.goto 4, 3) := by decide +kernel
theorem dX0_wipeAll_24 : decode cX0_wipeAll 24 = .ok (.iconst 0, 1) := by decide +kernel
theorem dX0_wipeAll_25 : decode cX0_wipeAll 25 = .ok (.ior, 1) := by decide +kernel
theorem dX0_wipeAll_26 : decode cX0_wipeAll 26 = .ok (.istore_n 1, 1) := by decide +kernel
theorem dX0_wipeAll_27 : decode cX0_wipeAll 27 = .ok (.aload_n 0, 1) := by decide +kernel
theorem dX0_wipeAll_28 : decode cX0_wipeAll 28 = .ok (.getfield 9, 3) := by decide +kernel
theorem dX0_wipeAll_31 : decode cX0_wipeAll 31 = .ok (.iload_n 2, 1) := by decide +kernel
theorem dX0_wipeAll_32 : decode cX0_wipeAll 32 = .ok (.iconst 0, 1) := by decide +kernel
theorem dX0_wipeAll_33 : decode cX0_wipeAll 33 = .ok (.iastore, 1) := by decide +kernel
theorem dX0_wipeAll_34 : decode cX0_wipeAll 34 = .ok (.iinc 2 1, 3) := by decide +kernel
theorem dX0_wipeAll_37 : decode cX0_wipeAll 37 = .ok (.goto (-33), 3) := by decide +kernel
theorem dX0_wipeAll_40 : decode cX0_wipeAll 40 = .ok (.iload_n 1, 1) := by decide +kernel
theorem dX0_wipeAll_41 : decode cX0_wipeAll 41 = .ok (.ireturn, 1) := by decide +kernel
theorem dX0_setCell_0 : decode cX0_setCell 0 = .ok (.iload_n 1, 1) := by decide +kernel
theorem dX0_setCell_1 : decode cX0_setCell 1 = .ok (.ifCond .lt 18, 3) := by decide +kernel
theorem dX0_setCell_4 : decode cX0_setCell 4 = .ok (.iload_n 1, 1) := by decide +kernel
theorem dX0_setCell_5 : decode cX0_setCell 5 = .ok (.iconst 4, 1) := by decide +kernel
theorem dX0_setCell_6 : decode cX0_setCell 6 = .ok (.if_icmp .ge 13, 3) := by decide +kernel
theorem dX0_setCell_9 : decode cX0_setCell 9 = .ok (.aload_n 0, 1) := by decide +kernel
theorem dX0_setCell_10 : decode cX0_setCell 10 = .ok (.getfield 15, 3) := by decide +kernel
theorem dX0_setCell_13 : decode cX0_setCell 13 = .ok (.iload_n 1, 1) := by decide +kernel
theorem dX0_setCell_14 : decode cX0_setCell 14 = .ok (.iaload, 1) := by decide +kernel
theorem dX0_setCell_15 : decode cX0_setCell 15 = .ok (.iload_n 2, 1) := by decide +kernel
theorem dX0_setCell_16 : decode cX0_setCell 16 = .ok (.if_icmp .ne 5, 3) := by decide +kernel
theorem dX0_setCell_19 : decode cX0_setCell 19 = .ok (.iconst 0, 1) := by decide +kernel
theorem dX0_setCell_20 : decode cX0_setCell 20 = .ok (.ireturn, 1) := by decide +kernel
theorem dX0_setCell_21 : decode cX0_setCell 21 = .ok (.aload_n 0, 1) := by decide +kernel
theorem dX0_setCell_22 : decode cX0_setCell 22 = .ok (.getfield 15, 3) := by decide +kernel
theorem dX0_setCell_25 : decode cX0_setCell 25 = .ok (.iload_n 1, 1) := by decide +kernel
theorem dX0_setCell_26 : decode cX0_setCell 26 = .ok (.iload_n 2, 1) := by decide +kernel
theorem dX0_setCell_27 : decode cX0_setCell 27 = .ok (.iastore, 1) := by decide +kernel
theorem dX0_setCell_28 : decode cX0_setCell 28 = .ok (.iconst 1, 1) := by decide +kernel
theorem dX0_setCell_29 : decode cX0_setCell 29 = .ok (.ireturn, 1) := by decide +kernel
theorem dX0_drawnBy_0 : decode cX0_drawnBy 0 = .ok (.aload_n 0, 1) := by decide +kernel
theorem dX0_drawnBy_1 : decode cX0_drawnBy 1 = .ok (.aload_n 0, 1) := by decide +kernel
theorem dX0_drawnBy_2 : decode cX0_drawnBy 2 = .ok (.getfield 142, 3) := by decide +kernel
theorem dX0_drawnBy_5 : decode cX0_drawnBy 5 = .ok (.ldc 158, 2) := by decide +kernel
theorem dX0_drawnBy_7 : decode cX0_drawnBy 7 = .ok (.imul, 1) := by decide +kernel
theorem dX0_drawnBy_8 : decode cX0_drawnBy 8 = .ok (.sipush 12345, 3) := by decide +kernel
theorem dX0_drawnBy_11 : decode cX0_drawnBy 11 = .ok (.iadd, 1) := by decide +kernel
theorem dX0_drawnBy_12 : decode cX0_drawnBy 12 = .ok (.putfield 142, 3) := by decide +kernel
theorem dX0_drawnBy_15 : decode cX0_drawnBy 15 = .ok (.iload_n 1, 1) := by decide +kernel
theorem dX0_drawnBy_16 : decode cX0_drawnBy 16 = .ok (.ifCond .le 19, 3) := by decide +kernel
theorem dX0_drawnBy_19 : decode cX0_drawnBy 19 = .ok (.aload_n 0, 1) := by decide +kernel
theorem dX0_drawnBy_20 : decode cX0_drawnBy 20 = .ok (.getfield 142, 3) := by decide +kernel
theorem dX0_drawnBy_23 : decode cX0_drawnBy 23 = .ok (.bipush 16, 2) := by decide +kernel
theorem dX0_drawnBy_25 : decode cX0_drawnBy 25 = .ok (.iushr, 1) := by decide +kernel
theorem dX0_drawnBy_26 : decode cX0_drawnBy 26 = .ok (.sipush 32767, 3) := by decide +kernel
theorem dX0_drawnBy_29 : decode cX0_drawnBy 29 = .ok (.iand, 1) := by decide +kernel
theorem dX0_drawnBy_30 : decode cX0_drawnBy 30 = .ok (.iload_n 1, 1) := by decide +kernel
theorem dX0_drawnBy_31 : decode cX0_drawnBy 31 = .ok (.irem, 1) := by decide +kernel
theorem dX0_drawnBy_32 : decode cX0_drawnBy 32 = .ok (.goto 4, 3) := by decide +kernel
theorem dX0_drawnBy_35 : decode cX0_drawnBy 35 = .ok (.iconst 0, 1) := by decide +kernel
theorem dX0_drawnBy_36 : decode cX0_drawnBy 36 = .ok (.ireturn, 1) := by decide +kernel
theorem dX0_playHand_0 : decode cX0_playHand 0 = .ok (.aload_n 0, 1) := by decide +kernel
theorem dX0_playHand_1 : decode cX0_playHand 1 = .ok (.iload_n 1, 1) := by decide +kernel
theorem dX0_playHand_2 : decode cX0_playHand 2 = .ok (.putfield 142, 3) := by decide +kernel
theorem dX0_playHand_5 : decode cX0_playHand 5 = .ok (.iconst 0, 1) := by decide +kernel
theorem dX0_playHand_6 : decode cX0_playHand 6 = .ok (.istore 4, 2) := by decide +kernel
theorem dX0_playHand_8 : decode cX0_playHand 8 = .ok (.iload 4, 2) := by decide +kernel
theorem dX0_playHand_10 : decode cX0_playHand 10 = .ok (.iload_n 2, 1) := by decide +kernel
theorem dX0_playHand_11 : decode cX0_playHand 11 = .ok (.if_icmp .ge 108, 3) := by decide +kernel
theorem dX0_playHand_14 : decode cX0_playHand 14 = .ok (.aload_n 0, 1) := by decide +kernel
theorem dX0_playHand_15 : decode cX0_playHand 15 = .ok (.getfield 24, 3) := by decide +kernel
theorem dX0_playHand_18 : decode cX0_playHand 18 = .ok (.getfield 73, 3) := by decide +kernel
theorem dX0_playHand_21 : decode cX0_playHand 21 = .ok (.ifCond .le 98, 3) := by decide +kernel
theorem dX0_playHand_24 : decode cX0_playHand 24 = .ok (.aload_n 0, 1) := by decide +kernel
theorem dX0_playHand_25 : decode cX0_playHand 25 = .ok (.aload_n 0, 1) := by decide +kernel
theorem dX0_playHand_26 : decode cX0_playHand 26 = .ok (.getfield 24, 3) := by decide +kernel
theorem dX0_playHand_29 : decode cX0_playHand 29 = .ok (.getfield 73, 3) := by decide +kernel
theorem dX0_playHand_32 : decode cX0_playHand 32 = .ok (.invokevirtual 145, 3) := by decide +kernel
theorem dX0_playHand_35 : decode cX0_playHand 35 = .ok (.istore 5, 2) := by decide +kernel
theorem dX0_playHand_37 : decode cX0_playHand 37 = .ok (.aload_n 0, 1) := by decide +kernel
theorem dX0_playHand_38 : decode cX0_playHand 38 = .ok (.aload_n 0, 1) := by decide +kernel
theorem dX0_playHand_39 : decode cX0_playHand 39 = .ok (.getfield 24, 3) := by decide +kernel
theorem dX0_playHand_42 : decode cX0_playHand 42 = .ok (.getfield 61, 3) := by decide +kernel
theorem dX0_playHand_45 : decode cX0_playHand 45 = .ok (.iload 5, 2) := by decide +kernel
theorem dX0_playHand_47 : decode cX0_playHand 47 = .ok (.iaload, 1) := by decide +kernel
theorem dX0_playHand_48 : decode cX0_playHand 48 = .ok (.invokevirtual 145, 3) := by decide +kernel
theorem dX0_playHand_51 : decode cX0_playHand 51 = .ok (.istore 6, 2) := by decide +kernel
theorem dX0_playHand_53 : decode cX0_playHand 53 = .ok (.aload_n 0, 1) := by decide +kernel
theorem dX0_playHand_54 : decode cX0_playHand 54 = .ok (.aload_n 0, 1) := by decide +kernel
theorem dX0_playHand_55 : decode cX0_playHand 55 = .ok (.getfield 24, 3) := by decide +kernel
theorem dX0_playHand_58 : decode cX0_playHand 58 = .ok (.getfield 61, 3) := by decide +kernel
theorem dX0_playHand_61 : decode cX0_playHand 61 = .ok (.iload 5, 2) := by decide +kernel
theorem dX0_playHand_63 : decode cX0_playHand 63 = .ok (.iaload, 1) := by decide +kernel
theorem dX0_playHand_64 : decode cX0_playHand 64 = .ok (.invokevirtual 145, 3) := by decide +kernel
theorem dX0_playHand_67 : decode cX0_playHand 67 = .ok (.istore 7, 2) := by decide +kernel
theorem dX0_playHand_69 : decode cX0_playHand 69 = .ok (.aload_n 0, 1) := by decide +kernel
theorem dX0_playHand_70 : decode cX0_playHand 70 = .ok (.iload 5, 2) := by decide +kernel
theorem dX0_playHand_72 : decode cX0_playHand 72 = .ok (.iload 6, 2) := by decide +kernel
theorem dX0_playHand_74 : decode cX0_playHand 74 = .ok (.iload 7, 2) := by decide +kernel
theorem dX0_playHand_76 : decode cX0_playHand 76 = .ok (.invokestatic 119, 3) := by decide +kernel
theorem dX0_playHand_79 : decode cX0_playHand 79 = .ok (.iload 6, 2) := by decide +kernel
theorem dX0_playHand_81 : decode cX0_playHand 81 = .ok (.iload 7, 2) := by decide +kernel
theorem dX0_playHand_83 : decode cX0_playHand 83 = .ok (.invokestatic 136, 3) := by decide +kernel
theorem dX0_playHand_86 : decode cX0_playHand 86 = .ok (.invokevirtual 148, 3) := by decide +kernel
theorem dX0_playHand_89 : decode cX0_playHand 89 = .ok (.pop, 1) := by decide +kernel
theorem dX0_playHand_90 : decode cX0_playHand 90 = .ok (.aload_n 0, 1) := by decide +kernel
theorem dX0_playHand_91 : decode cX0_playHand 91 = .ok (.bipush 16, 2) := by decide +kernel
theorem dX0_playHand_93 : decode cX0_playHand 93 = .ok (.invokevirtual 145, 3) := by decide +kernel
theorem dX0_playHand_96 : decode cX0_playHand 96 = .ok (.iload_n 3, 1) := by decide +kernel
theorem dX0_playHand_97 : decode cX0_playHand 97 = .ok (.if_icmp .ge 16, 3) := by decide +kernel
theorem dX0_playHand_100 : decode cX0_playHand 100 = .ok (.aload_n 0, 1) := by decide +kernel
theorem dX0_playHand_101 : decode cX0_playHand 101 = .ok (.iconst 3, 1) := by decide +kernel
theorem dX0_playHand_102 : decode cX0_playHand 102 = .ok (.invokevirtual 152, 3) := by decide +kernel
theorem dX0_playHand_105 : decode cX0_playHand 105 = .ok (.ifCond .ne 8, 3) := by decide +kernel
theorem dX0_playHand_108 : decode cX0_playHand 108 = .ok (.aload_n 0, 1) := by decide +kernel
theorem dX0_playHand_109 : decode cX0_playHand 109 = .ok (.invokevirtual 155, 3) := by decide +kernel
theorem dX0_playHand_112 : decode cX0_playHand 112 = .ok (.pop, 1) := by decide +kernel
theorem dX0_playHand_113 : decode cX0_playHand 113 = .ok (.iinc 4 1, 3) := by decide +kernel
theorem dX0_playHand_116 : decode cX0_playHand 116 = .ok (.goto (-108), 3) := by decide +kernel
theorem dX0_playHand_119 : decode cX0_playHand 119 = .ok (.return_, 1) := by decide +kernel
theorem dX1_makePlain_0 : decode cX1_makePlain 0 = .ok (.getstatic 24, 3) := by decide +kernel
theorem dX1_makePlain_3 : decode cX1_makePlain 3 = .ok (.iconst 0, 1) := by decide +kernel
theorem dX1_makePlain_4 : decode cX1_makePlain 4 = .ok (.aload_n 0, 1) := by decide +kernel
theorem dX1_makePlain_5 : decode cX1_makePlain 5 = .ok (.getfield 9, 3) := by decide +kernel
theorem dX1_makePlain_8 : decode cX1_makePlain 8 = .ok (.iconst 0, 1) := by decide +kernel
theorem dX1_makePlain_9 : decode cX1_makePlain 9 = .ok (.getstatic 24, 3) := by decide +kernel
theorem dX1_makePlain_12 : decode cX1_makePlain 12 = .ok (.arraylength, 1) := by decide +kernel
theorem dX1_makePlain_13 : decode cX1_makePlain 13 = .ok (.invokestatic 27, 3) := by decide +kernel
theorem dX1_makePlain_16 : decode cX1_makePlain 16 = .ok (.aload_n 0, 1) := by decide +kernel
theorem dX1_makePlain_17 : decode cX1_makePlain 17 = .ok (.getstatic 24, 3) := by decide +kernel
theorem dX1_makePlain_20 : decode cX1_makePlain 20 = .ok (.arraylength, 1) := by decide +kernel
theorem dX1_makePlain_21 : decode cX1_makePlain 21 = .ok (.putfield 33, 3) := by decide +kernel
theorem dX1_makePlain_24 : decode cX1_makePlain 24 = .ok (.return_, 1) := by decide +kernel
theorem dX1_init_0 : decode cX1_init 0 = .ok (.aload_n 0, 1) := by decide +kernel
theorem dX1_init_1 : decode cX1_init 1 = .ok (.invokespecial 3, 3) := by decide +kernel
theorem dX1_init_4 : decode cX1_init 4 = .ok (.aload_n 0, 1) := by decide +kernel
theorem dX1_init_5 : decode cX1_init 5 = .ok (.sipush 150, 3) := by decide +kernel
theorem dX1_init_8 : decode cX1_init 8 = .ok (.newarray .int, 2) := by decide +kernel
theorem dX1_init_10 : decode cX1_init 10 = .ok (.putfield 9, 3) := by decide +kernel
theorem dX1_init_13 : decode cX1_init 13 = .ok (.aload_n 0, 1) := by decide +kernel
theorem dX1_init_14 : decode cX1_init 14 = .ok (.bipush 22, 2) := by decide +kernel
theorem dX1_init_16 : decode cX1_init 16 = .ok (.newarray .int, 2) := by decide +kernel
theorem dX1_init_18 : decode cX1_init 18 = .ok (.putfield 15, 3) := by decide +kernel
theorem dX1_init_21 : decode cX1_init 21 = .ok (.aload_n 0, 1) := by decide +kernel
theorem dX1_init_22 : decode cX1_init 22 = .ok (.bipush 7, 2) := by decide +kernel
theorem dX1_init_24 : decode cX1_init 24 = .ok (.newarray .int, 2) := by decide +kernel
theorem dX1_init_26 : decode cX1_init 26 = .ok (.putfield 18, 3) := by decide +kernel
theorem dX1_init_29 : decode cX1_init 29 = .ok (.aload_n 0, 1) := by decide +kernel
theorem dX1_init_30 : decode cX1_init 30 = .ok (.invokevirtual 21, 3) := by decide +kernel
theorem dX1_init_33 : decode cX1_init 33 = .ok (.return_, 1) := by decide +kernel
theorem dX1_takeOver_0 : decode cX1_takeOver 0 = .ok (.aload_n 1, 1) := by decide +kernel
theorem dX1_takeOver_1 : decode cX1_takeOver 1 = .ok (.getfield 9, 3) := by decide +kernel
theorem dX1_takeOver_4 : decode cX1_takeOver 4 = .ok (.iconst 0, 1) := by decide +kernel
theorem dX1_takeOver_5 : decode cX1_takeOver 5 = .ok (.aload_n 0, 1) := by decide +kernel
theorem dX1_takeOver_6 : decode cX1_takeOver 6 = .ok (.getfield 9, 3) := by decide +kernel
theorem dX1_takeOver_9 : decode cX1_takeOver 9 = .ok (.iconst 0, 1) := by decide +kernel
theorem dX1_takeOver_10 : decode cX1_takeOver 10 = .ok (.sipush 150, 3) := by decide +kernel
theorem dX1_takeOver_13 : decode cX1_takeOver 13 = .ok (.invokestatic 27, 3) := by decide +kernel
theorem dX1_takeOver_16 : decode cX1_takeOver 16 = .ok (.aload_n 0, 1) := by decide +kernel
theorem dX1_takeOver_17 : decode cX1_takeOver 17 = .ok (.aload_n 1, 1) := by decide +kernel
theorem dX1_takeOver_18 : decode cX1_takeOver 18 = .ok (.getfield 33, 3) := by decide +kernel
theorem dX1_takeOver_21 : decode cX1_takeOver 21 = .ok (.putfield 33, 3) := by decide +kernel
theorem dX1_takeOver_24 : decode cX1_takeOver 24 = .ok (.return_, 1) := by decide +kernel
theorem dX7_peek_0 : decode cX7_peek 0 = .ok (.aload_n 0, 1) := by decide +kernel
theorem dX7_peek_1 : decode cX7_peek 1 = .ok (.getfield 31, 3) := by decide +kernel
theorem dX7_peek_4 : decode cX7_peek 4 = .ok (.aload_n 0, 1) := by decide +kernel
theorem dX7_peek_5 : decode cX7_peek 5 = .ok (.getfield 28, 3) := by decide +kernel
theorem dX7_peek_8 : decode cX7_peek 8 = .ok (.if_icmp .ge 30, 3) := by decide +kernel
theorem dX7_peek_11 : decode cX7_peek 11 = .ok (.aload_n 0, 1) := by decide +kernel
theorem dX7_peek_12 : decode cX7_peek 12 = .ok (.getfield 9, 3) := by decide +kernel
theorem dX7_peek_15 : decode cX7_peek 15 = .ok (.aload_n 0, 1) := by decide +kernel
theorem dX7_peek_16 : decode cX7_peek 16 = .ok (.getfield 31, 3) := by decide +kernel
theorem dX7_peek_19 : decode cX7_peek 19 = .ok (.iaload, 1) := by decide +kernel
theorem dX7_peek_20 : decode cX7_peek 20 = .ok (.bipush 32, 2) := by decide +kernel
theorem dX7_peek_22 : decode cX7_peek 22 = .ok (.if_icmp .ne 16, 3) := by decide +kernel
theorem dX7_peek_25 : decode cX7_peek 25 = .ok (.aload_n 0, 1) := by decide +kernel
theorem dX7_peek_26 : decode cX7_peek 26 = .ok (.dup, 1) := by decide +kernel
theorem dX7_peek_27 : decode cX7_peek 27 = .ok (.getfield 31, 3) := by decide +kernel
theorem dX7_peek_30 : decode cX7_peek 30 = .ok (.iconst 1, 1) := by decide +kernel
theorem dX7_peek_31 : decode cX7_peek 31 = .ok (.iadd, 1) := by decide +kernel
theorem dX7_peek_32 : decode cX7_peek 32 = .ok (.putfield 31, 3) := by decide +kernel
theorem dX7_peek_35 : decode cX7_peek 35 = .ok (.goto (-35), 3) := by decide +kernel
theorem dX7_peek_38 : decode cX7_peek 38 = .ok (.aload_n 0, 1) := by decide +kernel
theorem dX7_peek_39 : decode cX7_peek 39 = .ok (.getfield 31, 3) := by decide +kernel
theorem dX7_peek_42 : decode cX7_peek 42 = .ok (.aload_n 0, 1) := by decide +kernel
theorem dX7_peek_43 : decode cX7_peek 43 = .ok (.getfield 28, 3) := by decide +kernel
theorem dX7_peek_46 : decode cX7_peek 46 = .ok (.if_icmp .ge 15, 3) := by decide +kernel
theorem dX7_peek_49 : decode cX7_peek 49 = .ok (.aload_n 0, 1) := by decide +kernel
theorem dX7_peek_50 : decode cX7_peek 50 = .ok (.getfield 9, 3) := by decide +kernel
theorem dX7_peek_53 : decode cX7_peek 53 = .ok (.aload_n 0, 1) := by decide +kernel
theorem dX7_peek_54 : decode cX7_peek 54 = .ok (.getfield 31, 3) := by decide +kernel
theorem dX7_peek_57 : decode cX7_peek 57 = .ok (.iaload, 1) := by decide +kernel
theorem dX7_peek_58 : decode cX7_peek 58 = .ok (.goto 4, 3) := by decide +kernel
theorem dX7_peek_61 : decode cX7_peek 61 = .ok (.iconst (-1), 1) := by decide +kernel
theorem dX7_peek_62 : decode cX7_peek 62 = .ok (.ireturn, 1) := by decide +kernel
theorem dX7_isAtDigit_0 : decode cX7_isAtDigit 0 = .ok (.aload_n 0, 1) := by decide +kernel
theorem dX7_isAtDigit_1 : decode cX7_isAtDigit 1 = .ok (.invokevirtual 37, 3) := by decide +kernel
theorem dX7_isAtDigit_4 : decode cX7_isAtDigit 4 = .ok (.istore_n 1, 1) := by decide +kernel
theorem dX7_isAtDigit_5 : decode cX7_isAtDigit 5 = .ok (.iload_n 1, 1) := by decide +kernel
theorem dX7_isAtDigit_6 : decode cX7_isAtDigit 6 = .ok (.bipush 48, 2) := by decide +kernel
theorem dX7_isAtDigit_8 : decode cX7_isAtDigit 8 = .ok (.if_icmp .lt 13, 3) := by decide +kernel
theorem dX7_isAtDigit_11 : decode cX7_isAtDigit 11 = .ok (.iload_n 1, 1) := by decide +kernel
theorem dX7_isAtDigit_12 : decode cX7_isAtDigit 12 = .ok (.bipush 57, 2) := by decide +kernel
theorem dX7_isAtDigit_14 : decode cX7_isAtDigit 14 = .ok (.if_icmp .gt 7, 3) := by decide +kernel
theorem dX7_isAtDigit_17 : decode cX7_isAtDigit 17 = .ok (.iconst 1, 1) := by decide +kernel
theorem dX7_isAtDigit_18 : decode cX7_isAtDigit 18 = .ok (.goto 4, 3) := by decide +kernel
theorem dX7_isAtDigit_21 : decode cX7_isAtDigit 21 = .ok (.iconst 0, 1) := by decide +kernel
theorem dX7_isAtDigit_22 : decode cX7_isAtDigit 22 = .ok (.ireturn, 1) := by decide +kernel
theorem dX7_fail_0 : decode cX7_fail 0 = .ok (.aload_n 0, 1) := by decide +kernel
theorem dX7_fail_1 : decode cX7_fail 1 = .ok (.iload_n 1, 1) := by decide +kernel
theorem dX7_fail_2 : decode cX7_fail 2 = .ok (.putfield 34, 3) := by decide +kernel
theorem dX7_fail_5 : decode cX7_fail 5 = .ok (.aload_n 0, 1) := by decide +kernel
theorem dX7_fail_6 : decode cX7_fail 6 = .ok (.iload_n 2, 1) := by decide +kernel
theorem dX7_fail_7 : decode cX7_fail 7 = .ok (.putfield 15, 3) := by decide +kernel
theorem dX7_fail_10 : decode cX7_fail 10 = .ok (.iconst 0, 1) := by decide +kernel
theorem dX7_fail_11 : decode cX7_fail 11 = .ok (.ireturn, 1) := by decide +kernel
theorem dX7_takeNumber_0 : decode cX7_takeNumber 0 = .ok (.aload_n 0, 1) := by decide +kernel
theorem dX7_takeNumber_1 : decode cX7_takeNumber 1 = .ok (.invokevirtual 45, 3) := by decide +kernel
theorem dX7_takeNumber_4 : decode cX7_takeNumber 4 = .ok (.ifCond .ne 13, 3) := by decide +kernel
theorem dX7_takeNumber_7 : decode cX7_takeNumber 7 = .ok (.aload_n 0, 1) := by decide +kernel
theorem dX7_takeNumber_8 : decode cX7_takeNumber 8 = .ok (.iconst 1, 1) := by decide +kernel
theorem dX7_takeNumber_9 : decode cX7_takeNumber 9 = .ok (.aload_n 0, 1) := by decide +kernel
theorem dX7_takeNumber_10 : decode cX7_takeNumber 10 = .ok (.getfield 31, 3) := by decide +kernel
theorem dX7_takeNumber_13 : decode cX7_takeNumber 13 = .ok (.invokevirtual 41, 3) := by decide +kernel
theorem dX7_takeNumber_16 : decode cX7_takeNumber 16 = .ok (.ireturn, 1) := by decide +kernel
theorem dX7_takeNumber_17 : decode cX7_takeNumber 17 = .ok (.aload_n 0, 1) := by decide +kernel
theorem dX7_takeNumber_18 : decode cX7_takeNumber 18 = .ok (.aload_n 0, 1) := by decide +kernel
theorem dX7_takeNumber_19 : decode cX7_takeNumber 19 = .ok (.getfield 31, 3) := by decide +kernel
theorem dX7_takeNumber_22 : decode cX7_takeNumber 22 = .ok (.putfield 49, 3) := by decide +kernel
theorem dX7_takeNumber_25 : decode cX7_takeNumber 25 = .ok (.aload_n 0, 1) := by decide +kernel
theorem dX7_takeNumber_26 : decode cX7_takeNumber 26 = .ok (.iconst 0, 1) := by decide +kernel
theorem dX7_takeNumber_27 : decode cX7_takeNumber 27 = .ok (.putfield 52, 3) := by decide +kernel
theorem dX7_takeNumber_30 : decode cX7_takeNumber 30 = .ok (.aload_n 0, 1) := by decide +kernel
theorem dX7_takeNumber_31 : decode cX7_takeNumber 31 = .ok (.getfield 31, 3) := by decide +kernel
theorem dX7_takeNumber_34 : decode cX7_takeNumber 34 = .ok (.aload_n 0, 1) := by decide +kernel
theorem dX7_takeNumber_35 : decode cX7_takeNumber 35 = .ok (.getfield 28, 3) := by decide +kernel
theorem dX7_takeNumber_38 : decode cX7_takeNumber 38 = .ok (.if_icmp .ge 73, 3) := by decide +kernel
theorem dX7_takeNumber_41 : decode cX7_takeNumber 41 = .ok (.aload_n 0, 1) := by decide +kernel
theorem dX7_takeNumber_42 : decode cX7_takeNumber 42 = .ok (.getfield 9, 3) := by decide +kernel
theorem dX7_takeNumber_45 : decode cX7_takeNumber 45 = .ok (.aload_n 0, 1) := by decide +kernel
theorem dX7_takeNumber_46 : decode cX7_takeNumber 46 = .ok (.getfield 31, 3) := by decide +kernel
theorem dX7_takeNumber_49 : decode cX7_takeNumber 49 = .ok (.iaload, 1) := by decide +kernel
theorem dX7_takeNumber_50 : decode cX7_takeNumber 50 = .ok (.bipush 48, 2) := by decide +kernel
theorem dX7_takeNumber_52 : decode cX7_takeNumber 52 = .ok (.if_icmp .lt 59, 3) := by decide +kernel
theorem dX7_takeNumber_55 : decode cX7_takeNumber 55 = .ok (.aload_n 0, 1) := by decide +kernel
theorem dX7_takeNumber_56 : decode cX7_takeNumber 56 = .ok (.getfield 9, 3) := by decide +kernel
theorem dX7_takeNumber_59 : decode cX7_takeNumber 59 = .ok (.aload_n 0, 1) := by decide +kernel
theorem dX7_takeNumber_60 : decode cX7_takeNumber 60 = .ok (.getfield 31, 3) := by decide +kernel
theorem dX7_takeNumber_63 : decode cX7_takeNumber 63 = .ok (.iaload, 1) := by decide +kernel
theorem dX7_takeNumber_64 : decode cX7_takeNumber 64 = .ok (.bipush 57, 2) := by decide +kernel
theorem dX7_takeNumber_66 : decode cX7_takeNumber 66 = .ok (.if_icmp .gt 45, 3) := by decide +kernel
theorem dX7_takeNumber_69 : decode cX7_takeNumber 69 = .ok (.aload_n 0, 1) := by decide +kernel
theorem dX7_takeNumber_70 : decode cX7_takeNumber 70 = .ok (.ldc 55, 2) := by decide +kernel
theorem dX7_takeNumber_72 : decode cX7_takeNumber 72 = .ok (.aload_n 0, 1) := by decide +kernel
theorem dX7_takeNumber_73 : decode cX7_takeNumber 73 = .ok (.getfield 52, 3) := by decide +kernel
theorem dX7_takeNumber_76 : decode cX7_takeNumber 76 = .ok (.bipush 10, 2) := by decide +kernel
theorem dX7_takeNumber_78 : decode cX7_takeNumber 78 = .ok (.imul, 1) := by decide +kernel
theorem dX7_takeNumber_79 : decode cX7_takeNumber 79 = .ok (.aload_n 0, 1) := by decide +kernel
theorem dX7_takeNumber_80 : decode cX7_takeNumber 80 = .ok (.getfield 9, 3) := by decide +kernel
theorem dX7_takeNumber_83 : decode cX7_takeNumber 83 = .ok (.aload_n 0, 1) := by decide +kernel
theorem dX7_takeNumber_84 : decode cX7_takeNumber 84 = .ok (.getfield 31, 3) := by decide +kernel
theorem dX7_takeNumber_87 : decode cX7_takeNumber 87 = .ok (.iaload, 1) := by decide +kernel
theorem dX7_takeNumber_88 : decode cX7_takeNumber 88 = .ok (.iadd, 1) := by decide +kernel
theorem dX7_takeNumber_89 : decode cX7_takeNumber 89 = .ok (.bipush 48, 2) := by decide +kernel
theorem dX7_takeNumber_91 : decode cX7_takeNumber 91 = .ok (.isub, 1) := by decide +kernel
theorem dX7_takeNumber_92 : decode cX7_takeNumber 92 = .ok (.invokestatic 22, 3) := by decide +kernel
theorem dX7_takeNumber_95 : decode cX7_takeNumber 95 = .ok (.putfield 52, 3) := by decide +kernel
theorem dX7_takeNumber_98 : decode cX7_takeNumber 98 = .ok (.aload_n 0, 1) := by decide +kernel
theorem dX7_takeNumber_99 : decode cX7_takeNumber 99 = .ok (.dup, 1) := by decide +kernel
theorem dX7_takeNumber_100 : decode cX7_takeNumber 100 = .ok (.getfield 31, 3) := by decide +kernel
theorem dX7_takeNumber_103 : decode cX7_takeNumber 103 = .ok (.iconst 1, 1) := by decide +kernel
theorem dX7_takeNumber_104 : decode cX7_takeNumber 104 = .ok (.iadd, 1) := by decide +kernel
theorem dX7_takeNumber_105 : decode cX7_takeNumber 105 = .ok (.putfield 31, 3) := by decide +kernel
theorem dX7_takeNumber_108 : decode cX7_takeNumber 108 = .ok (.goto (-78), 3) := by decide +kernel
theorem dX7_takeNumber_111 : decode cX7_takeNumber 111 = .ok (.aload_n 0, 1) := by decide +kernel
theorem dX7_takeNumber_112 : decode cX7_takeNumber 112 = .ok (.getfield 52, 3) := by decide +kernel
theorem dX7_takeNumber_115 : decode cX7_takeNumber 115 = .ok (.iload_n 1, 1) := by decide +kernel
theorem dX7_takeNumber_116 : decode cX7_takeNumber 116 = .ok (.if_icmp .lt 11, 3) := by decide +kernel
theorem dX7_takeNumber_119 : decode cX7_takeNumber 119 = .ok (.aload_n 0, 1) := by decide +kernel
theorem dX7_takeNumber_120 : decode cX7_takeNumber 120 = .ok (.getfield 52, 3) := by decide +kernel
theorem dX7_takeNumber_123 : decode cX7_takeNumber 123 = .ok (.iload_n 2, 1) := by decide +kernel
theorem dX7_takeNumber_124 : decode cX7_takeNumber 124 = .ok (.if_icmp .le 15, 3) := by decide +kernel
theorem dX7_takeNumber_127 : decode cX7_takeNumber 127 = .ok (.aload_n 0, 1) := by decide +kernel
theorem dX7_takeNumber_128 : decode cX7_takeNumber 128 = .ok (.iconst 2, 1) := by decide +kernel
theorem dX7_takeNumber_129 : decode cX7_takeNumber 129 = .ok (.aload_n 0, 1) := by decide +kernel
theorem dX7_takeNumber_130 : decode cX7_takeNumber 130 = .ok (.getfield 49, 3) := by decide +kernel
theorem dX7_takeNumber_133 : decode cX7_takeNumber 133 = .ok (.invokevirtual 41, 3) := by decide +kernel
theorem dX7_takeNumber_136 : decode cX7_takeNumber 136 = .ok (.ifCond .eq 7, 3) := by decide +kernel
theorem dX7_takeNumber_139 : decode cX7_takeNumber 139 = .ok (.iconst 1, 1) := by decide +kernel
theorem dX7_takeNumber_140 : decode cX7_takeNumber 140 = .ok (.goto 4, 3) := by decide +kernel
theorem dX7_takeNumber_143 : decode cX7_takeNumber 143 = .ok (.iconst 0, 1) := by decide +kernel
theorem dX7_takeNumber_144 : decode cX7_takeNumber 144 = .ok (.ireturn, 1) := by decide +kernel
theorem dX1_append_0 : decode cX1_append 0 = .ok (.aload_n 0, 1) := by decide +kernel
theorem dX1_append_1 : decode cX1_append 1 = .ok (.getfield 33, 3) := by decide +kernel
theorem dX1_append_4 : decode cX1_append 4 = .ok (.sipush 150, 3) := by decide +kernel
theorem dX1_append_7 : decode cX1_append 7 = .ok (.if_icmp .ge 23, 3) := by decide +kernel
theorem dX1_append_10 : decode cX1_append 10 = .ok (.aload_n 0, 1) := by decide +kernel
theorem dX1_append_11 : decode cX1_append 11 = .ok (.getfield 9, 3) := by decide +kernel
theorem dX1_append_14 : decode cX1_append 14 = .ok (.aload_n 0, 1) := by decide +kernel
theorem dX1_append_15 : decode cX1_append 15 = .ok (.getfield 33, 3) := by decide +kernel
theorem dX1_append_18 : decode cX1_append 18 = .ok (.iload_n 1, 1) := by decide +kernel
theorem dX1_append_19 : decode cX1_append 19 = .ok (.iastore, 1) := by decide +kernel
theorem dX1_append_20 : decode cX1_append 20 = .ok (.aload_n 0, 1) := by decide +kernel
theorem dX1_append_21 : decode cX1_append 21 = .ok (.dup, 1) := by decide +kernel
theorem dX1_append_22 : decode cX1_append 22 = .ok (.getfield 33, 3) := by decide +kernel
theorem dX1_append_25 : decode cX1_append 25 = .ok (.iconst 1, 1) := by decide +kernel
theorem dX1_append_26 : decode cX1_append 26 = .ok (.iadd, 1) := by decide +kernel
theorem dX1_append_27 : decode cX1_append 27 = .ok (.putfield 33, 3) := by decide +kernel
theorem dX1_append_30 : decode cX1_append 30 = .ok (.iconst 1, 1) := by decide +kernel
theorem dX1_append_31 : decode cX1_append 31 = .ok (.ireturn, 1) := by decide +kernel
theorem dX7_takeSign_0 : decode cX7_takeSign 0 = .ok (.aload_n 0, 1) := by decide +kernel
theorem dX7_takeSign_1 : decode cX7_takeSign 1 = .ok (.invokevirtual 37, 3) := by decide +kernel
theorem dX7_takeSign_4 : decode cX7_takeSign 4 = .ok (.iload_n 1, 1) := by decide +kernel
theorem dX7_takeSign_5 : decode cX7_takeSign 5 = .ok (.if_icmp .eq 13, 3) := by decide +kernel
theorem dX7_takeSign_8 : decode cX7_takeSign 8 = .ok (.aload_n 0, 1) := by decide +kernel
theorem dX7_takeSign_9 : decode cX7_takeSign 9 = .ok (.iconst 1, 1) := by decide +kernel
theorem dX7_takeSign_10 : decode cX7_takeSign 10 = .ok (.aload_n 0, 1) := by decide +kernel
theorem dX7_takeSign_11 : decode cX7_takeSign 11 = .ok (.getfield 31, 3) := by decide +kernel
theorem dX7_takeSign_14 : decode cX7_takeSign 14 = .ok (.invokevirtual 41, 3) := by decide +kernel
theorem dX7_takeSign_17 : decode cX7_takeSign 17 = .ok (.ireturn, 1) := by decide +kernel
theorem dX7_takeSign_18 : decode cX7_takeSign 18 = .ok (.aload_n 0, 1) := by decide +kernel
theorem dX7_takeSign_19 : decode cX7_takeSign 19 = .ok (.dup, 1) := by decide +kernel
theorem dX7_takeSign_20 : decode cX7_takeSign 20 = .ok (.getfield 31, 3) := by decide +kernel
theorem dX7_takeSign_23 : decode cX7_takeSign 23 = .ok (.iconst 1, 1) := by decide +kernel
theorem dX7_takeSign_24 : decode cX7_takeSign 24 = .ok (.iadd, 1) := by decide +kernel
theorem dX7_takeSign_25 : decode cX7_takeSign 25 = .ok (.putfield 31, 3) := by decide +kernel
theorem dX7_takeSign_28 : decode cX7_takeSign 28 = .ok (.iconst 1, 1) := by decide +kernel
theorem dX7_takeSign_29 : decode cX7_takeSign 29 = .ok (.ireturn, 1) := by decide +kernel
theorem dX7_isAtLetter_0 : decode cX7_isAtLetter 0 = .ok (.aload_n 0, 1) := by decide +kernel
theorem dX7_isAtLetter_1 : decode cX7_isAtLetter 1 = .ok (.invokevirtual 37, 3) := by decide +kernel
theorem dX7_isAtLetter_4 : decode cX7_isAtLetter 4 = .ok (.istore_n 1, 1) := by decide +kernel
theorem dX7_isAtLetter_5 : decode cX7_isAtLetter 5 = .ok (.iload_n 1, 1) := by decide +kernel
theorem dX7_isAtLetter_6 : decode cX7_isAtLetter 6 = .ok (.bipush 97, 2) := by decide +kernel
theorem dX7_isAtLetter_8 : decode cX7_isAtLetter 8 = .ok (.if_icmp .lt 13, 3) := by decide +kernel
theorem dX7_isAtLetter_11 : decode cX7_isAtLetter 11 = .ok (.iload_n 1, 1) := by decide +kernel
theorem dX7_isAtLetter_12 : decode cX7_isAtLetter 12 = .ok (.bipush 122, 2) := by decide +kernel
theorem dX7_isAtLetter_14 : decode cX7_isAtLetter 14 = .ok (.if_icmp .gt 7, 3) := by decide +kernel
theorem dX7_isAtLetter_17 : decode cX7_isAtLetter 17 = .ok (.iconst 1, 1) := by decide +kernel
theorem dX7_isAtLetter_18 : decode cX7_isAtLetter 18 = .ok (.goto 4, 3) := by decide +kernel
theorem dX7_isAtLetter_21 : decode cX7_isAtLetter 21 = .ok (.iconst 0, 1) := by decide +kernel
theorem dX7_isAtLetter_22 : decode cX7_isAtLetter 22 = .ok (.ireturn, 1) := by decide +kernel
theorem dX7_takeLetters_0 : decode cX7_takeLetters 0 = .ok (.aload_n 0, 1) := by decide +kernel
theorem dX7_takeLetters_1 : decode cX7_takeLetters 1 = .ok (.invokevirtual 56, 3) := by decide +kernel
theorem dX7_takeLetters_4 : decode cX7_takeLetters 4 = .ok (.ifCond .ne 13, 3) := by decide +kernel
theorem dX7_takeLetters_7 : decode cX7_takeLetters 7 = .ok (.aload_n 0, 1) := by decide +kernel
theorem dX7_takeLetters_8 : decode cX7_takeLetters 8 = .ok (.iconst 1, 1) := by decide +kernel
theorem dX7_takeLetters_9 : decode cX7_takeLetters 9 = .ok (.aload_n 0, 1) := by decide +kernel
theorem dX7_takeLetters_10 : decode cX7_takeLetters 10 = .ok (.getfield 31, 3) := by decide +kernel
theorem dX7_takeLetters_13 : decode cX7_takeLetters 13 = .ok (.invokevirtual 41, 3) := by decide +kernel
theorem dX7_takeLetters_16 : decode cX7_takeLetters 16 = .ok (.ireturn, 1) := by decide +kernel
theorem dX7_takeLetters_17 : decode cX7_takeLetters 17 = .ok (.aload_n 0, 1) := by decide +kernel
theorem dX7_takeLetters_18 : decode cX7_takeLetters 18 = .ok (.aload_n 0, 1) := by decide +kernel
theorem dX7_takeLetters_19 : decode cX7_takeLetters 19 = .ok (.getfield 31, 3) := by decide +kernel
theorem dX7_takeLetters_22 : decode cX7_takeLetters 22 = .ok (.putfield 49, 3) := by decide +kernel
theorem dX7_takeLetters_25 : decode cX7_takeLetters 25 = .ok (.aload_n 0, 1) := by decide +kernel
theorem dX7_takeLetters_26 : decode cX7_takeLetters 26 = .ok (.getfield 31, 3) := by decide +kernel
theorem dX7_takeLetters_29 : decode cX7_takeLetters 29 = .ok (.aload_n 0, 1) := by decide +kernel
theorem dX7_takeLetters_30 : decode cX7_takeLetters 30 = .ok (.getfield 28, 3) := by decide +kernel
theorem dX7_takeLetters_33 : decode cX7_takeLetters 33 = .ok (.if_icmp .ge 44, 3) := by decide +kernel
theorem dX7_takeLetters_36 : decode cX7_takeLetters 36 = .ok (.aload_n 0, 1) := by decide +kernel
theorem dX7_takeLetters_37 : decode cX7_takeLetters 37 = .ok (.getfield 9, 3) := by decide +kernel
theorem dX7_takeLetters_40 : decode cX7_takeLetters 40 = .ok (.aload_n 0, 1) := by decide +kernel
theorem dX7_takeLetters_41 : decode cX7_takeLetters 41 = .ok (.getfield 31, 3) := by decide +kernel
theorem dX7_takeLetters_44 : decode cX7_takeLetters 44 = .ok (.iaload, 1) := by decide +kernel
theorem dX7_takeLetters_45 : decode cX7_takeLetters 45 = .ok (.bipush 97, 2) := by decide +kernel
theorem dX7_takeLetters_47 : decode cX7_takeLetters 47 = .ok (.if_icmp .lt 30, 3) := by decide +kernel
theorem dX7_takeLetters_50 : decode cX7_takeLetters 50 = .ok (.aload_n 0, 1) := by decide +kernel
theorem dX7_takeLetters_51 : decode cX7_takeLetters 51 = .ok (.getfield 9, 3) := by decide +kernel
theorem dX7_takeLetters_54 : decode cX7_takeLetters 54 = .ok (.aload_n 0, 1) := by decide +kernel
theorem dX7_takeLetters_55 : decode cX7_takeLetters 55 = .ok (.getfield 31, 3) := by decide +kernel
theorem dX7_takeLetters_58 : decode cX7_takeLetters 58 = .ok (.iaload, 1) := by decide +kernel
theorem dX7_takeLetters_59 : decode cX7_takeLetters 59 = .ok (.bipush 122, 2) := by decide +kernel
theorem dX7_takeLetters_61 : decode cX7_takeLetters 61 = .ok (.if_icmp .gt 16, 3) := by decide +kernel
theorem dX7_takeLetters_64 : decode cX7_takeLetters 64 = .ok (.aload_n 0, 1) := by decide +kernel
theorem dX7_takeLetters_65 : decode cX7_takeLetters 65 = .ok (.dup, 1) := by decide +kernel
theorem dX7_takeLetters_66 : decode cX7_takeLetters 66 = .ok (.getfield 31, 3) := by decide +kernel
theorem dX7_takeLetters_69 : decode cX7_takeLetters 69 = .ok (.iconst 1, 1) := by decide +kernel
theorem dX7_takeLetters_70 : decode cX7_takeLetters 70 = .ok (.iadd, 1) := by decide +kernel
theorem dX7_takeLetters_71 : decode cX7_takeLetters 71 = .ok (.putfield 31, 3) := by decide +kernel
theorem dX7_takeLetters_74 : decode cX7_takeLetters 74 = .ok (.goto (-49), 3) := by decide +kernel
theorem dX7_takeLetters_77 : decode cX7_takeLetters 77 = .ok (.iconst 1, 1) := by decide +kernel
theorem dX7_takeLetters_78 : decode cX7_takeLetters 78 = .ok (.ireturn, 1) := by decide +kernel
theorem dJ0_coder_7d493_0 : decode cJ0_coder_7d493 0 = .ok (.getstatic 38, 3) := by decide +kernel
theorem dJ0_coder_7d493_3 : decode cJ0_coder_7d493 3 = .ok (.ifCond .eq 10, 3) := by decide +kernel
theorem dJ0_coder_7d493_6 : decode cJ0_coder_7d493 6 = .ok (.aload_n 0, 1) := by decide +kernel
theorem dJ0_coder_7d493_7 : decode cJ0_coder_7d493 7 = .ok (.getfield 15, 3) := by decide +kernel
theorem dJ0_coder_7d493_10 : decode cJ0_coder_7d493 10 = .ok (.goto 4, 3) := by decide +kernel
theorem dJ0_coder_7d493_13 : decode cJ0_coder_7d493 13 = .ok (.iconst 1, 1) := by decide +kernel
theorem dJ0_coder_7d493_14 : decode cJ0_coder_7d493 14 = .ok (.ireturn, 1) := by decide +kernel
theorem dJ0_length_8abf5_0 : decode cJ0_length_8abf5 0 = .ok (.aload_n 0, 1) := by decide +kernel
theorem dJ0_length_8abf5_1 : decode cJ0_length_8abf5 1 = .ok (.getfield 9, 3) := by decide +kernel
theorem dJ0_length_8abf5_4 : decode cJ0_length_8abf5 4 = .ok (.arraylength, 1) := by decide +kernel
theorem dJ0_length_8abf5_5 : decode cJ0_length_8abf5 5 = .ok (.aload_n 0, 1) := by decide +kernel
theorem dJ0_length_8abf5_6 : decode cJ0_length_8abf5 6 = .ok (.invokevirtual 335, 3) := by decide +kernel
theorem dJ0_length_8abf5_9 : decode cJ0_length_8abf5 9 = .ok (.ishr, 1) := by decide +kernel
theorem dJ0_length_8abf5_10 : decode cJ0_length_8abf5 10 = .ok (.ireturn, 1) := by decide +kernel
theorem dJ0_isLatin1_aae02_0 : decode cJ0_isLatin1_aae02 0 = .ok (.getstatic 38, 3) := by decide +kernel
theorem dJ0_isLatin1_aae02_3 : decode cJ0_isLatin1_aae02 3 = .ok (.ifCond .eq 14, 3) := by decide +kernel
theorem dJ0_isLatin1_aae02_6 : decode cJ0_isLatin1_aae02 6 = .ok (.aload_n 0, 1) := by decide +kernel
theorem dJ0_isLatin1_aae02_7 : decode cJ0_isLatin1_aae02 7 = .ok (.getfield 15, 3) := by decide +kernel
theorem dJ0_isLatin1_aae02_10 : decode cJ0_isLatin1_aae02 10 = .ok (.ifCond .ne 7, 3) := by decide +kernel
theorem dJ0_isLatin1_aae02_13 : decode cJ0_isLatin1_aae02 13 = .ok (.iconst 1, 1) := by decide +kernel
theorem dJ0_isLatin1_aae02_14 : decode cJ0_isLatin1_aae02 14 = .ok (.goto 4, 3) := by decide +kernel
theorem dJ0_isLatin1_aae02_17 : decode cJ0_isLatin1_aae02 17 = .ok (.iconst 0, 1) := by decide +kernel
theorem dJ0_isLatin1_aae02_18 : decode cJ0_isLatin1_aae02 18 = .ok (.ireturn, 1) := by decide +kernel
theorem dJ3_checkIndex_8e157_0 : decode cJ3_checkIndex_8e157 0 = .ok (.iload_n 0, 1) := by decide +kernel
theorem dJ3_checkIndex_8e157_1 : decode cJ3_checkIndex_8e157 1 = .ok (.ifCond .lt 8, 3) := by decide +kernel
theorem dJ3_checkIndex_8e157_4 : decode cJ3_checkIndex_8e157 4 = .ok (.iload_n 0, 1) := by decide +kernel
theorem dJ3_checkIndex_8e157_5 : decode cJ3_checkIndex_8e157 5 = .ok (.iload_n 1, 1) := by decide +kernel
theorem dJ3_checkIndex_8e157_6 : decode cJ3_checkIndex_8e157 6 = .ok (.if_icmp .lt 10, 3) := by decide +kernel
theorem dJ3_checkIndex_8e157_16 : decode cJ3_checkIndex_8e157 16 = .ok (.iload_n 0, 1) := by decide +kernel
theorem dJ3_checkIndex_8e157_17 : decode cJ3_checkIndex_8e157 17 = .ok (.ireturn, 1) := by decide +kernel
theorem dJ0_checkIndex_df160_0 : decode cJ0_checkIndex_df160 0 = .ok (.iload_n 0, 1) := by decide +kernel
theorem dJ0_checkIndex_df160_1 : decode cJ0_checkIndex_df160 1 = .ok (.iload_n 1, 1) := by decide +kernel
theorem dJ0_checkIndex_df160_2 : decode cJ0_checkIndex_df160 2 = .ok (.getstatic 1053, 3) := by decide +kernel
theorem dJ0_checkIndex_df160_5 : decode cJ0_checkIndex_df160 5 = .ok (.invokestatic 1059, 3) := by decide +kernel
theorem dJ0_checkIndex_df160_8 : decode cJ0_checkIndex_df160 8 = .ok (.pop, 1) := by decide +kernel
theorem dJ0_checkIndex_df160_9 : decode cJ0_checkIndex_df160 9 = .ok (.return_, 1) := by decide +kernel
theorem dJ1_charAt_3b067_0 : decode cJ1_charAt_3b067 0 = .ok (.iload_n 1, 1) := by decide +kernel
theorem dJ1_charAt_3b067_1 : decode cJ1_charAt_3b067 1 = .ok (.aload_n 0, 1) := by decide +kernel
theorem dJ1_charAt_3b067_2 : decode cJ1_charAt_3b067 2 = .ok (.arraylength, 1) := by decide +kernel
theorem dJ1_charAt_3b067_3 : decode cJ1_charAt_3b067 3 = .ok (.invokestatic 9, 3) := by decide +kernel
theorem dJ1_charAt_3b067_6 : decode cJ1_charAt_3b067 6 = .ok (.aload_n 0, 1) := by decide +kernel
theorem dJ1_charAt_3b067_7 : decode cJ1_charAt_3b067 7 = .ok (.iload_n 1, 1) := by decide +kernel
theorem dJ1_charAt_3b067_8 : decode cJ1_charAt_3b067 8 = .ok (.baload, 1) := by decide +kernel
theorem dJ1_charAt_3b067_9 : decode cJ1_charAt_3b067 9 = .ok (.sipush 255, 3) := by decide +kernel
theorem dJ1_charAt_3b067_12 : decode cJ1_charAt_3b067 12 = .ok (.iand, 1) := by decide +kernel
theorem dJ1_charAt_3b067_13 : decode cJ1_charAt_3b067 13 = .ok (.i2c, 1) := by decide +kernel
theorem dJ1_charAt_3b067_14 : decode cJ1_charAt_3b067 14 = .ok (.ireturn, 1) := by decide +kernel
theorem dJ0_charAt_5068e_0 : decode cJ0_charAt_5068e 0 = .ok (.aload_n 0, 1) := by decide +kernel
theorem dJ0_charAt_5068e_1 : decode cJ0_charAt_5068e 1 = .ok (.invokevirtual 492, 3) := by decide +kernel
theorem dJ0_charAt_5068e_4 : decode cJ0_charAt_5068e 4 = .ok (.ifCond .eq 12, 3) := by decide +kernel
theorem dJ0_charAt_5068e_7 : decode cJ0_charAt_5068e 7 = .ok (.aload_n 0, 1) := by decide +kernel
theorem dJ0_charAt_5068e_8 : decode cJ0_charAt_5068e 8 = .ok (.getfield 9, 3) := by decide +kernel
theorem dJ0_charAt_5068e_11 : decode cJ0_charAt_5068e 11 = .ok (.iload_n 1, 1) := by decide +kernel
theorem dJ0_charAt_5068e_12 : decode cJ0_charAt_5068e 12 = .ok (.invokestatic 495, 3) := by decide +kernel
theorem dJ0_charAt_5068e_15 : decode cJ0_charAt_5068e 15 = .ok (.ireturn, 1) := by decide +kernel
theorem dJ0_charAt_5068e_16 : decode cJ0_charAt_5068e 16 = .ok (.aload_n 0, 1) := by decide +kernel
theorem dJ0_charAt_5068e_17 : decode cJ0_charAt_5068e 17 = .ok (.getfield 9, 3) := by decide +kernel
theorem dJ0_charAt_5068e_20 : decode cJ0_charAt_5068e 20 = .ok (.iload_n 1, 1) := by decide +kernel
theorem dX7_took_0 : decode cX7_took 0 = .ok (.aload_n 0, 1) := by decide +kernel
theorem dX7_took_1 : decode cX7_took 1 = .ok (.getfield 31, 3) := by decide +kernel
theorem dX7_took_4 : decode cX7_took 4 = .ok (.aload_n 0, 1) := by decide +kernel
theorem dX7_took_5 : decode cX7_took 5 = .ok (.getfield 49, 3) := by decide +kernel
theorem dX7_took_8 : decode cX7_took 8 = .ok (.isub, 1) := by decide +kernel
theorem dX7_took_9 : decode cX7_took 9 = .ok (.aload_n 1, 1) := by decide +kernel
theorem dX7_took_10 : decode cX7_took 10 = .ok (.invokevirtual 59, 3) := by decide +kernel
theorem dX7_took_13 : decode cX7_took 13 = .ok (.if_icmp .eq 5, 3) := by decide +kernel
theorem dX7_took_16 : decode cX7_took 16 = .ok (.iconst 0, 1) := by decide +kernel
theorem dX7_took_17 : decode cX7_took 17 = .ok (.ireturn, 1) := by decide +kernel
theorem dX7_took_18 : decode cX7_took 18 = .ok (.iconst 0, 1) := by decide +kernel
theorem dX7_took_19 : decode cX7_took 19 = .ok (.istore_n 2, 1) := by decide +kernel
theorem dX7_took_20 : decode cX7_took 20 = .ok (.iload_n 2, 1) := by decide +kernel
theorem dX7_took_21 : decode cX7_took 21 = .ok (.aload_n 1, 1) := by decide +kernel
theorem dX7_took_22 : decode cX7_took 22 = .ok (.invokevirtual 59, 3) := by decide +kernel
theorem dX7_took_25 : decode cX7_took 25 = .ok (.if_icmp .ge 43, 3) := by decide +kernel
theorem dX7_took_28 : decode cX7_took 28 = .ok (.aload_n 0, 1) := by decide +kernel
theorem dX7_took_29 : decode cX7_took 29 = .ok (.getfield 49, 3) := by decide +kernel
theorem dX7_took_32 : decode cX7_took 32 = .ok (.iload_n 2, 1) := by decide +kernel
theorem dX7_took_33 : decode cX7_took 33 = .ok (.iadd, 1) := by decide +kernel
theorem dX7_took_34 : decode cX7_took 34 = .ok (.aload_n 0, 1) := by decide +kernel
theorem dX7_took_35 : decode cX7_took 35 = .ok (.getfield 28, 3) := by decide +kernel
theorem dX7_took_38 : decode cX7_took 38 = .ok (.if_icmp .ge 30, 3) := by decide +kernel
theorem dX7_took_41 : decode cX7_took 41 = .ok (.aload_n 0, 1) := by decide +kernel
theorem dX7_took_42 : decode cX7_took 42 = .ok (.getfield 9, 3) := by decide +kernel
theorem dX7_took_45 : decode cX7_took 45 = .ok (.aload_n 0, 1) := by decide +kernel
theorem dX7_took_46 : decode cX7_took 46 = .ok (.getfield 49, 3) := by decide +kernel
theorem dX7_took_49 : decode cX7_took 49 = .ok (.iload_n 2, 1) := by decide +kernel
theorem dX7_took_50 : decode cX7_took 50 = .ok (.iadd, 1) := by decide +kernel
theorem dX7_took_51 : decode cX7_took 51 = .ok (.iaload, 1) := by decide +kernel
theorem dX7_took_52 : decode cX7_took 52 = .ok (.aload_n 1, 1) := by decide +kernel
theorem dX7_took_53 : decode cX7_took 53 = .ok (.iload_n 2, 1) := by decide +kernel
theorem dX7_took_54 : decode cX7_took 54 = .ok (.invokevirtual 63, 3) := by decide +kernel
theorem dX7_took_57 : decode cX7_took 57 = .ok (.if_icmp .eq 5, 3) := by decide +kernel
theorem dX7_took_60 : decode cX7_took 60 = .ok (.iconst 0, 1) := by decide +kernel
theorem dX7_took_61 : decode cX7_took 61 = .ok (.ireturn, 1) := by decide +kernel
theorem dX7_took_62 : decode cX7_took 62 = .ok (.iinc 2 1, 3) := by decide +kernel
theorem dX7_took_65 : decode cX7_took 65 = .ok (.goto (-45), 3) := by decide +kernel
theorem dX7_took_68 : decode cX7_took 68 = .ok (.iconst 1, 1) := by decide +kernel
theorem dX7_took_69 : decode cX7_took 69 = .ok (.ireturn, 1) := by decide +kernel
theorem dX1_readPair_0 : decode cX1_readPair 0 = .ok (.iload_n 2, 1) := by decide +kernel
theorem dX1_readPair_1 : decode cX1_readPair 1 = .ok (.bipush 6, 2) := by decide +kernel
theorem dX1_readPair_3 : decode cX1_readPair 3 = .ok (.if_icmp .lt 13, 3) := by decide +kernel
theorem dX1_readPair_6 : decode cX1_readPair 6 = .ok (.aload_n 1, 1) := by decide +kernel
theorem dX1_readPair_7 : decode cX1_readPair 7 = .ok (.iconst 3, 1) := by decide +kernel
theorem dX1_readPair_8 : decode cX1_readPair 8 = .ok (.aload_n 1, 1) := by decide +kernel
theorem dX1_readPair_9 : decode cX1_readPair 9 = .ok (.getfield 113, 3) := by decide +kernel
theorem dX1_readPair_12 : decode cX1_readPair 12 = .ok (.invokevirtual 66, 3) := by decide +kernel
theorem dX1_readPair_15 : decode cX1_readPair 15 = .ok (.ireturn, 1) := by decide +kernel
theorem dX1_readPair_16 : decode cX1_readPair 16 = .ok (.aload_n 1, 1) := by decide +kernel
theorem dX1_readPair_17 : decode cX1_readPair 17 = .ok (.bipush 91, 2) := by decide +kernel
theorem dX1_readPair_19 : decode cX1_readPair 19 = .ok (.invokevirtual 90, 3) := by decide +kernel
theorem dX1_readPair_22 : decode cX1_readPair 22 = .ok (.ifCond .eq 55, 3) := by decide +kernel
theorem dX1_readPair_25 : decode cX1_readPair 25 = .ok (.aload_n 0, 1) := by decide +kernel
theorem dX1_readPair_26 : decode cX1_readPair 26 = .ok (.aload_n 1, 1) := by decide +kernel
theorem dX1_readPair_27 : decode cX1_readPair 27 = .ok (.iload_n 2, 1) := by decide +kernel
theorem dX1_readPair_28 : decode cX1_readPair 28 = .ok (.iconst 1, 1) := by decide +kernel
theorem dX1_readPair_29 : decode cX1_readPair 29 = .ok (.iadd, 1) := by decide +kernel
theorem dX1_readPair_30 : decode cX1_readPair 30 = .ok (.invokevirtual 54, 3) := by decide +kernel
theorem dX1_readPair_33 : decode cX1_readPair 33 = .ok (.ifCond .eq 44, 3) := by decide +kernel
theorem dX1_readPair_36 : decode cX1_readPair 36 = .ok (.aload_n 1, 1) := by decide +kernel
theorem dX1_readPair_37 : decode cX1_readPair 37 = .ok (.bipush 44, 2) := by decide +kernel
theorem dX1_readPair_39 : decode cX1_readPair 39 = .ok (.invokevirtual 90, 3) := by decide +kernel
theorem dX1_readPair_42 : decode cX1_readPair 42 = .ok (.ifCond .eq 35, 3) := by decide +kernel
theorem dX1_readPair_45 : decode cX1_readPair 45 = .ok (.aload_n 0, 1) := by decide +kernel
theorem dX1_readPair_46 : decode cX1_readPair 46 = .ok (.aload_n 1, 1) := by decide +kernel
theorem dX1_readPair_47 : decode cX1_readPair 47 = .ok (.iload_n 2, 1) := by decide +kernel
theorem dX1_readPair_48 : decode cX1_readPair 48 = .ok (.iconst 1, 1) := by decide +kernel
theorem dX1_readPair_49 : decode cX1_readPair 49 = .ok (.iadd, 1) := by decide +kernel
theorem dX1_readPair_50 : decode cX1_readPair 50 = .ok (.invokevirtual 54, 3) := by decide +kernel
theorem dX1_readPair_53 : decode cX1_readPair 53 = .ok (.ifCond .eq 24, 3) := by decide +kernel
theorem dX1_readPair_56 : decode cX1_readPair 56 = .ok (.aload_n 1, 1) := by decide +kernel
theorem dX1_readPair_57 : decode cX1_readPair 57 = .ok (.bipush 93, 2) := by decide +kernel
theorem dX1_readPair_59 : decode cX1_readPair 59 = .ok (.invokevirtual 90, 3) := by decide +kernel
theorem dX1_readPair_62 : decode cX1_readPair 62 = .ok (.ifCond .eq 15, 3) := by decide +kernel
theorem dX1_readPair_65 : decode cX1_readPair 65 = .ok (.aload_n 0, 1) := by decide +kernel
theorem dX1_readPair_66 : decode cX1_readPair 66 = .ok (.iload_n 3, 1) := by decide +kernel
theorem dX1_readPair_67 : decode cX1_readPair 67 = .ok (.invokevirtual 73, 3) := by decide +kernel
theorem dX1_readPair_70 : decode cX1_readPair 70 = .ok (.ifCond .eq 7, 3) := by decide +kernel
theorem dX1_readPair_73 : decode cX1_readPair 73 = .ok (.iconst 1, 1) := by decide +kernel
theorem dX1_readPair_74 : decode cX1_readPair 74 = .ok (.goto 4, 3) := by decide +kernel
theorem dX1_readPair_77 : decode cX1_readPair 77 = .ok (.iconst 0, 1) := by decide +kernel
theorem dX1_readPair_78 : decode cX1_readPair 78 = .ok (.ireturn, 1) := by decide +kernel
theorem dX1_nameTaken_0 : decode cX1_nameTaken 0 = .ok (.aload_n 0, 1) := by decide +kernel
theorem dX1_nameTaken_1 : decode cX1_nameTaken 1 = .ok (.ldc 116, 2) := by decide +kernel
theorem dX1_nameTaken_3 : decode cX1_nameTaken 3 = .ok (.invokevirtual 99, 3) := by decide +kernel
theorem dX1_nameTaken_6 : decode cX1_nameTaken 6 = .ok (.ifCond .eq 7, 3) := by decide +kernel
theorem dX1_nameTaken_9 : decode cX1_nameTaken 9 = .ok (.iconst (-1), 1) := by decide +kernel
theorem dX1_nameTaken_10 : decode cX1_nameTaken 10 = .ok (.goto 88, 3) := by decide +kernel
theorem dX1_nameTaken_13 : decode cX1_nameTaken 13 = .ok (.aload_n 0, 1) := by decide +kernel
theorem dX1_nameTaken_14 : decode cX1_nameTaken 14 = .ok (.ldc 118, 2) := by decide +kernel
theorem dX1_nameTaken_16 : decode cX1_nameTaken 16 = .ok (.invokevirtual 99, 3) := by decide +kernel
theorem dX1_nameTaken_19 : decode cX1_nameTaken 19 = .ok (.ifCond .eq 8, 3) := by decide +kernel
theorem dX1_nameTaken_22 : decode cX1_nameTaken 22 = .ok (.bipush (-2), 2) := by decide +kernel
theorem dX1_nameTaken_24 : decode cX1_nameTaken 24 = .ok (.goto 74, 3) := by decide +kernel
theorem dX1_nameTaken_27 : decode cX1_nameTaken 27 = .ok (.aload_n 0, 1) := by decide +kernel
theorem dX1_nameTaken_28 : decode cX1_nameTaken 28 = .ok (.ldc 120, 2) := by decide +kernel
theorem dX1_nameTaken_30 : decode cX1_nameTaken 30 = .ok (.invokevirtual 99, 3) := by decide +kernel
theorem dX1_nameTaken_33 : decode cX1_nameTaken 33 = .ok (.ifCond .eq 8, 3) := by decide +kernel
theorem dX1_nameTaken_36 : decode cX1_nameTaken 36 = .ok (.bipush (-3), 2) := by decide +kernel
theorem dX1_nameTaken_38 : decode cX1_nameTaken 38 = .ok (.goto 60, 3) := by decide +kernel
theorem dX1_nameTaken_41 : decode cX1_nameTaken 41 = .ok (.aload_n 0, 1) := by decide +kernel
theorem dX1_nameTaken_42 : decode cX1_nameTaken 42 = .ok (.ldc 122, 2) := by decide +kernel
theorem dX1_nameTaken_44 : decode cX1_nameTaken 44 = .ok (.invokevirtual 99, 3) := by decide +kernel
theorem dX1_nameTaken_47 : decode cX1_nameTaken 47 = .ok (.ifCond .eq 8, 3) := by decide +kernel
theorem dX1_nameTaken_50 : decode cX1_nameTaken 50 = .ok (.bipush (-4), 2) := by decide +kernel
theorem dX1_nameTaken_52 : decode cX1_nameTaken 52 = .ok (.goto 46, 3) := by decide +kernel
theorem dX1_nameTaken_55 : decode cX1_nameTaken 55 = .ok (.aload_n 0, 1) := by decide +kernel
theorem dX1_nameTaken_56 : decode cX1_nameTaken 56 = .ok (.ldc 124, 2) := by decide +kernel
theorem dX1_nameTaken_58 : decode cX1_nameTaken 58 = .ok (.invokevirtual 99, 3) := by decide +kernel
theorem dX1_nameTaken_61 : decode cX1_nameTaken 61 = .ok (.ifCond .eq 8, 3) := by decide +kernel
theorem dX1_nameTaken_64 : decode cX1_nameTaken 64 = .ok (.bipush (-5), 2) := by decide +kernel
theorem dX1_nameTaken_66 : decode cX1_nameTaken 66 = .ok (.goto 32, 3) := by decide +kernel
theorem dX1_nameTaken_69 : decode cX1_nameTaken 69 = .ok (.aload_n 0, 1) := by decide +kernel
theorem dX1_nameTaken_70 : decode cX1_nameTaken 70 = .ok (.ldc 126, 2) := by decide +kernel
theorem dX1_nameTaken_72 : decode cX1_nameTaken 72 = .ok (.invokevirtual 99, 3) := by decide +kernel
theorem dX1_nameTaken_75 : decode cX1_nameTaken 75 = .ok (.ifCond .eq 8, 3) := by decide +kernel
theorem dX1_nameTaken_78 : decode cX1_nameTaken 78 = .ok (.bipush (-6), 2) := by decide +kernel
theorem dX1_nameTaken_80 : decode cX1_nameTaken 80 = .ok (.goto 18, 3) := by decide +kernel
theorem dX1_nameTaken_83 : decode cX1_nameTaken 83 = .ok (.aload_n 0, 1) := by decide +kernel
theorem dX1_nameTaken_84 : decode cX1_nameTaken 84 = .ok (.ldc 128, 2) := by decide +kernel
theorem dX1_nameTaken_86 : decode cX1_nameTaken 86 = .ok (.invokevirtual 99, 3) := by decide +kernel
theorem dX1_nameTaken_89 : decode cX1_nameTaken 89 = .ok (.ifCond .eq 8, 3) := by decide +kernel
theorem dX1_nameTaken_92 : decode cX1_nameTaken 92 = .ok (.bipush (-7), 2) := by decide +kernel
theorem dX1_nameTaken_94 : decode cX1_nameTaken 94 = .ok (.goto 4, 3) := by decide +kernel
theorem dX1_nameTaken_97 : decode cX1_nameTaken 97 = .ok (.iconst 0, 1) := by decide +kernel
theorem dX1_nameTaken_98 : decode cX1_nameTaken 98 = .ok (.ireturn, 1) := by decide +kernel
theorem dX1_readUnit_0 : decode cX1_readUnit 0 = .ok (.aload_n 1, 1) := by decide +kernel
theorem dX1_readUnit_1 : decode cX1_readUnit 1 = .ok (.invokevirtual 80, 3) := by decide +kernel
theorem dX1_readUnit_4 : decode cX1_readUnit 4 = .ok (.ifCond .eq 31, 3) := by decide +kernel
theorem dX1_readUnit_7 : decode cX1_readUnit 7 = .ok (.aload_n 1, 1) := by decide +kernel
theorem dX1_readUnit_8 : decode cX1_readUnit 8 = .ok (.iconst 0, 1) := by decide +kernel
theorem dX1_readUnit_9 : decode cX1_readUnit 9 = .ok (.sipush 999, 3) := by decide +kernel
theorem dX1_readUnit_12 : decode cX1_readUnit 12 = .ok (.invokevirtual 84, 3) := by decide +kernel
theorem dX1_readUnit_15 : decode cX1_readUnit 15 = .ok (.ifCond .eq 18, 3) := by decide +kernel
theorem dX1_readUnit_18 : decode cX1_readUnit 18 = .ok (.aload_n 0, 1) := by decide +kernel
theorem dX1_readUnit_19 : decode cX1_readUnit 19 = .ok (.aload_n 1, 1) := by decide +kernel
theorem dX1_readUnit_20 : decode cX1_readUnit 20 = .ok (.getfield 87, 3) := by decide +kernel
theorem dX1_readUnit_23 : decode cX1_readUnit 23 = .ok (.invokevirtual 73, 3) := by decide +kernel
theorem dX1_readUnit_26 : decode cX1_readUnit 26 = .ok (.ifCond .eq 7, 3) := by decide +kernel
theorem dX1_readUnit_29 : decode cX1_readUnit 29 = .ok (.iconst 1, 1) := by decide +kernel
theorem dX1_readUnit_30 : decode cX1_readUnit 30 = .ok (.goto 4, 3) := by decide +kernel
theorem dX1_readUnit_33 : decode cX1_readUnit 33 = .ok (.iconst 0, 1) := by decide +kernel
theorem dX1_readUnit_34 : decode cX1_readUnit 34 = .ok (.ireturn, 1) := by decide +kernel
theorem dX1_readUnit_35 : decode cX1_readUnit 35 = .ok (.aload_n 1, 1) := by decide +kernel
theorem dX1_readUnit_36 : decode cX1_readUnit 36 = .ok (.invokevirtual 58, 3) := by decide +kernel
theorem dX1_readUnit_39 : decode cX1_readUnit 39 = .ok (.bipush 40, 2) := by decide +kernel
theorem dX1_readUnit_41 : decode cX1_readUnit 41 = .ok (.if_icmp .ne 54, 3) := by decide +kernel
theorem dX1_readUnit_44 : decode cX1_readUnit 44 = .ok (.iload_n 2, 1) := by decide +kernel
theorem dX1_readUnit_45 : decode cX1_readUnit 45 = .ok (.bipush 6, 2) := by decide +kernel
theorem dX1_readUnit_47 : decode cX1_readUnit 47 = .ok (.if_icmp .lt 13, 3) := by decide +kernel
theorem dX1_readUnit_50 : decode cX1_readUnit 50 = .ok (.aload_n 1, 1) := by decide +kernel
theorem dX1_readUnit_51 : decode cX1_readUnit 51 = .ok (.iconst 3, 1) := by decide +kernel
theorem dX1_readUnit_52 : decode cX1_readUnit 52 = .ok (.aload_n 1, 1) := by decide +kernel
theorem dX1_readUnit_53 : decode cX1_readUnit 53 = .ok (.getfield 63, 3) := by decide +kernel
theorem dX1_readUnit_56 : decode cX1_readUnit 56 = .ok (.invokevirtual 66, 3) := by decide +kernel
theorem dX1_readUnit_59 : decode cX1_readUnit 59 = .ok (.ireturn, 1) := by decide +kernel
theorem dX1_readUnit_60 : decode cX1_readUnit 60 = .ok (.aload_n 1, 1) := by decide +kernel
theorem dX1_readUnit_61 : decode cX1_readUnit 61 = .ok (.bipush 40, 2) := by decide +kernel
theorem dX1_readUnit_63 : decode cX1_readUnit 63 = .ok (.invokevirtual 90, 3) := by decide +kernel
theorem dX1_readUnit_66 : decode cX1_readUnit 66 = .ok (.ifCond .eq 27, 3) := by decide +kernel
theorem dX1_readUnit_69 : decode cX1_readUnit 69 = .ok (.aload_n 0, 1) := by decide +kernel
theorem dX1_readUnit_70 : decode cX1_readUnit 70 = .ok (.aload_n 1, 1) := by decide +kernel
theorem dX1_readUnit_71 : decode cX1_readUnit 71 = .ok (.iload_n 2, 1) := by decide +kernel
theorem dX1_readUnit_72 : decode cX1_readUnit 72 = .ok (.iconst 1, 1) := by decide +kernel
theorem dX1_readUnit_73 : decode cX1_readUnit 73 = .ok (.iadd, 1) := by decide +kernel
theorem dX1_readUnit_74 : decode cX1_readUnit 74 = .ok (.invokevirtual 54, 3) := by decide +kernel
theorem dX1_readUnit_77 : decode cX1_readUnit 77 = .ok (.ifCond .eq 16, 3) := by decide +kernel
theorem dX1_readUnit_80 : decode cX1_readUnit 80 = .ok (.aload_n 1, 1) := by decide +kernel
theorem dX1_readUnit_81 : decode cX1_readUnit 81 = .ok (.bipush 41, 2) := by decide +kernel
theorem dX1_readUnit_83 : decode cX1_readUnit 83 = .ok (.invokevirtual 90, 3) := by decide +kernel
theorem dX1_readUnit_86 : decode cX1_readUnit 86 = .ok (.ifCond .eq 7, 3) := by decide +kernel
theorem dX1_readUnit_89 : decode cX1_readUnit 89 = .ok (.iconst 1, 1) := by decide +kernel
theorem dX1_readUnit_90 : decode cX1_readUnit 90 = .ok (.goto 4, 3) := by decide +kernel
theorem dX1_readUnit_93 : decode cX1_readUnit 93 = .ok (.iconst 0, 1) := by decide +kernel
theorem dX1_readUnit_94 : decode cX1_readUnit 94 = .ok (.ireturn, 1) := by decide +kernel
theorem dX1_readUnit_95 : decode cX1_readUnit 95 = .ok (.aload_n 1, 1) := by decide +kernel
theorem dX1_readUnit_96 : decode cX1_readUnit 96 = .ok (.invokevirtual 94, 3) := by decide +kernel
theorem dX1_readUnit_99 : decode cX1_readUnit 99 = .ok (.ifCond .ne 5, 3) := by decide +kernel
theorem dX1_readUnit_102 : decode cX1_readUnit 102 = .ok (.iconst 0, 1) := by decide +kernel
theorem dX1_readUnit_103 : decode cX1_readUnit 103 = .ok (.ireturn, 1) := by decide +kernel
theorem dX1_readUnit_104 : decode cX1_readUnit 104 = .ok (.aload_n 1, 1) := by decide +kernel
theorem dX1_readUnit_105 : decode cX1_readUnit 105 = .ok (.ldc 97, 2) := by decide +kernel
theorem dX1_readUnit_107 : decode cX1_readUnit 107 = .ok (.invokevirtual 99, 3) := by decide +kernel
theorem dX1_readUnit_110 : decode cX1_readUnit 110 = .ok (.ifCond .ne 12, 3) := by decide +kernel
theorem dX1_readUnit_113 : decode cX1_readUnit 113 = .ok (.aload_n 1, 1) := by decide +kernel
theorem dX1_readUnit_114 : decode cX1_readUnit 114 = .ok (.ldc 103, 2) := by decide +kernel
theorem dX1_readUnit_116 : decode cX1_readUnit 116 = .ok (.invokevirtual 99, 3) := by decide +kernel
theorem dX1_readUnit_119 : decode cX1_readUnit 119 = .ok (.ifCond .eq 26, 3) := by decide +kernel
theorem dX1_readUnit_122 : decode cX1_readUnit 122 = .ok (.aload_n 0, 1) := by decide +kernel
theorem dX1_readUnit_123 : decode cX1_readUnit 123 = .ok (.aload_n 1, 1) := by decide +kernel
theorem dX1_readUnit_124 : decode cX1_readUnit 124 = .ok (.iload_n 2, 1) := by decide +kernel
theorem dX1_readUnit_125 : decode cX1_readUnit 125 = .ok (.aload_n 1, 1) := by decide +kernel
theorem dX1_readUnit_126 : decode cX1_readUnit 126 = .ok (.ldc 97, 2) := by decide +kernel
theorem dX1_readUnit_128 : decode cX1_readUnit 128 = .ok (.invokevirtual 99, 3) := by decide +kernel
theorem dX1_readUnit_131 : decode cX1_readUnit 131 = .ok (.ifCond .eq 8, 3) := by decide +kernel
theorem dX1_readUnit_134 : decode cX1_readUnit 134 = .ok (.bipush (-13), 2) := by decide +kernel
theorem dX1_readUnit_136 : decode cX1_readUnit 136 = .ok (.goto 5, 3) := by decide +kernel
theorem dX1_readUnit_139 : decode cX1_readUnit 139 = .ok (.bipush (-14), 2) := by decide +kernel
theorem dX1_readUnit_141 : decode cX1_readUnit 141 = .ok (.invokevirtual 105, 3) := by decide +kernel
theorem dX1_readUnit_144 : decode cX1_readUnit 144 = .ok (.ireturn, 1) := by decide +kernel
theorem dX1_readUnit_145 : decode cX1_readUnit 145 = .ok (.aload_n 1, 1) := by decide +kernel
theorem dX1_readUnit_146 : decode cX1_readUnit 146 = .ok (.invokestatic 109, 3) := by decide +kernel
theorem dX1_readUnit_149 : decode cX1_readUnit 149 = .ok (.istore_n 3, 1) := by decide +kernel
theorem dX1_readUnit_150 : decode cX1_readUnit 150 = .ok (.iload_n 3, 1) := by decide +kernel
theorem dX1_readUnit_151 : decode cX1_readUnit 151 = .ok (.ifCond .ne 15, 3) := by decide +kernel
theorem dX1_readUnit_154 : decode cX1_readUnit 154 = .ok (.aload_n 1, 1) := by decide +kernel
theorem dX1_readUnit_155 : decode cX1_readUnit 155 = .ok (.iconst 1, 1) := by decide +kernel
theorem dX1_readUnit_156 : decode cX1_readUnit 156 = .ok (.aload_n 1, 1) := by decide +kernel
theorem dX1_readUnit_157 : decode cX1_readUnit 157 = .ok (.getfield 113, 3) := by decide +kernel
theorem dX1_readUnit_160 : decode cX1_readUnit 160 = .ok (.invokevirtual 66, 3) := by decide +kernel
theorem dX1_readUnit_163 : decode cX1_readUnit 163 = .ok (.goto 8, 3) := by decide +kernel
theorem dX1_readUnit_166 : decode cX1_readUnit 166 = .ok (.aload_n 0, 1) := by decide +kernel
theorem dX1_readUnit_167 : decode cX1_readUnit 167 = .ok (.iload_n 3, 1) := by decide +kernel
theorem dX1_readUnit_168 : decode cX1_readUnit 168 = .ok (.invokevirtual 73, 3) := by decide +kernel
theorem dX1_readUnit_171 : decode cX1_readUnit 171 = .ok (.ireturn, 1) := by decide +kernel
