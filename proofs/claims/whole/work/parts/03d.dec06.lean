theorem dX9_blanks_18 : decode cX9_blanks 18 = .ok (.iconst 1, 1) := by decide +kernel
theorem dX9_blanks_19 : decode cX9_blanks 19 = .ok (.iadd, 1) := by decide +kernel
theorem dX9_blanks_20 : decode cX9_blanks 20 = .ok (.putfield 137, 3) := by decide +kernel
theorem dX9_blanks_23 : decode cX9_blanks 23 = .ok (.goto (-23), 3) := by decide +kernel
theorem dX9_blanks_26 : decode cX9_blanks 26 = .ok (.return_, 1) := by decide +kernel
theorem dX9_wrong_0 : decode cX9_wrong 0 = .ok (.aload_n 0, 1) := by decide +kernel
theorem dX9_wrong_1 : decode cX9_wrong 1 = .ok (.getfield 144, 3) := by decide +kernel
theorem dX9_wrong_4 : decode cX9_wrong 4 = .ok (.ifCond .ne 13, 3) := by decide +kernel
theorem dX9_wrong_7 : decode cX9_wrong 7 = .ok (.aload_n 0, 1) := by decide +kernel
theorem dX9_wrong_8 : decode cX9_wrong 8 = .ok (.iload_n 1, 1) := by decide +kernel
theorem dX9_wrong_9 : decode cX9_wrong 9 = .ok (.putfield 144, 3) := by decide +kernel
theorem dX9_wrong_12 : decode cX9_wrong 12 = .ok (.aload_n 0, 1) := by decide +kernel
theorem dX9_wrong_13 : decode cX9_wrong 13 = .ok (.iload_n 2, 1) := by decide +kernel
theorem dX9_wrong_14 : decode cX9_wrong 14 = .ok (.putfield 147, 3) := by decide +kernel
theorem dX9_wrong_17 : decode cX9_wrong 17 = .ok (.return_, 1) := by decide +kernel
theorem dX9_isDigit_0 : decode cX9_isDigit 0 = .ok (.iload_n 0, 1) := by decide +kernel
theorem dX9_isDigit_1 : decode cX9_isDigit 1 = .ok (.bipush 48, 2) := by decide +kernel
theorem dX9_isDigit_3 : decode cX9_isDigit 3 = .ok (.if_icmp .lt 13, 3) := by decide +kernel
theorem dX9_isDigit_6 : decode cX9_isDigit 6 = .ok (.iload_n 0, 1) := by decide +kernel
theorem dX9_isDigit_7 : decode cX9_isDigit 7 = .ok (.bipush 57, 2) := by decide +kernel
theorem dX9_isDigit_9 : decode cX9_isDigit 9 = .ok (.if_icmp .gt 7, 3) := by decide +kernel
theorem dX9_isDigit_12 : decode cX9_isDigit 12 = .ok (.iconst 1, 1) := by decide +kernel
theorem dX9_isDigit_13 : decode cX9_isDigit 13 = .ok (.goto 4, 3) := by decide +kernel
theorem dX9_isDigit_16 : decode cX9_isDigit 16 = .ok (.iconst 0, 1) := by decide +kernel
theorem dX9_isDigit_17 : decode cX9_isDigit 17 = .ok (.ireturn, 1) := by decide +kernel
theorem dX9_isSmall_0 : decode cX9_isSmall 0 = .ok (.iload_n 0, 1) := by decide +kernel
theorem dX9_isSmall_1 : decode cX9_isSmall 1 = .ok (.bipush 97, 2) := by decide +kernel
theorem dX9_isSmall_3 : decode cX9_isSmall 3 = .ok (.if_icmp .lt 13, 3) := by decide +kernel
theorem dX9_isSmall_6 : decode cX9_isSmall 6 = .ok (.iload_n 0, 1) := by decide +kernel
theorem dX9_isSmall_7 : decode cX9_isSmall 7 = .ok (.bipush 122, 2) := by decide +kernel
theorem dX9_isSmall_9 : decode cX9_isSmall 9 = .ok (.if_icmp .gt 7, 3) := by decide +kernel
theorem dX9_isSmall_12 : decode cX9_isSmall 12 = .ok (.iconst 1, 1) := by decide +kernel
theorem dX9_isSmall_13 : decode cX9_isSmall 13 = .ok (.goto 4, 3) := by decide +kernel
theorem dX9_isSmall_16 : decode cX9_isSmall 16 = .ok (.iconst 0, 1) := by decide +kernel
theorem dX9_isSmall_17 : decode cX9_isSmall 17 = .ok (.ireturn, 1) := by decide +kernel
theorem dX9_number_0 : decode cX9_number 0 = .ok (.aload_n 0, 1) := by decide +kernel
theorem dX9_number_1 : decode cX9_number 1 = .ok (.getfield 144, 3) := by decide +kernel
theorem dX9_number_4 : decode cX9_number 4 = .ok (.ifCond .eq 5, 3) := by decide +kernel
theorem dX9_number_7 : decode cX9_number 7 = .ok (.iconst 0, 1) := by decide +kernel
theorem dX9_number_8 : decode cX9_number 8 = .ok (.ireturn, 1) := by decide +kernel
theorem dX9_number_9 : decode cX9_number 9 = .ok (.aload_n 0, 1) := by decide +kernel
theorem dX9_number_10 : decode cX9_number 10 = .ok (.invokevirtual 150, 3) := by decide +kernel
theorem dX9_number_13 : decode cX9_number 13 = .ok (.aload_n 0, 1) := by decide +kernel
theorem dX9_number_14 : decode cX9_number 14 = .ok (.getfield 137, 3) := by decide +kernel
theorem dX9_number_17 : decode cX9_number 17 = .ok (.istore_n 3, 1) := by decide +kernel
theorem dX9_number_18 : decode cX9_number 18 = .ok (.iconst 0, 1) := by decide +kernel
theorem dX9_number_19 : decode cX9_number 19 = .ok (.istore 4, 2) := by decide +kernel
theorem dX9_number_21 : decode cX9_number 21 = .ok (.aload_n 0, 1) := by decide +kernel
theorem dX9_number_22 : decode cX9_number 22 = .ok (.aload_n 0, 1) := by decide +kernel
theorem dX9_number_23 : decode cX9_number 23 = .ok (.getfield 137, 3) := by decide +kernel
theorem dX9_number_26 : decode cX9_number 26 = .ok (.invokevirtual 140, 3) := by decide +kernel
theorem dX9_number_29 : decode cX9_number 29 = .ok (.invokestatic 153, 3) := by decide +kernel
theorem dX9_number_32 : decode cX9_number 32 = .ok (.ifCond .ne 12, 3) := by decide +kernel
theorem dX9_number_35 : decode cX9_number 35 = .ok (.aload_n 0, 1) := by decide +kernel
theorem dX9_number_36 : decode cX9_number 36 = .ok (.iconst 1, 1) := by decide +kernel
theorem dX9_number_37 : decode cX9_number 37 = .ok (.aload_n 0, 1) := by decide +kernel
theorem dX9_number_38 : decode cX9_number 38 = .ok (.getfield 137, 3) := by decide +kernel
theorem dX9_number_41 : decode cX9_number 41 = .ok (.invokevirtual 157, 3) := by decide +kernel
theorem dX9_number_44 : decode cX9_number 44 = .ok (.aload_n 0, 1) := by decide +kernel
theorem dX9_number_45 : decode cX9_number 45 = .ok (.aload_n 0, 1) := by decide +kernel
theorem dX9_number_46 : decode cX9_number 46 = .ok (.getfield 137, 3) := by decide +kernel
theorem dX9_number_49 : decode cX9_number 49 = .ok (.invokevirtual 140, 3) := by decide +kernel
theorem dX9_number_52 : decode cX9_number 52 = .ok (.invokestatic 153, 3) := by decide +kernel
theorem dX9_number_55 : decode cX9_number 55 = .ok (.ifCond .eq 51, 3) := by decide +kernel
theorem dX9_number_58 : decode cX9_number 58 = .ok (.bipush 10, 2) := by decide +kernel
theorem dX9_number_60 : decode cX9_number 60 = .ok (.iload 4, 2) := by decide +kernel
theorem dX9_number_62 : decode cX9_number 62 = .ok (.imul, 1) := by decide +kernel
theorem dX9_number_63 : decode cX9_number 63 = .ok (.aload_n 0, 1) := by decide +kernel
theorem dX9_number_64 : decode cX9_number 64 = .ok (.aload_n 0, 1) := by decide +kernel
theorem dX9_number_65 : decode cX9_number 65 = .ok (.getfield 137, 3) := by decide +kernel
theorem dX9_number_68 : decode cX9_number 68 = .ok (.invokevirtual 140, 3) := by decide +kernel
theorem dX9_number_71 : decode cX9_number 71 = .ok (.iadd, 1) := by decide +kernel
theorem dX9_number_72 : decode cX9_number 72 = .ok (.bipush 48, 2) := by decide +kernel
theorem dX9_number_74 : decode cX9_number 74 = .ok (.isub, 1) := by decide +kernel
theorem dX9_number_75 : decode cX9_number 75 = .ok (.istore 4, 2) := by decide +kernel
theorem dX9_number_77 : decode cX9_number 77 = .ok (.iload 4, 2) := by decide +kernel
theorem dX9_number_79 : decode cX9_number 79 = .ok (.ldc 161, 2) := by decide +kernel
theorem dX9_number_81 : decode cX9_number 81 = .ok (.if_icmp .le 8, 3) := by decide +kernel
theorem dX9_number_84 : decode cX9_number 84 = .ok (.ldc 161, 2) := by decide +kernel
theorem dX9_number_86 : decode cX9_number 86 = .ok (.goto 5, 3) := by decide +kernel
theorem dX9_number_89 : decode cX9_number 89 = .ok (.iload 4, 2) := by decide +kernel
theorem dX9_number_91 : decode cX9_number 91 = .ok (.istore 4, 2) := by decide +kernel
theorem dX9_number_93 : decode cX9_number 93 = .ok (.aload_n 0, 1) := by decide +kernel
theorem dX9_number_94 : decode cX9_number 94 = .ok (.dup, 1) := by decide +kernel
theorem dX9_number_95 : decode cX9_number 95 = .ok (.getfield 137, 3) := by decide +kernel
theorem dX9_number_98 : decode cX9_number 98 = .ok (.iconst 1, 1) := by decide +kernel
theorem dX9_number_99 : decode cX9_number 99 = .ok (.iadd, 1) := by decide +kernel
theorem dX9_number_100 : decode cX9_number 100 = .ok (.putfield 137, 3) := by decide +kernel
theorem dX9_number_103 : decode cX9_number 103 = .ok (.goto (-59), 3) := by decide +kernel
theorem dX9_number_106 : decode cX9_number 106 = .ok (.iload 4, 2) := by decide +kernel
theorem dX9_number_108 : decode cX9_number 108 = .ok (.iload_n 1, 1) := by decide +kernel
theorem dX9_number_109 : decode cX9_number 109 = .ok (.iload_n 2, 1) := by decide +kernel
theorem dX9_number_110 : decode cX9_number 110 = .ok (.invokestatic 162, 3) := by decide +kernel
theorem dX9_number_113 : decode cX9_number 113 = .ok (.ifCond .ne 9, 3) := by decide +kernel
theorem dX9_number_116 : decode cX9_number 116 = .ok (.aload_n 0, 1) := by decide +kernel
theorem dX9_number_117 : decode cX9_number 117 = .ok (.iconst 2, 1) := by decide +kernel
theorem dX9_number_118 : decode cX9_number 118 = .ok (.iload_n 3, 1) := by decide +kernel
theorem dX9_number_119 : decode cX9_number 119 = .ok (.invokevirtual 157, 3) := by decide +kernel
theorem dX9_number_122 : decode cX9_number 122 = .ok (.aload_n 0, 1) := by decide +kernel
theorem dX9_number_123 : decode cX9_number 123 = .ok (.getfield 144, 3) := by decide +kernel
theorem dX9_number_126 : decode cX9_number 126 = .ok (.ifCond .ne 8, 3) := by decide +kernel
theorem dX9_number_129 : decode cX9_number 129 = .ok (.iload 4, 2) := by decide +kernel
theorem dX9_number_131 : decode cX9_number 131 = .ok (.goto 4, 3) := by decide +kernel
theorem dX9_number_134 : decode cX9_number 134 = .ok (.iconst 0, 1) := by decide +kernel
theorem dX9_number_135 : decode cX9_number 135 = .ok (.ireturn, 1) := by decide +kernel
theorem dX9_wordHere_0 : decode cX9_wordHere 0 = .ok (.aload_n 0, 1) := by decide +kernel
theorem dX9_wordHere_1 : decode cX9_wordHere 1 = .ok (.invokevirtual 150, 3) := by decide +kernel
theorem dX9_wordHere_4 : decode cX9_wordHere 4 = .ok (.iconst 0, 1) := by decide +kernel
theorem dX9_wordHere_5 : decode cX9_wordHere 5 = .ok (.istore_n 1, 1) := by decide +kernel
theorem dX9_wordHere_6 : decode cX9_wordHere 6 = .ok (.iconst 0, 1) := by decide +kernel
theorem dX9_wordHere_7 : decode cX9_wordHere 7 = .ok (.istore_n 2, 1) := by decide +kernel
theorem dX9_wordHere_8 : decode cX9_wordHere 8 = .ok (.aload_n 0, 1) := by decide +kernel
theorem dX9_wordHere_9 : decode cX9_wordHere 9 = .ok (.aload_n 0, 1) := by decide +kernel
theorem dX9_wordHere_10 : decode cX9_wordHere 10 = .ok (.getfield 137, 3) := by decide +kernel
theorem dX9_wordHere_13 : decode cX9_wordHere 13 = .ok (.iload_n 2, 1) := by decide +kernel
theorem dX9_wordHere_14 : decode cX9_wordHere 14 = .ok (.iadd, 1) := by decide +kernel
theorem dX9_wordHere_15 : decode cX9_wordHere 15 = .ok (.invokevirtual 140, 3) := by decide +kernel
theorem dX9_wordHere_18 : decode cX9_wordHere 18 = .ok (.invokestatic 166, 3) := by decide +kernel
theorem dX9_wordHere_21 : decode cX9_wordHere 21 = .ok (.ifCond .eq 40, 3) := by decide +kernel
theorem dX9_wordHere_24 : decode cX9_wordHere 24 = .ok (.iload_n 2, 1) := by decide +kernel
theorem dX9_wordHere_25 : decode cX9_wordHere 25 = .ok (.bipush 6, 2) := by decide +kernel
theorem dX9_wordHere_27 : decode cX9_wordHere 27 = .ok (.if_icmp .ge 26, 3) := by decide +kernel
theorem dX9_wordHere_30 : decode cX9_wordHere 30 = .ok (.bipush 27, 2) := by decide +kernel
theorem dX9_wordHere_32 : decode cX9_wordHere 32 = .ok (.iload_n 1, 1) := by decide +kernel
theorem dX9_wordHere_33 : decode cX9_wordHere 33 = .ok (.imul, 1) := by decide +kernel
theorem dX9_wordHere_34 : decode cX9_wordHere 34 = .ok (.aload_n 0, 1) := by decide +kernel
theorem dX9_wordHere_35 : decode cX9_wordHere 35 = .ok (.aload_n 0, 1) := by decide +kernel
theorem dX9_wordHere_36 : decode cX9_wordHere 36 = .ok (.getfield 137, 3) := by decide +kernel
theorem dX9_wordHere_39 : decode cX9_wordHere 39 = .ok (.iload_n 2, 1) := by decide +kernel
theorem dX9_wordHere_40 : decode cX9_wordHere 40 = .ok (.iadd, 1) := by decide +kernel
theorem dX9_wordHere_41 : decode cX9_wordHere 41 = .ok (.invokevirtual 140, 3) := by decide +kernel
theorem dX9_wordHere_44 : decode cX9_wordHere 44 = .ok (.iadd, 1) := by decide +kernel
theorem dX9_wordHere_45 : decode cX9_wordHere 45 = .ok (.bipush 97, 2) := by decide +kernel
theorem dX9_wordHere_47 : decode cX9_wordHere 47 = .ok (.isub, 1) := by decide +kernel
theorem dX9_wordHere_48 : decode cX9_wordHere 48 = .ok (.iconst 1, 1) := by decide +kernel
theorem dX9_wordHere_49 : decode cX9_wordHere 49 = .ok (.iadd, 1) := by decide +kernel
theorem dX9_wordHere_50 : decode cX9_wordHere 50 = .ok (.goto 4, 3) := by decide +kernel
theorem dX9_wordHere_53 : decode cX9_wordHere 53 = .ok (.iload_n 1, 1) := by decide +kernel
theorem dX9_wordHere_54 : decode cX9_wordHere 54 = .ok (.istore_n 1, 1) := by decide +kernel
theorem dX9_wordHere_55 : decode cX9_wordHere 55 = .ok (.iinc 2 1, 3) := by decide +kernel
theorem dX9_wordHere_58 : decode cX9_wordHere 58 = .ok (.goto (-50), 3) := by decide +kernel
theorem dX9_wordHere_61 : decode cX9_wordHere 61 = .ok (.iload_n 2, 1) := by decide +kernel
theorem dX9_wordHere_62 : decode cX9_wordHere 62 = .ok (.bipush 6, 2) := by decide +kernel
theorem dX9_wordHere_64 : decode cX9_wordHere 64 = .ok (.if_icmp .le 7, 3) := by decide +kernel
theorem dX9_wordHere_67 : decode cX9_wordHere 67 = .ok (.iconst (-1), 1) := by decide +kernel
theorem dX9_wordHere_68 : decode cX9_wordHere 68 = .ok (.goto 4, 3) := by decide +kernel
theorem dX9_wordHere_71 : decode cX9_wordHere 71 = .ok (.iload_n 1, 1) := by decide +kernel
theorem dX9_wordHere_72 : decode cX9_wordHere 72 = .ok (.ireturn, 1) := by decide +kernel
theorem dX9_six_0 : decode cX9_six 0 = .ok (.bipush 27, 2) := by decide +kernel
theorem dX9_six_2 : decode cX9_six 2 = .ok (.bipush 27, 2) := by decide +kernel
theorem dX9_six_4 : decode cX9_six 4 = .ok (.iload_n 0, 1) := by decide +kernel
theorem dX9_six_5 : decode cX9_six 5 = .ok (.imul, 1) := by decide +kernel
theorem dX9_six_6 : decode cX9_six 6 = .ok (.iload_n 1, 1) := by decide +kernel
theorem dX9_six_7 : decode cX9_six 7 = .ok (.iadd, 1) := by decide +kernel
theorem dX9_six_8 : decode cX9_six 8 = .ok (.imul, 1) := by decide +kernel
theorem dX9_six_9 : decode cX9_six 9 = .ok (.iload_n 2, 1) := by decide +kernel
theorem dX9_six_10 : decode cX9_six 10 = .ok (.iadd, 1) := by decide +kernel
theorem dX9_six_11 : decode cX9_six 11 = .ok (.istore 6, 2) := by decide +kernel
theorem dX9_six_13 : decode cX9_six 13 = .ok (.iload_n 3, 1) := by decide +kernel
theorem dX9_six_14 : decode cX9_six 14 = .ok (.ifCond .ne 8, 3) := by decide +kernel
theorem dX9_six_17 : decode cX9_six 17 = .ok (.iload 6, 2) := by decide +kernel
theorem dX9_six_19 : decode cX9_six 19 = .ok (.goto 10, 3) := by decide +kernel
theorem dX9_six_22 : decode cX9_six 22 = .ok (.bipush 27, 2) := by decide +kernel
theorem dX9_six_24 : decode cX9_six 24 = .ok (.iload 6, 2) := by decide +kernel
theorem dX9_six_26 : decode cX9_six 26 = .ok (.imul, 1) := by decide +kernel
theorem dX9_six_27 : decode cX9_six 27 = .ok (.iload_n 3, 1) := by decide +kernel
theorem dX9_six_28 : decode cX9_six 28 = .ok (.iadd, 1) := by decide +kernel
theorem dX9_six_29 : decode cX9_six 29 = .ok (.istore 6, 2) := by decide +kernel
theorem dX9_six_31 : decode cX9_six 31 = .ok (.iload 4, 2) := by decide +kernel
theorem dX9_six_33 : decode cX9_six 33 = .ok (.ifCond .ne 8, 3) := by decide +kernel
theorem dX9_six_36 : decode cX9_six 36 = .ok (.iload 6, 2) := by decide +kernel
theorem dX9_six_38 : decode cX9_six 38 = .ok (.goto 11, 3) := by decide +kernel
theorem dX9_six_41 : decode cX9_six 41 = .ok (.bipush 27, 2) := by decide +kernel
theorem dX9_six_43 : decode cX9_six 43 = .ok (.iload 6, 2) := by decide +kernel
theorem dX9_six_45 : decode cX9_six 45 = .ok (.imul, 1) := by decide +kernel
theorem dX9_six_46 : decode cX9_six 46 = .ok (.iload 4, 2) := by decide +kernel
theorem dX9_six_48 : decode cX9_six 48 = .ok (.iadd, 1) := by decide +kernel
theorem dX9_six_49 : decode cX9_six 49 = .ok (.istore 6, 2) := by decide +kernel
theorem dX9_six_51 : decode cX9_six 51 = .ok (.iload 5, 2) := by decide +kernel
theorem dX9_six_53 : decode cX9_six 53 = .ok (.ifCond .ne 8, 3) := by decide +kernel
theorem dX9_six_56 : decode cX9_six 56 = .ok (.iload 6, 2) := by decide +kernel
theorem dX9_six_58 : decode cX9_six 58 = .ok (.goto 11, 3) := by decide +kernel
theorem dX9_six_61 : decode cX9_six 61 = .ok (.bipush 27, 2) := by decide +kernel
theorem dX9_six_63 : decode cX9_six 63 = .ok (.iload 6, 2) := by decide +kernel
theorem dX9_six_65 : decode cX9_six 65 = .ok (.imul, 1) := by decide +kernel
theorem dX9_six_66 : decode cX9_six 66 = .ok (.iload 5, 2) := by decide +kernel
theorem dX9_six_68 : decode cX9_six 68 = .ok (.iadd, 1) := by decide +kernel
theorem dX9_six_69 : decode cX9_six 69 = .ok (.ireturn, 1) := by decide +kernel
theorem dX9_isWord_0 : decode cX9_isWord 0 = .ok (.aload_n 0, 1) := by decide +kernel
theorem dX9_isWord_1 : decode cX9_isWord 1 = .ok (.getfield 144, 3) := by decide +kernel
theorem dX9_isWord_4 : decode cX9_isWord 4 = .ok (.ifCond .ne 26, 3) := by decide +kernel
theorem dX9_isWord_7 : decode cX9_isWord 7 = .ok (.aload_n 0, 1) := by decide +kernel
theorem dX9_isWord_8 : decode cX9_isWord 8 = .ok (.invokevirtual 169, 3) := by decide +kernel
theorem dX9_isWord_11 : decode cX9_isWord 11 = .ok (.iload_n 1, 1) := by decide +kernel
theorem dX9_isWord_12 : decode cX9_isWord 12 = .ok (.iload_n 2, 1) := by decide +kernel
theorem dX9_isWord_13 : decode cX9_isWord 13 = .ok (.iload_n 3, 1) := by decide +kernel
theorem dX9_isWord_14 : decode cX9_isWord 14 = .ok (.iload 4, 2) := by decide +kernel
theorem dX9_isWord_16 : decode cX9_isWord 16 = .ok (.iload 5, 2) := by decide +kernel
theorem dX9_isWord_18 : decode cX9_isWord 18 = .ok (.iload 6, 2) := by decide +kernel
theorem dX9_isWord_20 : decode cX9_isWord 20 = .ok (.invokestatic 173, 3) := by decide +kernel
theorem dX9_isWord_23 : decode cX9_isWord 23 = .ok (.if_icmp .ne 7, 3) := by decide +kernel
theorem dX9_isWord_26 : decode cX9_isWord 26 = .ok (.iconst 1, 1) := by decide +kernel
theorem dX9_isWord_27 : decode cX9_isWord 27 = .ok (.goto 4, 3) := by decide +kernel
theorem dX9_isWord_30 : decode cX9_isWord 30 = .ok (.iconst 0, 1) := by decide +kernel
theorem dX9_isWord_31 : decode cX9_isWord 31 = .ok (.ireturn, 1) := by decide +kernel
theorem dX9_skipWord_0 : decode cX9_skipWord 0 = .ok (.aload_n 0, 1) := by decide +kernel
theorem dX9_skipWord_1 : decode cX9_skipWord 1 = .ok (.aload_n 0, 1) := by decide +kernel
theorem dX9_skipWord_2 : decode cX9_skipWord 2 = .ok (.getfield 137, 3) := by decide +kernel
theorem dX9_skipWord_5 : decode cX9_skipWord 5 = .ok (.invokevirtual 140, 3) := by decide +kernel
theorem dX9_skipWord_8 : decode cX9_skipWord 8 = .ok (.invokestatic 166, 3) := by decide +kernel
theorem dX9_skipWord_11 : decode cX9_skipWord 11 = .ok (.ifCond .eq 16, 3) := by decide +kernel
theorem dX9_skipWord_14 : decode cX9_skipWord 14 = .ok (.aload_n 0, 1) := by decide +kernel
theorem dX9_skipWord_15 : decode cX9_skipWord 15 = .ok (.dup, 1) := by decide +kernel
theorem dX9_skipWord_16 : decode cX9_skipWord 16 = .ok (.getfield 137, 3) := by decide +kernel
theorem dX9_skipWord_19 : decode cX9_skipWord 19 = .ok (.iconst 1, 1) := by decide +kernel
theorem dX9_skipWord_20 : decode cX9_skipWord 20 = .ok (.iadd, 1) := by decide +kernel
theorem dX9_skipWord_21 : decode cX9_skipWord 21 = .ok (.putfield 137, 3) := by decide +kernel
theorem dX9_skipWord_24 : decode cX9_skipWord 24 = .ok (.goto (-24), 3) := by decide +kernel
theorem dX9_skipWord_27 : decode cX9_skipWord 27 = .ok (.return_, 1) := by decide +kernel
theorem dX9_takes_0 : decode cX9_takes 0 = .ok (.aload_n 0, 1) := by decide +kernel
theorem dX9_takes_1 : decode cX9_takes 1 = .ok (.iload_n 1, 1) := by decide +kernel
theorem dX9_takes_2 : decode cX9_takes 2 = .ok (.iload_n 2, 1) := by decide +kernel
theorem dX9_takes_3 : decode cX9_takes 3 = .ok (.iload_n 3, 1) := by decide +kernel
theorem dX9_takes_4 : decode cX9_takes 4 = .ok (.iload 4, 2) := by decide +kernel
theorem dX9_takes_6 : decode cX9_takes 6 = .ok (.iload 5, 2) := by decide +kernel
theorem dX9_takes_8 : decode cX9_takes 8 = .ok (.iload 6, 2) := by decide +kernel
theorem dX9_takes_10 : decode cX9_takes 10 = .ok (.invokevirtual 177, 3) := by decide +kernel
theorem dX9_takes_13 : decode cX9_takes 13 = .ok (.istore 7, 2) := by decide +kernel
theorem dX9_takes_15 : decode cX9_takes 15 = .ok (.iload 7, 2) := by decide +kernel
theorem dX9_takes_17 : decode cX9_takes 17 = .ok (.ifCond .eq 7, 3) := by decide +kernel
theorem dX9_takes_20 : decode cX9_takes 20 = .ok (.aload_n 0, 1) := by decide +kernel
theorem dX9_takes_21 : decode cX9_takes 21 = .ok (.invokevirtual 181, 3) := by decide +kernel
theorem dX9_takes_24 : decode cX9_takes 24 = .ok (.iload 7, 2) := by decide +kernel
theorem dX9_takes_26 : decode cX9_takes 26 = .ok (.ireturn, 1) := by decide +kernel
theorem dX9_sign_0 : decode cX9_sign 0 = .ok (.aload_n 0, 1) := by decide +kernel
theorem dX9_sign_1 : decode cX9_sign 1 = .ok (.getfield 144, 3) := by decide +kernel
theorem dX9_sign_4 : decode cX9_sign 4 = .ok (.ifCond .eq 4, 3) := by decide +kernel
theorem dX9_sign_7 : decode cX9_sign 7 = .ok (.return_, 1) := by decide +kernel
theorem dX9_sign_8 : decode cX9_sign 8 = .ok (.aload_n 0, 1) := by decide +kernel
theorem dX9_sign_9 : decode cX9_sign 9 = .ok (.invokevirtual 150, 3) := by decide +kernel
theorem dX9_sign_12 : decode cX9_sign 12 = .ok (.aload_n 0, 1) := by decide +kernel
theorem dX9_sign_13 : decode cX9_sign 13 = .ok (.aload_n 0, 1) := by decide +kernel
theorem dX9_sign_14 : decode cX9_sign 14 = .ok (.getfield 137, 3) := by decide +kernel
theorem dX9_sign_17 : decode cX9_sign 17 = .ok (.invokevirtual 140, 3) := by decide +kernel
theorem dX9_sign_20 : decode cX9_sign 20 = .ok (.iload_n 1, 1) := by decide +kernel
theorem dX9_sign_21 : decode cX9_sign 21 = .ok (.if_icmp .ne 16, 3) := by decide +kernel
theorem dX9_sign_24 : decode cX9_sign 24 = .ok (.aload_n 0, 1) := by decide +kernel
theorem dX9_sign_25 : decode cX9_sign 25 = .ok (.dup, 1) := by decide +kernel
theorem dX9_sign_26 : decode cX9_sign 26 = .ok (.getfield 137, 3) := by decide +kernel
theorem dX9_sign_29 : decode cX9_sign 29 = .ok (.iconst 1, 1) := by decide +kernel
theorem dX9_sign_30 : decode cX9_sign 30 = .ok (.iadd, 1) := by decide +kernel
theorem dX9_sign_31 : decode cX9_sign 31 = .ok (.putfield 137, 3) := by decide +kernel
theorem dX9_sign_34 : decode cX9_sign 34 = .ok (.goto 12, 3) := by decide +kernel
theorem dX9_sign_37 : decode cX9_sign 37 = .ok (.aload_n 0, 1) := by decide +kernel
theorem dX9_sign_38 : decode cX9_sign 38 = .ok (.iconst 1, 1) := by decide +kernel
theorem dX9_sign_39 : decode cX9_sign 39 = .ok (.aload_n 0, 1) := by decide +kernel
theorem dX9_sign_40 : decode cX9_sign 40 = .ok (.getfield 137, 3) := by decide +kernel
theorem dX9_sign_43 : decode cX9_sign 43 = .ok (.invokevirtual 157, 3) := by decide +kernel
theorem dX9_sign_46 : decode cX9_sign 46 = .ok (.return_, 1) := by decide +kernel
theorem dX9_takesSign_0 : decode cX9_takesSign 0 = .ok (.aload_n 0, 1) := by decide +kernel
theorem dX9_takesSign_1 : decode cX9_takesSign 1 = .ok (.getfield 144, 3) := by decide +kernel
theorem dX9_takesSign_4 : decode cX9_takesSign 4 = .ok (.ifCond .eq 5, 3) := by decide +kernel
theorem dX9_takesSign_7 : decode cX9_takesSign 7 = .ok (.iconst 0, 1) := by decide +kernel
theorem dX9_takesSign_8 : decode cX9_takesSign 8 = .ok (.ireturn, 1) := by decide +kernel
theorem dX9_takesSign_9 : decode cX9_takesSign 9 = .ok (.aload_n 0, 1) := by decide +kernel
theorem dX9_takesSign_10 : decode cX9_takesSign 10 = .ok (.invokevirtual 150, 3) := by decide +kernel
theorem dX9_takesSign_13 : decode cX9_takesSign 13 = .ok (.aload_n 0, 1) := by decide +kernel
theorem dX9_takesSign_14 : decode cX9_takesSign 14 = .ok (.aload_n 0, 1) := by decide +kernel
theorem dX9_takesSign_15 : decode cX9_takesSign 15 = .ok (.getfield 137, 3) := by decide +kernel
theorem dX9_takesSign_18 : decode cX9_takesSign 18 = .ok (.invokevirtual 140, 3) := by decide +kernel
theorem dX9_takesSign_21 : decode cX9_takesSign 21 = .ok (.iload_n 1, 1) := by decide +kernel
theorem dX9_takesSign_22 : decode cX9_takesSign 22 = .ok (.if_icmp .ne 7, 3) := by decide +kernel
theorem dX9_takesSign_25 : decode cX9_takesSign 25 = .ok (.iconst 1, 1) := by decide +kernel
theorem dX9_takesSign_26 : decode cX9_takesSign 26 = .ok (.goto 4, 3) := by decide +kernel
theorem dX9_takesSign_29 : decode cX9_takesSign 29 = .ok (.iconst 0, 1) := by decide +kernel
theorem dX9_takesSign_30 : decode cX9_takesSign 30 = .ok (.istore_n 2, 1) := by decide +kernel
theorem dX9_takesSign_31 : decode cX9_takesSign 31 = .ok (.iload_n 2, 1) := by decide +kernel
theorem dX9_takesSign_32 : decode cX9_takesSign 32 = .ok (.ifCond .eq 13, 3) := by decide +kernel
theorem dX9_takesSign_35 : decode cX9_takesSign 35 = .ok (.aload_n 0, 1) := by decide +kernel
theorem dX9_takesSign_36 : decode cX9_takesSign 36 = .ok (.dup, 1) := by decide +kernel
theorem dX9_takesSign_37 : decode cX9_takesSign 37 = .ok (.getfield 137, 3) := by decide +kernel
theorem dX9_takesSign_40 : decode cX9_takesSign 40 = .ok (.iconst 1, 1) := by decide +kernel
theorem dX9_takesSign_41 : decode cX9_takesSign 41 = .ok (.iadd, 1) := by decide +kernel
theorem dX9_takesSign_42 : decode cX9_takesSign 42 = .ok (.putfield 137, 3) := by decide +kernel
theorem dX9_takesSign_45 : decode cX9_takesSign 45 = .ok (.iload_n 2, 1) := by decide +kernel
theorem dX9_takesSign_46 : decode cX9_takesSign 46 = .ok (.ireturn, 1) := by decide +kernel
theorem dX9_starts_0 : decode cX9_starts 0 = .ok (.aload_n 0, 1) := by decide +kernel
theorem dX9_starts_1 : decode cX9_starts 1 = .ok (.iconst 0, 1) := by decide +kernel
theorem dX9_starts_2 : decode cX9_starts 2 = .ok (.putfield 131, 3) := by decide +kernel
theorem dX9_starts_5 : decode cX9_starts 5 = .ok (.aload_n 0, 1) := by decide +kernel
theorem dX9_starts_6 : decode cX9_starts 6 = .ok (.iload_n 1, 1) := by decide +kernel
theorem dX9_starts_7 : decode cX9_starts 7 = .ok (.putfield 134, 3) := by decide +kernel
theorem dX9_starts_10 : decode cX9_starts 10 = .ok (.aload_n 0, 1) := by decide +kernel
theorem dX9_starts_11 : decode cX9_starts 11 = .ok (.iconst 0, 1) := by decide +kernel
theorem dX9_starts_12 : decode cX9_starts 12 = .ok (.putfield 137, 3) := by decide +kernel
theorem dX9_starts_15 : decode cX9_starts 15 = .ok (.aload_n 0, 1) := by decide +kernel
theorem dX9_starts_16 : decode cX9_starts 16 = .ok (.iconst 0, 1) := by decide +kernel
theorem dX9_starts_17 : decode cX9_starts 17 = .ok (.putfield 144, 3) := by decide +kernel
theorem dX9_starts_20 : decode cX9_starts 20 = .ok (.aload_n 0, 1) := by decide +kernel
theorem dX9_starts_21 : decode cX9_starts 21 = .ok (.iconst (-1), 1) := by decide +kernel
theorem dX9_starts_22 : decode cX9_starts 22 = .ok (.putfield 147, 3) := by decide +kernel
theorem dX9_starts_25 : decode cX9_starts 25 = .ok (.aload_n 0, 1) := by decide +kernel
theorem dX9_starts_26 : decode cX9_starts 26 = .ok (.iconst 0, 1) := by decide +kernel
theorem dX9_starts_27 : decode cX9_starts 27 = .ok (.putfield 184, 3) := by decide +kernel
theorem dX9_starts_30 : decode cX9_starts 30 = .ok (.aload_n 0, 1) := by decide +kernel
theorem dX9_starts_31 : decode cX9_starts 31 = .ok (.iconst 0, 1) := by decide +kernel
theorem dX9_starts_32 : decode cX9_starts 32 = .ok (.putfield 187, 3) := by decide +kernel
theorem dX9_starts_35 : decode cX9_starts 35 = .ok (.aload_n 0, 1) := by decide +kernel
theorem dX9_starts_36 : decode cX9_starts 36 = .ok (.invokevirtual 150, 3) := by decide +kernel
theorem dX9_starts_39 : decode cX9_starts 39 = .ok (.return_, 1) := by decide +kernel
theorem dX9_faulty_0 : decode cX9_faulty 0 = .ok (.aload_n 0, 1) := by decide +kernel
theorem dX9_faulty_1 : decode cX9_faulty 1 = .ok (.aload_n 0, 1) := by decide +kernel
theorem dX9_faulty_2 : decode cX9_faulty 2 = .ok (.getfield 147, 3) := by decide +kernel
theorem dX9_faulty_5 : decode cX9_faulty 5 = .ok (.putfield 9, 3) := by decide +kernel
theorem dX9_faulty_8 : decode cX9_faulty 8 = .ok (.aload_n 0, 1) := by decide +kernel
theorem dX9_faulty_9 : decode cX9_faulty 9 = .ok (.getfield 144, 3) := by decide +kernel
theorem dX9_faulty_12 : decode cX9_faulty 12 = .ok (.bipush 10, 2) := by decide +kernel
theorem dX9_faulty_14 : decode cX9_faulty 14 = .ok (.isub, 1) := by decide +kernel
theorem dX9_faulty_15 : decode cX9_faulty 15 = .ok (.ireturn, 1) := by decide +kernel
theorem dX9_kindHere_0 : decode cX9_kindHere 0 = .ok (.aload_n 0, 1) := by decide +kernel
theorem dX9_kindHere_1 : decode cX9_kindHere 1 = .ok (.bipush 12, 2) := by decide +kernel
theorem dX9_kindHere_3 : decode cX9_kindHere 3 = .ok (.bipush 9, 2) := by decide +kernel
theorem dX9_kindHere_5 : decode cX9_kindHere 5 = .ok (.bipush 14, 2) := by decide +kernel
theorem dX9_kindHere_7 : decode cX9_kindHere 7 = .ok (.iconst 5, 1) := by decide +kernel
theorem dX9_kindHere_8 : decode cX9_kindHere 8 = .ok (.iconst 0, 1) := by decide +kernel
theorem dX9_kindHere_9 : decode cX9_kindHere 9 = .ok (.iconst 0, 1) := by decide +kernel
theorem dX9_kindHere_10 : decode cX9_kindHere 10 = .ok (.invokevirtual 177, 3) := by decide +kernel
theorem dX9_kindHere_13 : decode cX9_kindHere 13 = .ok (.ifCond .eq 5, 3) := by decide +kernel
theorem dX9_kindHere_16 : decode cX9_kindHere 16 = .ok (.iconst 0, 1) := by decide +kernel
theorem dX9_kindHere_17 : decode cX9_kindHere 17 = .ok (.ireturn, 1) := by decide +kernel
theorem dX9_kindHere_18 : decode cX9_kindHere 18 = .ok (.aload_n 0, 1) := by decide +kernel
theorem dX9_kindHere_19 : decode cX9_kindHere 19 = .ok (.iconst 3, 1) := by decide +kernel
theorem dX9_kindHere_20 : decode cX9_kindHere 20 = .ok (.iconst 5, 1) := by decide +kernel
theorem dX9_kindHere_21 : decode cX9_kindHere 21 = .ok (.bipush 12, 2) := by decide +kernel
theorem dX9_kindHere_23 : decode cX9_kindHere 23 = .ok (.bipush 12, 2) := by decide +kernel
theorem dX9_kindHere_25 : decode cX9_kindHere 25 = .ok (.iconst 0, 1) := by decide +kernel
theorem dX9_kindHere_26 : decode cX9_kindHere 26 = .ok (.iconst 0, 1) := by decide +kernel
theorem dX9_kindHere_27 : decode cX9_kindHere 27 = .ok (.invokevirtual 177, 3) := by decide +kernel
theorem dX9_kindHere_30 : decode cX9_kindHere 30 = .ok (.ifCond .eq 5, 3) := by decide +kernel
theorem dX9_kindHere_33 : decode cX9_kindHere 33 = .ok (.iconst 1, 1) := by decide +kernel
theorem dX9_kindHere_34 : decode cX9_kindHere 34 = .ok (.ireturn, 1) := by decide +kernel
theorem dX9_kindHere_35 : decode cX9_kindHere 35 = .ok (.aload_n 0, 1) := by decide +kernel
theorem dX9_kindHere_36 : decode cX9_kindHere 36 = .ok (.bipush 9, 2) := by decide +kernel
theorem dX9_kindHere_38 : decode cX9_kindHere 38 = .ok (.bipush 14, 2) := by decide +kernel
theorem dX9_kindHere_40 : decode cX9_kindHere 40 = .ok (.bipush 11, 2) := by decide +kernel
theorem dX9_kindHere_42 : decode cX9_kindHere 42 = .ok (.iconst 0, 1) := by decide +kernel
theorem dX9_kindHere_43 : decode cX9_kindHere 43 = .ok (.iconst 0, 1) := by decide +kernel
theorem dX9_kindHere_44 : decode cX9_kindHere 44 = .ok (.iconst 0, 1) := by decide +kernel
theorem dX9_kindHere_45 : decode cX9_kindHere 45 = .ok (.invokevirtual 177, 3) := by decide +kernel
theorem dX9_kindHere_48 : decode cX9_kindHere 48 = .ok (.ifCond .eq 7, 3) := by decide +kernel
theorem dX9_kindHere_51 : decode cX9_kindHere 51 = .ok (.iconst 2, 1) := by decide +kernel
theorem dX9_kindHere_52 : decode cX9_kindHere 52 = .ok (.goto 4, 3) := by decide +kernel
theorem dX9_kindHere_55 : decode cX9_kindHere 55 = .ok (.iconst (-1), 1) := by decide +kernel
theorem dX9_kindHere_56 : decode cX9_kindHere 56 = .ok (.ireturn, 1) := by decide +kernel
theorem dX9_wordsOwn_0 : decode cX9_wordsOwn 0 = .ok (.aload_n 0, 1) := by decide +kernel
theorem dX9_wordsOwn_1 : decode cX9_wordsOwn 1 = .ok (.invokevirtual 150, 3) := by decide +kernel
theorem dX9_wordsOwn_4 : decode cX9_wordsOwn 4 = .ok (.aload_n 0, 1) := by decide +kernel
theorem dX9_wordsOwn_5 : decode cX9_wordsOwn 5 = .ok (.getfield 137, 3) := by decide +kernel
theorem dX9_wordsOwn_8 : decode cX9_wordsOwn 8 = .ok (.istore_n 3, 1) := by decide +kernel
theorem dX9_wordsOwn_9 : decode cX9_wordsOwn 9 = .ok (.aload_n 0, 1) := by decide +kernel
theorem dX9_wordsOwn_10 : decode cX9_wordsOwn 10 = .ok (.iconst 0, 1) := by decide +kernel
theorem dX9_wordsOwn_11 : decode cX9_wordsOwn 11 = .ok (.bipush 15, 2) := by decide +kernel
theorem dX9_wordsOwn_13 : decode cX9_wordsOwn 13 = .ok (.invokevirtual 190, 3) := by decide +kernel
theorem dX9_wordsOwn_16 : decode cX9_wordsOwn 16 = .ok (.istore 4, 2) := by decide +kernel
theorem dX9_wordsOwn_18 : decode cX9_wordsOwn 18 = .ok (.aload_n 0, 1) := by decide +kernel
theorem dX9_wordsOwn_19 : decode cX9_wordsOwn 19 = .ok (.getfield 144, 3) := by decide +kernel
theorem dX9_wordsOwn_22 : decode cX9_wordsOwn 22 = .ok (.ifCond .ne 14, 3) := by decide +kernel
theorem dX9_wordsOwn_25 : decode cX9_wordsOwn 25 = .ok (.iload_n 1, 1) := by decide +kernel
theorem dX9_wordsOwn_26 : decode cX9_wordsOwn 26 = .ok (.iload_n 2, 1) := by decide +kernel
theorem dX9_wordsOwn_27 : decode cX9_wordsOwn 27 = .ok (.if_icmp .ne 9, 3) := by decide +kernel
theorem dX9_wordsOwn_30 : decode cX9_wordsOwn 30 = .ok (.aload_n 0, 1) := by decide +kernel
theorem dX9_wordsOwn_31 : decode cX9_wordsOwn 31 = .ok (.iconst 3, 1) := by decide +kernel
theorem dX9_wordsOwn_32 : decode cX9_wordsOwn 32 = .ok (.iload_n 3, 1) := by decide +kernel
theorem dX9_wordsOwn_33 : decode cX9_wordsOwn 33 = .ok (.invokevirtual 157, 3) := by decide +kernel
theorem dX9_wordsOwn_36 : decode cX9_wordsOwn 36 = .ok (.iload 4, 2) := by decide +kernel
theorem dX9_wordsOwn_38 : decode cX9_wordsOwn 38 = .ok (.ireturn, 1) := by decide +kernel
theorem dX9_lineOfPage_0 : decode cX9_lineOfPage 0 = .ok (.iconst 0, 1) := by decide +kernel
theorem dX9_lineOfPage_1 : decode cX9_lineOfPage 1 = .ok (.istore_n 1, 1) := by decide +kernel
theorem dX9_lineOfPage_2 : decode cX9_lineOfPage 2 = .ok (.aload_n 0, 1) := by decide +kernel
theorem dX9_lineOfPage_3 : decode cX9_lineOfPage 3 = .ok (.iload_n 1, 1) := by decide +kernel
theorem dX9_lineOfPage_4 : decode cX9_lineOfPage 4 = .ok (.bipush 8, 2) := by decide +kernel
theorem dX9_lineOfPage_6 : decode cX9_lineOfPage 6 = .ok (.invokevirtual 194, 3) := by decide +kernel
theorem dX9_lineOfPage_9 : decode cX9_lineOfPage 9 = .ok (.istore_n 2, 1) := by decide +kernel
theorem dX9_lineOfPage_10 : decode cX9_lineOfPage 10 = .ok (.aload_n 0, 1) := by decide +kernel
theorem dX9_lineOfPage_11 : decode cX9_lineOfPage 11 = .ok (.getfield 144, 3) := by decide +kernel
theorem dX9_lineOfPage_14 : decode cX9_lineOfPage 14 = .ok (.ifCond .eq 4, 3) := by decide +kernel
theorem dX9_lineOfPage_17 : decode cX9_lineOfPage 17 = .ok (.return_, 1) := by decide +kernel
theorem dX9_lineOfPage_18 : decode cX9_lineOfPage 18 = .ok (.aload_n 0, 1) := by decide +kernel
theorem dX9_lineOfPage_19 : decode cX9_lineOfPage 19 = .ok (.getfield 31, 3) := by decide +kernel
theorem dX9_lineOfPage_22 : decode cX9_lineOfPage 22 = .ok (.aload_n 0, 1) := by decide +kernel
theorem dX9_lineOfPage_23 : decode cX9_lineOfPage 23 = .ok (.getfield 122, 3) := by decide +kernel
theorem dX9_lineOfPage_26 : decode cX9_lineOfPage 26 = .ok (.aaload, 1) := by decide +kernel
theorem dX9_lineOfPage_27 : decode cX9_lineOfPage 27 = .ok (.iload_n 1, 1) := by decide +kernel
theorem dX9_lineOfPage_28 : decode cX9_lineOfPage 28 = .ok (.iload_n 2, 1) := by decide +kernel
theorem dX9_lineOfPage_29 : decode cX9_lineOfPage 29 = .ok (.iastore, 1) := by decide +kernel
theorem dX9_lineOfPage_30 : decode cX9_lineOfPage 30 = .ok (.iinc 1 1, 3) := by decide +kernel
theorem dX9_lineOfPage_33 : decode cX9_lineOfPage 33 = .ok (.aload_n 0, 1) := by decide +kernel
theorem dX9_lineOfPage_34 : decode cX9_lineOfPage 34 = .ok (.invokevirtual 150, 3) := by decide +kernel
theorem dX9_lineOfPage_37 : decode cX9_lineOfPage 37 = .ok (.aload_n 0, 1) := by decide +kernel
theorem dX9_lineOfPage_38 : decode cX9_lineOfPage 38 = .ok (.aload_n 0, 1) := by decide +kernel
theorem dX9_lineOfPage_39 : decode cX9_lineOfPage 39 = .ok (.getfield 137, 3) := by decide +kernel
theorem dX9_lineOfPage_42 : decode cX9_lineOfPage 42 = .ok (.invokevirtual 140, 3) := by decide +kernel
theorem dX9_lineOfPage_45 : decode cX9_lineOfPage 45 = .ok (.bipush 48, 2) := by decide +kernel
theorem dX9_lineOfPage_47 : decode cX9_lineOfPage 47 = .ok (.bipush 57, 2) := by decide +kernel
theorem dX9_lineOfPage_49 : decode cX9_lineOfPage 49 = .ok (.invokestatic 162, 3) := by decide +kernel
theorem dX9_lineOfPage_52 : decode cX9_lineOfPage 52 = .ok (.ifCond .ne (-50), 3) := by decide +kernel
theorem dX9_lineOfPage_55 : decode cX9_lineOfPage 55 = .ok (.aload_n 0, 1) := by decide +kernel
theorem dX9_lineOfPage_56 : decode cX9_lineOfPage 56 = .ok (.getfield 23, 3) := by decide +kernel
theorem dX9_lineOfPage_59 : decode cX9_lineOfPage 59 = .ok (.aload_n 0, 1) := by decide +kernel
theorem dX9_lineOfPage_60 : decode cX9_lineOfPage 60 = .ok (.getfield 122, 3) := by decide +kernel
theorem dX9_lineOfPage_63 : decode cX9_lineOfPage 63 = .ok (.iload_n 1, 1) := by decide +kernel
theorem dX9_lineOfPage_64 : decode cX9_lineOfPage 64 = .ok (.iastore, 1) := by decide +kernel
theorem dX9_lineOfPage_65 : decode cX9_lineOfPage 65 = .ok (.return_, 1) := by decide +kernel
theorem dX9_clause_0 : decode cX9_clause 0 = .ok (.aload_n 0, 1) := by decide +kernel
theorem dX9_clause_1 : decode cX9_clause 1 = .ok (.invokevirtual 197, 3) := by decide +kernel
theorem dX9_clause_4 : decode cX9_clause 4 = .ok (.istore_n 1, 1) := by decide +kernel
theorem dX9_clause_5 : decode cX9_clause 5 = .ok (.iload_n 1, 1) := by decide +kernel
theorem dX9_clause_6 : decode cX9_clause 6 = .ok (.iconst (-1), 1) := by decide +kernel
theorem dX9_clause_7 : decode cX9_clause 7 = .ok (.if_icmp .ne 15, 3) := by decide +kernel
theorem dX9_clause_10 : decode cX9_clause 10 = .ok (.aload_n 0, 1) := by decide +kernel
theorem dX9_clause_11 : decode cX9_clause 11 = .ok (.iconst 1, 1) := by decide +kernel
theorem dX9_clause_12 : decode cX9_clause 12 = .ok (.aload_n 0, 1) := by decide +kernel
theorem dX9_clause_13 : decode cX9_clause 13 = .ok (.getfield 137, 3) := by decide +kernel
theorem dX9_clause_16 : decode cX9_clause 16 = .ok (.invokevirtual 157, 3) := by decide +kernel
theorem dX9_clause_19 : decode cX9_clause 19 = .ok (.goto 34, 3) := by decide +kernel
theorem dX9_clause_22 : decode cX9_clause 22 = .ok (.aload_n 0, 1) := by decide +kernel
theorem dX9_clause_23 : decode cX9_clause 23 = .ok (.getfield 184, 3) := by decide +kernel
theorem dX9_clause_26 : decode cX9_clause 26 = .ok (.bipush 60, 2) := by decide +kernel
theorem dX9_clause_28 : decode cX9_clause 28 = .ok (.if_icmp .eq 16, 3) := by decide +kernel
theorem dX9_clause_31 : decode cX9_clause 31 = .ok (.iload_n 1, 1) := by decide +kernel
theorem dX9_clause_32 : decode cX9_clause 32 = .ok (.ifCond .ne 21, 3) := by decide +kernel
theorem dX9_clause_35 : decode cX9_clause 35 = .ok (.aload_n 0, 1) := by decide +kernel
theorem dX9_clause_36 : decode cX9_clause 36 = .ok (.getfield 122, 3) := by decide +kernel
theorem dX9_clause_39 : decode cX9_clause 39 = .ok (.bipush 6, 2) := by decide +kernel
theorem dX9_clause_41 : decode cX9_clause 41 = .ok (.if_icmp .ne 12, 3) := by decide +kernel
theorem dX9_clause_44 : decode cX9_clause 44 = .ok (.aload_n 0, 1) := by decide +kernel
theorem dX9_clause_45 : decode cX9_clause 45 = .ok (.iconst 3, 1) := by decide +kernel
theorem dX9_clause_46 : decode cX9_clause 46 = .ok (.aload_n 0, 1) := by decide +kernel
theorem dX9_clause_47 : decode cX9_clause 47 = .ok (.getfield 137, 3) := by decide +kernel
theorem dX9_clause_50 : decode cX9_clause 50 = .ok (.invokevirtual 157, 3) := by decide +kernel
theorem dX9_clause_53 : decode cX9_clause 53 = .ok (.aload_n 0, 1) := by decide +kernel
theorem dX9_clause_54 : decode cX9_clause 54 = .ok (.getfield 144, 3) := by decide +kernel
theorem dX9_clause_57 : decode cX9_clause 57 = .ok (.ifCond .eq 4, 3) := by decide +kernel
theorem dX9_clause_60 : decode cX9_clause 60 = .ok (.return_, 1) := by decide +kernel
theorem dX9_clause_61 : decode cX9_clause 61 = .ok (.aload_n 0, 1) := by decide +kernel
theorem dX9_clause_62 : decode cX9_clause 62 = .ok (.invokevirtual 181, 3) := by decide +kernel
theorem dX9_clause_65 : decode cX9_clause 65 = .ok (.aload_n 0, 1) := by decide +kernel
theorem dX9_clause_66 : decode cX9_clause 66 = .ok (.dup, 1) := by decide +kernel
theorem dX9_clause_67 : decode cX9_clause 67 = .ok (.getfield 184, 3) := by decide +kernel
theorem dX9_clause_70 : decode cX9_clause 70 = .ok (.iconst 1, 1) := by decide +kernel
theorem dX9_clause_71 : decode cX9_clause 71 = .ok (.iadd, 1) := by decide +kernel
theorem dX9_clause_72 : decode cX9_clause 72 = .ok (.putfield 184, 3) := by decide +kernel
theorem dX9_clause_75 : decode cX9_clause 75 = .ok (.iload_n 1, 1) := by decide +kernel
theorem dX9_clause_76 : decode cX9_clause 76 = .ok (.ifCond .ne 7, 3) := by decide +kernel
theorem dX9_clause_79 : decode cX9_clause 79 = .ok (.aload_n 0, 1) := by decide +kernel
theorem dX9_clause_80 : decode cX9_clause 80 = .ok (.invokevirtual 200, 3) := by decide +kernel
theorem dX9_clause_83 : decode cX9_clause 83 = .ok (.iload_n 1, 1) := by decide +kernel
theorem dX9_clause_84 : decode cX9_clause 84 = .ok (.iconst 1, 1) := by decide +kernel
theorem dX9_clause_85 : decode cX9_clause 85 = .ok (.if_icmp .ne 32, 3) := by decide +kernel
theorem dX9_clause_88 : decode cX9_clause 88 = .ok (.aload_n 0, 1) := by decide +kernel
theorem dX9_clause_89 : decode cX9_clause 89 = .ok (.iconst 0, 1) := by decide +kernel
theorem dX9_clause_90 : decode cX9_clause 90 = .ok (.iconst 3, 1) := by decide +kernel
theorem dX9_clause_91 : decode cX9_clause 91 = .ok (.invokevirtual 190, 3) := by decide +kernel
theorem dX9_clause_94 : decode cX9_clause 94 = .ok (.istore_n 2, 1) := by decide +kernel
theorem dX9_clause_95 : decode cX9_clause 95 = .ok (.aload_n 0, 1) := by decide +kernel
theorem dX9_clause_96 : decode cX9_clause 96 = .ok (.iconst 0, 1) := by decide +kernel
theorem dX9_clause_97 : decode cX9_clause 97 = .ok (.bipush 99, 2) := by decide +kernel
theorem dX9_clause_99 : decode cX9_clause 99 = .ok (.invokevirtual 190, 3) := by decide +kernel
theorem dX9_clause_102 : decode cX9_clause 102 = .ok (.istore_n 3, 1) := by decide +kernel
theorem dX9_clause_103 : decode cX9_clause 103 = .ok (.aload_n 0, 1) := by decide +kernel
theorem dX9_clause_104 : decode cX9_clause 104 = .ok (.getfield 144, 3) := by decide +kernel
theorem dX9_clause_107 : decode cX9_clause 107 = .ok (.ifCond .ne 10, 3) := by decide +kernel
theorem dX9_clause_110 : decode cX9_clause 110 = .ok (.aload_n 0, 1) := by decide +kernel
theorem dX9_clause_111 : decode cX9_clause 111 = .ok (.getfield 20, 3) := by decide +kernel
theorem dX9_clause_114 : decode cX9_clause 114 = .ok (.iload_n 2, 1) := by decide +kernel
theorem dX9_clause_115 : decode cX9_clause 115 = .ok (.iload_n 3, 1) := by decide +kernel
theorem dX9_clause_116 : decode cX9_clause 116 = .ok (.iastore, 1) := by decide +kernel
theorem dX9_clause_117 : decode cX9_clause 117 = .ok (.iload_n 1, 1) := by decide +kernel
theorem dX9_clause_118 : decode cX9_clause 118 = .ok (.iconst 2, 1) := by decide +kernel
theorem dX9_clause_119 : decode cX9_clause 119 = .ok (.if_icmp .ne 15, 3) := by decide +kernel
theorem dX9_clause_122 : decode cX9_clause 122 = .ok (.aload_n 0, 1) := by decide +kernel
theorem dX9_clause_123 : decode cX9_clause 123 = .ok (.aload_n 0, 1) := by decide +kernel
theorem dX9_clause_124 : decode cX9_clause 124 = .ok (.iconst 0, 1) := by decide +kernel
theorem dX9_clause_125 : decode cX9_clause 125 = .ok (.sipush 200, 3) := by decide +kernel
theorem dX9_clause_128 : decode cX9_clause 128 = .ok (.invokevirtual 190, 3) := by decide +kernel
theorem dX9_clause_131 : decode cX9_clause 131 = .ok (.putfield 125, 3) := by decide +kernel
theorem dX9_clause_134 : decode cX9_clause 134 = .ok (.aload_n 0, 1) := by decide +kernel
theorem dX9_clause_135 : decode cX9_clause 135 = .ok (.bipush 59, 2) := by decide +kernel
theorem dX9_clause_137 : decode cX9_clause 137 = .ok (.invokevirtual 203, 3) := by decide +kernel
theorem dX9_clause_140 : decode cX9_clause 140 = .ok (.iload_n 1, 1) := by decide +kernel
theorem dX9_clause_141 : decode cX9_clause 141 = .ok (.ifCond .ne 24, 3) := by decide +kernel
theorem dX9_clause_144 : decode cX9_clause 144 = .ok (.aload_n 0, 1) := by decide +kernel
theorem dX9_clause_145 : decode cX9_clause 145 = .ok (.dup, 1) := by decide +kernel
theorem dX9_clause_146 : decode cX9_clause 146 = .ok (.getfield 122, 3) := by decide +kernel
theorem dX9_clause_149 : decode cX9_clause 149 = .ok (.aload_n 0, 1) := by decide +kernel
theorem dX9_clause_150 : decode cX9_clause 150 = .ok (.getfield 144, 3) := by decide +kernel
theorem dX9_clause_153 : decode cX9_clause 153 = .ok (.ifCond .ne 7, 3) := by decide +kernel
theorem dX9_clause_156 : decode cX9_clause 156 = .ok (.iconst 1, 1) := by decide +kernel
theorem dX9_clause_157 : decode cX9_clause 157 = .ok (.goto 4, 3) := by decide +kernel
theorem dX9_clause_160 : decode cX9_clause 160 = .ok (.iconst 0, 1) := by decide +kernel
theorem dX9_clause_161 : decode cX9_clause 161 = .ok (.iadd, 1) := by decide +kernel
theorem dX9_clause_162 : decode cX9_clause 162 = .ok (.putfield 122, 3) := by decide +kernel
theorem dX9_clause_165 : decode cX9_clause 165 = .ok (.return_, 1) := by decide +kernel
theorem dX9_page_0 : decode cX9_page 0 = .ok (.aload_n 0, 1) := by decide +kernel
theorem dX9_page_1 : decode cX9_page 1 = .ok (.iconst 0, 1) := by decide +kernel
theorem dX9_page_2 : decode cX9_page 2 = .ok (.putfield 128, 3) := by decide +kernel
theorem dX9_page_5 : decode cX9_page 5 = .ok (.aload_n 0, 1) := by decide +kernel
theorem dX9_page_6 : decode cX9_page 6 = .ok (.iload_n 1, 1) := by decide +kernel
theorem dX9_page_7 : decode cX9_page 7 = .ok (.iconst 0, 1) := by decide +kernel
theorem dX9_page_8 : decode cX9_page 8 = .ok (.aload_n 0, 1) := by decide +kernel
theorem dX9_page_9 : decode cX9_page 9 = .ok (.getfield 131, 3) := by decide +kernel
theorem dX9_page_12 : decode cX9_page 12 = .ok (.invokestatic 162, 3) := by decide +kernel
theorem dX9_page_15 : decode cX9_page 15 = .ok (.ifCond .ne 7, 3) := by decide +kernel
theorem dX9_page_18 : decode cX9_page 18 = .ok (.iconst 1, 1) := by decide +kernel
theorem dX9_page_19 : decode cX9_page 19 = .ok (.goto 4, 3) := by decide +kernel
theorem dX9_page_22 : decode cX9_page 22 = .ok (.iconst 0, 1) := by decide +kernel
theorem dX9_page_23 : decode cX9_page 23 = .ok (.iconst 1, 1) := by decide +kernel
theorem dX9_page_24 : decode cX9_page 24 = .ok (.iconst 1, 1) := by decide +kernel
theorem dX9_page_25 : decode cX9_page 25 = .ok (.invokevirtual 207, 3) := by decide +kernel
theorem dX9_page_28 : decode cX9_page 28 = .ok (.ifCond .eq 5, 3) := by decide +kernel
theorem dX9_page_31 : decode cX9_page 31 = .ok (.iconst 0, 1) := by decide +kernel
theorem dX9_page_32 : decode cX9_page 32 = .ok (.ireturn, 1) := by decide +kernel
theorem dX9_page_33 : decode cX9_page 33 = .ok (.aload_n 0, 1) := by decide +kernel
theorem dX9_page_34 : decode cX9_page 34 = .ok (.iload_n 1, 1) := by decide +kernel
theorem dX9_page_35 : decode cX9_page 35 = .ok (.invokevirtual 211, 3) := by decide +kernel
theorem dX9_page_38 : decode cX9_page 38 = .ok (.aload_n 0, 1) := by decide +kernel
theorem dX9_page_39 : decode cX9_page 39 = .ok (.invokevirtual 116, 3) := by decide +kernel
theorem dX9_page_42 : decode cX9_page 42 = .ok (.aload_n 0, 1) := by decide +kernel
theorem dX9_page_43 : decode cX9_page 43 = .ok (.getfield 144, 3) := by decide +kernel
theorem dX9_page_46 : decode cX9_page 46 = .ok (.ifCond .ne 25, 3) := by decide +kernel
theorem dX9_page_49 : decode cX9_page 49 = .ok (.aload_n 0, 1) := by decide +kernel
theorem dX9_page_50 : decode cX9_page 50 = .ok (.getfield 137, 3) := by decide +kernel
theorem dX9_page_53 : decode cX9_page 53 = .ok (.aload_n 0, 1) := by decide +kernel
theorem dX9_page_54 : decode cX9_page 54 = .ok (.getfield 134, 3) := by decide +kernel
theorem dX9_page_57 : decode cX9_page 57 = .ok (.if_icmp .ge 14, 3) := by decide +kernel
theorem dX9_page_60 : decode cX9_page 60 = .ok (.aload_n 0, 1) := by decide +kernel
theorem dX9_page_61 : decode cX9_page 61 = .ok (.invokevirtual 214, 3) := by decide +kernel
theorem dX9_page_64 : decode cX9_page 64 = .ok (.aload_n 0, 1) := by decide +kernel
theorem dX9_page_65 : decode cX9_page 65 = .ok (.invokevirtual 150, 3) := by decide +kernel
theorem dX9_page_68 : decode cX9_page 68 = .ok (.goto (-26), 3) := by decide +kernel
theorem dX9_page_71 : decode cX9_page 71 = .ok (.aload_n 0, 1) := by decide +kernel
theorem dX9_page_72 : decode cX9_page 72 = .ok (.getfield 144, 3) := by decide +kernel
theorem dX9_page_75 : decode cX9_page 75 = .ok (.ifCond .eq 8, 3) := by decide +kernel
theorem dX9_page_78 : decode cX9_page 78 = .ok (.aload_n 0, 1) := by decide +kernel
theorem dX9_page_79 : decode cX9_page 79 = .ok (.invokevirtual 217, 3) := by decide +kernel
theorem dX9_page_82 : decode cX9_page 82 = .ok (.ireturn, 1) := by decide +kernel
theorem dX9_page_83 : decode cX9_page 83 = .ok (.aload_n 0, 1) := by decide +kernel
theorem dX9_page_84 : decode cX9_page 84 = .ok (.iconst (-1), 1) := by decide +kernel
theorem dX9_page_85 : decode cX9_page 85 = .ok (.putfield 9, 3) := by decide +kernel
theorem dX9_page_88 : decode cX9_page 88 = .ok (.aload_n 0, 1) := by decide +kernel
theorem dX9_page_89 : decode cX9_page 89 = .ok (.invokevirtual 119, 3) := by decide +kernel
theorem dX9_page_92 : decode cX9_page 92 = .ok (.aload_n 0, 1) := by decide +kernel
theorem dX9_page_93 : decode cX9_page 93 = .ok (.invokevirtual 220, 3) := by decide +kernel
theorem dX9_page_96 : decode cX9_page 96 = .ok (.ireturn, 1) := by decide +kernel
theorem dX9_wordsOfAll_0 : decode cX9_wordsOfAll 0 = .ok (.iconst 0, 1) := by decide +kernel
theorem dX9_wordsOfAll_1 : decode cX9_wordsOfAll 1 = .ok (.istore_n 1, 1) := by decide +kernel
theorem dX9_wordsOfAll_2 : decode cX9_wordsOfAll 2 = .ok (.iconst 0, 1) := by decide +kernel
theorem dX9_wordsOfAll_3 : decode cX9_wordsOfAll 3 = .ok (.istore_n 2, 1) := by decide +kernel
theorem dX9_wordsOfAll_4 : decode cX9_wordsOfAll 4 = .ok (.iload_n 2, 1) := by decide +kernel
theorem dX9_wordsOfAll_5 : decode cX9_wordsOfAll 5 = .ok (.aload_n 0, 1) := by decide +kernel
theorem dX9_wordsOfAll_6 : decode cX9_wordsOfAll 6 = .ok (.getfield 223, 3) := by decide +kernel
theorem dX9_wordsOfAll_9 : decode cX9_wordsOfAll 9 = .ok (.if_icmp .ge 18, 3) := by decide +kernel
theorem dX9_wordsOfAll_12 : decode cX9_wordsOfAll 12 = .ok (.iload_n 1, 1) := by decide +kernel
theorem dX9_wordsOfAll_13 : decode cX9_wordsOfAll 13 = .ok (.aload_n 0, 1) := by decide +kernel
theorem dX9_wordsOfAll_14 : decode cX9_wordsOfAll 14 = .ok (.getfield 26, 3) := by decide +kernel
theorem dX9_wordsOfAll_17 : decode cX9_wordsOfAll 17 = .ok (.iload_n 2, 1) := by decide +kernel
theorem dX9_wordsOfAll_18 : decode cX9_wordsOfAll 18 = .ok (.iaload, 1) := by decide +kernel
theorem dX9_wordsOfAll_19 : decode cX9_wordsOfAll 19 = .ok (.iadd, 1) := by decide +kernel
theorem dX9_wordsOfAll_20 : decode cX9_wordsOfAll 20 = .ok (.istore_n 1, 1) := by decide +kernel
theorem dX9_wordsOfAll_21 : decode cX9_wordsOfAll 21 = .ok (.iinc 2 1, 3) := by decide +kernel
theorem dX9_wordsOfAll_24 : decode cX9_wordsOfAll 24 = .ok (.goto (-20), 3) := by decide +kernel
theorem dX9_wordsOfAll_27 : decode cX9_wordsOfAll 27 = .ok (.iload_n 1, 1) := by decide +kernel
theorem dX9_wordsOfAll_28 : decode cX9_wordsOfAll 28 = .ok (.ireturn, 1) := by decide +kernel
theorem dX9_lays_0 : decode cX9_lays 0 = .ok (.iconst 0, 1) := by decide +kernel
theorem dX9_lays_1 : decode cX9_lays 1 = .ok (.istore_n 3, 1) := by decide +kernel
theorem dX9_lays_2 : decode cX9_lays 2 = .ok (.iload_n 3, 1) := by decide +kernel
theorem dX9_lays_3 : decode cX9_lays 3 = .ok (.iload_n 2, 1) := by decide +kernel
theorem dX9_lays_4 : decode cX9_lays 4 = .ok (.if_icmp .ge 39, 3) := by decide +kernel
theorem dX9_lays_7 : decode cX9_lays 7 = .ok (.iconst 0, 1) := by decide +kernel
theorem dX9_lays_8 : decode cX9_lays 8 = .ok (.istore 4, 2) := by decide +kernel
theorem dX9_lays_10 : decode cX9_lays 10 = .ok (.iload 4, 2) := by decide +kernel
theorem dX9_lays_12 : decode cX9_lays 12 = .ok (.aload_n 1, 1) := by decide +kernel
theorem dX9_lays_13 : decode cX9_lays 13 = .ok (.iload_n 3, 1) := by decide +kernel
theorem dX9_lays_14 : decode cX9_lays 14 = .ok (.aaload, 1) := by decide +kernel
theorem dX9_lays_15 : decode cX9_lays 15 = .ok (.arraylength, 1) := by decide +kernel
theorem dX9_lays_16 : decode cX9_lays 16 = .ok (.if_icmp .ge 21, 3) := by decide +kernel
theorem dX9_lays_19 : decode cX9_lays 19 = .ok (.aload_n 1, 1) := by decide +kernel
theorem dX9_lays_20 : decode cX9_lays 20 = .ok (.iload_n 3, 1) := by decide +kernel
theorem dX9_lays_21 : decode cX9_lays 21 = .ok (.aaload, 1) := by decide +kernel
theorem dX9_lays_22 : decode cX9_lays 22 = .ok (.iload 4, 2) := by decide +kernel
theorem dX9_lays_24 : decode cX9_lays 24 = .ok (.aload_n 0, 1) := by decide +kernel
theorem dX9_lays_25 : decode cX9_lays 25 = .ok (.iload_n 3, 1) := by decide +kernel
theorem dX9_lays_26 : decode cX9_lays 26 = .ok (.aaload, 1) := by decide +kernel
theorem dX9_lays_27 : decode cX9_lays 27 = .ok (.iload 4, 2) := by decide +kernel
theorem dX9_lays_29 : decode cX9_lays 29 = .ok (.iaload, 1) := by decide +kernel
theorem dX9_lays_30 : decode cX9_lays 30 = .ok (.iastore, 1) := by decide +kernel
theorem dX9_lays_31 : decode cX9_lays 31 = .ok (.iinc 4 1, 3) := by decide +kernel
theorem dX9_lays_34 : decode cX9_lays 34 = .ok (.goto (-24), 3) := by decide +kernel
theorem dX9_lays_37 : decode cX9_lays 37 = .ok (.iinc 3 1, 3) := by decide +kernel
theorem dX9_lays_40 : decode cX9_lays 40 = .ok (.goto (-38), 3) := by decide +kernel
theorem dX9_lays_43 : decode cX9_lays 43 = .ok (.return_, 1) := by decide +kernel
theorem dX9_copies_0 : decode cX9_copies 0 = .ok (.iconst 0, 1) := by decide +kernel
theorem dX9_copies_1 : decode cX9_copies 1 = .ok (.istore_n 2, 1) := by decide +kernel
theorem dX9_copies_2 : decode cX9_copies 2 = .ok (.iload_n 2, 1) := by decide +kernel
theorem dX9_copies_3 : decode cX9_copies 3 = .ok (.bipush 14, 2) := by decide +kernel
theorem dX9_copies_5 : decode cX9_copies 5 = .ok (.if_icmp .ge 15, 3) := by decide +kernel
theorem dX9_copies_8 : decode cX9_copies 8 = .ok (.aload_n 1, 1) := by decide +kernel
theorem dX9_copies_9 : decode cX9_copies 9 = .ok (.iload_n 2, 1) := by decide +kernel
theorem dX9_copies_10 : decode cX9_copies 10 = .ok (.aload_n 0, 1) := by decide +kernel
theorem dX9_copies_11 : decode cX9_copies 11 = .ok (.iload_n 2, 1) := by decide +kernel
theorem dX9_copies_12 : decode cX9_copies 12 = .ok (.iaload, 1) := by decide +kernel
theorem dX9_copies_13 : decode cX9_copies 13 = .ok (.iastore, 1) := by decide +kernel
theorem dX9_copies_14 : decode cX9_copies 14 = .ok (.iinc 2 1, 3) := by decide +kernel
theorem dX9_copies_17 : decode cX9_copies 17 = .ok (.goto (-15), 3) := by decide +kernel
theorem dX9_copies_20 : decode cX9_copies 20 = .ok (.return_, 1) := by decide +kernel
theorem dX9_beginsAnew_0 : decode cX9_beginsAnew 0 = .ok (.aload_n 0, 1) := by decide +kernel
theorem dX9_beginsAnew_1 : decode cX9_beginsAnew 1 = .ok (.aload_n 0, 1) := by decide +kernel
theorem dX9_beginsAnew_2 : decode cX9_beginsAnew 2 = .ok (.getfield 122, 3) := by decide +kernel
theorem dX9_beginsAnew_5 : decode cX9_beginsAnew 5 = .ok (.putfield 223, 3) := by decide +kernel
theorem dX9_beginsAnew_8 : decode cX9_beginsAnew 8 = .ok (.iconst 0, 1) := by decide +kernel
theorem dX9_beginsAnew_9 : decode cX9_beginsAnew 9 = .ok (.istore_n 1, 1) := by decide +kernel
theorem dX9_beginsAnew_10 : decode cX9_beginsAnew 10 = .ok (.iload_n 1, 1) := by decide +kernel
theorem dX9_beginsAnew_11 : decode cX9_beginsAnew 11 = .ok (.bipush 6, 2) := by decide +kernel
theorem dX9_beginsAnew_13 : decode cX9_beginsAnew 13 = .ok (.if_icmp .ge 33, 3) := by decide +kernel
theorem dX9_beginsAnew_16 : decode cX9_beginsAnew 16 = .ok (.aload_n 0, 1) := by decide +kernel
theorem dX9_beginsAnew_17 : decode cX9_beginsAnew 17 = .ok (.getfield 26, 3) := by decide +kernel
theorem dX9_beginsAnew_20 : decode cX9_beginsAnew 20 = .ok (.iload_n 1, 1) := by decide +kernel
theorem dX9_beginsAnew_21 : decode cX9_beginsAnew 21 = .ok (.iload_n 1, 1) := by decide +kernel
theorem dX9_beginsAnew_22 : decode cX9_beginsAnew 22 = .ok (.aload_n 0, 1) := by decide +kernel
theorem dX9_beginsAnew_23 : decode cX9_beginsAnew 23 = .ok (.getfield 223, 3) := by decide +kernel
theorem dX9_beginsAnew_26 : decode cX9_beginsAnew 26 = .ok (.if_icmp .ge 12, 3) := by decide +kernel
theorem dX9_beginsAnew_29 : decode cX9_beginsAnew 29 = .ok (.aload_n 0, 1) := by decide +kernel
theorem dX9_beginsAnew_30 : decode cX9_beginsAnew 30 = .ok (.getfield 23, 3) := by decide +kernel
theorem dX9_beginsAnew_33 : decode cX9_beginsAnew 33 = .ok (.iload_n 1, 1) := by decide +kernel
theorem dX9_beginsAnew_34 : decode cX9_beginsAnew 34 = .ok (.iaload, 1) := by decide +kernel
theorem dX9_beginsAnew_35 : decode cX9_beginsAnew 35 = .ok (.goto 4, 3) := by decide +kernel
theorem dX9_beginsAnew_38 : decode cX9_beginsAnew 38 = .ok (.iconst 0, 1) := by decide +kernel
theorem dX9_beginsAnew_39 : decode cX9_beginsAnew 39 = .ok (.iastore, 1) := by decide +kernel
theorem dX9_beginsAnew_40 : decode cX9_beginsAnew 40 = .ok (.iinc 1 1, 3) := by decide +kernel
theorem dX9_beginsAnew_43 : decode cX9_beginsAnew 43 = .ok (.goto (-33), 3) := by decide +kernel
theorem dX9_beginsAnew_46 : decode cX9_beginsAnew 46 = .ok (.aload_n 0, 1) := by decide +kernel
theorem dX9_beginsAnew_47 : decode cX9_beginsAnew 47 = .ok (.getfield 31, 3) := by decide +kernel
theorem dX9_beginsAnew_50 : decode cX9_beginsAnew 50 = .ok (.aload_n 0, 1) := by decide +kernel
theorem dX9_beginsAnew_51 : decode cX9_beginsAnew 51 = .ok (.getfield 34, 3) := by decide +kernel
theorem dX9_beginsAnew_54 : decode cX9_beginsAnew 54 = .ok (.aload_n 0, 1) := by decide +kernel
theorem dX9_beginsAnew_55 : decode cX9_beginsAnew 55 = .ok (.getfield 223, 3) := by decide +kernel
theorem dX9_beginsAnew_58 : decode cX9_beginsAnew 58 = .ok (.invokestatic 226, 3) := by decide +kernel
theorem dX9_beginsAnew_61 : decode cX9_beginsAnew 61 = .ok (.iconst 0, 1) := by decide +kernel
theorem dX9_beginsAnew_62 : decode cX9_beginsAnew 62 = .ok (.istore_n 1, 1) := by decide +kernel
theorem dX9_beginsAnew_63 : decode cX9_beginsAnew 63 = .ok (.iload_n 1, 1) := by decide +kernel
theorem dX9_beginsAnew_64 : decode cX9_beginsAnew 64 = .ok (.bipush 14, 2) := by decide +kernel
theorem dX9_beginsAnew_66 : decode cX9_beginsAnew 66 = .ok (.if_icmp .ge 16, 3) := by decide +kernel
theorem dX9_beginsAnew_69 : decode cX9_beginsAnew 69 = .ok (.aload_n 0, 1) := by decide +kernel
theorem dX9_beginsAnew_70 : decode cX9_beginsAnew 70 = .ok (.getfield 58, 3) := by decide +kernel
theorem dX9_beginsAnew_73 : decode cX9_beginsAnew 73 = .ok (.iload_n 1, 1) := by decide +kernel
theorem dX9_beginsAnew_74 : decode cX9_beginsAnew 74 = .ok (.iconst 0, 1) := by decide +kernel
theorem dX9_beginsAnew_75 : decode cX9_beginsAnew 75 = .ok (.iastore, 1) := by decide +kernel
theorem dX9_beginsAnew_76 : decode cX9_beginsAnew 76 = .ok (.iinc 1 1, 3) := by decide +kernel
theorem dX9_beginsAnew_79 : decode cX9_beginsAnew 79 = .ok (.goto (-16), 3) := by decide +kernel
theorem dX9_beginsAnew_82 : decode cX9_beginsAnew 82 = .ok (.iconst 0, 1) := by decide +kernel
theorem dX9_beginsAnew_83 : decode cX9_beginsAnew 83 = .ok (.istore_n 1, 1) := by decide +kernel
theorem dX9_beginsAnew_84 : decode cX9_beginsAnew 84 = .ok (.iload_n 1, 1) := by decide +kernel
theorem dX9_beginsAnew_85 : decode cX9_beginsAnew 85 = .ok (.iconst 4, 1) := by decide +kernel
theorem dX9_beginsAnew_86 : decode cX9_beginsAnew 86 = .ok (.if_icmp .ge 24, 3) := by decide +kernel
theorem dX9_beginsAnew_89 : decode cX9_beginsAnew 89 = .ok (.aload_n 0, 1) := by decide +kernel
theorem dX9_beginsAnew_90 : decode cX9_beginsAnew 90 = .ok (.getfield 58, 3) := by decide +kernel
theorem dX9_beginsAnew_93 : decode cX9_beginsAnew 93 = .ok (.bipush 6, 2) := by decide +kernel
theorem dX9_beginsAnew_95 : decode cX9_beginsAnew 95 = .ok (.iload_n 1, 1) := by decide +kernel
theorem dX9_beginsAnew_96 : decode cX9_beginsAnew 96 = .ok (.iadd, 1) := by decide +kernel
theorem dX9_beginsAnew_97 : decode cX9_beginsAnew 97 = .ok (.aload_n 0, 1) := by decide +kernel
theorem dX9_beginsAnew_98 : decode cX9_beginsAnew 98 = .ok (.getfield 20, 3) := by decide +kernel
theorem dX9_beginsAnew_101 : decode cX9_beginsAnew 101 = .ok (.iload_n 1, 1) := by decide +kernel
theorem dX9_beginsAnew_102 : decode cX9_beginsAnew 102 = .ok (.iaload, 1) := by decide +kernel
theorem dX9_beginsAnew_103 : decode cX9_beginsAnew 103 = .ok (.iastore, 1) := by decide +kernel
theorem dX9_beginsAnew_104 : decode cX9_beginsAnew 104 = .ok (.iinc 1 1, 3) := by decide +kernel
theorem dX9_beginsAnew_107 : decode cX9_beginsAnew 107 = .ok (.goto (-23), 3) := by decide +kernel
theorem dX9_beginsAnew_110 : decode cX9_beginsAnew 110 = .ok (.aload_n 0, 1) := by decide +kernel
theorem dX9_beginsAnew_111 : decode cX9_beginsAnew 111 = .ok (.getfield 58, 3) := by decide +kernel
theorem dX9_beginsAnew_114 : decode cX9_beginsAnew 114 = .ok (.bipush 10, 2) := by decide +kernel
theorem dX9_beginsAnew_116 : decode cX9_beginsAnew 116 = .ok (.aload_n 0, 1) := by decide +kernel
theorem dX9_beginsAnew_117 : decode cX9_beginsAnew 117 = .ok (.getfield 125, 3) := by decide +kernel
theorem dX9_beginsAnew_120 : decode cX9_beginsAnew 120 = .ok (.iastore, 1) := by decide +kernel
theorem dX9_beginsAnew_121 : decode cX9_beginsAnew 121 = .ok (.aload_n 0, 1) := by decide +kernel
theorem dX9_beginsAnew_122 : decode cX9_beginsAnew 122 = .ok (.iconst 0, 1) := by decide +kernel
theorem dX9_beginsAnew_123 : decode cX9_beginsAnew 123 = .ok (.putfield 230, 3) := by decide +kernel
theorem dX9_beginsAnew_126 : decode cX9_beginsAnew 126 = .ok (.aload_n 0, 1) := by decide +kernel
theorem dX9_beginsAnew_127 : decode cX9_beginsAnew 127 = .ok (.iconst 0, 1) := by decide +kernel
theorem dX9_beginsAnew_128 : decode cX9_beginsAnew 128 = .ok (.putfield 233, 3) := by decide +kernel
theorem dX9_beginsAnew_131 : decode cX9_beginsAnew 131 = .ok (.aload_n 0, 1) := by decide +kernel
theorem dX9_beginsAnew_132 : decode cX9_beginsAnew 132 = .ok (.iconst 0, 1) := by decide +kernel
theorem dX9_beginsAnew_133 : decode cX9_beginsAnew 133 = .ok (.putfield 236, 3) := by decide +kernel
theorem dX9_beginsAnew_136 : decode cX9_beginsAnew 136 = .ok (.aload_n 0, 1) := by decide +kernel
theorem dX9_beginsAnew_137 : decode cX9_beginsAnew 137 = .ok (.iconst 0, 1) := by decide +kernel
theorem dX9_beginsAnew_138 : decode cX9_beginsAnew 138 = .ok (.putfield 239, 3) := by decide +kernel
theorem dX9_beginsAnew_141 : decode cX9_beginsAnew 141 = .ok (.aload_n 0, 1) := by decide +kernel
theorem dX9_beginsAnew_142 : decode cX9_beginsAnew 142 = .ok (.iconst 0, 1) := by decide +kernel
theorem dX9_beginsAnew_143 : decode cX9_beginsAnew 143 = .ok (.putfield 242, 3) := by decide +kernel
theorem dX9_beginsAnew_146 : decode cX9_beginsAnew 146 = .ok (.return_, 1) := by decide +kernel
theorem dX9_notes_0 : decode cX9_notes 0 = .ok (.aload_n 0, 1) := by decide +kernel
theorem dX9_notes_1 : decode cX9_notes 1 = .ok (.getfield 144, 3) := by decide +kernel
theorem dX9_notes_4 : decode cX9_notes 4 = .ok (.ifCond .eq 4, 3) := by decide +kernel
theorem dX9_notes_7 : decode cX9_notes 7 = .ok (.return_, 1) := by decide +kernel
theorem dX9_notes_8 : decode cX9_notes 8 = .ok (.aload_n 0, 1) := by decide +kernel
theorem dX9_notes_9 : decode cX9_notes 9 = .ok (.getfield 40, 3) := by decide +kernel
theorem dX9_notes_12 : decode cX9_notes 12 = .ok (.aload_n 0, 1) := by decide +kernel
theorem dX9_notes_13 : decode cX9_notes 13 = .ok (.getfield 245, 3) := by decide +kernel
theorem dX9_notes_16 : decode cX9_notes 16 = .ok (.aaload, 1) := by decide +kernel
theorem dX9_notes_17 : decode cX9_notes 17 = .ok (.iconst 0, 1) := by decide +kernel
theorem dX9_notes_18 : decode cX9_notes 18 = .ok (.iload_n 1, 1) := by decide +kernel
theorem dX9_notes_19 : decode cX9_notes 19 = .ok (.iastore, 1) := by decide +kernel
theorem dX9_notes_20 : decode cX9_notes 20 = .ok (.aload_n 0, 1) := by decide +kernel
theorem dX9_notes_21 : decode cX9_notes 21 = .ok (.getfield 40, 3) := by decide +kernel
theorem dX9_notes_24 : decode cX9_notes 24 = .ok (.aload_n 0, 1) := by decide +kernel
theorem dX9_notes_25 : decode cX9_notes 25 = .ok (.getfield 245, 3) := by decide +kernel
theorem dX9_notes_28 : decode cX9_notes 28 = .ok (.aaload, 1) := by decide +kernel
theorem dX9_notes_29 : decode cX9_notes 29 = .ok (.iconst 1, 1) := by decide +kernel
theorem dX9_notes_30 : decode cX9_notes 30 = .ok (.iload_n 2, 1) := by decide +kernel
theorem dX9_notes_31 : decode cX9_notes 31 = .ok (.iastore, 1) := by decide +kernel
theorem dX9_notes_32 : decode cX9_notes 32 = .ok (.aload_n 0, 1) := by decide +kernel
theorem dX9_notes_33 : decode cX9_notes 33 = .ok (.dup, 1) := by decide +kernel
theorem dX9_notes_34 : decode cX9_notes 34 = .ok (.getfield 245, 3) := by decide +kernel
theorem dX9_notes_37 : decode cX9_notes 37 = .ok (.iconst 1, 1) := by decide +kernel
theorem dX9_notes_38 : decode cX9_notes 38 = .ok (.iadd, 1) := by decide +kernel
theorem dX9_notes_39 : decode cX9_notes 39 = .ok (.putfield 245, 3) := by decide +kernel
theorem dX9_notes_42 : decode cX9_notes 42 = .ok (.return_, 1) := by decide +kernel
theorem dX9_opensOne_0 : decode cX9_opensOne 0 = .ok (.aload_n 0, 1) := by decide +kernel
theorem dX9_opensOne_1 : decode cX9_opensOne 1 = .ok (.getfield 144, 3) := by decide +kernel
theorem dX9_opensOne_4 : decode cX9_opensOne 4 = .ok (.ifCond .ne 24, 3) := by decide +kernel
theorem dX9_opensOne_7 : decode cX9_opensOne 7 = .ok (.aload_n 0, 1) := by decide +kernel
theorem dX9_opensOne_8 : decode cX9_opensOne 8 = .ok (.getfield 187, 3) := by decide +kernel
theorem dX9_opensOne_11 : decode cX9_opensOne 11 = .ok (.bipush 6, 2) := by decide +kernel
theorem dX9_opensOne_13 : decode cX9_opensOne 13 = .ok (.if_icmp .ne 15, 3) := by decide +kernel
theorem dX9_opensOne_16 : decode cX9_opensOne 16 = .ok (.aload_n 0, 1) := by decide +kernel
theorem dX9_opensOne_17 : decode cX9_opensOne 17 = .ok (.iconst 3, 1) := by decide +kernel
theorem dX9_opensOne_18 : decode cX9_opensOne 18 = .ok (.aload_n 0, 1) := by decide +kernel
theorem dX9_opensOne_19 : decode cX9_opensOne 19 = .ok (.getfield 137, 3) := by decide +kernel
theorem dX9_opensOne_22 : decode cX9_opensOne 22 = .ok (.invokevirtual 157, 3) := by decide +kernel
theorem dX9_opensOne_25 : decode cX9_opensOne 25 = .ok (.goto 20, 3) := by decide +kernel
theorem dX9_opensOne_28 : decode cX9_opensOne 28 = .ok (.aload_n 0, 1) := by decide +kernel
theorem dX9_opensOne_29 : decode cX9_opensOne 29 = .ok (.getfield 144, 3) := by decide +kernel
theorem dX9_opensOne_32 : decode cX9_opensOne 32 = .ok (.ifCond .ne 13, 3) := by decide +kernel
theorem dX9_opensOne_35 : decode cX9_opensOne 35 = .ok (.aload_n 0, 1) := by decide +kernel
theorem dX9_opensOne_36 : decode cX9_opensOne 36 = .ok (.dup, 1) := by decide +kernel
theorem dX9_opensOne_37 : decode cX9_opensOne 37 = .ok (.getfield 187, 3) := by decide +kernel
theorem dX9_opensOne_40 : decode cX9_opensOne 40 = .ok (.iconst 1, 1) := by decide +kernel
theorem dX9_opensOne_41 : decode cX9_opensOne 41 = .ok (.iadd, 1) := by decide +kernel
theorem dX9_opensOne_42 : decode cX9_opensOne 42 = .ok (.putfield 187, 3) := by decide +kernel
theorem dX9_opensOne_45 : decode cX9_opensOne 45 = .ok (.aload_n 0, 1) := by decide +kernel
theorem dX9_opensOne_46 : decode cX9_opensOne 46 = .ok (.getfield 144, 3) := by decide +kernel
theorem dX9_opensOne_49 : decode cX9_opensOne 49 = .ok (.ifCond .ne 7, 3) := by decide +kernel
theorem dX9_opensOne_52 : decode cX9_opensOne 52 = .ok (.iconst 1, 1) := by decide +kernel
theorem dX9_opensOne_53 : decode cX9_opensOne 53 = .ok (.goto 4, 3) := by decide +kernel
theorem dX9_opensOne_56 : decode cX9_opensOne 56 = .ok (.iconst 0, 1) := by decide +kernel
theorem dX9_opensOne_57 : decode cX9_opensOne 57 = .ok (.ireturn, 1) := by decide +kernel
theorem dX9_sum_0 : decode cX9_sum 0 = .ok (.aload_n 0, 1) := by decide +kernel
theorem dX9_sum_1 : decode cX9_sum 1 = .ok (.invokevirtual 248, 3) := by decide +kernel
theorem dX9_sum_4 : decode cX9_sum 4 = .ok (.aload_n 0, 1) := by decide +kernel
theorem dX9_sum_5 : decode cX9_sum 5 = .ok (.getfield 144, 3) := by decide +kernel
theorem dX9_sum_8 : decode cX9_sum 8 = .ok (.ifCond .ne 50, 3) := by decide +kernel
theorem dX9_sum_11 : decode cX9_sum 11 = .ok (.aload_n 0, 1) := by decide +kernel
theorem dX9_sum_12 : decode cX9_sum 12 = .ok (.bipush 43, 2) := by decide +kernel
theorem dX9_sum_14 : decode cX9_sum 14 = .ok (.invokevirtual 251, 3) := by decide +kernel
theorem dX9_sum_17 : decode cX9_sum 17 = .ok (.ifCond .eq 7, 3) := by decide +kernel
theorem dX9_sum_20 : decode cX9_sum 20 = .ok (.iconst 2, 1) := by decide +kernel
theorem dX9_sum_21 : decode cX9_sum 21 = .ok (.goto 17, 3) := by decide +kernel
theorem dX9_sum_24 : decode cX9_sum 24 = .ok (.aload_n 0, 1) := by decide +kernel
theorem dX9_sum_25 : decode cX9_sum 25 = .ok (.bipush 45, 2) := by decide +kernel
theorem dX9_sum_27 : decode cX9_sum 27 = .ok (.invokevirtual 251, 3) := by decide +kernel
theorem dX9_sum_30 : decode cX9_sum 30 = .ok (.ifCond .eq 7, 3) := by decide +kernel
theorem dX9_sum_33 : decode cX9_sum 33 = .ok (.iconst 3, 1) := by decide +kernel
theorem dX9_sum_34 : decode cX9_sum 34 = .ok (.goto 4, 3) := by decide +kernel
theorem dX9_sum_37 : decode cX9_sum 37 = .ok (.iconst (-1), 1) := by decide +kernel
theorem dX9_sum_38 : decode cX9_sum 38 = .ok (.istore_n 1, 1) := by decide +kernel
theorem dX9_sum_39 : decode cX9_sum 39 = .ok (.iload_n 1, 1) := by decide +kernel
theorem dX9_sum_40 : decode cX9_sum 40 = .ok (.iconst (-1), 1) := by decide +kernel
theorem dX9_sum_41 : decode cX9_sum 41 = .ok (.if_icmp .ne 4, 3) := by decide +kernel
theorem dX9_sum_44 : decode cX9_sum 44 = .ok (.return_, 1) := by decide +kernel
theorem dX9_sum_45 : decode cX9_sum 45 = .ok (.aload_n 0, 1) := by decide +kernel
theorem dX9_sum_46 : decode cX9_sum 46 = .ok (.invokevirtual 248, 3) := by decide +kernel
theorem dX9_sum_49 : decode cX9_sum 49 = .ok (.aload_n 0, 1) := by decide +kernel
theorem dX9_sum_50 : decode cX9_sum 50 = .ok (.iload_n 1, 1) := by decide +kernel
theorem dX9_sum_51 : decode cX9_sum 51 = .ok (.iconst 0, 1) := by decide +kernel
theorem dX9_sum_52 : decode cX9_sum 52 = .ok (.invokevirtual 254, 3) := by decide +kernel
theorem dX9_sum_55 : decode cX9_sum 55 = .ok (.goto (-51), 3) := by decide +kernel
theorem dX9_sum_58 : decode cX9_sum 58 = .ok (.return_, 1) := by decide +kernel
theorem dX9_product_0 : decode cX9_product 0 = .ok (.aload_n 0, 1) := by decide +kernel
theorem dX9_product_1 : decode cX9_product 1 = .ok (.invokevirtual 257, 3) := by decide +kernel
theorem dX9_product_4 : decode cX9_product 4 = .ok (.aload_n 0, 1) := by decide +kernel
theorem dX9_product_5 : decode cX9_product 5 = .ok (.getfield 144, 3) := by decide +kernel
theorem dX9_product_8 : decode cX9_product 8 = .ok (.ifCond .ne 64, 3) := by decide +kernel
theorem dX9_product_11 : decode cX9_product 11 = .ok (.aload_n 0, 1) := by decide +kernel
theorem dX9_product_12 : decode cX9_product 12 = .ok (.bipush 42, 2) := by decide +kernel
theorem dX9_product_14 : decode cX9_product 14 = .ok (.invokevirtual 251, 3) := by decide +kernel
theorem dX9_product_17 : decode cX9_product 17 = .ok (.ifCond .eq 7, 3) := by decide +kernel
theorem dX9_product_20 : decode cX9_product 20 = .ok (.iconst 4, 1) := by decide +kernel
theorem dX9_product_21 : decode cX9_product 21 = .ok (.goto 31, 3) := by decide +kernel
theorem dX9_product_24 : decode cX9_product 24 = .ok (.aload_n 0, 1) := by decide +kernel
theorem dX9_product_25 : decode cX9_product 25 = .ok (.bipush 47, 2) := by decide +kernel
theorem dX9_product_27 : decode cX9_product 27 = .ok (.invokevirtual 251, 3) := by decide +kernel
theorem dX9_product_30 : decode cX9_product 30 = .ok (.ifCond .eq 7, 3) := by decide +kernel
theorem dX9_product_33 : decode cX9_product 33 = .ok (.iconst 5, 1) := by decide +kernel
theorem dX9_product_34 : decode cX9_product 34 = .ok (.goto 18, 3) := by decide +kernel
theorem dX9_product_37 : decode cX9_product 37 = .ok (.aload_n 0, 1) := by decide +kernel
theorem dX9_product_38 : decode cX9_product 38 = .ok (.bipush 37, 2) := by decide +kernel
theorem dX9_product_40 : decode cX9_product 40 = .ok (.invokevirtual 251, 3) := by decide +kernel
theorem dX9_product_43 : decode cX9_product 43 = .ok (.ifCond .eq 8, 3) := by decide +kernel
theorem dX9_product_46 : decode cX9_product 46 = .ok (.bipush 6, 2) := by decide +kernel
theorem dX9_product_48 : decode cX9_product 48 = .ok (.goto 4, 3) := by decide +kernel
theorem dX9_product_51 : decode cX9_product 51 = .ok (.iconst (-1), 1) := by decide +kernel
theorem dX9_product_52 : decode cX9_product 52 = .ok (.istore_n 1, 1) := by decide +kernel
theorem dX9_product_53 : decode cX9_product 53 = .ok (.iload_n 1, 1) := by decide +kernel
theorem dX9_product_54 : decode cX9_product 54 = .ok (.iconst (-1), 1) := by decide +kernel
theorem dX9_product_55 : decode cX9_product 55 = .ok (.if_icmp .ne 4, 3) := by decide +kernel
theorem dX9_product_58 : decode cX9_product 58 = .ok (.return_, 1) := by decide +kernel
theorem dX9_product_59 : decode cX9_product 59 = .ok (.aload_n 0, 1) := by decide +kernel
theorem dX9_product_60 : decode cX9_product 60 = .ok (.invokevirtual 257, 3) := by decide +kernel
theorem dX9_product_63 : decode cX9_product 63 = .ok (.aload_n 0, 1) := by decide +kernel
theorem dX9_product_64 : decode cX9_product 64 = .ok (.iload_n 1, 1) := by decide +kernel
theorem dX9_product_65 : decode cX9_product 65 = .ok (.iconst 0, 1) := by decide +kernel
theorem dX9_product_66 : decode cX9_product 66 = .ok (.invokevirtual 254, 3) := by decide +kernel
theorem dX9_product_69 : decode cX9_product 69 = .ok (.goto (-65), 3) := by decide +kernel
theorem dX9_product_72 : decode cX9_product 72 = .ok (.return_, 1) := by decide +kernel
theorem dX9_knownHere_0 : decode cX9_knownHere 0 = .ok (.aload_n 0, 1) := by decide +kernel
theorem dX9_knownHere_1 : decode cX9_knownHere 1 = .ok (.bipush 23, 2) := by decide +kernel
theorem dX9_knownHere_3 : decode cX9_knownHere 3 = .ok (.bipush 15, 2) := by decide +kernel
theorem dX9_knownHere_5 : decode cX9_knownHere 5 = .ok (.bipush 18, 2) := by decide +kernel
theorem dX9_knownHere_7 : decode cX9_knownHere 7 = .ok (.iconst 4, 1) := by decide +kernel
theorem dX9_knownHere_8 : decode cX9_knownHere 8 = .ok (.bipush 19, 2) := by decide +kernel
theorem dX9_knownHere_10 : decode cX9_knownHere 10 = .ok (.iconst 0, 1) := by decide +kernel
theorem dX9_knownHere_11 : decode cX9_knownHere 11 = .ok (.invokevirtual 260, 3) := by decide +kernel
theorem dX9_knownHere_14 : decode cX9_knownHere 14 = .ok (.ifCond .eq 5, 3) := by decide +kernel
theorem dX9_knownHere_17 : decode cX9_knownHere 17 = .ok (.iconst 0, 1) := by decide +kernel
theorem dX9_knownHere_18 : decode cX9_knownHere 18 = .ok (.ireturn, 1) := by decide +kernel
theorem dX9_knownHere_19 : decode cX9_knownHere 19 = .ok (.aload_n 0, 1) := by decide +kernel
theorem dX9_knownHere_20 : decode cX9_knownHere 20 = .ok (.bipush 19, 2) := by decide +kernel
theorem dX9_knownHere_22 : decode cX9_knownHere 22 = .ok (.bipush 20, 2) := by decide +kernel
theorem dX9_knownHere_24 : decode cX9_knownHere 24 = .ok (.bipush 18, 2) := by decide +kernel
theorem dX9_knownHere_26 : decode cX9_knownHere 26 = .ok (.bipush 21, 2) := by decide +kernel
theorem dX9_knownHere_28 : decode cX9_knownHere 28 = .ok (.iconst 3, 1) := by decide +kernel
theorem dX9_knownHere_29 : decode cX9_knownHere 29 = .ok (.bipush 11, 2) := by decide +kernel
theorem dX9_knownHere_31 : decode cX9_knownHere 31 = .ok (.invokevirtual 260, 3) := by decide +kernel
theorem dX9_knownHere_34 : decode cX9_knownHere 34 = .ok (.ifCond .eq 5, 3) := by decide +kernel
theorem dX9_knownHere_37 : decode cX9_knownHere 37 = .ok (.iconst 1, 1) := by decide +kernel
theorem dX9_knownHere_38 : decode cX9_knownHere 38 = .ok (.ireturn, 1) := by decide +kernel
theorem dX9_knownHere_39 : decode cX9_knownHere 39 = .ok (.aload_n 0, 1) := by decide +kernel
theorem dX9_knownHere_40 : decode cX9_knownHere 40 = .ok (.bipush 6, 2) := by decide +kernel
theorem dX9_knownHere_42 : decode cX9_knownHere 42 = .ok (.bipush 9, 2) := by decide +kernel
theorem dX9_knownHere_44 : decode cX9_knownHere 44 = .ok (.bipush 18, 2) := by decide +kernel
theorem dX9_knownHere_46 : decode cX9_knownHere 46 = .ok (.bipush 19, 2) := by decide +kernel
theorem dX9_knownHere_48 : decode cX9_knownHere 48 = .ok (.bipush 20, 2) := by decide +kernel
theorem dX9_knownHere_50 : decode cX9_knownHere 50 = .ok (.iconst 0, 1) := by decide +kernel
theorem dX9_knownHere_51 : decode cX9_knownHere 51 = .ok (.invokevirtual 260, 3) := by decide +kernel
theorem dX9_knownHere_54 : decode cX9_knownHere 54 = .ok (.ifCond .eq 5, 3) := by decide +kernel
theorem dX9_knownHere_57 : decode cX9_knownHere 57 = .ok (.iconst 2, 1) := by decide +kernel
theorem dX9_knownHere_58 : decode cX9_knownHere 58 = .ok (.ireturn, 1) := by decide +kernel
theorem dX9_knownHere_59 : decode cX9_knownHere 59 = .ok (.aload_n 0, 1) := by decide +kernel
theorem dX9_knownHere_60 : decode cX9_knownHere 60 = .ok (.bipush 12, 2) := by decide +kernel
theorem dX9_knownHere_62 : decode cX9_knownHere 62 = .ok (.bipush 9, 2) := by decide +kernel
theorem dX9_knownHere_64 : decode cX9_knownHere 64 = .ok (.bipush 14, 2) := by decide +kernel
theorem dX9_knownHere_66 : decode cX9_knownHere 66 = .ok (.iconst 5, 1) := by decide +kernel
theorem dX9_knownHere_67 : decode cX9_knownHere 67 = .ok (.iconst 0, 1) := by decide +kernel
theorem dX9_knownHere_68 : decode cX9_knownHere 68 = .ok (.iconst 0, 1) := by decide +kernel
theorem dX9_knownHere_69 : decode cX9_knownHere 69 = .ok (.invokevirtual 260, 3) := by decide +kernel
theorem dX9_knownHere_72 : decode cX9_knownHere 72 = .ok (.ifCond .eq 5, 3) := by decide +kernel
theorem dX9_knownHere_75 : decode cX9_knownHere 75 = .ok (.iconst 3, 1) := by decide +kernel
theorem dX9_knownHere_76 : decode cX9_knownHere 76 = .ok (.ireturn, 1) := by decide +kernel
theorem dX9_knownHere_77 : decode cX9_knownHere 77 = .ok (.aload_n 0, 1) := by decide +kernel
theorem dX9_knownHere_78 : decode cX9_knownHere 78 = .ok (.bipush 12, 2) := by decide +kernel
theorem dX9_knownHere_80 : decode cX9_knownHere 80 = .ok (.iconst 5, 1) := by decide +kernel
theorem dX9_knownHere_81 : decode cX9_knownHere 81 = .ok (.bipush 6, 2) := by decide +kernel
theorem dX9_knownHere_83 : decode cX9_knownHere 83 = .ok (.bipush 20, 2) := by decide +kernel
theorem dX9_knownHere_85 : decode cX9_knownHere 85 = .ok (.iconst 0, 1) := by decide +kernel
theorem dX9_knownHere_86 : decode cX9_knownHere 86 = .ok (.iconst 0, 1) := by decide +kernel
theorem dX9_knownHere_87 : decode cX9_knownHere 87 = .ok (.invokevirtual 260, 3) := by decide +kernel
theorem dX9_knownHere_90 : decode cX9_knownHere 90 = .ok (.ifCond .eq 5, 3) := by decide +kernel
theorem dX9_knownHere_93 : decode cX9_knownHere 93 = .ok (.iconst 4, 1) := by decide +kernel
theorem dX9_knownHere_94 : decode cX9_knownHere 94 = .ok (.ireturn, 1) := by decide +kernel
theorem dX9_knownHere_95 : decode cX9_knownHere 95 = .ok (.aload_n 0, 1) := by decide +kernel
theorem dX9_knownHere_96 : decode cX9_knownHere 96 = .ok (.bipush 9, 2) := by decide +kernel
theorem dX9_knownHere_98 : decode cX9_knownHere 98 = .ok (.bipush 14, 2) := by decide +kernel
theorem dX9_knownHere_100 : decode cX9_knownHere 100 = .ok (.bipush 11, 2) := by decide +kernel
theorem dX9_knownHere_102 : decode cX9_knownHere 102 = .ok (.iconst 0, 1) := by decide +kernel
theorem dX9_knownHere_103 : decode cX9_knownHere 103 = .ok (.iconst 0, 1) := by decide +kernel
theorem dX9_knownHere_104 : decode cX9_knownHere 104 = .ok (.iconst 0, 1) := by decide +kernel
theorem dX9_knownHere_105 : decode cX9_knownHere 105 = .ok (.invokevirtual 260, 3) := by decide +kernel
theorem dX9_knownHere_108 : decode cX9_knownHere 108 = .ok (.ifCond .eq 5, 3) := by decide +kernel
theorem dX9_knownHere_111 : decode cX9_knownHere 111 = .ok (.iconst 5, 1) := by decide +kernel
theorem dX9_knownHere_112 : decode cX9_knownHere 112 = .ok (.ireturn, 1) := by decide +kernel
theorem dX9_knownHere_113 : decode cX9_knownHere 113 = .ok (.aload_n 0, 1) := by decide +kernel
theorem dX9_knownHere_114 : decode cX9_knownHere 114 = .ok (.iconst 3, 1) := by decide +kernel
theorem dX9_knownHere_115 : decode cX9_knownHere 115 = .ok (.iconst 5, 1) := by decide +kernel
theorem dX9_knownHere_116 : decode cX9_knownHere 116 = .ok (.bipush 12, 2) := by decide +kernel
theorem dX9_knownHere_118 : decode cX9_knownHere 118 = .ok (.bipush 12, 2) := by decide +kernel
theorem dX9_knownHere_120 : decode cX9_knownHere 120 = .ok (.iconst 0, 1) := by decide +kernel
theorem dX9_knownHere_121 : decode cX9_knownHere 121 = .ok (.iconst 0, 1) := by decide +kernel
theorem dX9_knownHere_122 : decode cX9_knownHere 122 = .ok (.invokevirtual 260, 3) := by decide +kernel
theorem dX9_knownHere_125 : decode cX9_knownHere 125 = .ok (.ifCond .eq 8, 3) := by decide +kernel
theorem dX9_knownHere_128 : decode cX9_knownHere 128 = .ok (.bipush 6, 2) := by decide +kernel
theorem dX9_knownHere_130 : decode cX9_knownHere 130 = .ok (.goto 4, 3) := by decide +kernel
theorem dX9_knownHere_133 : decode cX9_knownHere 133 = .ok (.iconst (-1), 1) := by decide +kernel
