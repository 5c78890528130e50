theorem dX8_sentence_30 : decode cX8_sentence 30 = .ok (.isub, 1) := by decide +kernel
theorem dX8_sentence_31 : decode cX8_sentence 31 = .ok (.ireturn, 1) := by decide +kernel
theorem dX8_sentence_32 : decode cX8_sentence 32 = .ok (.aload_n 0, 1) := by decide +kernel
theorem dX8_sentence_33 : decode cX8_sentence 33 = .ok (.getfield 39, 3) := by decide +kernel
theorem dX8_sentence_36 : decode cX8_sentence 36 = .ok (.aload_n 0, 1) := by decide +kernel
theorem dX8_sentence_37 : decode cX8_sentence 37 = .ok (.getfield 43, 3) := by decide +kernel
theorem dX8_sentence_40 : decode cX8_sentence 40 = .ok (.invokevirtual 153, 3) := by decide +kernel
theorem dX8_sentence_43 : decode cX8_sentence 43 = .ok (.aload_n 0, 1) := by decide +kernel
theorem dX8_sentence_44 : decode cX8_sentence 44 = .ok (.getfield 39, 3) := by decide +kernel
theorem dX8_sentence_47 : decode cX8_sentence 47 = .ok (.getfield 106, 3) := by decide +kernel
theorem dX8_sentence_50 : decode cX8_sentence 50 = .ok (.ireturn, 1) := by decide +kernel
theorem dX8_fault_0 : decode cX8_fault 0 = .ok (.aload_n 0, 1) := by decide +kernel
theorem dX8_fault_1 : decode cX8_fault 1 = .ok (.getfield 10, 3) := by decide +kernel
theorem dX8_fault_4 : decode cX8_fault 4 = .ok (.getfield 156, 3) := by decide +kernel
theorem dX8_fault_7 : decode cX8_fault 7 = .ok (.ireturn, 1) := by decide +kernel
theorem dX8_openText_0 : decode cX8_openText 0 = .ok (.aload_n 0, 1) := by decide +kernel
theorem dX8_openText_1 : decode cX8_openText 1 = .ok (.iload_n 1, 1) := by decide +kernel
theorem dX8_openText_2 : decode cX8_openText 2 = .ok (.ifCond .lt 23, 3) := by decide +kernel
theorem dX8_openText_5 : decode cX8_openText 5 = .ok (.iload_n 1, 1) := by decide +kernel
theorem dX8_openText_6 : decode cX8_openText 6 = .ok (.iload_n 2, 1) := by decide +kernel
theorem dX8_openText_7 : decode cX8_openText 7 = .ok (.if_icmp .gt 18, 3) := by decide +kernel
theorem dX8_openText_10 : decode cX8_openText 10 = .ok (.iload_n 1, 1) := by decide +kernel
theorem dX8_openText_11 : decode cX8_openText 11 = .ok (.aload_n 0, 1) := by decide +kernel
theorem dX8_openText_12 : decode cX8_openText 12 = .ok (.getfield 10, 3) := by decide +kernel
theorem dX8_openText_15 : decode cX8_openText 15 = .ok (.getfield 81, 3) := by decide +kernel
theorem dX8_openText_18 : decode cX8_openText 18 = .ok (.if_icmp .gt 7, 3) := by decide +kernel
theorem dX8_openText_21 : decode cX8_openText 21 = .ok (.iconst 1, 1) := by decide +kernel
theorem dX8_openText_22 : decode cX8_openText 22 = .ok (.goto 4, 3) := by decide +kernel
theorem dX8_openText_25 : decode cX8_openText 25 = .ok (.iconst 0, 1) := by decide +kernel
theorem dX8_openText_26 : decode cX8_openText 26 = .ok (.invokevirtual 159, 3) := by decide +kernel
theorem dX8_openText_29 : decode cX8_openText 29 = .ok (.aload_n 0, 1) := by decide +kernel
theorem dX8_openText_30 : decode cX8_openText 30 = .ok (.getfield 10, 3) := by decide +kernel
theorem dX8_openText_33 : decode cX8_openText 33 = .ok (.iload_n 1, 1) := by decide +kernel
theorem dX8_openText_34 : decode cX8_openText 34 = .ok (.invokevirtual 163, 3) := by decide +kernel
theorem dX8_openText_37 : decode cX8_openText 37 = .ok (.return_, 1) := by decide +kernel
theorem dX8_undo_0 : decode cX8_undo 0 = .ok (.aload_n 0, 1) := by decide +kernel
theorem dX8_undo_1 : decode cX8_undo 1 = .ok (.getfield 68, 3) := by decide +kernel
theorem dX8_undo_4 : decode cX8_undo 4 = .ok (.aload_n 0, 1) := by decide +kernel
theorem dX8_undo_5 : decode cX8_undo 5 = .ok (.getfield 58, 3) := by decide +kernel
theorem dX8_undo_8 : decode cX8_undo 8 = .ok (.invokevirtual 166, 3) := by decide +kernel
theorem dX8_undo_11 : decode cX8_undo 11 = .ok (.ifCond .ne 5, 3) := by decide +kernel
theorem dX8_undo_14 : decode cX8_undo 14 = .ok (.iconst (-1), 1) := by decide +kernel
theorem dX8_undo_15 : decode cX8_undo 15 = .ok (.ireturn, 1) := by decide +kernel
theorem dX8_undo_16 : decode cX8_undo 16 = .ok (.aload_n 0, 1) := by decide +kernel
theorem dX8_undo_17 : decode cX8_undo 17 = .ok (.iconst 0, 1) := by decide +kernel
theorem dX8_undo_18 : decode cX8_undo 18 = .ok (.putfield 115, 3) := by decide +kernel
theorem dX8_undo_21 : decode cX8_undo 21 = .ok (.aload_n 0, 1) := by decide +kernel
theorem dX8_undo_22 : decode cX8_undo 22 = .ok (.getfield 68, 3) := by decide +kernel
theorem dX8_undo_25 : decode cX8_undo 25 = .ok (.getfield 125, 3) := by decide +kernel
theorem dX8_undo_28 : decode cX8_undo 28 = .ok (.ireturn, 1) := by decide +kernel
theorem dX8_image_0 : decode cX8_image 0 = .ok (.aload_n 0, 1) := by decide +kernel
theorem dX8_image_1 : decode cX8_image 1 = .ok (.getfield 68, 3) := by decide +kernel
theorem dX8_image_4 : decode cX8_image 4 = .ok (.aload_n 0, 1) := by decide +kernel
theorem dX8_image_5 : decode cX8_image 5 = .ok (.getfield 58, 3) := by decide +kernel
theorem dX8_image_8 : decode cX8_image 8 = .ok (.invokevirtual 170, 3) := by decide +kernel
theorem dX8_image_11 : decode cX8_image 11 = .ok (.ifCond .eq 13, 3) := by decide +kernel
theorem dX8_image_14 : decode cX8_image 14 = .ok (.aload_n 0, 1) := by decide +kernel
theorem dX8_image_15 : decode cX8_image 15 = .ok (.getfield 68, 3) := by decide +kernel
theorem dX8_image_18 : decode cX8_image 18 = .ok (.getfield 173, 3) := by decide +kernel
theorem dX8_image_21 : decode cX8_image 21 = .ok (.goto 4, 3) := by decide +kernel
theorem dX8_image_24 : decode cX8_image 24 = .ok (.iconst (-1), 1) := by decide +kernel
theorem dX8_image_25 : decode cX8_image 25 = .ok (.ireturn, 1) := by decide +kernel
theorem dX8_restore_0 : decode cX8_restore 0 = .ok (.aload_n 0, 1) := by decide +kernel
theorem dX8_restore_1 : decode cX8_restore 1 = .ok (.getfield 68, 3) := by decide +kernel
theorem dX8_restore_4 : decode cX8_restore 4 = .ok (.aload_n 0, 1) := by decide +kernel
theorem dX8_restore_5 : decode cX8_restore 5 = .ok (.getfield 58, 3) := by decide +kernel
theorem dX8_restore_8 : decode cX8_restore 8 = .ok (.invokevirtual 176, 3) := by decide +kernel
theorem dX8_restore_11 : decode cX8_restore 11 = .ok (.ifCond .ne 5, 3) := by decide +kernel
theorem dX8_restore_14 : decode cX8_restore 14 = .ok (.iconst (-1), 1) := by decide +kernel
theorem dX8_restore_15 : decode cX8_restore 15 = .ok (.ireturn, 1) := by decide +kernel
theorem dX8_restore_16 : decode cX8_restore 16 = .ok (.aload_n 0, 1) := by decide +kernel
theorem dX8_restore_17 : decode cX8_restore 17 = .ok (.iconst 0, 1) := by decide +kernel
theorem dX8_restore_18 : decode cX8_restore 18 = .ok (.putfield 115, 3) := by decide +kernel
theorem dX8_restore_21 : decode cX8_restore 21 = .ok (.aload_n 0, 1) := by decide +kernel
theorem dX8_restore_22 : decode cX8_restore 22 = .ok (.getfield 68, 3) := by decide +kernel
theorem dX8_restore_25 : decode cX8_restore 25 = .ok (.getfield 173, 3) := by decide +kernel
theorem dX8_restore_28 : decode cX8_restore 28 = .ok (.ireturn, 1) := by decide +kernel
theorem dX8_apart_0 : decode cX8_apart 0 = .ok (.aload_n 0, 1) := by decide +kernel
theorem dX8_apart_1 : decode cX8_apart 1 = .ok (.getfield 68, 3) := by decide +kernel
theorem dX8_apart_4 : decode cX8_apart 4 = .ok (.getfield 173, 3) := by decide +kernel
theorem dX8_apart_7 : decode cX8_apart 7 = .ok (.ifCond .ne 5, 3) := by decide +kernel
theorem dX8_apart_10 : decode cX8_apart 10 = .ok (.iconst (-1), 1) := by decide +kernel
theorem dX8_apart_11 : decode cX8_apart 11 = .ok (.ireturn, 1) := by decide +kernel
theorem dX8_apart_12 : decode cX8_apart 12 = .ok (.iconst 0, 1) := by decide +kernel
theorem dX8_apart_13 : decode cX8_apart 13 = .ok (.istore_n 1, 1) := by decide +kernel
theorem dX8_apart_14 : decode cX8_apart 14 = .ok (.iconst 0, 1) := by decide +kernel
theorem dX8_apart_15 : decode cX8_apart 15 = .ok (.istore_n 2, 1) := by decide +kernel
theorem dX8_apart_16 : decode cX8_apart 16 = .ok (.iload_n 2, 1) := by decide +kernel
theorem dX8_apart_17 : decode cX8_apart 17 = .ok (.aload_n 0, 1) := by decide +kernel
theorem dX8_apart_18 : decode cX8_apart 18 = .ok (.getfield 19, 3) := by decide +kernel
theorem dX8_apart_21 : decode cX8_apart 21 = .ok (.getfield 128, 3) := by decide +kernel
theorem dX8_apart_24 : decode cX8_apart 24 = .ok (.if_icmp .ge 33, 3) := by decide +kernel
theorem dX8_apart_27 : decode cX8_apart 27 = .ok (.iload_n 1, 1) := by decide +kernel
theorem dX8_apart_28 : decode cX8_apart 28 = .ok (.aload_n 0, 1) := by decide +kernel
theorem dX8_apart_29 : decode cX8_apart 29 = .ok (.getfield 58, 3) := by decide +kernel
theorem dX8_apart_32 : decode cX8_apart 32 = .ok (.getfield 179, 3) := by decide +kernel
theorem dX8_apart_35 : decode cX8_apart 35 = .ok (.iload_n 2, 1) := by decide +kernel
theorem dX8_apart_36 : decode cX8_apart 36 = .ok (.iaload, 1) := by decide +kernel
theorem dX8_apart_37 : decode cX8_apart 37 = .ok (.aload_n 0, 1) := by decide +kernel
theorem dX8_apart_38 : decode cX8_apart 38 = .ok (.getfield 68, 3) := by decide +kernel
theorem dX8_apart_41 : decode cX8_apart 41 = .ok (.iload_n 2, 1) := by decide +kernel
theorem dX8_apart_42 : decode cX8_apart 42 = .ok (.invokevirtual 183, 3) := by decide +kernel
theorem dX8_apart_45 : decode cX8_apart 45 = .ok (.ixor, 1) := by decide +kernel
theorem dX8_apart_46 : decode cX8_apart 46 = .ok (.invokestatic 187, 3) := by decide +kernel
theorem dX8_apart_49 : decode cX8_apart 49 = .ok (.iadd, 1) := by decide +kernel
theorem dX8_apart_50 : decode cX8_apart 50 = .ok (.istore_n 1, 1) := by decide +kernel
theorem dX8_apart_51 : decode cX8_apart 51 = .ok (.iinc 2 1, 3) := by decide +kernel
theorem dX8_apart_54 : decode cX8_apart 54 = .ok (.goto (-38), 3) := by decide +kernel
theorem dX8_apart_57 : decode cX8_apart 57 = .ok (.iload_n 1, 1) := by decide +kernel
theorem dX8_apart_58 : decode cX8_apart 58 = .ok (.ireturn, 1) := by decide +kernel
theorem dX8_mends_0 : decode cX8_mends 0 = .ok (.aload_n 0, 1) := by decide +kernel
theorem dX8_mends_1 : decode cX8_mends 1 = .ok (.getfield 68, 3) := by decide +kernel
theorem dX8_mends_4 : decode cX8_mends 4 = .ok (.getfield 173, 3) := by decide +kernel
theorem dX8_mends_7 : decode cX8_mends 7 = .ok (.ifCond .ne 5, 3) := by decide +kernel
theorem dX8_mends_10 : decode cX8_mends 10 = .ok (.iconst (-1), 1) := by decide +kernel
theorem dX8_mends_11 : decode cX8_mends 11 = .ok (.ireturn, 1) := by decide +kernel
theorem dX8_mends_12 : decode cX8_mends 12 = .ok (.iconst 0, 1) := by decide +kernel
theorem dX8_mends_13 : decode cX8_mends 13 = .ok (.istore_n 1, 1) := by decide +kernel
theorem dX8_mends_14 : decode cX8_mends 14 = .ok (.iconst 0, 1) := by decide +kernel
theorem dX8_mends_15 : decode cX8_mends 15 = .ok (.istore_n 2, 1) := by decide +kernel
theorem dX8_mends_16 : decode cX8_mends 16 = .ok (.iload_n 2, 1) := by decide +kernel
theorem dX8_mends_17 : decode cX8_mends 17 = .ok (.aload_n 0, 1) := by decide +kernel
theorem dX8_mends_18 : decode cX8_mends 18 = .ok (.getfield 19, 3) := by decide +kernel
theorem dX8_mends_21 : decode cX8_mends 21 = .ok (.getfield 128, 3) := by decide +kernel
theorem dX8_mends_24 : decode cX8_mends 24 = .ok (.if_icmp .ge 41, 3) := by decide +kernel
theorem dX8_mends_27 : decode cX8_mends 27 = .ok (.aload_n 0, 1) := by decide +kernel
theorem dX8_mends_28 : decode cX8_mends 28 = .ok (.getfield 58, 3) := by decide +kernel
theorem dX8_mends_31 : decode cX8_mends 31 = .ok (.getfield 179, 3) := by decide +kernel
theorem dX8_mends_34 : decode cX8_mends 34 = .ok (.iload_n 2, 1) := by decide +kernel
theorem dX8_mends_35 : decode cX8_mends 35 = .ok (.iaload, 1) := by decide +kernel
theorem dX8_mends_36 : decode cX8_mends 36 = .ok (.aload_n 0, 1) := by decide +kernel
theorem dX8_mends_37 : decode cX8_mends 37 = .ok (.getfield 68, 3) := by decide +kernel
theorem dX8_mends_40 : decode cX8_mends 40 = .ok (.iload_n 2, 1) := by decide +kernel
theorem dX8_mends_41 : decode cX8_mends 41 = .ok (.invokevirtual 183, 3) := by decide +kernel
theorem dX8_mends_44 : decode cX8_mends 44 = .ok (.ixor, 1) := by decide +kernel
theorem dX8_mends_45 : decode cX8_mends 45 = .ok (.istore_n 3, 1) := by decide +kernel
theorem dX8_mends_46 : decode cX8_mends 46 = .ok (.iload_n 1, 1) := by decide +kernel
theorem dX8_mends_47 : decode cX8_mends 47 = .ok (.iload_n 3, 1) := by decide +kernel
theorem dX8_mends_48 : decode cX8_mends 48 = .ok (.iload_n 3, 1) := by decide +kernel
theorem dX8_mends_49 : decode cX8_mends 49 = .ok (.iconst 1, 1) := by decide +kernel
theorem dX8_mends_50 : decode cX8_mends 50 = .ok (.ishl, 1) := by decide +kernel
theorem dX8_mends_51 : decode cX8_mends 51 = .ok (.iconst (-1), 1) := by decide +kernel
theorem dX8_mends_52 : decode cX8_mends 52 = .ok (.ixor, 1) := by decide +kernel
theorem dX8_mends_53 : decode cX8_mends 53 = .ok (.iand, 1) := by decide +kernel
theorem dX8_mends_54 : decode cX8_mends 54 = .ok (.invokestatic 187, 3) := by decide +kernel
theorem dX8_mends_57 : decode cX8_mends 57 = .ok (.iadd, 1) := by decide +kernel
theorem dX8_mends_58 : decode cX8_mends 58 = .ok (.istore_n 1, 1) := by decide +kernel
theorem dX8_mends_59 : decode cX8_mends 59 = .ok (.iinc 2 1, 3) := by decide +kernel
theorem dX8_mends_62 : decode cX8_mends 62 = .ok (.goto (-46), 3) := by decide +kernel
theorem dX8_mends_65 : decode cX8_mends 65 = .ok (.iload_n 1, 1) := by decide +kernel
theorem dX8_mends_66 : decode cX8_mends 66 = .ok (.ireturn, 1) := by decide +kernel
theorem dX8_told_0 : decode cX8_told 0 = .ok (.aload_n 0, 1) := by decide +kernel
theorem dX8_told_1 : decode cX8_told 1 = .ok (.iload_n 1, 1) := by decide +kernel
theorem dX8_told_2 : decode cX8_told 2 = .ok (.ifCond .lt 13, 3) := by decide +kernel
theorem dX8_told_5 : decode cX8_told 5 = .ok (.iload_n 1, 1) := by decide +kernel
theorem dX8_told_6 : decode cX8_told 6 = .ok (.bipush 10, 2) := by decide +kernel
theorem dX8_told_8 : decode cX8_told 8 = .ok (.if_icmp .gt 7, 3) := by decide +kernel
theorem dX8_told_11 : decode cX8_told 11 = .ok (.iconst 1, 1) := by decide +kernel
theorem dX8_told_12 : decode cX8_told 12 = .ok (.goto 4, 3) := by decide +kernel
theorem dX8_told_15 : decode cX8_told 15 = .ok (.iconst 0, 1) := by decide +kernel
theorem dX8_told_16 : decode cX8_told 16 = .ok (.invokevirtual 159, 3) := by decide +kernel
theorem dX8_told_19 : decode cX8_told 19 = .ok (.iload_n 1, 1) := by decide +kernel
theorem dX8_told_20 : decode cX8_told 20 = .ok (.tableswitch 133 0 9 #[56, 64, 72, 80, 88, 96, 104, 112, 120, 128], 56) := by decide +kernel
theorem dX8_told_76 : decode cX8_told 76 = .ok (.aload_n 0, 1) := by decide +kernel
theorem dX8_told_77 : decode cX8_told 77 = .ok (.getfield 19, 3) := by decide +kernel
theorem dX8_told_80 : decode cX8_told 80 = .ok (.getfield 128, 3) := by decide +kernel
theorem dX8_told_83 : decode cX8_told 83 = .ok (.ireturn, 1) := by decide +kernel
theorem dX8_told_84 : decode cX8_told 84 = .ok (.aload_n 0, 1) := by decide +kernel
theorem dX8_told_85 : decode cX8_told 85 = .ok (.getfield 19, 3) := by decide +kernel
theorem dX8_told_88 : decode cX8_told 88 = .ok (.getfield 118, 3) := by decide +kernel
theorem dX8_told_91 : decode cX8_told 91 = .ok (.ireturn, 1) := by decide +kernel
theorem dX8_told_92 : decode cX8_told 92 = .ok (.aload_n 0, 1) := by decide +kernel
theorem dX8_told_93 : decode cX8_told 93 = .ok (.getfield 58, 3) := by decide +kernel
theorem dX8_told_96 : decode cX8_told 96 = .ok (.invokevirtual 192, 3) := by decide +kernel
theorem dX8_told_99 : decode cX8_told 99 = .ok (.ireturn, 1) := by decide +kernel
theorem dX8_told_100 : decode cX8_told 100 = .ok (.aload_n 0, 1) := by decide +kernel
theorem dX8_told_101 : decode cX8_told 101 = .ok (.getfield 58, 3) := by decide +kernel
theorem dX8_told_104 : decode cX8_told 104 = .ok (.getfield 196, 3) := by decide +kernel
theorem dX8_told_107 : decode cX8_told 107 = .ok (.ireturn, 1) := by decide +kernel
theorem dX8_told_108 : decode cX8_told 108 = .ok (.aload_n 0, 1) := by decide +kernel
theorem dX8_told_109 : decode cX8_told 109 = .ok (.getfield 58, 3) := by decide +kernel
theorem dX8_told_112 : decode cX8_told 112 = .ok (.getfield 199, 3) := by decide +kernel
theorem dX8_told_115 : decode cX8_told 115 = .ok (.ireturn, 1) := by decide +kernel
theorem dX8_told_116 : decode cX8_told 116 = .ok (.aload_n 0, 1) := by decide +kernel
theorem dX8_told_117 : decode cX8_told 117 = .ok (.getfield 58, 3) := by decide +kernel
theorem dX8_told_120 : decode cX8_told 120 = .ok (.getfield 202, 3) := by decide +kernel
theorem dX8_told_123 : decode cX8_told 123 = .ok (.ireturn, 1) := by decide +kernel
theorem dX8_told_124 : decode cX8_told 124 = .ok (.aload_n 0, 1) := by decide +kernel
theorem dX8_told_125 : decode cX8_told 125 = .ok (.getfield 58, 3) := by decide +kernel
theorem dX8_told_128 : decode cX8_told 128 = .ok (.getfield 205, 3) := by decide +kernel
theorem dX8_told_131 : decode cX8_told 131 = .ok (.ireturn, 1) := by decide +kernel
theorem dX8_told_132 : decode cX8_told 132 = .ok (.aload_n 0, 1) := by decide +kernel
theorem dX8_told_133 : decode cX8_told 133 = .ok (.getfield 58, 3) := by decide +kernel
theorem dX8_told_136 : decode cX8_told 136 = .ok (.invokevirtual 208, 3) := by decide +kernel
theorem dX8_told_139 : decode cX8_told 139 = .ok (.ireturn, 1) := by decide +kernel
theorem dX8_told_140 : decode cX8_told 140 = .ok (.aload_n 0, 1) := by decide +kernel
theorem dX8_told_141 : decode cX8_told 141 = .ok (.getfield 39, 3) := by decide +kernel
theorem dX8_told_144 : decode cX8_told 144 = .ok (.getfield 106, 3) := by decide +kernel
theorem dX8_told_147 : decode cX8_told 147 = .ok (.ireturn, 1) := by decide +kernel
theorem dX8_told_148 : decode cX8_told 148 = .ok (.aload_n 0, 1) := by decide +kernel
theorem dX8_told_149 : decode cX8_told 149 = .ok (.getfield 115, 3) := by decide +kernel
theorem dX8_told_152 : decode cX8_told 152 = .ok (.ireturn, 1) := by decide +kernel
theorem dX8_told_153 : decode cX8_told 153 = .ok (.aload_n 0, 1) := by decide +kernel
theorem dX8_told_154 : decode cX8_told 154 = .ok (.invokevirtual 211, 3) := by decide +kernel
theorem dX8_told_157 : decode cX8_told 157 = .ok (.ireturn, 1) := by decide +kernel
theorem dX8_emptyLines_0 : decode cX8_emptyLines 0 = .ok (.iconst 0, 1) := by decide +kernel
theorem dX8_emptyLines_1 : decode cX8_emptyLines 1 = .ok (.istore_n 1, 1) := by decide +kernel
theorem dX8_emptyLines_2 : decode cX8_emptyLines 2 = .ok (.iconst 0, 1) := by decide +kernel
theorem dX8_emptyLines_3 : decode cX8_emptyLines 3 = .ok (.istore_n 2, 1) := by decide +kernel
theorem dX8_emptyLines_4 : decode cX8_emptyLines 4 = .ok (.iload_n 2, 1) := by decide +kernel
theorem dX8_emptyLines_5 : decode cX8_emptyLines 5 = .ok (.aload_n 0, 1) := by decide +kernel
theorem dX8_emptyLines_6 : decode cX8_emptyLines 6 = .ok (.getfield 19, 3) := by decide +kernel
theorem dX8_emptyLines_9 : decode cX8_emptyLines 9 = .ok (.getfield 128, 3) := by decide +kernel
theorem dX8_emptyLines_12 : decode cX8_emptyLines 12 = .ok (.if_icmp .ge 26, 3) := by decide +kernel
theorem dX8_emptyLines_15 : decode cX8_emptyLines 15 = .ok (.aload_n 0, 1) := by decide +kernel
theorem dX8_emptyLines_16 : decode cX8_emptyLines 16 = .ok (.getfield 58, 3) := by decide +kernel
theorem dX8_emptyLines_19 : decode cX8_emptyLines 19 = .ok (.iload_n 2, 1) := by decide +kernel
theorem dX8_emptyLines_20 : decode cX8_emptyLines 20 = .ok (.invokevirtual 214, 3) := by decide +kernel
theorem dX8_emptyLines_23 : decode cX8_emptyLines 23 = .ok (.ifCond .ne 9, 3) := by decide +kernel
theorem dX8_emptyLines_26 : decode cX8_emptyLines 26 = .ok (.iload_n 1, 1) := by decide +kernel
theorem dX8_emptyLines_27 : decode cX8_emptyLines 27 = .ok (.iconst 1, 1) := by decide +kernel
theorem dX8_emptyLines_28 : decode cX8_emptyLines 28 = .ok (.iload_n 2, 1) := by decide +kernel
theorem dX8_emptyLines_29 : decode cX8_emptyLines 29 = .ok (.ishl, 1) := by decide +kernel
theorem dX8_emptyLines_30 : decode cX8_emptyLines 30 = .ok (.ior, 1) := by decide +kernel
theorem dX8_emptyLines_31 : decode cX8_emptyLines 31 = .ok (.istore_n 1, 1) := by decide +kernel
theorem dX8_emptyLines_32 : decode cX8_emptyLines 32 = .ok (.iinc 2 1, 3) := by decide +kernel
theorem dX8_emptyLines_35 : decode cX8_emptyLines 35 = .ok (.goto (-31), 3) := by decide +kernel
theorem dX8_emptyLines_38 : decode cX8_emptyLines 38 = .ok (.iload_n 1, 1) := by decide +kernel
theorem dX8_emptyLines_39 : decode cX8_emptyLines 39 = .ok (.ireturn, 1) := by decide +kernel
theorem dX8_line_0 : decode cX8_line 0 = .ok (.aload_n 0, 1) := by decide +kernel
theorem dX8_line_1 : decode cX8_line 1 = .ok (.iload_n 1, 1) := by decide +kernel
theorem dX8_line_2 : decode cX8_line 2 = .ok (.invokevirtual 217, 3) := by decide +kernel
theorem dX8_line_5 : decode cX8_line 5 = .ok (.aload_n 0, 1) := by decide +kernel
theorem dX8_line_6 : decode cX8_line 6 = .ok (.iload_n 2, 1) := by decide +kernel
theorem dX8_line_7 : decode cX8_line 7 = .ok (.ifCond .lt 12, 3) := by decide +kernel
theorem dX8_line_10 : decode cX8_line 10 = .ok (.iload_n 2, 1) := by decide +kernel
theorem dX8_line_11 : decode cX8_line 11 = .ok (.iconst 4, 1) := by decide +kernel
theorem dX8_line_12 : decode cX8_line 12 = .ok (.if_icmp .gt 7, 3) := by decide +kernel
theorem dX8_line_15 : decode cX8_line 15 = .ok (.iconst 1, 1) := by decide +kernel
theorem dX8_line_16 : decode cX8_line 16 = .ok (.goto 4, 3) := by decide +kernel
theorem dX8_line_19 : decode cX8_line 19 = .ok (.iconst 0, 1) := by decide +kernel
theorem dX8_line_20 : decode cX8_line 20 = .ok (.invokevirtual 159, 3) := by decide +kernel
theorem dX8_line_23 : decode cX8_line 23 = .ok (.iload_n 2, 1) := by decide +kernel
theorem dX8_line_24 : decode cX8_line 24 = .ok (.tableswitch 70 0 3 #[32, 42, 51, 61], 32) := by decide +kernel
theorem dX8_line_56 : decode cX8_line 56 = .ok (.aload_n 0, 1) := by decide +kernel
theorem dX8_line_57 : decode cX8_line 57 = .ok (.getfield 19, 3) := by decide +kernel
theorem dX8_line_60 : decode cX8_line 60 = .ok (.getfield 220, 3) := by decide +kernel
theorem dX8_line_63 : decode cX8_line 63 = .ok (.iload_n 1, 1) := by decide +kernel
theorem dX8_line_64 : decode cX8_line 64 = .ok (.iaload, 1) := by decide +kernel
theorem dX8_line_65 : decode cX8_line 65 = .ok (.ireturn, 1) := by decide +kernel
theorem dX8_line_66 : decode cX8_line 66 = .ok (.aload_n 0, 1) := by decide +kernel
theorem dX8_line_67 : decode cX8_line 67 = .ok (.getfield 58, 3) := by decide +kernel
theorem dX8_line_70 : decode cX8_line 70 = .ok (.iload_n 1, 1) := by decide +kernel
theorem dX8_line_71 : decode cX8_line 71 = .ok (.invokevirtual 214, 3) := by decide +kernel
theorem dX8_line_74 : decode cX8_line 74 = .ok (.ireturn, 1) := by decide +kernel
theorem dX8_line_75 : decode cX8_line 75 = .ok (.aload_n 0, 1) := by decide +kernel
theorem dX8_line_76 : decode cX8_line 76 = .ok (.getfield 58, 3) := by decide +kernel
theorem dX8_line_79 : decode cX8_line 79 = .ok (.getfield 179, 3) := by decide +kernel
theorem dX8_line_82 : decode cX8_line 82 = .ok (.iload_n 1, 1) := by decide +kernel
theorem dX8_line_83 : decode cX8_line 83 = .ok (.iaload, 1) := by decide +kernel
theorem dX8_line_84 : decode cX8_line 84 = .ok (.ireturn, 1) := by decide +kernel
theorem dX8_line_85 : decode cX8_line 85 = .ok (.aload_n 0, 1) := by decide +kernel
theorem dX8_line_86 : decode cX8_line 86 = .ok (.getfield 58, 3) := by decide +kernel
theorem dX8_line_89 : decode cX8_line 89 = .ok (.iload_n 1, 1) := by decide +kernel
theorem dX8_line_90 : decode cX8_line 90 = .ok (.invokevirtual 223, 3) := by decide +kernel
theorem dX8_line_93 : decode cX8_line 93 = .ok (.ireturn, 1) := by decide +kernel
theorem dX8_line_94 : decode cX8_line 94 = .ok (.aload_n 0, 1) := by decide +kernel
theorem dX8_line_95 : decode cX8_line 95 = .ok (.getfield 58, 3) := by decide +kernel
theorem dX8_line_98 : decode cX8_line 98 = .ok (.iload_n 1, 1) := by decide +kernel
theorem dX8_line_99 : decode cX8_line 99 = .ok (.invokevirtual 226, 3) := by decide +kernel
theorem dX8_line_102 : decode cX8_line 102 = .ok (.ireturn, 1) := by decide +kernel
theorem dX8_word_0 : decode cX8_word 0 = .ok (.aload_n 0, 1) := by decide +kernel
theorem dX8_word_1 : decode cX8_word 1 = .ok (.iload_n 1, 1) := by decide +kernel
theorem dX8_word_2 : decode cX8_word 2 = .ok (.iload_n 2, 1) := by decide +kernel
theorem dX8_word_3 : decode cX8_word 3 = .ok (.invokevirtual 229, 3) := by decide +kernel
theorem dX8_word_6 : decode cX8_word 6 = .ok (.aload_n 0, 1) := by decide +kernel
theorem dX8_word_7 : decode cX8_word 7 = .ok (.iload_n 3, 1) := by decide +kernel
theorem dX8_word_8 : decode cX8_word 8 = .ok (.ifCond .eq 8, 3) := by decide +kernel
theorem dX8_word_11 : decode cX8_word 11 = .ok (.iload_n 3, 1) := by decide +kernel
theorem dX8_word_12 : decode cX8_word 12 = .ok (.iconst 1, 1) := by decide +kernel
theorem dX8_word_13 : decode cX8_word 13 = .ok (.if_icmp .ne 7, 3) := by decide +kernel
theorem dX8_word_16 : decode cX8_word 16 = .ok (.iconst 1, 1) := by decide +kernel
theorem dX8_word_17 : decode cX8_word 17 = .ok (.goto 4, 3) := by decide +kernel
theorem dX8_word_20 : decode cX8_word 20 = .ok (.iconst 0, 1) := by decide +kernel
theorem dX8_word_21 : decode cX8_word 21 = .ok (.invokevirtual 159, 3) := by decide +kernel
theorem dX8_word_24 : decode cX8_word 24 = .ok (.iload_n 3, 1) := by decide +kernel
theorem dX8_word_25 : decode cX8_word 25 = .ok (.ifCond .ne 13, 3) := by decide +kernel
theorem dX8_word_28 : decode cX8_word 28 = .ok (.aload_n 0, 1) := by decide +kernel
theorem dX8_word_29 : decode cX8_word 29 = .ok (.getfield 19, 3) := by decide +kernel
theorem dX8_word_32 : decode cX8_word 32 = .ok (.iload_n 1, 1) := by decide +kernel
theorem dX8_word_33 : decode cX8_word 33 = .ok (.iload_n 2, 1) := by decide +kernel
theorem dX8_word_34 : decode cX8_word 34 = .ok (.invokevirtual 232, 3) := by decide +kernel
theorem dX8_word_37 : decode cX8_word 37 = .ok (.ireturn, 1) := by decide +kernel
theorem dX8_word_38 : decode cX8_word 38 = .ok (.aload_n 0, 1) := by decide +kernel
theorem dX8_word_39 : decode cX8_word 39 = .ok (.getfield 58, 3) := by decide +kernel
theorem dX8_word_42 : decode cX8_word 42 = .ok (.iload_n 1, 1) := by decide +kernel
theorem dX8_word_43 : decode cX8_word 43 = .ok (.iload_n 2, 1) := by decide +kernel
theorem dX8_word_44 : decode cX8_word 44 = .ok (.invokevirtual 236, 3) := by decide +kernel
theorem dX8_word_47 : decode cX8_word 47 = .ok (.ifCond .eq 7, 3) := by decide +kernel
theorem dX8_word_50 : decode cX8_word 50 = .ok (.iconst 0, 1) := by decide +kernel
theorem dX8_word_51 : decode cX8_word 51 = .ok (.goto 4, 3) := by decide +kernel
theorem dX8_word_54 : decode cX8_word 54 = .ok (.iconst 1, 1) := by decide +kernel
theorem dX8_word_55 : decode cX8_word 55 = .ok (.ireturn, 1) := by decide +kernel
theorem dX8_reads_0 : decode cX8_reads 0 = .ok (.aload_n 0, 1) := by decide +kernel
theorem dX8_reads_1 : decode cX8_reads 1 = .ok (.iload_n 1, 1) := by decide +kernel
theorem dX8_reads_2 : decode cX8_reads 2 = .ok (.ifCond .lt 7, 3) := by decide +kernel
theorem dX8_reads_5 : decode cX8_reads 5 = .ok (.iconst 1, 1) := by decide +kernel
theorem dX8_reads_6 : decode cX8_reads 6 = .ok (.goto 4, 3) := by decide +kernel
theorem dX8_reads_9 : decode cX8_reads 9 = .ok (.iconst 0, 1) := by decide +kernel
theorem dX8_reads_10 : decode cX8_reads 10 = .ok (.invokevirtual 159, 3) := by decide +kernel
theorem dX8_reads_13 : decode cX8_reads 13 = .ok (.iconst 0, 1) := by decide +kernel
theorem dX8_reads_14 : decode cX8_reads 14 = .ok (.istore_n 2, 1) := by decide +kernel
theorem dX8_reads_15 : decode cX8_reads 15 = .ok (.iconst 0, 1) := by decide +kernel
theorem dX8_reads_16 : decode cX8_reads 16 = .ok (.istore_n 3, 1) := by decide +kernel
theorem dX8_reads_17 : decode cX8_reads 17 = .ok (.iload_n 3, 1) := by decide +kernel
theorem dX8_reads_18 : decode cX8_reads 18 = .ok (.aload_n 0, 1) := by decide +kernel
theorem dX8_reads_19 : decode cX8_reads 19 = .ok (.getfield 19, 3) := by decide +kernel
theorem dX8_reads_22 : decode cX8_reads 22 = .ok (.getfield 128, 3) := by decide +kernel
theorem dX8_reads_25 : decode cX8_reads 25 = .ok (.if_icmp .ge 64, 3) := by decide +kernel
theorem dX8_reads_28 : decode cX8_reads 28 = .ok (.iconst 0, 1) := by decide +kernel
theorem dX8_reads_29 : decode cX8_reads 29 = .ok (.istore 4, 2) := by decide +kernel
theorem dX8_reads_31 : decode cX8_reads 31 = .ok (.iload 4, 2) := by decide +kernel
theorem dX8_reads_33 : decode cX8_reads 33 = .ok (.aload_n 0, 1) := by decide +kernel
theorem dX8_reads_34 : decode cX8_reads 34 = .ok (.getfield 19, 3) := by decide +kernel
theorem dX8_reads_37 : decode cX8_reads 37 = .ok (.getfield 220, 3) := by decide +kernel
theorem dX8_reads_40 : decode cX8_reads 40 = .ok (.iload_n 3, 1) := by decide +kernel
theorem dX8_reads_41 : decode cX8_reads 41 = .ok (.iaload, 1) := by decide +kernel
theorem dX8_reads_42 : decode cX8_reads 42 = .ok (.if_icmp .ge 41, 3) := by decide +kernel
theorem dX8_reads_45 : decode cX8_reads 45 = .ok (.aload_n 0, 1) := by decide +kernel
theorem dX8_reads_46 : decode cX8_reads 46 = .ok (.getfield 58, 3) := by decide +kernel
theorem dX8_reads_49 : decode cX8_reads 49 = .ok (.iload_n 3, 1) := by decide +kernel
theorem dX8_reads_50 : decode cX8_reads 50 = .ok (.iload 4, 2) := by decide +kernel
theorem dX8_reads_52 : decode cX8_reads 52 = .ok (.invokevirtual 236, 3) := by decide +kernel
theorem dX8_reads_55 : decode cX8_reads 55 = .ok (.ifCond .eq 22, 3) := by decide +kernel
theorem dX8_reads_58 : decode cX8_reads 58 = .ok (.iload_n 2, 1) := by decide +kernel
theorem dX8_reads_59 : decode cX8_reads 59 = .ok (.iload_n 1, 1) := by decide +kernel
theorem dX8_reads_60 : decode cX8_reads 60 = .ok (.if_icmp .ne 14, 3) := by decide +kernel
theorem dX8_reads_63 : decode cX8_reads 63 = .ok (.aload_n 0, 1) := by decide +kernel
theorem dX8_reads_64 : decode cX8_reads 64 = .ok (.getfield 19, 3) := by decide +kernel
theorem dX8_reads_67 : decode cX8_reads 67 = .ok (.iload_n 3, 1) := by decide +kernel
theorem dX8_reads_68 : decode cX8_reads 68 = .ok (.iload 4, 2) := by decide +kernel
theorem dX8_reads_70 : decode cX8_reads 70 = .ok (.invokevirtual 232, 3) := by decide +kernel
theorem dX8_reads_73 : decode cX8_reads 73 = .ok (.ireturn, 1) := by decide +kernel
theorem dX8_reads_74 : decode cX8_reads 74 = .ok (.iinc 2 1, 3) := by decide +kernel
theorem dX8_reads_77 : decode cX8_reads 77 = .ok (.iinc 4 1, 3) := by decide +kernel
theorem dX8_reads_80 : decode cX8_reads 80 = .ok (.goto (-49), 3) := by decide +kernel
theorem dX8_reads_83 : decode cX8_reads 83 = .ok (.iinc 3 1, 3) := by decide +kernel
theorem dX8_reads_86 : decode cX8_reads 86 = .ok (.goto (-69), 3) := by decide +kernel
theorem dX8_reads_89 : decode cX8_reads 89 = .ok (.iconst (-1), 1) := by decide +kernel
theorem dX8_reads_90 : decode cX8_reads 90 = .ok (.ireturn, 1) := by decide +kernel
theorem dX8_cell_0 : decode cX8_cell 0 = .ok (.aload_n 0, 1) := by decide +kernel
theorem dX8_cell_1 : decode cX8_cell 1 = .ok (.iload_n 1, 1) := by decide +kernel
theorem dX8_cell_2 : decode cX8_cell 2 = .ok (.ifCond .lt 12, 3) := by decide +kernel
theorem dX8_cell_5 : decode cX8_cell 5 = .ok (.iload_n 1, 1) := by decide +kernel
theorem dX8_cell_6 : decode cX8_cell 6 = .ok (.iconst 4, 1) := by decide +kernel
theorem dX8_cell_7 : decode cX8_cell 7 = .ok (.if_icmp .ge 7, 3) := by decide +kernel
theorem dX8_cell_10 : decode cX8_cell 10 = .ok (.iconst 1, 1) := by decide +kernel
theorem dX8_cell_11 : decode cX8_cell 11 = .ok (.goto 4, 3) := by decide +kernel
theorem dX8_cell_14 : decode cX8_cell 14 = .ok (.iconst 0, 1) := by decide +kernel
theorem dX8_cell_15 : decode cX8_cell 15 = .ok (.invokevirtual 159, 3) := by decide +kernel
theorem dX8_cell_18 : decode cX8_cell 18 = .ok (.aload_n 0, 1) := by decide +kernel
theorem dX8_cell_19 : decode cX8_cell 19 = .ok (.getfield 58, 3) := by decide +kernel
theorem dX8_cell_22 : decode cX8_cell 22 = .ok (.getfield 240, 3) := by decide +kernel
theorem dX8_cell_25 : decode cX8_cell 25 = .ok (.iload_n 1, 1) := by decide +kernel
theorem dX8_cell_26 : decode cX8_cell 26 = .ok (.iaload, 1) := by decide +kernel
theorem dX8_cell_27 : decode cX8_cell 27 = .ok (.ireturn, 1) := by decide +kernel
theorem dX8_often_0 : decode cX8_often 0 = .ok (.aload_n 0, 1) := by decide +kernel
theorem dX8_often_1 : decode cX8_often 1 = .ok (.iload_n 1, 1) := by decide +kernel
theorem dX8_often_2 : decode cX8_often 2 = .ok (.ifCond .eq 8, 3) := by decide +kernel
theorem dX8_often_5 : decode cX8_often 5 = .ok (.iload_n 1, 1) := by decide +kernel
theorem dX8_often_6 : decode cX8_often 6 = .ok (.iconst 1, 1) := by decide +kernel
theorem dX8_often_7 : decode cX8_often 7 = .ok (.if_icmp .ne 7, 3) := by decide +kernel
theorem dX8_often_10 : decode cX8_often 10 = .ok (.iconst 1, 1) := by decide +kernel
theorem dX8_often_11 : decode cX8_often 11 = .ok (.goto 4, 3) := by decide +kernel
theorem dX8_often_14 : decode cX8_often 14 = .ok (.iconst 0, 1) := by decide +kernel
theorem dX8_often_15 : decode cX8_often 15 = .ok (.invokevirtual 159, 3) := by decide +kernel
theorem dX8_often_18 : decode cX8_often 18 = .ok (.iconst 0, 1) := by decide +kernel
theorem dX8_often_19 : decode cX8_often 19 = .ok (.istore_n 2, 1) := by decide +kernel
theorem dX8_often_20 : decode cX8_often 20 = .ok (.iconst (-1), 1) := by decide +kernel
theorem dX8_often_21 : decode cX8_often 21 = .ok (.istore_n 3, 1) := by decide +kernel
theorem dX8_often_22 : decode cX8_often 22 = .ok (.iconst 0, 1) := by decide +kernel
theorem dX8_often_23 : decode cX8_often 23 = .ok (.istore 4, 2) := by decide +kernel
theorem dX8_often_25 : decode cX8_often 25 = .ok (.iload 4, 2) := by decide +kernel
theorem dX8_often_27 : decode cX8_often 27 = .ok (.bipush 15, 2) := by decide +kernel
theorem dX8_often_29 : decode cX8_often 29 = .ok (.if_icmp .gt 32, 3) := by decide +kernel
theorem dX8_often_32 : decode cX8_often 32 = .ok (.aload_n 0, 1) := by decide +kernel
theorem dX8_often_33 : decode cX8_often 33 = .ok (.getfield 58, 3) := by decide +kernel
theorem dX8_often_36 : decode cX8_often 36 = .ok (.iload 4, 2) := by decide +kernel
theorem dX8_often_38 : decode cX8_often 38 = .ok (.invokevirtual 243, 3) := by decide +kernel
theorem dX8_often_41 : decode cX8_often 41 = .ok (.istore 5, 2) := by decide +kernel
theorem dX8_often_43 : decode cX8_often 43 = .ok (.iload 5, 2) := by decide +kernel
theorem dX8_often_45 : decode cX8_often 45 = .ok (.iload_n 2, 1) := by decide +kernel
theorem dX8_often_46 : decode cX8_often 46 = .ok (.if_icmp .le 9, 3) := by decide +kernel
theorem dX8_often_49 : decode cX8_often 49 = .ok (.iload 5, 2) := by decide +kernel
theorem dX8_often_51 : decode cX8_often 51 = .ok (.istore_n 2, 1) := by decide +kernel
theorem dX8_often_52 : decode cX8_often 52 = .ok (.iload 4, 2) := by decide +kernel
theorem dX8_often_54 : decode cX8_often 54 = .ok (.istore_n 3, 1) := by decide +kernel
theorem dX8_often_55 : decode cX8_often 55 = .ok (.iinc 4 1, 3) := by decide +kernel
theorem dX8_often_58 : decode cX8_often 58 = .ok (.goto (-33), 3) := by decide +kernel
theorem dX8_often_61 : decode cX8_often 61 = .ok (.iload_n 3, 1) := by decide +kernel
theorem dX8_often_62 : decode cX8_often 62 = .ok (.iconst (-1), 1) := by decide +kernel
theorem dX8_often_63 : decode cX8_often 63 = .ok (.if_icmp .ne 5, 3) := by decide +kernel
theorem dX8_often_66 : decode cX8_often 66 = .ok (.iconst (-1), 1) := by decide +kernel
theorem dX8_often_67 : decode cX8_often 67 = .ok (.ireturn, 1) := by decide +kernel
theorem dX8_often_68 : decode cX8_often 68 = .ok (.iload_n 1, 1) := by decide +kernel
theorem dX8_often_69 : decode cX8_often 69 = .ok (.ifCond .ne 7, 3) := by decide +kernel
theorem dX8_often_72 : decode cX8_often 72 = .ok (.iload_n 3, 1) := by decide +kernel
theorem dX8_often_73 : decode cX8_often 73 = .ok (.goto 4, 3) := by decide +kernel
theorem dX8_often_76 : decode cX8_often 76 = .ok (.iload_n 2, 1) := by decide +kernel
theorem dX8_often_77 : decode cX8_often 77 = .ok (.ireturn, 1) := by decide +kernel
theorem dX8_deeds_0 : decode cX8_deeds 0 = .ok (.aload_n 0, 1) := by decide +kernel
theorem dX8_deeds_1 : decode cX8_deeds 1 = .ok (.iload_n 1, 1) := by decide +kernel
theorem dX8_deeds_2 : decode cX8_deeds 2 = .ok (.ifCond .lt 13, 3) := by decide +kernel
theorem dX8_deeds_5 : decode cX8_deeds 5 = .ok (.iload_n 1, 1) := by decide +kernel
theorem dX8_deeds_6 : decode cX8_deeds 6 = .ok (.bipush 15, 2) := by decide +kernel
theorem dX8_deeds_8 : decode cX8_deeds 8 = .ok (.if_icmp .gt 7, 3) := by decide +kernel
theorem dX8_deeds_11 : decode cX8_deeds 11 = .ok (.iconst 1, 1) := by decide +kernel
theorem dX8_deeds_12 : decode cX8_deeds 12 = .ok (.goto 4, 3) := by decide +kernel
theorem dX8_deeds_15 : decode cX8_deeds 15 = .ok (.iconst 0, 1) := by decide +kernel
theorem dX8_deeds_16 : decode cX8_deeds 16 = .ok (.invokevirtual 159, 3) := by decide +kernel
theorem dX8_deeds_19 : decode cX8_deeds 19 = .ok (.iconst 0, 1) := by decide +kernel
theorem dX8_deeds_20 : decode cX8_deeds 20 = .ok (.istore_n 2, 1) := by decide +kernel
theorem dX8_deeds_21 : decode cX8_deeds 21 = .ok (.iconst 0, 1) := by decide +kernel
theorem dX8_deeds_22 : decode cX8_deeds 22 = .ok (.istore_n 3, 1) := by decide +kernel
theorem dX8_deeds_23 : decode cX8_deeds 23 = .ok (.iload_n 3, 1) := by decide +kernel
theorem dX8_deeds_24 : decode cX8_deeds 24 = .ok (.aload_n 0, 1) := by decide +kernel
theorem dX8_deeds_25 : decode cX8_deeds 25 = .ok (.getfield 19, 3) := by decide +kernel
theorem dX8_deeds_28 : decode cX8_deeds 28 = .ok (.getfield 128, 3) := by decide +kernel
theorem dX8_deeds_31 : decode cX8_deeds 31 = .ok (.if_icmp .ge 27, 3) := by decide +kernel
theorem dX8_deeds_34 : decode cX8_deeds 34 = .ok (.aload_n 0, 1) := by decide +kernel
theorem dX8_deeds_35 : decode cX8_deeds 35 = .ok (.getfield 58, 3) := by decide +kernel
theorem dX8_deeds_38 : decode cX8_deeds 38 = .ok (.iload_n 3, 1) := by decide +kernel
theorem dX8_deeds_39 : decode cX8_deeds 39 = .ok (.invokevirtual 223, 3) := by decide +kernel
theorem dX8_deeds_42 : decode cX8_deeds 42 = .ok (.iload_n 1, 1) := by decide +kernel
theorem dX8_deeds_43 : decode cX8_deeds 43 = .ok (.if_icmp .ne 9, 3) := by decide +kernel
theorem dX8_deeds_46 : decode cX8_deeds 46 = .ok (.iload_n 2, 1) := by decide +kernel
theorem dX8_deeds_47 : decode cX8_deeds 47 = .ok (.iconst 1, 1) := by decide +kernel
theorem dX8_deeds_48 : decode cX8_deeds 48 = .ok (.iload_n 3, 1) := by decide +kernel
theorem dX8_deeds_49 : decode cX8_deeds 49 = .ok (.ishl, 1) := by decide +kernel
theorem dX8_deeds_50 : decode cX8_deeds 50 = .ok (.ior, 1) := by decide +kernel
theorem dX8_deeds_51 : decode cX8_deeds 51 = .ok (.istore_n 2, 1) := by decide +kernel
theorem dX8_deeds_52 : decode cX8_deeds 52 = .ok (.iinc 3 1, 3) := by decide +kernel
theorem dX8_deeds_55 : decode cX8_deeds 55 = .ok (.goto (-32), 3) := by decide +kernel
theorem dX8_deeds_58 : decode cX8_deeds 58 = .ok (.iload_n 2, 1) := by decide +kernel
theorem dX8_deeds_59 : decode cX8_deeds 59 = .ok (.ireturn, 1) := by decide +kernel
theorem dX8_longest_0 : decode cX8_longest 0 = .ok (.aload_n 0, 1) := by decide +kernel
theorem dX8_longest_1 : decode cX8_longest 1 = .ok (.iload_n 1, 1) := by decide +kernel
theorem dX8_longest_2 : decode cX8_longest 2 = .ok (.ifCond .eq 8, 3) := by decide +kernel
theorem dX8_longest_5 : decode cX8_longest 5 = .ok (.iload_n 1, 1) := by decide +kernel
theorem dX8_longest_6 : decode cX8_longest 6 = .ok (.iconst 1, 1) := by decide +kernel
theorem dX8_longest_7 : decode cX8_longest 7 = .ok (.if_icmp .ne 7, 3) := by decide +kernel
theorem dX8_longest_10 : decode cX8_longest 10 = .ok (.iconst 1, 1) := by decide +kernel
theorem dX8_longest_11 : decode cX8_longest 11 = .ok (.goto 4, 3) := by decide +kernel
theorem dX8_longest_14 : decode cX8_longest 14 = .ok (.iconst 0, 1) := by decide +kernel
theorem dX8_longest_15 : decode cX8_longest 15 = .ok (.invokevirtual 159, 3) := by decide +kernel
theorem dX8_longest_18 : decode cX8_longest 18 = .ok (.iconst (-1), 1) := by decide +kernel
theorem dX8_longest_19 : decode cX8_longest 19 = .ok (.istore_n 2, 1) := by decide +kernel
theorem dX8_longest_20 : decode cX8_longest 20 = .ok (.iconst (-1), 1) := by decide +kernel
theorem dX8_longest_21 : decode cX8_longest 21 = .ok (.istore_n 3, 1) := by decide +kernel
theorem dX8_longest_22 : decode cX8_longest 22 = .ok (.iconst 0, 1) := by decide +kernel
theorem dX8_longest_23 : decode cX8_longest 23 = .ok (.istore 4, 2) := by decide +kernel
theorem dX8_longest_25 : decode cX8_longest 25 = .ok (.iload 4, 2) := by decide +kernel
theorem dX8_longest_27 : decode cX8_longest 27 = .ok (.aload_n 0, 1) := by decide +kernel
theorem dX8_longest_28 : decode cX8_longest 28 = .ok (.getfield 19, 3) := by decide +kernel
theorem dX8_longest_31 : decode cX8_longest 31 = .ok (.getfield 128, 3) := by decide +kernel
theorem dX8_longest_34 : decode cX8_longest 34 = .ok (.if_icmp .ge 35, 3) := by decide +kernel
theorem dX8_longest_37 : decode cX8_longest 37 = .ok (.aload_n 0, 1) := by decide +kernel
theorem dX8_longest_38 : decode cX8_longest 38 = .ok (.getfield 58, 3) := by decide +kernel
theorem dX8_longest_41 : decode cX8_longest 41 = .ok (.iload 4, 2) := by decide +kernel
theorem dX8_longest_43 : decode cX8_longest 43 = .ok (.invokevirtual 214, 3) := by decide +kernel
theorem dX8_longest_46 : decode cX8_longest 46 = .ok (.iload_n 2, 1) := by decide +kernel
theorem dX8_longest_47 : decode cX8_longest 47 = .ok (.if_icmp .le 16, 3) := by decide +kernel
theorem dX8_longest_50 : decode cX8_longest 50 = .ok (.aload_n 0, 1) := by decide +kernel
theorem dX8_longest_51 : decode cX8_longest 51 = .ok (.getfield 58, 3) := by decide +kernel
theorem dX8_longest_54 : decode cX8_longest 54 = .ok (.iload 4, 2) := by decide +kernel
theorem dX8_longest_56 : decode cX8_longest 56 = .ok (.invokevirtual 214, 3) := by decide +kernel
theorem dX8_longest_59 : decode cX8_longest 59 = .ok (.istore_n 2, 1) := by decide +kernel
theorem dX8_longest_60 : decode cX8_longest 60 = .ok (.iload 4, 2) := by decide +kernel
theorem dX8_longest_62 : decode cX8_longest 62 = .ok (.istore_n 3, 1) := by decide +kernel
theorem dX8_longest_63 : decode cX8_longest 63 = .ok (.iinc 4 1, 3) := by decide +kernel
theorem dX8_longest_66 : decode cX8_longest 66 = .ok (.goto (-41), 3) := by decide +kernel
theorem dX8_longest_69 : decode cX8_longest 69 = .ok (.iload_n 1, 1) := by decide +kernel
theorem dX8_longest_70 : decode cX8_longest 70 = .ok (.ifCond .ne 7, 3) := by decide +kernel
theorem dX8_longest_73 : decode cX8_longest 73 = .ok (.iload_n 3, 1) := by decide +kernel
theorem dX8_longest_74 : decode cX8_longest 74 = .ok (.goto 4, 3) := by decide +kernel
theorem dX8_longest_77 : decode cX8_longest 77 = .ok (.iload_n 2, 1) := by decide +kernel
theorem dX8_longest_78 : decode cX8_longest 78 = .ok (.ireturn, 1) := by decide +kernel
theorem dX8_cost_0 : decode cX8_cost 0 = .ok (.aload_n 0, 1) := by decide +kernel
theorem dX8_cost_1 : decode cX8_cost 1 = .ok (.iload_n 1, 1) := by decide +kernel
theorem dX8_cost_2 : decode cX8_cost 2 = .ok (.iload_n 2, 1) := by decide +kernel
theorem dX8_cost_3 : decode cX8_cost 3 = .ok (.invokevirtual 229, 3) := by decide +kernel
theorem dX8_cost_6 : decode cX8_cost 6 = .ok (.aload_n 0, 1) := by decide +kernel
theorem dX8_cost_7 : decode cX8_cost 7 = .ok (.iload_n 1, 1) := by decide +kernel
theorem dX8_cost_8 : decode cX8_cost 8 = .ok (.iload_n 3, 1) := by decide +kernel
theorem dX8_cost_9 : decode cX8_cost 9 = .ok (.invokevirtual 229, 3) := by decide +kernel
theorem dX8_cost_12 : decode cX8_cost 12 = .ok (.aload_n 0, 1) := by decide +kernel
theorem dX8_cost_13 : decode cX8_cost 13 = .ok (.iload_n 2, 1) := by decide +kernel
theorem dX8_cost_14 : decode cX8_cost 14 = .ok (.iload_n 3, 1) := by decide +kernel
theorem dX8_cost_15 : decode cX8_cost 15 = .ok (.if_icmp .gt 7, 3) := by decide +kernel
theorem dX8_cost_18 : decode cX8_cost 18 = .ok (.iconst 1, 1) := by decide +kernel
theorem dX8_cost_19 : decode cX8_cost 19 = .ok (.goto 4, 3) := by decide +kernel
theorem dX8_cost_22 : decode cX8_cost 22 = .ok (.iconst 0, 1) := by decide +kernel
theorem dX8_cost_23 : decode cX8_cost 23 = .ok (.invokevirtual 159, 3) := by decide +kernel
theorem dX8_cost_26 : decode cX8_cost 26 = .ok (.aload_n 0, 1) := by decide +kernel
theorem dX8_cost_27 : decode cX8_cost 27 = .ok (.getfield 58, 3) := by decide +kernel
theorem dX8_cost_30 : decode cX8_cost 30 = .ok (.iload_n 1, 1) := by decide +kernel
theorem dX8_cost_31 : decode cX8_cost 31 = .ok (.iload_n 2, 1) := by decide +kernel
theorem dX8_cost_32 : decode cX8_cost 32 = .ok (.iload_n 3, 1) := by decide +kernel
theorem dX8_cost_33 : decode cX8_cost 33 = .ok (.invokevirtual 246, 3) := by decide +kernel
theorem dX8_cost_36 : decode cX8_cost 36 = .ok (.ireturn, 1) := by decide +kernel
theorem dX8_would_0 : decode cX8_would 0 = .ok (.aload_n 0, 1) := by decide +kernel
theorem dX8_would_1 : decode cX8_would 1 = .ok (.iload_n 1, 1) := by decide +kernel
theorem dX8_would_2 : decode cX8_would 2 = .ok (.iconst 1, 1) := by decide +kernel
theorem dX8_would_3 : decode cX8_would 3 = .ok (.if_icmp .lt 23, 3) := by decide +kernel
theorem dX8_would_6 : decode cX8_would 6 = .ok (.iload_n 1, 1) := by decide +kernel
theorem dX8_would_7 : decode cX8_would 7 = .ok (.bipush 8, 2) := by decide +kernel
theorem dX8_would_9 : decode cX8_would 9 = .ok (.if_icmp .gt 17, 3) := by decide +kernel
theorem dX8_would_12 : decode cX8_would 12 = .ok (.iload_n 2, 1) := by decide +kernel
theorem dX8_would_13 : decode cX8_would 13 = .ok (.ifCond .lt 13, 3) := by decide +kernel
theorem dX8_would_16 : decode cX8_would 16 = .ok (.iload_n 2, 1) := by decide +kernel
theorem dX8_would_17 : decode cX8_would 17 = .ok (.bipush 8, 2) := by decide +kernel
theorem dX8_would_19 : decode cX8_would 19 = .ok (.if_icmp .gt 7, 3) := by decide +kernel
theorem dX8_would_22 : decode cX8_would 22 = .ok (.iconst 1, 1) := by decide +kernel
theorem dX8_would_23 : decode cX8_would 23 = .ok (.goto 4, 3) := by decide +kernel
theorem dX8_would_26 : decode cX8_would 26 = .ok (.iconst 0, 1) := by decide +kernel
theorem dX8_would_27 : decode cX8_would 27 = .ok (.invokevirtual 159, 3) := by decide +kernel
theorem dX8_would_30 : decode cX8_would 30 = .ok (.aload_n 0, 1) := by decide +kernel
theorem dX8_would_31 : decode cX8_would 31 = .ok (.iload_n 3, 1) := by decide +kernel
theorem dX8_would_32 : decode cX8_would 32 = .ok (.ifCond .lt 25, 3) := by decide +kernel
theorem dX8_would_35 : decode cX8_would 35 = .ok (.iload_n 3, 1) := by decide +kernel
theorem dX8_would_36 : decode cX8_would 36 = .ok (.bipush 8, 2) := by decide +kernel
theorem dX8_would_38 : decode cX8_would 38 = .ok (.if_icmp .ge 19, 3) := by decide +kernel
theorem dX8_would_41 : decode cX8_would 41 = .ok (.iload 4, 2) := by decide +kernel
theorem dX8_would_43 : decode cX8_would 43 = .ok (.ifCond .lt 14, 3) := by decide +kernel
theorem dX8_would_46 : decode cX8_would 46 = .ok (.iload 4, 2) := by decide +kernel
theorem dX8_would_48 : decode cX8_would 48 = .ok (.bipush 6, 2) := by decide +kernel
theorem dX8_would_50 : decode cX8_would 50 = .ok (.if_icmp .ge 7, 3) := by decide +kernel
theorem dX8_would_53 : decode cX8_would 53 = .ok (.iconst 1, 1) := by decide +kernel
theorem dX8_would_54 : decode cX8_would 54 = .ok (.goto 4, 3) := by decide +kernel
theorem dX8_would_57 : decode cX8_would 57 = .ok (.iconst 0, 1) := by decide +kernel
theorem dX8_would_58 : decode cX8_would 58 = .ok (.invokevirtual 159, 3) := by decide +kernel
theorem dX8_would_61 : decode cX8_would 61 = .ok (.aload_n 0, 1) := by decide +kernel
theorem dX8_would_62 : decode cX8_would 62 = .ok (.iload 5, 2) := by decide +kernel
theorem dX8_would_64 : decode cX8_would 64 = .ok (.ifCond .lt 14, 3) := by decide +kernel
theorem dX8_would_67 : decode cX8_would 67 = .ok (.iload 5, 2) := by decide +kernel
theorem dX8_would_69 : decode cX8_would 69 = .ok (.bipush 48, 2) := by decide +kernel
theorem dX8_would_71 : decode cX8_would 71 = .ok (.if_icmp .gt 7, 3) := by decide +kernel
theorem dX8_would_74 : decode cX8_would 74 = .ok (.iconst 1, 1) := by decide +kernel
theorem dX8_would_75 : decode cX8_would 75 = .ok (.goto 4, 3) := by decide +kernel
theorem dX8_would_78 : decode cX8_would 78 = .ok (.iconst 0, 1) := by decide +kernel
theorem dX8_would_79 : decode cX8_would 79 = .ok (.invokevirtual 159, 3) := by decide +kernel
theorem dX8_would_82 : decode cX8_would 82 = .ok (.aload_n 0, 1) := by decide +kernel
theorem dX8_would_83 : decode cX8_would 83 = .ok (.iload 6, 2) := by decide +kernel
theorem dX8_would_85 : decode cX8_would 85 = .ok (.ifCond .lt 28, 3) := by decide +kernel
theorem dX8_would_88 : decode cX8_would 88 = .ok (.iload 6, 2) := by decide +kernel
theorem dX8_would_90 : decode cX8_would 90 = .ok (.sipush 200, 3) := by decide +kernel
theorem dX8_would_93 : decode cX8_would 93 = .ok (.if_icmp .gt 20, 3) := by decide +kernel
theorem dX8_would_96 : decode cX8_would 96 = .ok (.iload 7, 2) := by decide +kernel
theorem dX8_would_98 : decode cX8_would 98 = .ok (.ifCond .lt 15, 3) := by decide +kernel
theorem dX8_would_101 : decode cX8_would 101 = .ok (.iload 7, 2) := by decide +kernel
theorem dX8_would_103 : decode cX8_would 103 = .ok (.sipush 999, 3) := by decide +kernel
theorem dX8_would_106 : decode cX8_would 106 = .ok (.if_icmp .gt 7, 3) := by decide +kernel
theorem dX8_would_109 : decode cX8_would 109 = .ok (.iconst 1, 1) := by decide +kernel
theorem dX8_would_110 : decode cX8_would 110 = .ok (.goto 4, 3) := by decide +kernel
theorem dX8_would_113 : decode cX8_would 113 = .ok (.iconst 0, 1) := by decide +kernel
theorem dX8_would_114 : decode cX8_would 114 = .ok (.invokevirtual 159, 3) := by decide +kernel
theorem dX8_would_117 : decode cX8_would 117 = .ok (.aload_n 0, 1) := by decide +kernel
theorem dX8_would_118 : decode cX8_would 118 = .ok (.getfield 29, 3) := by decide +kernel
theorem dX8_would_121 : decode cX8_would 121 = .ok (.iload_n 1, 1) := by decide +kernel
theorem dX8_would_122 : decode cX8_would 122 = .ok (.iload_n 2, 1) := by decide +kernel
theorem dX8_would_123 : decode cX8_would 123 = .ok (.iload_n 3, 1) := by decide +kernel
theorem dX8_would_124 : decode cX8_would 124 = .ok (.iload 4, 2) := by decide +kernel
theorem dX8_would_126 : decode cX8_would 126 = .ok (.iload 5, 2) := by decide +kernel
theorem dX8_would_128 : decode cX8_would 128 = .ok (.iload 6, 2) := by decide +kernel
theorem dX8_would_130 : decode cX8_would 130 = .ok (.iload 7, 2) := by decide +kernel
theorem dX8_would_132 : decode cX8_would 132 = .ok (.invokevirtual 250, 3) := by decide +kernel
theorem dX8_would_135 : decode cX8_would 135 = .ok (.ireturn, 1) := by decide +kernel
theorem dX8_ahead_0 : decode cX8_ahead 0 = .ok (.aload_n 0, 1) := by decide +kernel
theorem dX8_ahead_1 : decode cX8_ahead 1 = .ok (.iload_n 1, 1) := by decide +kernel
theorem dX8_ahead_2 : decode cX8_ahead 2 = .ok (.ifCond .lt 23, 3) := by decide +kernel
theorem dX8_ahead_5 : decode cX8_ahead 5 = .ok (.iload_n 1, 1) := by decide +kernel
theorem dX8_ahead_6 : decode cX8_ahead 6 = .ok (.sipush 999, 3) := by decide +kernel
theorem dX8_ahead_9 : decode cX8_ahead 9 = .ok (.if_icmp .gt 16, 3) := by decide +kernel
theorem dX8_ahead_12 : decode cX8_ahead 12 = .ok (.iload_n 2, 1) := by decide +kernel
theorem dX8_ahead_13 : decode cX8_ahead 13 = .ok (.ifCond .lt 12, 3) := by decide +kernel
theorem dX8_ahead_16 : decode cX8_ahead 16 = .ok (.iload_n 2, 1) := by decide +kernel
theorem dX8_ahead_17 : decode cX8_ahead 17 = .ok (.iconst 2, 1) := by decide +kernel
theorem dX8_ahead_18 : decode cX8_ahead 18 = .ok (.if_icmp .gt 7, 3) := by decide +kernel
theorem dX8_ahead_21 : decode cX8_ahead 21 = .ok (.iconst 1, 1) := by decide +kernel
theorem dX8_ahead_22 : decode cX8_ahead 22 = .ok (.goto 4, 3) := by decide +kernel
theorem dX8_ahead_25 : decode cX8_ahead 25 = .ok (.iconst 0, 1) := by decide +kernel
theorem dX8_ahead_26 : decode cX8_ahead 26 = .ok (.invokevirtual 159, 3) := by decide +kernel
theorem dX8_ahead_29 : decode cX8_ahead 29 = .ok (.aload_n 0, 1) := by decide +kernel
theorem dX8_ahead_30 : decode cX8_ahead 30 = .ok (.getfield 62, 3) := by decide +kernel
theorem dX8_ahead_33 : decode cX8_ahead 33 = .ok (.aload_n 0, 1) := by decide +kernel
theorem dX8_ahead_34 : decode cX8_ahead 34 = .ok (.getfield 58, 3) := by decide +kernel
theorem dX8_ahead_37 : decode cX8_ahead 37 = .ok (.invokevirtual 254, 3) := by decide +kernel
theorem dX8_ahead_40 : decode cX8_ahead 40 = .ok (.aload_n 0, 1) := by decide +kernel
theorem dX8_ahead_41 : decode cX8_ahead 41 = .ok (.getfield 62, 3) := by decide +kernel
theorem dX8_ahead_44 : decode cX8_ahead 44 = .ok (.iload_n 1, 1) := by decide +kernel
theorem dX8_ahead_45 : decode cX8_ahead 45 = .ok (.invokevirtual 256, 3) := by decide +kernel
theorem dX8_ahead_48 : decode cX8_ahead 48 = .ok (.pop, 1) := by decide +kernel
theorem dX8_ahead_49 : decode cX8_ahead 49 = .ok (.iload_n 2, 1) := by decide +kernel
theorem dX8_ahead_50 : decode cX8_ahead 50 = .ok (.lookupswitch 42 #[(0, 26), (1, 34)], 26) := by decide +kernel
theorem dX8_ahead_76 : decode cX8_ahead 76 = .ok (.aload_n 0, 1) := by decide +kernel
theorem dX8_ahead_77 : decode cX8_ahead 77 = .ok (.getfield 62, 3) := by decide +kernel
theorem dX8_ahead_80 : decode cX8_ahead 80 = .ok (.getfield 202, 3) := by decide +kernel
theorem dX8_ahead_83 : decode cX8_ahead 83 = .ok (.ireturn, 1) := by decide +kernel
theorem dX8_ahead_84 : decode cX8_ahead 84 = .ok (.aload_n 0, 1) := by decide +kernel
theorem dX8_ahead_85 : decode cX8_ahead 85 = .ok (.getfield 62, 3) := by decide +kernel
theorem dX8_ahead_88 : decode cX8_ahead 88 = .ok (.invokevirtual 208, 3) := by decide +kernel
theorem dX8_ahead_91 : decode cX8_ahead 91 = .ok (.ireturn, 1) := by decide +kernel
theorem dX8_ahead_92 : decode cX8_ahead 92 = .ok (.aload_n 0, 1) := by decide +kernel
theorem dX8_ahead_93 : decode cX8_ahead 93 = .ok (.getfield 62, 3) := by decide +kernel
theorem dX8_ahead_96 : decode cX8_ahead 96 = .ok (.invokevirtual 192, 3) := by decide +kernel
theorem dX8_ahead_99 : decode cX8_ahead 99 = .ok (.ireturn, 1) := by decide +kernel
theorem dX8_ends_0 : decode cX8_ends 0 = .ok (.aload_n 0, 1) := by decide +kernel
theorem dX8_ends_1 : decode cX8_ends 1 = .ok (.getfield 62, 3) := by decide +kernel
theorem dX8_ends_4 : decode cX8_ends 4 = .ok (.aload_n 0, 1) := by decide +kernel
theorem dX8_ends_5 : decode cX8_ends 5 = .ok (.getfield 58, 3) := by decide +kernel
theorem dX8_ends_8 : decode cX8_ends 8 = .ok (.invokevirtual 254, 3) := by decide +kernel
theorem dX8_ends_11 : decode cX8_ends 11 = .ok (.iconst 0, 1) := by decide +kernel
theorem dX8_ends_12 : decode cX8_ends 12 = .ok (.istore_n 1, 1) := by decide +kernel
theorem dX8_ends_13 : decode cX8_ends 13 = .ok (.iload_n 1, 1) := by decide +kernel
theorem dX8_ends_14 : decode cX8_ends 14 = .ok (.sipush 999, 3) := by decide +kernel
theorem dX8_ends_17 : decode cX8_ends 17 = .ok (.if_icmp .gt 21, 3) := by decide +kernel
theorem dX8_ends_20 : decode cX8_ends 20 = .ok (.aload_n 0, 1) := by decide +kernel
theorem dX8_ends_21 : decode cX8_ends 21 = .ok (.getfield 62, 3) := by decide +kernel
theorem dX8_ends_24 : decode cX8_ends 24 = .ok (.invokevirtual 260, 3) := by decide +kernel
theorem dX8_ends_27 : decode cX8_ends 27 = .ok (.ifCond .ne 5, 3) := by decide +kernel
theorem dX8_ends_30 : decode cX8_ends 30 = .ok (.iload_n 1, 1) := by decide +kernel
theorem dX8_ends_31 : decode cX8_ends 31 = .ok (.ireturn, 1) := by decide +kernel
theorem dX8_ends_32 : decode cX8_ends 32 = .ok (.iinc 1 1, 3) := by decide +kernel
theorem dX8_ends_35 : decode cX8_ends 35 = .ok (.goto (-22), 3) := by decide +kernel
theorem dX8_ends_38 : decode cX8_ends 38 = .ok (.iconst (-1), 1) := by decide +kernel
theorem dX8_ends_39 : decode cX8_ends 39 = .ok (.ireturn, 1) := by decide +kernel
theorem dX8_says_0 : decode cX8_says 0 = .ok (.aload_n 0, 1) := by decide +kernel
theorem dX8_says_1 : decode cX8_says 1 = .ok (.getfield 58, 3) := by decide +kernel
theorem dX8_says_4 : decode cX8_says 4 = .ok (.aload_n 0, 1) := by decide +kernel
theorem dX8_says_5 : decode cX8_says 5 = .ok (.getfield 39, 3) := by decide +kernel
theorem dX8_says_8 : decode cX8_says 8 = .ok (.invokevirtual 264, 3) := by decide +kernel
theorem dX8_says_11 : decode cX8_says 11 = .ok (.ireturn, 1) := by decide +kernel
theorem dX8_ways_0 : decode cX8_ways 0 = .ok (.aload_n 0, 1) := by decide +kernel
theorem dX8_ways_1 : decode cX8_ways 1 = .ok (.getfield 77, 3) := by decide +kernel
theorem dX8_ways_4 : decode cX8_ways 4 = .ok (.aload_n 0, 1) := by decide +kernel
theorem dX8_ways_5 : decode cX8_ways 5 = .ok (.getfield 39, 3) := by decide +kernel
theorem dX8_ways_8 : decode cX8_ways 8 = .ok (.invokevirtual 268, 3) := by decide +kernel
theorem dX8_ways_11 : decode cX8_ways 11 = .ok (.lreturn, 1) := by decide +kernel
theorem dX8_strokes_0 : decode cX8_strokes 0 = .ok (.aload_n 0, 1) := by decide +kernel
theorem dX8_strokes_1 : decode cX8_strokes 1 = .ok (.getfield 77, 3) := by decide +kernel
theorem dX8_strokes_4 : decode cX8_strokes 4 = .ok (.aload_n 0, 1) := by decide +kernel
theorem dX8_strokes_5 : decode cX8_strokes 5 = .ok (.getfield 58, 3) := by decide +kernel
theorem dX8_strokes_8 : decode cX8_strokes 8 = .ok (.aload_n 0, 1) := by decide +kernel
theorem dX8_strokes_9 : decode cX8_strokes 9 = .ok (.getfield 39, 3) := by decide +kernel
theorem dX8_strokes_12 : decode cX8_strokes 12 = .ok (.invokevirtual 272, 3) := by decide +kernel
theorem dX8_strokes_15 : decode cX8_strokes 15 = .ok (.aload_n 0, 1) := by decide +kernel
theorem dX8_strokes_16 : decode cX8_strokes 16 = .ok (.getfield 77, 3) := by decide +kernel
theorem dX8_strokes_19 : decode cX8_strokes 19 = .ok (.aload_n 0, 1) := by decide +kernel
theorem dX8_strokes_20 : decode cX8_strokes 20 = .ok (.getfield 39, 3) := by decide +kernel
theorem dX8_strokes_23 : decode cX8_strokes 23 = .ok (.getfield 106, 3) := by decide +kernel
theorem dX8_strokes_26 : decode cX8_strokes 26 = .ok (.invokevirtual 276, 3) := by decide +kernel
theorem dX8_strokes_29 : decode cX8_strokes 29 = .ok (.ireturn, 1) := by decide +kernel
theorem dX8_best_0 : decode cX8_best 0 = .ok (.aload_n 0, 1) := by decide +kernel
theorem dX8_best_1 : decode cX8_best 1 = .ok (.getfield 77, 3) := by decide +kernel
theorem dX8_best_4 : decode cX8_best 4 = .ok (.aload_n 0, 1) := by decide +kernel
theorem dX8_best_5 : decode cX8_best 5 = .ok (.getfield 58, 3) := by decide +kernel
theorem dX8_best_8 : decode cX8_best 8 = .ok (.aload_n 0, 1) := by decide +kernel
theorem dX8_best_9 : decode cX8_best 9 = .ok (.getfield 39, 3) := by decide +kernel
theorem dX8_best_12 : decode cX8_best 12 = .ok (.invokevirtual 272, 3) := by decide +kernel
theorem dX8_best_15 : decode cX8_best 15 = .ok (.aload_n 0, 1) := by decide +kernel
theorem dX8_best_16 : decode cX8_best 16 = .ok (.getfield 77, 3) := by decide +kernel
theorem dX8_best_19 : decode cX8_best 19 = .ok (.aload_n 0, 1) := by decide +kernel
theorem dX8_best_20 : decode cX8_best 20 = .ok (.getfield 39, 3) := by decide +kernel
theorem dX8_best_23 : decode cX8_best 23 = .ok (.getfield 106, 3) := by decide +kernel
theorem dX8_best_26 : decode cX8_best 26 = .ok (.invokevirtual 279, 3) := by decide +kernel
theorem dX8_best_29 : decode cX8_best 29 = .ok (.lreturn, 1) := by decide +kernel
theorem dX8_unlike_0 : decode cX8_unlike 0 = .ok (.aload_n 0, 1) := by decide +kernel
theorem dX8_unlike_1 : decode cX8_unlike 1 = .ok (.iload_n 1, 1) := by decide +kernel
theorem dX8_unlike_2 : decode cX8_unlike 2 = .ok (.ifCond .lt 13, 3) := by decide +kernel
theorem dX8_unlike_5 : decode cX8_unlike 5 = .ok (.iload_n 1, 1) := by decide +kernel
theorem dX8_unlike_6 : decode cX8_unlike 6 = .ok (.bipush 12, 2) := by decide +kernel
theorem dX8_unlike_8 : decode cX8_unlike 8 = .ok (.if_icmp .gt 7, 3) := by decide +kernel
theorem dX8_unlike_11 : decode cX8_unlike 11 = .ok (.iconst 1, 1) := by decide +kernel
theorem dX8_unlike_12 : decode cX8_unlike 12 = .ok (.goto 4, 3) := by decide +kernel
theorem dX8_unlike_15 : decode cX8_unlike 15 = .ok (.iconst 0, 1) := by decide +kernel
theorem dX8_unlike_16 : decode cX8_unlike 16 = .ok (.invokevirtual 159, 3) := by decide +kernel
theorem dX8_unlike_19 : decode cX8_unlike 19 = .ok (.aload_n 0, 1) := by decide +kernel
theorem dX8_unlike_20 : decode cX8_unlike 20 = .ok (.getfield 77, 3) := by decide +kernel
theorem dX8_unlike_23 : decode cX8_unlike 23 = .ok (.iload_n 1, 1) := by decide +kernel
theorem dX8_unlike_24 : decode cX8_unlike 24 = .ok (.invokevirtual 283, 3) := by decide +kernel
theorem dX8_unlike_27 : decode cX8_unlike 27 = .ok (.lreturn, 1) := by decide +kernel
theorem dX8_forged_0 : decode cX8_forged 0 = .ok (.aload_n 0, 1) := by decide +kernel
theorem dX8_forged_1 : decode cX8_forged 1 = .ok (.iload_n 1, 1) := by decide +kernel
theorem dX8_forged_2 : decode cX8_forged 2 = .ok (.ifCond .eq 8, 3) := by decide +kernel
theorem dX8_forged_5 : decode cX8_forged 5 = .ok (.iload_n 1, 1) := by decide +kernel
theorem dX8_forged_6 : decode cX8_forged 6 = .ok (.iconst 1, 1) := by decide +kernel
theorem dX8_forged_7 : decode cX8_forged 7 = .ok (.if_icmp .ne 7, 3) := by decide +kernel
theorem dX8_forged_10 : decode cX8_forged 10 = .ok (.iconst 1, 1) := by decide +kernel
theorem dX8_forged_11 : decode cX8_forged 11 = .ok (.goto 4, 3) := by decide +kernel
theorem dX8_forged_14 : decode cX8_forged 14 = .ok (.iconst 0, 1) := by decide +kernel
theorem dX8_forged_15 : decode cX8_forged 15 = .ok (.invokevirtual 159, 3) := by decide +kernel
theorem dX8_forged_18 : decode cX8_forged 18 = .ok (.aload_n 0, 1) := by decide +kernel
theorem dX8_forged_19 : decode cX8_forged 19 = .ok (.getfield 62, 3) := by decide +kernel
theorem dX8_forged_22 : decode cX8_forged 22 = .ok (.aload_n 0, 1) := by decide +kernel
theorem dX8_forged_23 : decode cX8_forged 23 = .ok (.getfield 58, 3) := by decide +kernel
theorem dX8_forged_26 : decode cX8_forged 26 = .ok (.invokevirtual 254, 3) := by decide +kernel
theorem dX8_forged_29 : decode cX8_forged 29 = .ok (.iconst 0, 1) := by decide +kernel
theorem dX8_forged_30 : decode cX8_forged 30 = .ok (.istore_n 2, 1) := by decide +kernel
theorem dX8_forged_31 : decode cX8_forged 31 = .ok (.iconst (-1), 1) := by decide +kernel
theorem dX8_forged_32 : decode cX8_forged 32 = .ok (.istore_n 3, 1) := by decide +kernel
theorem dX8_forged_33 : decode cX8_forged 33 = .ok (.iconst 0, 1) := by decide +kernel
theorem dX8_forged_34 : decode cX8_forged 34 = .ok (.istore 4, 2) := by decide +kernel
theorem dX8_forged_36 : decode cX8_forged 36 = .ok (.iload 4, 2) := by decide +kernel
theorem dX8_forged_38 : decode cX8_forged 38 = .ok (.aload_n 0, 1) := by decide +kernel
theorem dX8_forged_39 : decode cX8_forged 39 = .ok (.getfield 19, 3) := by decide +kernel
theorem dX8_forged_42 : decode cX8_forged 42 = .ok (.getfield 128, 3) := by decide +kernel
theorem dX8_forged_45 : decode cX8_forged 45 = .ok (.if_icmp .ge 102, 3) := by decide +kernel
theorem dX8_forged_48 : decode cX8_forged 48 = .ok (.iconst 0, 1) := by decide +kernel
theorem dX8_forged_49 : decode cX8_forged 49 = .ok (.istore 5, 2) := by decide +kernel
theorem dX8_forged_51 : decode cX8_forged 51 = .ok (.iload 5, 2) := by decide +kernel
theorem dX8_forged_53 : decode cX8_forged 53 = .ok (.aload_n 0, 1) := by decide +kernel
theorem dX8_forged_54 : decode cX8_forged 54 = .ok (.getfield 19, 3) := by decide +kernel
theorem dX8_forged_57 : decode cX8_forged 57 = .ok (.getfield 220, 3) := by decide +kernel
theorem dX8_forged_60 : decode cX8_forged 60 = .ok (.iload 4, 2) := by decide +kernel
theorem dX8_forged_62 : decode cX8_forged 62 = .ok (.iaload, 1) := by decide +kernel
theorem dX8_forged_63 : decode cX8_forged 63 = .ok (.if_icmp .ge 78, 3) := by decide +kernel
theorem dX8_forged_66 : decode cX8_forged 66 = .ok (.iload 5, 2) := by decide +kernel
theorem dX8_forged_68 : decode cX8_forged 68 = .ok (.istore 6, 2) := by decide +kernel
theorem dX8_forged_70 : decode cX8_forged 70 = .ok (.iload 6, 2) := by decide +kernel
theorem dX8_forged_72 : decode cX8_forged 72 = .ok (.aload_n 0, 1) := by decide +kernel
theorem dX8_forged_73 : decode cX8_forged 73 = .ok (.getfield 19, 3) := by decide +kernel
theorem dX8_forged_76 : decode cX8_forged 76 = .ok (.getfield 220, 3) := by decide +kernel
theorem dX8_forged_79 : decode cX8_forged 79 = .ok (.iload 4, 2) := by decide +kernel
theorem dX8_forged_81 : decode cX8_forged 81 = .ok (.iaload, 1) := by decide +kernel
theorem dX8_forged_82 : decode cX8_forged 82 = .ok (.if_icmp .ge 53, 3) := by decide +kernel
theorem dX8_forged_85 : decode cX8_forged 85 = .ok (.aload_n 0, 1) := by decide +kernel
theorem dX8_forged_86 : decode cX8_forged 86 = .ok (.getfield 62, 3) := by decide +kernel
theorem dX8_forged_89 : decode cX8_forged 89 = .ok (.aload_n 0, 1) := by decide +kernel
theorem dX8_forged_90 : decode cX8_forged 90 = .ok (.getfield 39, 3) := by decide +kernel
theorem dX8_forged_93 : decode cX8_forged 93 = .ok (.iload 4, 2) := by decide +kernel
theorem dX8_forged_95 : decode cX8_forged 95 = .ok (.iload 5, 2) := by decide +kernel
theorem dX8_forged_97 : decode cX8_forged 97 = .ok (.iload 6, 2) := by decide +kernel
theorem dX8_forged_99 : decode cX8_forged 99 = .ok (.invokestatic 286, 3) := by decide +kernel
theorem dX8_forged_102 : decode cX8_forged 102 = .ok (.invokevirtual 289, 3) := by decide +kernel
theorem dX8_forged_105 : decode cX8_forged 105 = .ok (.ifCond .eq 24, 3) := by decide +kernel
theorem dX8_forged_108 : decode cX8_forged 108 = .ok (.iload_n 2, 1) := by decide +kernel
theorem dX8_forged_109 : decode cX8_forged 109 = .ok (.ifCond .ne 15, 3) := by decide +kernel
theorem dX8_forged_112 : decode cX8_forged 112 = .ok (.iload 4, 2) := by decide +kernel
theorem dX8_forged_114 : decode cX8_forged 114 = .ok (.iload 5, 2) := by decide +kernel
theorem dX8_forged_116 : decode cX8_forged 116 = .ok (.iload 6, 2) := by decide +kernel
theorem dX8_forged_118 : decode cX8_forged 118 = .ok (.invokestatic 293, 3) := by decide +kernel
theorem dX8_forged_121 : decode cX8_forged 121 = .ok (.goto 4, 3) := by decide +kernel
theorem dX8_forged_124 : decode cX8_forged 124 = .ok (.iload_n 3, 1) := by decide +kernel
theorem dX8_forged_125 : decode cX8_forged 125 = .ok (.istore_n 3, 1) := by decide +kernel
theorem dX8_forged_126 : decode cX8_forged 126 = .ok (.iinc 2 1, 3) := by decide +kernel
theorem dX8_forged_129 : decode cX8_forged 129 = .ok (.iinc 6 1, 3) := by decide +kernel
theorem dX8_forged_132 : decode cX8_forged 132 = .ok (.goto (-62), 3) := by decide +kernel
theorem dX8_forged_135 : decode cX8_forged 135 = .ok (.iinc 5 1, 3) := by decide +kernel
theorem dX8_forged_138 : decode cX8_forged 138 = .ok (.goto (-87), 3) := by decide +kernel
theorem dX8_forged_141 : decode cX8_forged 141 = .ok (.iinc 4 1, 3) := by decide +kernel
theorem dX8_forged_144 : decode cX8_forged 144 = .ok (.goto (-108), 3) := by decide +kernel
theorem dX8_forged_147 : decode cX8_forged 147 = .ok (.iload_n 1, 1) := by decide +kernel
theorem dX8_forged_148 : decode cX8_forged 148 = .ok (.ifCond .ne 7, 3) := by decide +kernel
theorem dX8_forged_151 : decode cX8_forged 151 = .ok (.iload_n 2, 1) := by decide +kernel
theorem dX8_forged_152 : decode cX8_forged 152 = .ok (.goto 4, 3) := by decide +kernel
theorem dX8_forged_155 : decode cX8_forged 155 = .ok (.iload_n 3, 1) := by decide +kernel
theorem dX8_forged_156 : decode cX8_forged 156 = .ok (.ireturn, 1) := by decide +kernel
theorem dX8_value_0 : decode cX8_value 0 = .ok (.aload_n 0, 1) := by decide +kernel
theorem dX8_value_1 : decode cX8_value 1 = .ok (.iload_n 1, 1) := by decide +kernel
theorem dX8_value_2 : decode cX8_value 2 = .ok (.invokevirtual 217, 3) := by decide +kernel
theorem dX8_value_5 : decode cX8_value 5 = .ok (.aload_n 0, 1) := by decide +kernel
theorem dX8_value_6 : decode cX8_value 6 = .ok (.getfield 58, 3) := by decide +kernel
theorem dX8_value_9 : decode cX8_value 9 = .ok (.iload_n 1, 1) := by decide +kernel
theorem dX8_value_10 : decode cX8_value 10 = .ok (.invokevirtual 296, 3) := by decide +kernel
theorem dX8_value_13 : decode cX8_value 13 = .ok (.invokestatic 299, 3) := by decide +kernel
theorem dX8_value_16 : decode cX8_value 16 = .ok (.ireturn, 1) := by decide +kernel
theorem dX8_argument_0 : decode cX8_argument 0 = .ok (.aload_n 0, 1) := by decide +kernel
theorem dX8_argument_1 : decode cX8_argument 1 = .ok (.iload_n 1, 1) := by decide +kernel
theorem dX8_argument_2 : decode cX8_argument 2 = .ok (.invokevirtual 302, 3) := by decide +kernel
theorem dX8_argument_5 : decode cX8_argument 5 = .ok (.aload_n 0, 1) := by decide +kernel
theorem dX8_argument_6 : decode cX8_argument 6 = .ok (.iload_n 2, 1) := by decide +kernel
theorem dX8_argument_7 : decode cX8_argument 7 = .ok (.ifCond .eq 8, 3) := by decide +kernel
theorem dX8_argument_10 : decode cX8_argument 10 = .ok (.iload_n 2, 1) := by decide +kernel
theorem dX8_argument_11 : decode cX8_argument 11 = .ok (.iconst 1, 1) := by decide +kernel
theorem dX8_argument_12 : decode cX8_argument 12 = .ok (.if_icmp .ne 7, 3) := by decide +kernel
theorem dX8_argument_15 : decode cX8_argument 15 = .ok (.iconst 1, 1) := by decide +kernel
theorem dX8_argument_16 : decode cX8_argument 16 = .ok (.goto 4, 3) := by decide +kernel
theorem dX8_argument_19 : decode cX8_argument 19 = .ok (.iconst 0, 1) := by decide +kernel
theorem dX8_argument_20 : decode cX8_argument 20 = .ok (.invokevirtual 159, 3) := by decide +kernel
theorem dX8_argument_23 : decode cX8_argument 23 = .ok (.iconst 0, 1) := by decide +kernel
theorem dX8_argument_24 : decode cX8_argument 24 = .ok (.istore_n 3, 1) := by decide +kernel
theorem dX8_argument_25 : decode cX8_argument 25 = .ok (.iconst 0, 1) := by decide +kernel
theorem dX8_argument_26 : decode cX8_argument 26 = .ok (.istore 4, 2) := by decide +kernel
theorem dX8_argument_28 : decode cX8_argument 28 = .ok (.iload 4, 2) := by decide +kernel
theorem dX8_argument_30 : decode cX8_argument 30 = .ok (.aload_n 0, 1) := by decide +kernel
theorem dX8_argument_31 : decode cX8_argument 31 = .ok (.getfield 19, 3) := by decide +kernel
theorem dX8_argument_34 : decode cX8_argument 34 = .ok (.getfield 128, 3) := by decide +kernel
theorem dX8_argument_37 : decode cX8_argument 37 = .ok (.if_icmp .ge 34, 3) := by decide +kernel
theorem dX8_argument_40 : decode cX8_argument 40 = .ok (.iload_n 1, 1) := by decide +kernel
theorem dX8_argument_41 : decode cX8_argument 41 = .ok (.iload 4, 2) := by decide +kernel
theorem dX8_argument_43 : decode cX8_argument 43 = .ok (.ishr, 1) := by decide +kernel
theorem dX8_argument_44 : decode cX8_argument 44 = .ok (.iconst 1, 1) := by decide +kernel
theorem dX8_argument_45 : decode cX8_argument 45 = .ok (.iand, 1) := by decide +kernel
theorem dX8_argument_46 : decode cX8_argument 46 = .ok (.iconst 1, 1) := by decide +kernel
theorem dX8_argument_47 : decode cX8_argument 47 = .ok (.if_icmp .ne 18, 3) := by decide +kernel
theorem dX8_argument_50 : decode cX8_argument 50 = .ok (.iload_n 3, 1) := by decide +kernel
theorem dX8_argument_51 : decode cX8_argument 51 = .ok (.aload_n 0, 1) := by decide +kernel
theorem dX8_argument_52 : decode cX8_argument 52 = .ok (.getfield 58, 3) := by decide +kernel
theorem dX8_argument_55 : decode cX8_argument 55 = .ok (.iload 4, 2) := by decide +kernel
theorem dX8_argument_57 : decode cX8_argument 57 = .ok (.invokevirtual 296, 3) := by decide +kernel
theorem dX8_argument_60 : decode cX8_argument 60 = .ok (.invokestatic 299, 3) := by decide +kernel
theorem dX8_argument_63 : decode cX8_argument 63 = .ok (.ixor, 1) := by decide +kernel
theorem dX8_argument_64 : decode cX8_argument 64 = .ok (.istore_n 3, 1) := by decide +kernel
theorem dX8_argument_65 : decode cX8_argument 65 = .ok (.iinc 4 1, 3) := by decide +kernel
theorem dX8_argument_68 : decode cX8_argument 68 = .ok (.goto (-40), 3) := by decide +kernel
theorem dX8_argument_71 : decode cX8_argument 71 = .ok (.iload_n 2, 1) := by decide +kernel
theorem dX8_argument_72 : decode cX8_argument 72 = .ok (.ifCond .ne 7, 3) := by decide +kernel
theorem dX8_argument_75 : decode cX8_argument 75 = .ok (.iload_n 3, 1) := by decide +kernel
theorem dX8_argument_76 : decode cX8_argument 76 = .ok (.goto 9, 3) := by decide +kernel
theorem dX8_argument_79 : decode cX8_argument 79 = .ok (.aload_n 0, 1) := by decide +kernel
theorem dX8_argument_80 : decode cX8_argument 80 = .ok (.iload_n 1, 1) := by decide +kernel
theorem dX8_argument_81 : decode cX8_argument 81 = .ok (.iload_n 3, 1) := by decide +kernel
theorem dX8_argument_82 : decode cX8_argument 82 = .ok (.invokevirtual 305, 3) := by decide +kernel
theorem dX8_argument_85 : decode cX8_argument 85 = .ok (.ireturn, 1) := by decide +kernel
theorem dX8_firstWinning_0 : decode cX8_firstWinning 0 = .ok (.iconst 0, 1) := by decide +kernel
theorem dX8_firstWinning_1 : decode cX8_firstWinning 1 = .ok (.istore_n 3, 1) := by decide +kernel
theorem dX8_firstWinning_2 : decode cX8_firstWinning 2 = .ok (.iload_n 3, 1) := by decide +kernel
theorem dX8_firstWinning_3 : decode cX8_firstWinning 3 = .ok (.aload_n 0, 1) := by decide +kernel
theorem dX8_firstWinning_4 : decode cX8_firstWinning 4 = .ok (.getfield 19, 3) := by decide +kernel
theorem dX8_firstWinning_7 : decode cX8_firstWinning 7 = .ok (.getfield 128, 3) := by decide +kernel
theorem dX8_firstWinning_10 : decode cX8_firstWinning 10 = .ok (.if_icmp .ge 126, 3) := by decide +kernel
theorem dX8_firstWinning_13 : decode cX8_firstWinning 13 = .ok (.iload_n 1, 1) := by decide +kernel
theorem dX8_firstWinning_14 : decode cX8_firstWinning 14 = .ok (.iload_n 3, 1) := by decide +kernel
theorem dX8_firstWinning_15 : decode cX8_firstWinning 15 = .ok (.ishr, 1) := by decide +kernel
theorem dX8_firstWinning_16 : decode cX8_firstWinning 16 = .ok (.iconst 1, 1) := by decide +kernel
theorem dX8_firstWinning_17 : decode cX8_firstWinning 17 = .ok (.iand, 1) := by decide +kernel
theorem dX8_firstWinning_18 : decode cX8_firstWinning 18 = .ok (.iconst 1, 1) := by decide +kernel
theorem dX8_firstWinning_19 : decode cX8_firstWinning 19 = .ok (.if_icmp .ne 14, 3) := by decide +kernel
theorem dX8_firstWinning_22 : decode cX8_firstWinning 22 = .ok (.aload_n 0, 1) := by decide +kernel
theorem dX8_firstWinning_23 : decode cX8_firstWinning 23 = .ok (.getfield 58, 3) := by decide +kernel
theorem dX8_firstWinning_26 : decode cX8_firstWinning 26 = .ok (.iload_n 3, 1) := by decide +kernel
theorem dX8_firstWinning_27 : decode cX8_firstWinning 27 = .ok (.invokevirtual 296, 3) := by decide +kernel
theorem dX8_firstWinning_30 : decode cX8_firstWinning 30 = .ok (.goto 4, 3) := by decide +kernel
theorem dX8_firstWinning_33 : decode cX8_firstWinning 33 = .ok (.iconst 0, 1) := by decide +kernel
theorem dX8_firstWinning_34 : decode cX8_firstWinning 34 = .ok (.istore 4, 2) := by decide +kernel
theorem dX8_firstWinning_36 : decode cX8_firstWinning 36 = .ok (.iload_n 2, 1) := by decide +kernel
theorem dX8_firstWinning_37 : decode cX8_firstWinning 37 = .ok (.iload 4, 2) := by decide +kernel
theorem dX8_firstWinning_39 : decode cX8_firstWinning 39 = .ok (.invokestatic 299, 3) := by decide +kernel
theorem dX8_firstWinning_42 : decode cX8_firstWinning 42 = .ok (.ixor, 1) := by decide +kernel
theorem dX8_firstWinning_43 : decode cX8_firstWinning 43 = .ok (.istore 5, 2) := by decide +kernel
theorem dX8_firstWinning_45 : decode cX8_firstWinning 45 = .ok (.iconst 0, 1) := by decide +kernel
theorem dX8_firstWinning_46 : decode cX8_firstWinning 46 = .ok (.istore 6, 2) := by decide +kernel
theorem dX8_firstWinning_48 : decode cX8_firstWinning 48 = .ok (.iload 6, 2) := by decide +kernel
theorem dX8_firstWinning_50 : decode cX8_firstWinning 50 = .ok (.aload_n 0, 1) := by decide +kernel
theorem dX8_firstWinning_51 : decode cX8_firstWinning 51 = .ok (.getfield 19, 3) := by decide +kernel
theorem dX8_firstWinning_54 : decode cX8_firstWinning 54 = .ok (.getfield 220, 3) := by decide +kernel
theorem dX8_firstWinning_57 : decode cX8_firstWinning 57 = .ok (.iload_n 3, 1) := by decide +kernel
theorem dX8_firstWinning_58 : decode cX8_firstWinning 58 = .ok (.iaload, 1) := by decide +kernel
theorem dX8_firstWinning_59 : decode cX8_firstWinning 59 = .ok (.if_icmp .ge 71, 3) := by decide +kernel
theorem dX8_firstWinning_62 : decode cX8_firstWinning 62 = .ok (.iload 6, 2) := by decide +kernel
theorem dX8_firstWinning_64 : decode cX8_firstWinning 64 = .ok (.istore 7, 2) := by decide +kernel
theorem dX8_firstWinning_66 : decode cX8_firstWinning 66 = .ok (.iload 7, 2) := by decide +kernel
theorem dX8_firstWinning_68 : decode cX8_firstWinning 68 = .ok (.iload 6, 2) := by decide +kernel
theorem dX8_firstWinning_70 : decode cX8_firstWinning 70 = .ok (.iconst 1, 1) := by decide +kernel
theorem dX8_firstWinning_71 : decode cX8_firstWinning 71 = .ok (.iadd, 1) := by decide +kernel
theorem dX8_firstWinning_72 : decode cX8_firstWinning 72 = .ok (.if_icmp .gt 52, 3) := by decide +kernel
theorem dX8_firstWinning_75 : decode cX8_firstWinning 75 = .ok (.iload 6, 2) := by decide +kernel
theorem dX8_firstWinning_77 : decode cX8_firstWinning 77 = .ok (.iload 7, 2) := by decide +kernel
theorem dX8_firstWinning_79 : decode cX8_firstWinning 79 = .ok (.invokestatic 286, 3) := by decide +kernel
theorem dX8_firstWinning_82 : decode cX8_firstWinning 82 = .ok (.istore 8, 2) := by decide +kernel
theorem dX8_firstWinning_84 : decode cX8_firstWinning 84 = .ok (.iload 4, 2) := by decide +kernel
theorem dX8_firstWinning_86 : decode cX8_firstWinning 86 = .ok (.iload 8, 2) := by decide +kernel
theorem dX8_firstWinning_88 : decode cX8_firstWinning 88 = .ok (.iand, 1) := by decide +kernel
theorem dX8_firstWinning_89 : decode cX8_firstWinning 89 = .ok (.iload 8, 2) := by decide +kernel
theorem dX8_firstWinning_91 : decode cX8_firstWinning 91 = .ok (.if_icmp .ne 27, 3) := by decide +kernel
theorem dX8_firstWinning_94 : decode cX8_firstWinning 94 = .ok (.iload 4, 2) := by decide +kernel
theorem dX8_firstWinning_96 : decode cX8_firstWinning 96 = .ok (.iload 8, 2) := by decide +kernel
theorem dX8_firstWinning_98 : decode cX8_firstWinning 98 = .ok (.iconst (-1), 1) := by decide +kernel
theorem dX8_firstWinning_99 : decode cX8_firstWinning 99 = .ok (.ixor, 1) := by decide +kernel
theorem dX8_firstWinning_100 : decode cX8_firstWinning 100 = .ok (.iand, 1) := by decide +kernel
theorem dX8_firstWinning_101 : decode cX8_firstWinning 101 = .ok (.invokestatic 299, 3) := by decide +kernel
theorem dX8_firstWinning_104 : decode cX8_firstWinning 104 = .ok (.iload 5, 2) := by decide +kernel
theorem dX8_firstWinning_106 : decode cX8_firstWinning 106 = .ok (.if_icmp .ne 12, 3) := by decide +kernel
theorem dX8_firstWinning_109 : decode cX8_firstWinning 109 = .ok (.iload_n 3, 1) := by decide +kernel
theorem dX8_firstWinning_110 : decode cX8_firstWinning 110 = .ok (.iload 6, 2) := by decide +kernel
theorem dX8_firstWinning_112 : decode cX8_firstWinning 112 = .ok (.iload 7, 2) := by decide +kernel
theorem dX8_firstWinning_114 : decode cX8_firstWinning 114 = .ok (.invokestatic 293, 3) := by decide +kernel
theorem dX8_firstWinning_117 : decode cX8_firstWinning 117 = .ok (.ireturn, 1) := by decide +kernel
theorem dX8_firstWinning_118 : decode cX8_firstWinning 118 = .ok (.iinc 7 1, 3) := by decide +kernel
theorem dX8_firstWinning_121 : decode cX8_firstWinning 121 = .ok (.goto (-55), 3) := by decide +kernel
theorem dX8_firstWinning_124 : decode cX8_firstWinning 124 = .ok (.iinc 6 1, 3) := by decide +kernel
theorem dX8_firstWinning_127 : decode cX8_firstWinning 127 = .ok (.goto (-79), 3) := by decide +kernel
theorem dX8_firstWinning_130 : decode cX8_firstWinning 130 = .ok (.iinc 3 1, 3) := by decide +kernel
theorem dX8_firstWinning_133 : decode cX8_firstWinning 133 = .ok (.goto (-131), 3) := by decide +kernel
theorem dX8_firstWinning_136 : decode cX8_firstWinning 136 = .ok (.iconst (-1), 1) := by decide +kernel
theorem dX8_firstWinning_137 : decode cX8_firstWinning 137 = .ok (.ireturn, 1) := by decide +kernel
theorem dX8_common_0 : decode cX8_common 0 = .ok (.aload_n 0, 1) := by decide +kernel
theorem dX8_common_1 : decode cX8_common 1 = .ok (.iload_n 1, 1) := by decide +kernel
theorem dX8_common_2 : decode cX8_common 2 = .ok (.invokevirtual 217, 3) := by decide +kernel
theorem dX8_common_5 : decode cX8_common 5 = .ok (.aload_n 0, 1) := by decide +kernel
