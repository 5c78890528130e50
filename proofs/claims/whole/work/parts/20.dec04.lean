theorem dX8_init_0 : decode cX8_init 0 = .ok (.aload_n 0, 1) := by decide +kernel
theorem dX8_init_1 : decode cX8_init 1 = .ok (.invokespecial 1, 3) := by decide +kernel
theorem dX8_init_4 : decode cX8_init 4 = .ok (.aload_n 0, 1) := by decide +kernel
theorem dX8_init_5 : decode cX8_init 5 = .ok (.new 7, 3) := by decide +kernel
theorem dX8_init_8 : decode cX8_init 8 = .ok (.dup, 1) := by decide +kernel
theorem dX8_init_9 : decode cX8_init 9 = .ok (.invokespecial 9, 3) := by decide +kernel
theorem dX8_init_12 : decode cX8_init 12 = .ok (.putfield 10, 3) := by decide +kernel
theorem dX8_init_15 : decode cX8_init 15 = .ok (.aload_n 0, 1) := by decide +kernel
theorem dX8_init_16 : decode cX8_init 16 = .ok (.new 16, 3) := by decide +kernel
theorem dX8_init_19 : decode cX8_init 19 = .ok (.dup, 1) := by decide +kernel
theorem dX8_init_20 : decode cX8_init 20 = .ok (.invokespecial 18, 3) := by decide +kernel
theorem dX8_init_23 : decode cX8_init 23 = .ok (.putfield 19, 3) := by decide +kernel
theorem dX8_init_26 : decode cX8_init 26 = .ok (.aload_n 0, 1) := by decide +kernel
theorem dX8_init_27 : decode cX8_init 27 = .ok (.new 16, 3) := by decide +kernel
theorem dX8_init_30 : decode cX8_init 30 = .ok (.dup, 1) := by decide +kernel
theorem dX8_init_31 : decode cX8_init 31 = .ok (.invokespecial 18, 3) := by decide +kernel
theorem dX8_init_34 : decode cX8_init 34 = .ok (.putfield 23, 3) := by decide +kernel
theorem dX8_init_37 : decode cX8_init 37 = .ok (.aload_n 0, 1) := by decide +kernel
theorem dX8_init_38 : decode cX8_init 38 = .ok (.new 26, 3) := by decide +kernel
theorem dX8_init_41 : decode cX8_init 41 = .ok (.dup, 1) := by decide +kernel
theorem dX8_init_42 : decode cX8_init 42 = .ok (.invokespecial 28, 3) := by decide +kernel
theorem dX8_init_45 : decode cX8_init 45 = .ok (.putfield 29, 3) := by decide +kernel
theorem dX8_init_48 : decode cX8_init 48 = .ok (.aload_n 0, 1) := by decide +kernel
theorem dX8_init_49 : decode cX8_init 49 = .ok (.new 26, 3) := by decide +kernel
theorem dX8_init_52 : decode cX8_init 52 = .ok (.dup, 1) := by decide +kernel
theorem dX8_init_53 : decode cX8_init 53 = .ok (.invokespecial 28, 3) := by decide +kernel
theorem dX8_init_56 : decode cX8_init 56 = .ok (.putfield 33, 3) := by decide +kernel
theorem dX8_init_59 : decode cX8_init 59 = .ok (.aload_n 0, 1) := by decide +kernel
theorem dX8_init_60 : decode cX8_init 60 = .ok (.new 36, 3) := by decide +kernel
theorem dX8_init_63 : decode cX8_init 63 = .ok (.dup, 1) := by decide +kernel
theorem dX8_init_64 : decode cX8_init 64 = .ok (.invokespecial 38, 3) := by decide +kernel
theorem dX8_init_67 : decode cX8_init 67 = .ok (.putfield 39, 3) := by decide +kernel
theorem dX8_init_70 : decode cX8_init 70 = .ok (.aload_n 0, 1) := by decide +kernel
theorem dX8_init_71 : decode cX8_init 71 = .ok (.new 36, 3) := by decide +kernel
theorem dX8_init_74 : decode cX8_init 74 = .ok (.dup, 1) := by decide +kernel
theorem dX8_init_75 : decode cX8_init 75 = .ok (.invokespecial 38, 3) := by decide +kernel
theorem dX8_init_78 : decode cX8_init 78 = .ok (.putfield 43, 3) := by decide +kernel
theorem dX8_init_81 : decode cX8_init 81 = .ok (.aload_n 0, 1) := by decide +kernel
theorem dX8_init_82 : decode cX8_init 82 = .ok (.new 46, 3) := by decide +kernel
theorem dX8_init_85 : decode cX8_init 85 = .ok (.dup, 1) := by decide +kernel
theorem dX8_init_86 : decode cX8_init 86 = .ok (.invokespecial 48, 3) := by decide +kernel
theorem dX8_init_89 : decode cX8_init 89 = .ok (.putfield 49, 3) := by decide +kernel
theorem dX8_init_92 : decode cX8_init 92 = .ok (.aload_n 0, 1) := by decide +kernel
theorem dX8_init_93 : decode cX8_init 93 = .ok (.new 53, 3) := by decide +kernel
theorem dX8_init_96 : decode cX8_init 96 = .ok (.dup, 1) := by decide +kernel
theorem dX8_init_97 : decode cX8_init 97 = .ok (.aload_n 0, 1) := by decide +kernel
theorem dX8_init_98 : decode cX8_init 98 = .ok (.getfield 19, 3) := by decide +kernel
theorem dX8_init_101 : decode cX8_init 101 = .ok (.aload_n 0, 1) := by decide +kernel
theorem dX8_init_102 : decode cX8_init 102 = .ok (.getfield 29, 3) := by decide +kernel
theorem dX8_init_105 : decode cX8_init 105 = .ok (.invokespecial 55, 3) := by decide +kernel
theorem dX8_init_108 : decode cX8_init 108 = .ok (.putfield 58, 3) := by decide +kernel
theorem dX8_init_111 : decode cX8_init 111 = .ok (.aload_n 0, 1) := by decide +kernel
theorem dX8_init_112 : decode cX8_init 112 = .ok (.new 53, 3) := by decide +kernel
theorem dX8_init_115 : decode cX8_init 115 = .ok (.dup, 1) := by decide +kernel
theorem dX8_init_116 : decode cX8_init 116 = .ok (.aload_n 0, 1) := by decide +kernel
theorem dX8_init_117 : decode cX8_init 117 = .ok (.getfield 19, 3) := by decide +kernel
theorem dX8_init_120 : decode cX8_init 120 = .ok (.aload_n 0, 1) := by decide +kernel
theorem dX8_init_121 : decode cX8_init 121 = .ok (.getfield 29, 3) := by decide +kernel
theorem dX8_init_124 : decode cX8_init 124 = .ok (.invokespecial 55, 3) := by decide +kernel
theorem dX8_init_127 : decode cX8_init 127 = .ok (.putfield 62, 3) := by decide +kernel
theorem dX8_init_130 : decode cX8_init 130 = .ok (.aload_n 0, 1) := by decide +kernel
theorem dX8_init_131 : decode cX8_init 131 = .ok (.new 65, 3) := by decide +kernel
theorem dX8_init_134 : decode cX8_init 134 = .ok (.dup, 1) := by decide +kernel
theorem dX8_init_135 : decode cX8_init 135 = .ok (.invokespecial 67, 3) := by decide +kernel
theorem dX8_init_138 : decode cX8_init 138 = .ok (.putfield 68, 3) := by decide +kernel
theorem dX8_init_141 : decode cX8_init 141 = .ok (.aload_n 0, 1) := by decide +kernel
theorem dX8_init_142 : decode cX8_init 142 = .ok (.new 72, 3) := by decide +kernel
theorem dX8_init_145 : decode cX8_init 145 = .ok (.dup, 1) := by decide +kernel
theorem dX8_init_146 : decode cX8_init 146 = .ok (.aload_n 0, 1) := by decide +kernel
theorem dX8_init_147 : decode cX8_init 147 = .ok (.getfield 19, 3) := by decide +kernel
theorem dX8_init_150 : decode cX8_init 150 = .ok (.invokespecial 74, 3) := by decide +kernel
theorem dX8_init_153 : decode cX8_init 153 = .ok (.putfield 77, 3) := by decide +kernel
theorem dX8_init_156 : decode cX8_init 156 = .ok (.return_, 1) := by decide +kernel
theorem dX8_feed_0 : decode cX8_feed 0 = .ok (.aload_n 0, 1) := by decide +kernel
theorem dX8_feed_1 : decode cX8_feed 1 = .ok (.getfield 10, 3) := by decide +kernel
theorem dX8_feed_4 : decode cX8_feed 4 = .ok (.getfield 81, 3) := by decide +kernel
theorem dX8_feed_7 : decode cX8_feed 7 = .ok (.bipush 20, 2) := by decide +kernel
theorem dX8_feed_9 : decode cX8_feed 9 = .ok (.iadd, 1) := by decide +kernel
theorem dX8_feed_10 : decode cX8_feed 10 = .ok (.sipush 600, 3) := by decide +kernel
theorem dX8_feed_13 : decode cX8_feed 13 = .ok (.if_icmp .le 5, 3) := by decide +kernel
theorem dX8_feed_16 : decode cX8_feed 16 = .ok (.iconst (-1), 1) := by decide +kernel
theorem dX8_feed_17 : decode cX8_feed 17 = .ok (.ireturn, 1) := by decide +kernel
theorem dX8_feed_18 : decode cX8_feed 18 = .ok (.aload_n 0, 1) := by decide +kernel
theorem dX8_feed_19 : decode cX8_feed 19 = .ok (.getfield 10, 3) := by decide +kernel
theorem dX8_feed_22 : decode cX8_feed 22 = .ok (.iload_n 1, 1) := by decide +kernel
theorem dX8_feed_23 : decode cX8_feed 23 = .ok (.invokevirtual 85, 3) := by decide +kernel
theorem dX8_feed_26 : decode cX8_feed 26 = .ok (.aload_n 0, 1) := by decide +kernel
theorem dX8_feed_27 : decode cX8_feed 27 = .ok (.getfield 10, 3) := by decide +kernel
theorem dX8_feed_30 : decode cX8_feed 30 = .ok (.iload_n 2, 1) := by decide +kernel
theorem dX8_feed_31 : decode cX8_feed 31 = .ok (.invokevirtual 85, 3) := by decide +kernel
theorem dX8_feed_34 : decode cX8_feed 34 = .ok (.aload_n 0, 1) := by decide +kernel
theorem dX8_feed_35 : decode cX8_feed 35 = .ok (.getfield 10, 3) := by decide +kernel
theorem dX8_feed_38 : decode cX8_feed 38 = .ok (.iload_n 3, 1) := by decide +kernel
theorem dX8_feed_39 : decode cX8_feed 39 = .ok (.invokevirtual 85, 3) := by decide +kernel
theorem dX8_feed_42 : decode cX8_feed 42 = .ok (.aload_n 0, 1) := by decide +kernel
theorem dX8_feed_43 : decode cX8_feed 43 = .ok (.getfield 10, 3) := by decide +kernel
theorem dX8_feed_46 : decode cX8_feed 46 = .ok (.iload 4, 2) := by decide +kernel
theorem dX8_feed_48 : decode cX8_feed 48 = .ok (.invokevirtual 85, 3) := by decide +kernel
theorem dX8_feed_51 : decode cX8_feed 51 = .ok (.aload_n 0, 1) := by decide +kernel
theorem dX8_feed_52 : decode cX8_feed 52 = .ok (.getfield 10, 3) := by decide +kernel
theorem dX8_feed_55 : decode cX8_feed 55 = .ok (.iload 5, 2) := by decide +kernel
theorem dX8_feed_57 : decode cX8_feed 57 = .ok (.invokevirtual 85, 3) := by decide +kernel
theorem dX8_feed_60 : decode cX8_feed 60 = .ok (.aload_n 0, 1) := by decide +kernel
theorem dX8_feed_61 : decode cX8_feed 61 = .ok (.getfield 10, 3) := by decide +kernel
theorem dX8_feed_64 : decode cX8_feed 64 = .ok (.getfield 81, 3) := by decide +kernel
theorem dX8_feed_67 : decode cX8_feed 67 = .ok (.ireturn, 1) := by decide +kernel
theorem dX8_must_0 : decode cX8_must 0 = .ok (.iload_n 1, 1) := by decide +kernel
theorem dX8_must_1 : decode cX8_must 1 = .ok (.ifCond .ne 24, 3) := by decide +kernel
theorem dX8_must_4 : decode cX8_must 4 = .ok (.aload_n 0, 1) := by decide +kernel
theorem dX8_must_5 : decode cX8_must 5 = .ok (.dup, 1) := by decide +kernel
theorem dX8_must_6 : decode cX8_must 6 = .ok (.getfield 345, 3) := by decide +kernel
theorem dX8_must_9 : decode cX8_must 9 = .ok (.iconst 1, 1) := by decide +kernel
theorem dX8_must_10 : decode cX8_must 10 = .ok (.iadd, 1) := by decide +kernel
theorem dX8_must_11 : decode cX8_must 11 = .ok (.putfield 345, 3) := by decide +kernel
theorem dX8_must_14 : decode cX8_must 14 = .ok (.new 348, 3) := by decide +kernel
theorem dX8_must_17 : decode cX8_must 17 = .ok (.dup, 1) := by decide +kernel
theorem dX8_must_18 : decode cX8_must 18 = .ok (.ldc_w 350, 3) := by decide +kernel
theorem dX8_must_21 : decode cX8_must 21 = .ok (.invokespecial 352, 3) := by decide +kernel
theorem dX8_must_24 : decode cX8_must 24 = .ok (.athrow, 1) := by decide +kernel
theorem dX8_must_25 : decode cX8_must 25 = .ok (.return_, 1) := by decide +kernel
theorem dX8_openText_0 : decode cX8_openText 0 = .ok (.aload_n 0, 1) := by decide +kernel
theorem dX8_openText_1 : decode cX8_openText 1 = .ok (.iload_n 1, 1) := by decide +kernel
theorem dX8_openText_2 : decode cX8_openText 2 = .ok (.ifCond .lt 23, 3) := by decide +kernel
theorem dX8_openText_5 : decode cX8_openText 5 = .ok (.iload_n 1, 1) := by decide +kernel
theorem dX8_openText_6 : decode cX8_openText 6 = .ok (.iload_n 2, 1) := by decide +kernel
theorem dX8_openText_7 : decode cX8_openText 7 = .ok (.if_icmp .gt 18, 3) := by decide +kernel
theorem dX8_openText_10 : decode cX8_openText 10 = .ok (.iload_n 1, 1) := by decide +kernel
theorem dX8_openText_11 : decode cX8_openText 11 = .ok (.aload_n 0, 1) := by decide +kernel
theorem dX8_openText_12 : decode cX8_openText 12 = .ok (.getfield 10, 3) := by decide +kernel
theorem dX8_openText_15 : decode cX8_openText 15 = .ok (.getfield 81, 3) := by decide +kernel
theorem dX8_openText_18 : decode cX8_openText 18 = .ok (.if_icmp .gt 7, 3) := by decide +kernel
theorem dX8_openText_21 : decode cX8_openText 21 = .ok (.iconst 1, 1) := by decide +kernel
theorem dX8_openText_22 : decode cX8_openText 22 = .ok (.goto 4, 3) := by decide +kernel
theorem dX8_openText_25 : decode cX8_openText 25 = .ok (.iconst 0, 1) := by decide +kernel
theorem dX8_openText_26 : decode cX8_openText 26 = .ok (.invokevirtual 154, 3) := by decide +kernel
theorem dX8_openText_29 : decode cX8_openText 29 = .ok (.aload_n 0, 1) := by decide +kernel
theorem dX8_openText_30 : decode cX8_openText 30 = .ok (.getfield 10, 3) := by decide +kernel
theorem dX8_openText_33 : decode cX8_openText 33 = .ok (.iload_n 1, 1) := by decide +kernel
theorem dX8_openText_34 : decode cX8_openText 34 = .ok (.invokevirtual 158, 3) := by decide +kernel
theorem dX8_openText_37 : decode cX8_openText 37 = .ok (.return_, 1) := by decide +kernel
theorem dX8_page_0 : decode cX8_page 0 = .ok (.aload_n 0, 1) := by decide +kernel
theorem dX8_page_1 : decode cX8_page 1 = .ok (.iload_n 1, 1) := by decide +kernel
theorem dX8_page_2 : decode cX8_page 2 = .ok (.sipush 600, 3) := by decide +kernel
theorem dX8_page_5 : decode cX8_page 5 = .ok (.invokevirtual 89, 3) := by decide +kernel
theorem dX8_page_8 : decode cX8_page 8 = .ok (.aload_n 0, 1) := by decide +kernel
theorem dX8_page_9 : decode cX8_page 9 = .ok (.getfield 23, 3) := by decide +kernel
theorem dX8_page_12 : decode cX8_page 12 = .ok (.aload_n 0, 1) := by decide +kernel
theorem dX8_page_13 : decode cX8_page 13 = .ok (.getfield 10, 3) := by decide +kernel
theorem dX8_page_16 : decode cX8_page 16 = .ok (.invokevirtual 93, 3) := by decide +kernel
theorem dX8_page_19 : decode cX8_page 19 = .ok (.ifCond .ne 14, 3) := by decide +kernel
theorem dX8_page_22 : decode cX8_page 22 = .ok (.aload_n 0, 1) := by decide +kernel
theorem dX8_page_23 : decode cX8_page 23 = .ok (.getfield 10, 3) := by decide +kernel
theorem dX8_page_26 : decode cX8_page 26 = .ok (.getfield 97, 3) := by decide +kernel
theorem dX8_page_29 : decode cX8_page 29 = .ok (.bipush 10, 2) := by decide +kernel
theorem dX8_page_31 : decode cX8_page 31 = .ok (.isub, 1) := by decide +kernel
theorem dX8_page_32 : decode cX8_page 32 = .ok (.ireturn, 1) := by decide +kernel
theorem dX8_page_33 : decode cX8_page 33 = .ok (.aload_n 0, 1) := by decide +kernel
theorem dX8_page_34 : decode cX8_page 34 = .ok (.getfield 19, 3) := by decide +kernel
theorem dX8_page_37 : decode cX8_page 37 = .ok (.aload_n 0, 1) := by decide +kernel
theorem dX8_page_38 : decode cX8_page 38 = .ok (.getfield 23, 3) := by decide +kernel
theorem dX8_page_41 : decode cX8_page 41 = .ok (.invokevirtual 100, 3) := by decide +kernel
theorem dX8_page_44 : decode cX8_page 44 = .ok (.aload_n 0, 1) := by decide +kernel
theorem dX8_page_45 : decode cX8_page 45 = .ok (.getfield 29, 3) := by decide +kernel
theorem dX8_page_48 : decode cX8_page 48 = .ok (.invokevirtual 103, 3) := by decide +kernel
theorem dX8_page_51 : decode cX8_page 51 = .ok (.aload_n 0, 1) := by decide +kernel
theorem dX8_page_52 : decode cX8_page 52 = .ok (.getfield 39, 3) := by decide +kernel
theorem dX8_page_55 : decode cX8_page 55 = .ok (.iconst 0, 1) := by decide +kernel
theorem dX8_page_56 : decode cX8_page 56 = .ok (.putfield 106, 3) := by decide +kernel
theorem dX8_page_59 : decode cX8_page 59 = .ok (.aload_n 0, 1) := by decide +kernel
theorem dX8_page_60 : decode cX8_page 60 = .ok (.getfield 68, 3) := by decide +kernel
theorem dX8_page_63 : decode cX8_page 63 = .ok (.invokevirtual 109, 3) := by decide +kernel
theorem dX8_page_66 : decode cX8_page 66 = .ok (.aload_n 0, 1) := by decide +kernel
theorem dX8_page_67 : decode cX8_page 67 = .ok (.getfield 58, 3) := by decide +kernel
theorem dX8_page_70 : decode cX8_page 70 = .ok (.invokevirtual 112, 3) := by decide +kernel
theorem dX8_page_73 : decode cX8_page 73 = .ok (.aload_n 0, 1) := by decide +kernel
theorem dX8_page_74 : decode cX8_page 74 = .ok (.iconst 0, 1) := by decide +kernel
theorem dX8_page_75 : decode cX8_page 75 = .ok (.putfield 115, 3) := by decide +kernel
theorem dX8_page_78 : decode cX8_page 78 = .ok (.aload_n 0, 1) := by decide +kernel
theorem dX8_page_79 : decode cX8_page 79 = .ok (.getfield 19, 3) := by decide +kernel
theorem dX8_page_82 : decode cX8_page 82 = .ok (.getfield 118, 3) := by decide +kernel
theorem dX8_page_85 : decode cX8_page 85 = .ok (.ireturn, 1) := by decide +kernel
theorem dX8_law_0 : decode cX8_law 0 = .ok (.aload_n 0, 1) := by decide +kernel
theorem dX8_law_1 : decode cX8_law 1 = .ok (.iload_n 1, 1) := by decide +kernel
theorem dX8_law_2 : decode cX8_law 2 = .ok (.sipush 150, 3) := by decide +kernel
theorem dX8_law_5 : decode cX8_law 5 = .ok (.invokevirtual 89, 3) := by decide +kernel
theorem dX8_law_8 : decode cX8_law 8 = .ok (.aload_n 0, 1) := by decide +kernel
theorem dX8_law_9 : decode cX8_law 9 = .ok (.getfield 33, 3) := by decide +kernel
theorem dX8_law_12 : decode cX8_law 12 = .ok (.aload_n 0, 1) := by decide +kernel
theorem dX8_law_13 : decode cX8_law 13 = .ok (.getfield 10, 3) := by decide +kernel
theorem dX8_law_16 : decode cX8_law 16 = .ok (.invokevirtual 121, 3) := by decide +kernel
theorem dX8_law_19 : decode cX8_law 19 = .ok (.ifCond .ne 14, 3) := by decide +kernel
theorem dX8_law_22 : decode cX8_law 22 = .ok (.aload_n 0, 1) := by decide +kernel
theorem dX8_law_23 : decode cX8_law 23 = .ok (.getfield 10, 3) := by decide +kernel
theorem dX8_law_26 : decode cX8_law 26 = .ok (.getfield 97, 3) := by decide +kernel
theorem dX8_law_29 : decode cX8_law 29 = .ok (.bipush 10, 2) := by decide +kernel
theorem dX8_law_31 : decode cX8_law 31 = .ok (.isub, 1) := by decide +kernel
theorem dX8_law_32 : decode cX8_law 32 = .ok (.ireturn, 1) := by decide +kernel
theorem dX8_law_33 : decode cX8_law 33 = .ok (.aload_n 0, 1) := by decide +kernel
theorem dX8_law_34 : decode cX8_law 34 = .ok (.getfield 29, 3) := by decide +kernel
theorem dX8_law_37 : decode cX8_law 37 = .ok (.aload_n 0, 1) := by decide +kernel
theorem dX8_law_38 : decode cX8_law 38 = .ok (.getfield 33, 3) := by decide +kernel
theorem dX8_law_41 : decode cX8_law 41 = .ok (.invokevirtual 122, 3) := by decide +kernel
theorem dX8_law_44 : decode cX8_law 44 = .ok (.iconst 1, 1) := by decide +kernel
theorem dX8_law_45 : decode cX8_law 45 = .ok (.ireturn, 1) := by decide +kernel
theorem dX8_work_0 : decode cX8_work 0 = .ok (.aload_n 0, 1) := by decide +kernel
theorem dX8_work_1 : decode cX8_work 1 = .ok (.iload_n 1, 1) := by decide +kernel
theorem dX8_work_2 : decode cX8_work 2 = .ok (.sipush 150, 3) := by decide +kernel
theorem dX8_work_5 : decode cX8_work 5 = .ok (.invokevirtual 89, 3) := by decide +kernel
theorem dX8_work_8 : decode cX8_work 8 = .ok (.aload_n 0, 1) := by decide +kernel
theorem dX8_work_9 : decode cX8_work 9 = .ok (.getfield 68, 3) := by decide +kernel
theorem dX8_work_12 : decode cX8_work 12 = .ok (.getfield 125, 3) := by decide +kernel
theorem dX8_work_15 : decode cX8_work 15 = .ok (.bipush 16, 2) := by decide +kernel
theorem dX8_work_17 : decode cX8_work 17 = .ok (.if_icmp .lt 6, 3) := by decide +kernel
theorem dX8_work_20 : decode cX8_work 20 = .ok (.bipush (-20), 2) := by decide +kernel
theorem dX8_work_22 : decode cX8_work 22 = .ok (.ireturn, 1) := by decide +kernel
theorem dX8_work_23 : decode cX8_work 23 = .ok (.aload_n 0, 1) := by decide +kernel
theorem dX8_work_24 : decode cX8_work 24 = .ok (.getfield 49, 3) := by decide +kernel
theorem dX8_work_27 : decode cX8_work 27 = .ok (.aload_n 0, 1) := by decide +kernel
theorem dX8_work_28 : decode cX8_work 28 = .ok (.getfield 10, 3) := by decide +kernel
theorem dX8_work_31 : decode cX8_work 31 = .ok (.aload_n 0, 1) := by decide +kernel
theorem dX8_work_32 : decode cX8_work 32 = .ok (.getfield 19, 3) := by decide +kernel
theorem dX8_work_35 : decode cX8_work 35 = .ok (.getfield 128, 3) := by decide +kernel
theorem dX8_work_38 : decode cX8_work 38 = .ok (.invokevirtual 131, 3) := by decide +kernel
theorem dX8_work_41 : decode cX8_work 41 = .ok (.ifCond .ne 14, 3) := by decide +kernel
theorem dX8_work_44 : decode cX8_work 44 = .ok (.aload_n 0, 1) := by decide +kernel
theorem dX8_work_45 : decode cX8_work 45 = .ok (.getfield 10, 3) := by decide +kernel
theorem dX8_work_48 : decode cX8_work 48 = .ok (.getfield 97, 3) := by decide +kernel
theorem dX8_work_51 : decode cX8_work 51 = .ok (.bipush 10, 2) := by decide +kernel
theorem dX8_work_53 : decode cX8_work 53 = .ok (.isub, 1) := by decide +kernel
theorem dX8_work_54 : decode cX8_work 54 = .ok (.ireturn, 1) := by decide +kernel
theorem dX8_work_55 : decode cX8_work 55 = .ok (.aload_n 0, 1) := by decide +kernel
theorem dX8_work_56 : decode cX8_work 56 = .ok (.getfield 68, 3) := by decide +kernel
theorem dX8_work_59 : decode cX8_work 59 = .ok (.aload_n 0, 1) := by decide +kernel
theorem dX8_work_60 : decode cX8_work 60 = .ok (.getfield 58, 3) := by decide +kernel
theorem dX8_work_63 : decode cX8_work 63 = .ok (.invokevirtual 134, 3) := by decide +kernel
theorem dX8_work_66 : decode cX8_work 66 = .ok (.aload_n 0, 1) := by decide +kernel
theorem dX8_work_67 : decode cX8_work 67 = .ok (.getfield 49, 3) := by decide +kernel
theorem dX8_work_70 : decode cX8_work 70 = .ok (.aload_n 0, 1) := by decide +kernel
theorem dX8_work_71 : decode cX8_work 71 = .ok (.getfield 58, 3) := by decide +kernel
theorem dX8_work_74 : decode cX8_work 74 = .ok (.invokevirtual 138, 3) := by decide +kernel
theorem dX8_work_77 : decode cX8_work 77 = .ok (.aload_n 0, 1) := by decide +kernel
theorem dX8_work_78 : decode cX8_work 78 = .ok (.aload_n 0, 1) := by decide +kernel
theorem dX8_work_79 : decode cX8_work 79 = .ok (.getfield 49, 3) := by decide +kernel
theorem dX8_work_82 : decode cX8_work 82 = .ok (.getfield 141, 3) := by decide +kernel
theorem dX8_work_85 : decode cX8_work 85 = .ok (.putfield 115, 3) := by decide +kernel
theorem dX8_work_88 : decode cX8_work 88 = .ok (.aload_n 0, 1) := by decide +kernel
theorem dX8_work_89 : decode cX8_work 89 = .ok (.getfield 49, 3) := by decide +kernel
theorem dX8_work_92 : decode cX8_work 92 = .ok (.getfield 144, 3) := by decide +kernel
theorem dX8_work_95 : decode cX8_work 95 = .ok (.ireturn, 1) := by decide +kernel
theorem dX8_sentence_0 : decode cX8_sentence 0 = .ok (.aload_n 0, 1) := by decide +kernel
theorem dX8_sentence_1 : decode cX8_sentence 1 = .ok (.iload_n 1, 1) := by decide +kernel
theorem dX8_sentence_2 : decode cX8_sentence 2 = .ok (.bipush 60, 2) := by decide +kernel
theorem dX8_sentence_4 : decode cX8_sentence 4 = .ok (.invokevirtual 89, 3) := by decide +kernel
theorem dX8_sentence_7 : decode cX8_sentence 7 = .ok (.aload_n 0, 1) := by decide +kernel
theorem dX8_sentence_8 : decode cX8_sentence 8 = .ok (.getfield 43, 3) := by decide +kernel
theorem dX8_sentence_11 : decode cX8_sentence 11 = .ok (.aload_n 0, 1) := by decide +kernel
theorem dX8_sentence_12 : decode cX8_sentence 12 = .ok (.getfield 10, 3) := by decide +kernel
theorem dX8_sentence_15 : decode cX8_sentence 15 = .ok (.invokevirtual 147, 3) := by decide +kernel
theorem dX8_sentence_18 : decode cX8_sentence 18 = .ok (.ifCond .ne 14, 3) := by decide +kernel
theorem dX8_sentence_21 : decode cX8_sentence 21 = .ok (.aload_n 0, 1) := by decide +kernel
theorem dX8_sentence_22 : decode cX8_sentence 22 = .ok (.getfield 10, 3) := by decide +kernel
theorem dX8_sentence_25 : decode cX8_sentence 25 = .ok (.getfield 97, 3) := by decide +kernel
theorem dX8_sentence_28 : decode cX8_sentence 28 = .ok (.bipush 10, 2) := by decide +kernel
theorem dX8_sentence_30 : decode cX8_sentence 30 = .ok (.isub, 1) := by decide +kernel
theorem dX8_sentence_31 : decode cX8_sentence 31 = .ok (.ireturn, 1) := by decide +kernel
theorem dX8_sentence_32 : decode cX8_sentence 32 = .ok (.aload_n 0, 1) := by decide +kernel
theorem dX8_sentence_33 : decode cX8_sentence 33 = .ok (.getfield 39, 3) := by decide +kernel
theorem dX8_sentence_36 : decode cX8_sentence 36 = .ok (.aload_n 0, 1) := by decide +kernel
theorem dX8_sentence_37 : decode cX8_sentence 37 = .ok (.getfield 43, 3) := by decide +kernel
theorem dX8_sentence_40 : decode cX8_sentence 40 = .ok (.invokevirtual 148, 3) := by decide +kernel
theorem dX8_sentence_43 : decode cX8_sentence 43 = .ok (.aload_n 0, 1) := by decide +kernel
theorem dX8_sentence_44 : decode cX8_sentence 44 = .ok (.getfield 39, 3) := by decide +kernel
theorem dX8_sentence_47 : decode cX8_sentence 47 = .ok (.getfield 106, 3) := by decide +kernel
theorem dX8_sentence_50 : decode cX8_sentence 50 = .ok (.ireturn, 1) := by decide +kernel
theorem dX8_fault_0 : decode cX8_fault 0 = .ok (.aload_n 0, 1) := by decide +kernel
theorem dX8_fault_1 : decode cX8_fault 1 = .ok (.getfield 10, 3) := by decide +kernel
theorem dX8_fault_4 : decode cX8_fault 4 = .ok (.getfield 151, 3) := by decide +kernel
theorem dX8_fault_7 : decode cX8_fault 7 = .ok (.ireturn, 1) := by decide +kernel
theorem dX8_undo_0 : decode cX8_undo 0 = .ok (.aload_n 0, 1) := by decide +kernel
theorem dX8_undo_1 : decode cX8_undo 1 = .ok (.getfield 68, 3) := by decide +kernel
theorem dX8_undo_4 : decode cX8_undo 4 = .ok (.aload_n 0, 1) := by decide +kernel
theorem dX8_undo_5 : decode cX8_undo 5 = .ok (.getfield 58, 3) := by decide +kernel
theorem dX8_undo_8 : decode cX8_undo 8 = .ok (.invokevirtual 161, 3) := by decide +kernel
theorem dX8_undo_11 : decode cX8_undo 11 = .ok (.ifCond .ne 5, 3) := by decide +kernel
theorem dX8_undo_14 : decode cX8_undo 14 = .ok (.iconst (-1), 1) := by decide +kernel
theorem dX8_undo_15 : decode cX8_undo 15 = .ok (.ireturn, 1) := by decide +kernel
theorem dX8_undo_16 : decode cX8_undo 16 = .ok (.aload_n 0, 1) := by decide +kernel
theorem dX8_undo_17 : decode cX8_undo 17 = .ok (.iconst 0, 1) := by decide +kernel
theorem dX8_undo_18 : decode cX8_undo 18 = .ok (.putfield 115, 3) := by decide +kernel
theorem dX8_undo_21 : decode cX8_undo 21 = .ok (.aload_n 0, 1) := by decide +kernel
theorem dX8_undo_22 : decode cX8_undo 22 = .ok (.getfield 68, 3) := by decide +kernel
theorem dX8_undo_25 : decode cX8_undo 25 = .ok (.getfield 125, 3) := by decide +kernel
theorem dX8_undo_28 : decode cX8_undo 28 = .ok (.ireturn, 1) := by decide +kernel
theorem dX8_image_0 : decode cX8_image 0 = .ok (.aload_n 0, 1) := by decide +kernel
theorem dX8_image_1 : decode cX8_image 1 = .ok (.getfield 68, 3) := by decide +kernel
theorem dX8_image_4 : decode cX8_image 4 = .ok (.aload_n 0, 1) := by decide +kernel
theorem dX8_image_5 : decode cX8_image 5 = .ok (.getfield 58, 3) := by decide +kernel
theorem dX8_image_8 : decode cX8_image 8 = .ok (.invokevirtual 165, 3) := by decide +kernel
theorem dX8_image_11 : decode cX8_image 11 = .ok (.ifCond .eq 13, 3) := by decide +kernel
theorem dX8_image_14 : decode cX8_image 14 = .ok (.aload_n 0, 1) := by decide +kernel
theorem dX8_image_15 : decode cX8_image 15 = .ok (.getfield 68, 3) := by decide +kernel
theorem dX8_image_18 : decode cX8_image 18 = .ok (.getfield 168, 3) := by decide +kernel
theorem dX8_image_21 : decode cX8_image 21 = .ok (.goto 4, 3) := by decide +kernel
theorem dX8_image_24 : decode cX8_image 24 = .ok (.iconst (-1), 1) := by decide +kernel
theorem dX8_image_25 : decode cX8_image 25 = .ok (.ireturn, 1) := by decide +kernel
theorem dX8_restore_0 : decode cX8_restore 0 = .ok (.aload_n 0, 1) := by decide +kernel
theorem dX8_restore_1 : decode cX8_restore 1 = .ok (.getfield 68, 3) := by decide +kernel
theorem dX8_restore_4 : decode cX8_restore 4 = .ok (.aload_n 0, 1) := by decide +kernel
theorem dX8_restore_5 : decode cX8_restore 5 = .ok (.getfield 58, 3) := by decide +kernel
theorem dX8_restore_8 : decode cX8_restore 8 = .ok (.invokevirtual 171, 3) := by decide +kernel
theorem dX8_restore_11 : decode cX8_restore 11 = .ok (.ifCond .ne 5, 3) := by decide +kernel
theorem dX8_restore_14 : decode cX8_restore 14 = .ok (.iconst (-1), 1) := by decide +kernel
theorem dX8_restore_15 : decode cX8_restore 15 = .ok (.ireturn, 1) := by decide +kernel
theorem dX8_restore_16 : decode cX8_restore 16 = .ok (.aload_n 0, 1) := by decide +kernel
theorem dX8_restore_17 : decode cX8_restore 17 = .ok (.iconst 0, 1) := by decide +kernel
theorem dX8_restore_18 : decode cX8_restore 18 = .ok (.putfield 115, 3) := by decide +kernel
theorem dX8_restore_21 : decode cX8_restore 21 = .ok (.aload_n 0, 1) := by decide +kernel
theorem dX8_restore_22 : decode cX8_restore 22 = .ok (.getfield 68, 3) := by decide +kernel
theorem dX8_restore_25 : decode cX8_restore 25 = .ok (.getfield 168, 3) := by decide +kernel
theorem dX8_restore_28 : decode cX8_restore 28 = .ok (.ireturn, 1) := by decide +kernel
theorem dX8_apart_0 : decode cX8_apart 0 = .ok (.aload_n 0, 1) := by decide +kernel
theorem dX8_apart_1 : decode cX8_apart 1 = .ok (.getfield 68, 3) := by decide +kernel
theorem dX8_apart_4 : decode cX8_apart 4 = .ok (.getfield 168, 3) := by decide +kernel
theorem dX8_apart_7 : decode cX8_apart 7 = .ok (.ifCond .ne 5, 3) := by decide +kernel
theorem dX8_apart_10 : decode cX8_apart 10 = .ok (.iconst (-1), 1) := by decide +kernel
theorem dX8_apart_11 : decode cX8_apart 11 = .ok (.ireturn, 1) := by decide +kernel
theorem dX8_apart_12 : decode cX8_apart 12 = .ok (.iconst 0, 1) := by decide +kernel
theorem dX8_apart_13 : decode cX8_apart 13 = .ok (.istore_n 1, 1) := by decide +kernel
theorem dX8_apart_14 : decode cX8_apart 14 = .ok (.iconst 0, 1) := by decide +kernel
theorem dX8_apart_15 : decode cX8_apart 15 = .ok (.istore_n 2, 1) := by decide +kernel
theorem dX8_apart_16 : decode cX8_apart 16 = .ok (.iload_n 2, 1) := by decide +kernel
theorem dX8_apart_17 : decode cX8_apart 17 = .ok (.aload_n 0, 1) := by decide +kernel
theorem dX8_apart_18 : decode cX8_apart 18 = .ok (.getfield 19, 3) := by decide +kernel
theorem dX8_apart_21 : decode cX8_apart 21 = .ok (.getfield 128, 3) := by decide +kernel
theorem dX8_apart_24 : decode cX8_apart 24 = .ok (.if_icmp .ge 33, 3) := by decide +kernel
theorem dX8_apart_27 : decode cX8_apart 27 = .ok (.iload_n 1, 1) := by decide +kernel
theorem dX8_apart_28 : decode cX8_apart 28 = .ok (.aload_n 0, 1) := by decide +kernel
theorem dX8_apart_29 : decode cX8_apart 29 = .ok (.getfield 58, 3) := by decide +kernel
theorem dX8_apart_32 : decode cX8_apart 32 = .ok (.getfield 174, 3) := by decide +kernel
theorem dX8_apart_35 : decode cX8_apart 35 = .ok (.iload_n 2, 1) := by decide +kernel
theorem dX8_apart_36 : decode cX8_apart 36 = .ok (.iaload, 1) := by decide +kernel
theorem dX8_apart_37 : decode cX8_apart 37 = .ok (.aload_n 0, 1) := by decide +kernel
theorem dX8_apart_38 : decode cX8_apart 38 = .ok (.getfield 68, 3) := by decide +kernel
theorem dX8_apart_41 : decode cX8_apart 41 = .ok (.iload_n 2, 1) := by decide +kernel
theorem dX8_apart_42 : decode cX8_apart 42 = .ok (.invokevirtual 178, 3) := by decide +kernel
theorem dX8_apart_45 : decode cX8_apart 45 = .ok (.ixor, 1) := by decide +kernel
theorem dX8_apart_46 : decode cX8_apart 46 = .ok (.invokestatic 182, 3) := by decide +kernel
theorem dX8_apart_49 : decode cX8_apart 49 = .ok (.iadd, 1) := by decide +kernel
theorem dX8_apart_50 : decode cX8_apart 50 = .ok (.istore_n 1, 1) := by decide +kernel
theorem dX8_apart_51 : decode cX8_apart 51 = .ok (.iinc 2 1, 3) := by decide +kernel
theorem dX8_apart_54 : decode cX8_apart 54 = .ok (.goto (-38), 3) := by decide +kernel
theorem dX8_apart_57 : decode cX8_apart 57 = .ok (.iload_n 1, 1) := by decide +kernel
theorem dX8_apart_58 : decode cX8_apart 58 = .ok (.ireturn, 1) := by decide +kernel
theorem dX8_mends_0 : decode cX8_mends 0 = .ok (.aload_n 0, 1) := by decide +kernel
theorem dX8_mends_1 : decode cX8_mends 1 = .ok (.getfield 68, 3) := by decide +kernel
theorem dX8_mends_4 : decode cX8_mends 4 = .ok (.getfield 168, 3) := by decide +kernel
theorem dX8_mends_7 : decode cX8_mends 7 = .ok (.ifCond .ne 5, 3) := by decide +kernel
theorem dX8_mends_10 : decode cX8_mends 10 = .ok (.iconst (-1), 1) := by decide +kernel
theorem dX8_mends_11 : decode cX8_mends 11 = .ok (.ireturn, 1) := by decide +kernel
theorem dX8_mends_12 : decode cX8_mends 12 = .ok (.iconst 0, 1) := by decide +kernel
theorem dX8_mends_13 : decode cX8_mends 13 = .ok (.istore_n 1, 1) := by decide +kernel
theorem dX8_mends_14 : decode cX8_mends 14 = .ok (.iconst 0, 1) := by decide +kernel
theorem dX8_mends_15 : decode cX8_mends 15 = .ok (.istore_n 2, 1) := by decide +kernel
theorem dX8_mends_16 : decode cX8_mends 16 = .ok (.iload_n 2, 1) := by decide +kernel
theorem dX8_mends_17 : decode cX8_mends 17 = .ok (.aload_n 0, 1) := by decide +kernel
theorem dX8_mends_18 : decode cX8_mends 18 = .ok (.getfield 19, 3) := by decide +kernel
theorem dX8_mends_21 : decode cX8_mends 21 = .ok (.getfield 128, 3) := by decide +kernel
theorem dX8_mends_24 : decode cX8_mends 24 = .ok (.if_icmp .ge 41, 3) := by decide +kernel
theorem dX8_mends_27 : decode cX8_mends 27 = .ok (.aload_n 0, 1) := by decide +kernel
theorem dX8_mends_28 : decode cX8_mends 28 = .ok (.getfield 58, 3) := by decide +kernel
theorem dX8_mends_31 : decode cX8_mends 31 = .ok (.getfield 174, 3) := by decide +kernel
theorem dX8_mends_34 : decode cX8_mends 34 = .ok (.iload_n 2, 1) := by decide +kernel
theorem dX8_mends_35 : decode cX8_mends 35 = .ok (.iaload, 1) := by decide +kernel
theorem dX8_mends_36 : decode cX8_mends 36 = .ok (.aload_n 0, 1) := by decide +kernel
theorem dX8_mends_37 : decode cX8_mends 37 = .ok (.getfield 68, 3) := by decide +kernel
theorem dX8_mends_40 : decode cX8_mends 40 = .ok (.iload_n 2, 1) := by decide +kernel
theorem dX8_mends_41 : decode cX8_mends 41 = .ok (.invokevirtual 178, 3) := by decide +kernel
theorem dX8_mends_44 : decode cX8_mends 44 = .ok (.ixor, 1) := by decide +kernel
theorem dX8_mends_45 : decode cX8_mends 45 = .ok (.istore_n 3, 1) := by decide +kernel
theorem dX8_mends_46 : decode cX8_mends 46 = .ok (.iload_n 1, 1) := by decide +kernel
theorem dX8_mends_47 : decode cX8_mends 47 = .ok (.iload_n 3, 1) := by decide +kernel
theorem dX8_mends_48 : decode cX8_mends 48 = .ok (.iload_n 3, 1) := by decide +kernel
theorem dX8_mends_49 : decode cX8_mends 49 = .ok (.iconst 1, 1) := by decide +kernel
theorem dX8_mends_50 : decode cX8_mends 50 = .ok (.ishl, 1) := by decide +kernel
theorem dX8_mends_51 : decode cX8_mends 51 = .ok (.iconst (-1), 1) := by decide +kernel
theorem dX8_mends_52 : decode cX8_mends 52 = .ok (.ixor, 1) := by decide +kernel
theorem dX8_mends_53 : decode cX8_mends 53 = .ok (.iand, 1) := by decide +kernel
theorem dX8_mends_54 : decode cX8_mends 54 = .ok (.invokestatic 182, 3) := by decide +kernel
theorem dX8_mends_57 : decode cX8_mends 57 = .ok (.iadd, 1) := by decide +kernel
theorem dX8_mends_58 : decode cX8_mends 58 = .ok (.istore_n 1, 1) := by decide +kernel
theorem dX8_mends_59 : decode cX8_mends 59 = .ok (.iinc 2 1, 3) := by decide +kernel
theorem dX8_mends_62 : decode cX8_mends 62 = .ok (.goto (-46), 3) := by decide +kernel
theorem dX8_mends_65 : decode cX8_mends 65 = .ok (.iload_n 1, 1) := by decide +kernel
theorem dX8_mends_66 : decode cX8_mends 66 = .ok (.ireturn, 1) := by decide +kernel
theorem dX8_emptyLines_0 : decode cX8_emptyLines 0 = .ok (.iconst 0, 1) := by decide +kernel
theorem dX8_emptyLines_1 : decode cX8_emptyLines 1 = .ok (.istore_n 1, 1) := by decide +kernel
theorem dX8_emptyLines_2 : decode cX8_emptyLines 2 = .ok (.iconst 0, 1) := by decide +kernel
theorem dX8_emptyLines_3 : decode cX8_emptyLines 3 = .ok (.istore_n 2, 1) := by decide +kernel
theorem dX8_emptyLines_4 : decode cX8_emptyLines 4 = .ok (.iload_n 2, 1) := by decide +kernel
theorem dX8_emptyLines_5 : decode cX8_emptyLines 5 = .ok (.aload_n 0, 1) := by decide +kernel
theorem dX8_emptyLines_6 : decode cX8_emptyLines 6 = .ok (.getfield 19, 3) := by decide +kernel
theorem dX8_emptyLines_9 : decode cX8_emptyLines 9 = .ok (.getfield 128, 3) := by decide +kernel
theorem dX8_emptyLines_12 : decode cX8_emptyLines 12 = .ok (.if_icmp .ge 26, 3) := by decide +kernel
theorem dX8_emptyLines_15 : decode cX8_emptyLines 15 = .ok (.aload_n 0, 1) := by decide +kernel
theorem dX8_emptyLines_16 : decode cX8_emptyLines 16 = .ok (.getfield 58, 3) := by decide +kernel
theorem dX8_emptyLines_19 : decode cX8_emptyLines 19 = .ok (.iload_n 2, 1) := by decide +kernel
theorem dX8_emptyLines_20 : decode cX8_emptyLines 20 = .ok (.invokevirtual 209, 3) := by decide +kernel
theorem dX8_emptyLines_23 : decode cX8_emptyLines 23 = .ok (.ifCond .ne 9, 3) := by decide +kernel
theorem dX8_emptyLines_26 : decode cX8_emptyLines 26 = .ok (.iload_n 1, 1) := by decide +kernel
theorem dX8_emptyLines_27 : decode cX8_emptyLines 27 = .ok (.iconst 1, 1) := by decide +kernel
theorem dX8_emptyLines_28 : decode cX8_emptyLines 28 = .ok (.iload_n 2, 1) := by decide +kernel
theorem dX8_emptyLines_29 : decode cX8_emptyLines 29 = .ok (.ishl, 1) := by decide +kernel
theorem dX8_emptyLines_30 : decode cX8_emptyLines 30 = .ok (.ior, 1) := by decide +kernel
theorem dX8_emptyLines_31 : decode cX8_emptyLines 31 = .ok (.istore_n 1, 1) := by decide +kernel
theorem dX8_emptyLines_32 : decode cX8_emptyLines 32 = .ok (.iinc 2 1, 3) := by decide +kernel
theorem dX8_emptyLines_35 : decode cX8_emptyLines 35 = .ok (.goto (-31), 3) := by decide +kernel
theorem dX8_emptyLines_38 : decode cX8_emptyLines 38 = .ok (.iload_n 1, 1) := by decide +kernel
theorem dX8_emptyLines_39 : decode cX8_emptyLines 39 = .ok (.ireturn, 1) := by decide +kernel
theorem dX8_told_0 : decode cX8_told 0 = .ok (.aload_n 0, 1) := by decide +kernel
theorem dX8_told_1 : decode cX8_told 1 = .ok (.iload_n 1, 1) := by decide +kernel
theorem dX8_told_2 : decode cX8_told 2 = .ok (.ifCond .lt 13, 3) := by decide +kernel
theorem dX8_told_5 : decode cX8_told 5 = .ok (.iload_n 1, 1) := by decide +kernel
theorem dX8_told_6 : decode cX8_told 6 = .ok (.bipush 10, 2) := by decide +kernel
theorem dX8_told_8 : decode cX8_told 8 = .ok (.if_icmp .gt 7, 3) := by decide +kernel
theorem dX8_told_11 : decode cX8_told 11 = .ok (.iconst 1, 1) := by decide +kernel
theorem dX8_told_12 : decode cX8_told 12 = .ok (.goto 4, 3) := by decide +kernel
theorem dX8_told_15 : decode cX8_told 15 = .ok (.iconst 0, 1) := by decide +kernel
theorem dX8_told_16 : decode cX8_told 16 = .ok (.invokevirtual 154, 3) := by decide +kernel
theorem dX8_told_19 : decode cX8_told 19 = .ok (.iload_n 1, 1) := by decide +kernel
theorem dX8_told_20 : decode cX8_told 20 = .ok (.tableswitch 133 0 9 #[56, 64, 72, 80, 88, 96, 104, 112, 120, 128], 56) := by decide +kernel
theorem dX8_told_76 : decode cX8_told 76 = .ok (.aload_n 0, 1) := by decide +kernel
theorem dX8_told_77 : decode cX8_told 77 = .ok (.getfield 19, 3) := by decide +kernel
theorem dX8_told_80 : decode cX8_told 80 = .ok (.getfield 128, 3) := by decide +kernel
theorem dX8_told_83 : decode cX8_told 83 = .ok (.ireturn, 1) := by decide +kernel
theorem dX8_told_84 : decode cX8_told 84 = .ok (.aload_n 0, 1) := by decide +kernel
theorem dX8_told_85 : decode cX8_told 85 = .ok (.getfield 19, 3) := by decide +kernel
theorem dX8_told_88 : decode cX8_told 88 = .ok (.getfield 118, 3) := by decide +kernel
theorem dX8_told_91 : decode cX8_told 91 = .ok (.ireturn, 1) := by decide +kernel
theorem dX8_told_92 : decode cX8_told 92 = .ok (.aload_n 0, 1) := by decide +kernel
theorem dX8_told_93 : decode cX8_told 93 = .ok (.getfield 58, 3) := by decide +kernel
theorem dX8_told_96 : decode cX8_told 96 = .ok (.invokevirtual 187, 3) := by decide +kernel
theorem dX8_told_99 : decode cX8_told 99 = .ok (.ireturn, 1) := by decide +kernel
theorem dX8_told_100 : decode cX8_told 100 = .ok (.aload_n 0, 1) := by decide +kernel
theorem dX8_told_101 : decode cX8_told 101 = .ok (.getfield 58, 3) := by decide +kernel
theorem dX8_told_104 : decode cX8_told 104 = .ok (.getfield 191, 3) := by decide +kernel
theorem dX8_told_107 : decode cX8_told 107 = .ok (.ireturn, 1) := by decide +kernel
theorem dX8_told_108 : decode cX8_told 108 = .ok (.aload_n 0, 1) := by decide +kernel
theorem dX8_told_109 : decode cX8_told 109 = .ok (.getfield 58, 3) := by decide +kernel
theorem dX8_told_112 : decode cX8_told 112 = .ok (.getfield 194, 3) := by decide +kernel
theorem dX8_told_115 : decode cX8_told 115 = .ok (.ireturn, 1) := by decide +kernel
theorem dX8_told_116 : decode cX8_told 116 = .ok (.aload_n 0, 1) := by decide +kernel
theorem dX8_told_117 : decode cX8_told 117 = .ok (.getfield 58, 3) := by decide +kernel
theorem dX8_told_120 : decode cX8_told 120 = .ok (.getfield 197, 3) := by decide +kernel
theorem dX8_told_123 : decode cX8_told 123 = .ok (.ireturn, 1) := by decide +kernel
theorem dX8_told_124 : decode cX8_told 124 = .ok (.aload_n 0, 1) := by decide +kernel
theorem dX8_told_125 : decode cX8_told 125 = .ok (.getfield 58, 3) := by decide +kernel
theorem dX8_told_128 : decode cX8_told 128 = .ok (.getfield 200, 3) := by decide +kernel
theorem dX8_told_131 : decode cX8_told 131 = .ok (.ireturn, 1) := by decide +kernel
theorem dX8_told_132 : decode cX8_told 132 = .ok (.aload_n 0, 1) := by decide +kernel
theorem dX8_told_133 : decode cX8_told 133 = .ok (.getfield 58, 3) := by decide +kernel
theorem dX8_told_136 : decode cX8_told 136 = .ok (.invokevirtual 203, 3) := by decide +kernel
theorem dX8_told_139 : decode cX8_told 139 = .ok (.ireturn, 1) := by decide +kernel
theorem dX8_told_140 : decode cX8_told 140 = .ok (.aload_n 0, 1) := by decide +kernel
theorem dX8_told_141 : decode cX8_told 141 = .ok (.getfield 39, 3) := by decide +kernel
theorem dX8_told_144 : decode cX8_told 144 = .ok (.getfield 106, 3) := by decide +kernel
theorem dX8_told_147 : decode cX8_told 147 = .ok (.ireturn, 1) := by decide +kernel
theorem dX8_told_148 : decode cX8_told 148 = .ok (.aload_n 0, 1) := by decide +kernel
theorem dX8_told_149 : decode cX8_told 149 = .ok (.getfield 115, 3) := by decide +kernel
theorem dX8_told_152 : decode cX8_told 152 = .ok (.ireturn, 1) := by decide +kernel
theorem dX8_told_153 : decode cX8_told 153 = .ok (.aload_n 0, 1) := by decide +kernel
theorem dX8_told_154 : decode cX8_told 154 = .ok (.invokevirtual 206, 3) := by decide +kernel
theorem dX8_told_157 : decode cX8_told 157 = .ok (.ireturn, 1) := by decide +kernel
theorem dX8_mustBeLine_0 : decode cX8_mustBeLine 0 = .ok (.aload_n 0, 1) := by decide +kernel
theorem dX8_mustBeLine_1 : decode cX8_mustBeLine 1 = .ok (.getfield 19, 3) := by decide +kernel
theorem dX8_mustBeLine_4 : decode cX8_mustBeLine 4 = .ok (.iload_n 1, 1) := by decide +kernel
theorem dX8_mustBeLine_5 : decode cX8_mustBeLine 5 = .ok (.invokevirtual 335, 3) := by decide +kernel
theorem dX8_mustBeLine_8 : decode cX8_mustBeLine 8 = .ok (.ifCond .ne 24, 3) := by decide +kernel
theorem dX8_mustBeLine_11 : decode cX8_mustBeLine 11 = .ok (.aload_n 0, 1) := by decide +kernel
theorem dX8_mustBeLine_12 : decode cX8_mustBeLine 12 = .ok (.dup, 1) := by decide +kernel
theorem dX8_mustBeLine_13 : decode cX8_mustBeLine 13 = .ok (.getfield 342, 3) := by decide +kernel
theorem dX8_mustBeLine_16 : decode cX8_mustBeLine 16 = .ok (.iconst 1, 1) := by decide +kernel
theorem dX8_mustBeLine_17 : decode cX8_mustBeLine 17 = .ok (.iadd, 1) := by decide +kernel
theorem dX8_mustBeLine_18 : decode cX8_mustBeLine 18 = .ok (.putfield 342, 3) := by decide +kernel
theorem dX8_mustBeLine_21 : decode cX8_mustBeLine 21 = .ok (.new 355, 3) := by decide +kernel
theorem dX8_mustBeLine_24 : decode cX8_mustBeLine 24 = .ok (.dup, 1) := by decide +kernel
theorem dX8_mustBeLine_25 : decode cX8_mustBeLine 25 = .ok (.ldc_w 357, 3) := by decide +kernel
theorem dX8_mustBeLine_28 : decode cX8_mustBeLine 28 = .ok (.invokespecial 359, 3) := by decide +kernel
theorem dX8_mustBeLine_31 : decode cX8_mustBeLine 31 = .ok (.athrow, 1) := by decide +kernel
theorem dX8_mustBeLine_32 : decode cX8_mustBeLine 32 = .ok (.return_, 1) := by decide +kernel
theorem dX8_line_0 : decode cX8_line 0 = .ok (.aload_n 0, 1) := by decide +kernel
theorem dX8_line_1 : decode cX8_line 1 = .ok (.iload_n 1, 1) := by decide +kernel
theorem dX8_line_2 : decode cX8_line 2 = .ok (.invokevirtual 212, 3) := by decide +kernel
theorem dX8_line_5 : decode cX8_line 5 = .ok (.aload_n 0, 1) := by decide +kernel
theorem dX8_line_6 : decode cX8_line 6 = .ok (.iload_n 2, 1) := by decide +kernel
theorem dX8_line_7 : decode cX8_line 7 = .ok (.ifCond .lt 12, 3) := by decide +kernel
theorem dX8_line_10 : decode cX8_line 10 = .ok (.iload_n 2, 1) := by decide +kernel
theorem dX8_line_11 : decode cX8_line 11 = .ok (.iconst 4, 1) := by decide +kernel
theorem dX8_line_12 : decode cX8_line 12 = .ok (.if_icmp .gt 7, 3) := by decide +kernel
theorem dX8_line_15 : decode cX8_line 15 = .ok (.iconst 1, 1) := by decide +kernel
theorem dX8_line_16 : decode cX8_line 16 = .ok (.goto 4, 3) := by decide +kernel
theorem dX8_line_19 : decode cX8_line 19 = .ok (.iconst 0, 1) := by decide +kernel
theorem dX8_line_20 : decode cX8_line 20 = .ok (.invokevirtual 154, 3) := by decide +kernel
theorem dX8_line_23 : decode cX8_line 23 = .ok (.iload_n 2, 1) := by decide +kernel
theorem dX8_line_24 : decode cX8_line 24 = .ok (.tableswitch 70 0 3 #[32, 42, 51, 61], 32) := by decide +kernel
theorem dX8_line_56 : decode cX8_line 56 = .ok (.aload_n 0, 1) := by decide +kernel
theorem dX8_line_57 : decode cX8_line 57 = .ok (.getfield 19, 3) := by decide +kernel
theorem dX8_line_60 : decode cX8_line 60 = .ok (.getfield 215, 3) := by decide +kernel
theorem dX8_line_63 : decode cX8_line 63 = .ok (.iload_n 1, 1) := by decide +kernel
theorem dX8_line_64 : decode cX8_line 64 = .ok (.iaload, 1) := by decide +kernel
theorem dX8_line_65 : decode cX8_line 65 = .ok (.ireturn, 1) := by decide +kernel
theorem dX8_line_66 : decode cX8_line 66 = .ok (.aload_n 0, 1) := by decide +kernel
theorem dX8_line_67 : decode cX8_line 67 = .ok (.getfield 58, 3) := by decide +kernel
theorem dX8_line_70 : decode cX8_line 70 = .ok (.iload_n 1, 1) := by decide +kernel
theorem dX8_line_71 : decode cX8_line 71 = .ok (.invokevirtual 209, 3) := by decide +kernel
theorem dX8_line_74 : decode cX8_line 74 = .ok (.ireturn, 1) := by decide +kernel
theorem dX8_line_75 : decode cX8_line 75 = .ok (.aload_n 0, 1) := by decide +kernel
theorem dX8_line_76 : decode cX8_line 76 = .ok (.getfield 58, 3) := by decide +kernel
theorem dX8_line_79 : decode cX8_line 79 = .ok (.getfield 174, 3) := by decide +kernel
theorem dX8_line_82 : decode cX8_line 82 = .ok (.iload_n 1, 1) := by decide +kernel
theorem dX8_line_83 : decode cX8_line 83 = .ok (.iaload, 1) := by decide +kernel
theorem dX8_line_84 : decode cX8_line 84 = .ok (.ireturn, 1) := by decide +kernel
theorem dX8_line_85 : decode cX8_line 85 = .ok (.aload_n 0, 1) := by decide +kernel
theorem dX8_line_86 : decode cX8_line 86 = .ok (.getfield 58, 3) := by decide +kernel
theorem dX8_line_89 : decode cX8_line 89 = .ok (.iload_n 1, 1) := by decide +kernel
theorem dX8_line_90 : decode cX8_line 90 = .ok (.invokevirtual 218, 3) := by decide +kernel
theorem dX8_line_93 : decode cX8_line 93 = .ok (.ireturn, 1) := by decide +kernel
theorem dX8_line_94 : decode cX8_line 94 = .ok (.aload_n 0, 1) := by decide +kernel
theorem dX8_line_95 : decode cX8_line 95 = .ok (.getfield 58, 3) := by decide +kernel
theorem dX8_line_98 : decode cX8_line 98 = .ok (.iload_n 1, 1) := by decide +kernel
theorem dX8_line_99 : decode cX8_line 99 = .ok (.invokevirtual 221, 3) := by decide +kernel
theorem dX8_line_102 : decode cX8_line 102 = .ok (.ireturn, 1) := by decide +kernel
theorem dX8_mustBeWord_0 : decode cX8_mustBeWord 0 = .ok (.aload_n 0, 1) := by decide +kernel
theorem dX8_mustBeWord_1 : decode cX8_mustBeWord 1 = .ok (.getfield 19, 3) := by decide +kernel
theorem dX8_mustBeWord_4 : decode cX8_mustBeWord 4 = .ok (.iload_n 1, 1) := by decide +kernel
theorem dX8_mustBeWord_5 : decode cX8_mustBeWord 5 = .ok (.iload_n 2, 1) := by decide +kernel
theorem dX8_mustBeWord_6 : decode cX8_mustBeWord 6 = .ok (.invokevirtual 360, 3) := by decide +kernel
theorem dX8_mustBeWord_9 : decode cX8_mustBeWord 9 = .ok (.ifCond .ne 24, 3) := by decide +kernel
theorem dX8_mustBeWord_12 : decode cX8_mustBeWord 12 = .ok (.aload_n 0, 1) := by decide +kernel
theorem dX8_mustBeWord_13 : decode cX8_mustBeWord 13 = .ok (.dup, 1) := by decide +kernel
theorem dX8_mustBeWord_14 : decode cX8_mustBeWord 14 = .ok (.getfield 342, 3) := by decide +kernel
theorem dX8_mustBeWord_17 : decode cX8_mustBeWord 17 = .ok (.iconst 1, 1) := by decide +kernel
theorem dX8_mustBeWord_18 : decode cX8_mustBeWord 18 = .ok (.iadd, 1) := by decide +kernel
theorem dX8_mustBeWord_19 : decode cX8_mustBeWord 19 = .ok (.putfield 342, 3) := by decide +kernel
theorem dX8_mustBeWord_22 : decode cX8_mustBeWord 22 = .ok (.new 355, 3) := by decide +kernel
theorem dX8_mustBeWord_25 : decode cX8_mustBeWord 25 = .ok (.dup, 1) := by decide +kernel
theorem dX8_mustBeWord_26 : decode cX8_mustBeWord 26 = .ok (.ldc_w 363, 3) := by decide +kernel
theorem dX8_mustBeWord_29 : decode cX8_mustBeWord 29 = .ok (.invokespecial 359, 3) := by decide +kernel
theorem dX8_mustBeWord_32 : decode cX8_mustBeWord 32 = .ok (.athrow, 1) := by decide +kernel
theorem dX8_mustBeWord_33 : decode cX8_mustBeWord 33 = .ok (.return_, 1) := by decide +kernel
theorem dX8_word_0 : decode cX8_word 0 = .ok (.aload_n 0, 1) := by decide +kernel
theorem dX8_word_1 : decode cX8_word 1 = .ok (.iload_n 1, 1) := by decide +kernel
theorem dX8_word_2 : decode cX8_word 2 = .ok (.iload_n 2, 1) := by decide +kernel
theorem dX8_word_3 : decode cX8_word 3 = .ok (.invokevirtual 224, 3) := by decide +kernel
theorem dX8_word_6 : decode cX8_word 6 = .ok (.aload_n 0, 1) := by decide +kernel
theorem dX8_word_7 : decode cX8_word 7 = .ok (.iload_n 3, 1) := by decide +kernel
theorem dX8_word_8 : decode cX8_word 8 = .ok (.ifCond .eq 8, 3) := by decide +kernel
theorem dX8_word_11 : decode cX8_word 11 = .ok (.iload_n 3, 1) := by decide +kernel
theorem dX8_word_12 : decode cX8_word 12 = .ok (.iconst 1, 1) := by decide +kernel
theorem dX8_word_13 : decode cX8_word 13 = .ok (.if_icmp .ne 7, 3) := by decide +kernel
theorem dX8_word_16 : decode cX8_word 16 = .ok (.iconst 1, 1) := by decide +kernel
theorem dX8_word_17 : decode cX8_word 17 = .ok (.goto 4, 3) := by decide +kernel
theorem dX8_word_20 : decode cX8_word 20 = .ok (.iconst 0, 1) := by decide +kernel
theorem dX8_word_21 : decode cX8_word 21 = .ok (.invokevirtual 154, 3) := by decide +kernel
theorem dX8_word_24 : decode cX8_word 24 = .ok (.iload_n 3, 1) := by decide +kernel
theorem dX8_word_25 : decode cX8_word 25 = .ok (.ifCond .ne 13, 3) := by decide +kernel
theorem dX8_word_28 : decode cX8_word 28 = .ok (.aload_n 0, 1) := by decide +kernel
theorem dX8_word_29 : decode cX8_word 29 = .ok (.getfield 19, 3) := by decide +kernel
theorem dX8_word_32 : decode cX8_word 32 = .ok (.iload_n 1, 1) := by decide +kernel
theorem dX8_word_33 : decode cX8_word 33 = .ok (.iload_n 2, 1) := by decide +kernel
theorem dX8_word_34 : decode cX8_word 34 = .ok (.invokevirtual 227, 3) := by decide +kernel
theorem dX8_word_37 : decode cX8_word 37 = .ok (.ireturn, 1) := by decide +kernel
theorem dX8_word_38 : decode cX8_word 38 = .ok (.aload_n 0, 1) := by decide +kernel
theorem dX8_word_39 : decode cX8_word 39 = .ok (.getfield 58, 3) := by decide +kernel
theorem dX8_word_42 : decode cX8_word 42 = .ok (.iload_n 1, 1) := by decide +kernel
theorem dX8_word_43 : decode cX8_word 43 = .ok (.iload_n 2, 1) := by decide +kernel
theorem dX8_word_44 : decode cX8_word 44 = .ok (.invokevirtual 231, 3) := by decide +kernel
theorem dX8_word_47 : decode cX8_word 47 = .ok (.ifCond .eq 7, 3) := by decide +kernel
theorem dX8_word_50 : decode cX8_word 50 = .ok (.iconst 0, 1) := by decide +kernel
theorem dX8_word_51 : decode cX8_word 51 = .ok (.goto 4, 3) := by decide +kernel
theorem dX8_word_54 : decode cX8_word 54 = .ok (.iconst 1, 1) := by decide +kernel
theorem dX8_word_55 : decode cX8_word 55 = .ok (.ireturn, 1) := by decide +kernel
theorem dX8_reads_0 : decode cX8_reads 0 = .ok (.aload_n 0, 1) := by decide +kernel
theorem dX8_reads_1 : decode cX8_reads 1 = .ok (.iload_n 1, 1) := by decide +kernel
theorem dX8_reads_2 : decode cX8_reads 2 = .ok (.ifCond .lt 7, 3) := by decide +kernel
theorem dX8_reads_5 : decode cX8_reads 5 = .ok (.iconst 1, 1) := by decide +kernel
theorem dX8_reads_6 : decode cX8_reads 6 = .ok (.goto 4, 3) := by decide +kernel
theorem dX8_reads_9 : decode cX8_reads 9 = .ok (.iconst 0, 1) := by decide +kernel
theorem dX8_reads_10 : decode cX8_reads 10 = .ok (.invokevirtual 154, 3) := by decide +kernel
theorem dX8_reads_13 : decode cX8_reads 13 = .ok (.iconst 0, 1) := by decide +kernel
theorem dX8_reads_14 : decode cX8_reads 14 = .ok (.istore_n 2, 1) := by decide +kernel
theorem dX8_reads_15 : decode cX8_reads 15 = .ok (.iconst 0, 1) := by decide +kernel
theorem dX8_reads_16 : decode cX8_reads 16 = .ok (.istore_n 3, 1) := by decide +kernel
theorem dX8_reads_17 : decode cX8_reads 17 = .ok (.iload_n 3, 1) := by decide +kernel
theorem dX8_reads_18 : decode cX8_reads 18 = .ok (.aload_n 0, 1) := by decide +kernel
theorem dX8_reads_19 : decode cX8_reads 19 = .ok (.getfield 19, 3) := by decide +kernel
theorem dX8_reads_22 : decode cX8_reads 22 = .ok (.getfield 128, 3) := by decide +kernel
theorem dX8_reads_25 : decode cX8_reads 25 = .ok (.if_icmp .ge 64, 3) := by decide +kernel
theorem dX8_reads_28 : decode cX8_reads 28 = .ok (.iconst 0, 1) := by decide +kernel
theorem dX8_reads_29 : decode cX8_reads 29 = .ok (.istore 4, 2) := by decide +kernel
theorem dX8_reads_31 : decode cX8_reads 31 = .ok (.iload 4, 2) := by decide +kernel
theorem dX8_reads_33 : decode cX8_reads 33 = .ok (.aload_n 0, 1) := by decide +kernel
theorem dX8_reads_34 : decode cX8_reads 34 = .ok (.getfield 19, 3) := by decide +kernel
theorem dX8_reads_37 : decode cX8_reads 37 = .ok (.getfield 215, 3) := by decide +kernel
theorem dX8_reads_40 : decode cX8_reads 40 = .ok (.iload_n 3, 1) := by decide +kernel
theorem dX8_reads_41 : decode cX8_reads 41 = .ok (.iaload, 1) := by decide +kernel
theorem dX8_reads_42 : decode cX8_reads 42 = .ok (.if_icmp .ge 41, 3) := by decide +kernel
theorem dX8_reads_45 : decode cX8_reads 45 = .ok (.aload_n 0, 1) := by decide +kernel
theorem dX8_reads_46 : decode cX8_reads 46 = .ok (.getfield 58, 3) := by decide +kernel
theorem dX8_reads_49 : decode cX8_reads 49 = .ok (.iload_n 3, 1) := by decide +kernel
theorem dX8_reads_50 : decode cX8_reads 50 = .ok (.iload 4, 2) := by decide +kernel
theorem dX8_reads_52 : decode cX8_reads 52 = .ok (.invokevirtual 231, 3) := by decide +kernel
theorem dX8_reads_55 : decode cX8_reads 55 = .ok (.ifCond .eq 22, 3) := by decide +kernel
theorem dX8_reads_58 : decode cX8_reads 58 = .ok (.iload_n 2, 1) := by decide +kernel
theorem dX8_reads_59 : decode cX8_reads 59 = .ok (.iload_n 1, 1) := by decide +kernel
theorem dX8_reads_60 : decode cX8_reads 60 = .ok (.if_icmp .ne 14, 3) := by decide +kernel
theorem dX8_reads_63 : decode cX8_reads 63 = .ok (.aload_n 0, 1) := by decide +kernel
theorem dX8_reads_64 : decode cX8_reads 64 = .ok (.getfield 19, 3) := by decide +kernel
theorem dX8_reads_67 : decode cX8_reads 67 = .ok (.iload_n 3, 1) := by decide +kernel
theorem dX8_reads_68 : decode cX8_reads 68 = .ok (.iload 4, 2) := by decide +kernel
theorem dX8_reads_70 : decode cX8_reads 70 = .ok (.invokevirtual 227, 3) := by decide +kernel
theorem dX8_reads_73 : decode cX8_reads 73 = .ok (.ireturn, 1) := by decide +kernel
theorem dX8_reads_74 : decode cX8_reads 74 = .ok (.iinc 2 1, 3) := by decide +kernel
theorem dX8_reads_77 : decode cX8_reads 77 = .ok (.iinc 4 1, 3) := by decide +kernel
theorem dX8_reads_80 : decode cX8_reads 80 = .ok (.goto (-49), 3) := by decide +kernel
theorem dX8_reads_83 : decode cX8_reads 83 = .ok (.iinc 3 1, 3) := by decide +kernel
theorem dX8_reads_86 : decode cX8_reads 86 = .ok (.goto (-69), 3) := by decide +kernel
theorem dX8_reads_89 : decode cX8_reads 89 = .ok (.iconst (-1), 1) := by decide +kernel
theorem dX8_reads_90 : decode cX8_reads 90 = .ok (.ireturn, 1) := by decide +kernel
theorem dX8_cell_0 : decode cX8_cell 0 = .ok (.aload_n 0, 1) := by decide +kernel
theorem dX8_cell_1 : decode cX8_cell 1 = .ok (.iload_n 1, 1) := by decide +kernel
theorem dX8_cell_2 : decode cX8_cell 2 = .ok (.ifCond .lt 12, 3) := by decide +kernel
theorem dX8_cell_5 : decode cX8_cell 5 = .ok (.iload_n 1, 1) := by decide +kernel
theorem dX8_cell_6 : decode cX8_cell 6 = .ok (.iconst 4, 1) := by decide +kernel
theorem dX8_cell_7 : decode cX8_cell 7 = .ok (.if_icmp .ge 7, 3) := by decide +kernel
theorem dX8_cell_10 : decode cX8_cell 10 = .ok (.iconst 1, 1) := by decide +kernel
theorem dX8_cell_11 : decode cX8_cell 11 = .ok (.goto 4, 3) := by decide +kernel
theorem dX8_cell_14 : decode cX8_cell 14 = .ok (.iconst 0, 1) := by decide +kernel
theorem dX8_cell_15 : decode cX8_cell 15 = .ok (.invokevirtual 154, 3) := by decide +kernel
theorem dX8_cell_18 : decode cX8_cell 18 = .ok (.aload_n 0, 1) := by decide +kernel
theorem dX8_cell_19 : decode cX8_cell 19 = .ok (.getfield 58, 3) := by decide +kernel
theorem dX8_cell_22 : decode cX8_cell 22 = .ok (.getfield 235, 3) := by decide +kernel
theorem dX8_cell_25 : decode cX8_cell 25 = .ok (.iload_n 1, 1) := by decide +kernel
theorem dX8_cell_26 : decode cX8_cell 26 = .ok (.iaload, 1) := by decide +kernel
theorem dX8_cell_27 : decode cX8_cell 27 = .ok (.ireturn, 1) := by decide +kernel
theorem dX8_often_0 : decode cX8_often 0 = .ok (.aload_n 0, 1) := by decide +kernel
theorem dX8_often_1 : decode cX8_often 1 = .ok (.iload_n 1, 1) := by decide +kernel
theorem dX8_often_2 : decode cX8_often 2 = .ok (.ifCond .eq 8, 3) := by decide +kernel
theorem dX8_often_5 : decode cX8_often 5 = .ok (.iload_n 1, 1) := by decide +kernel
theorem dX8_often_6 : decode cX8_often 6 = .ok (.iconst 1, 1) := by decide +kernel
theorem dX8_often_7 : decode cX8_often 7 = .ok (.if_icmp .ne 7, 3) := by decide +kernel
theorem dX8_often_10 : decode cX8_often 10 = .ok (.iconst 1, 1) := by decide +kernel
theorem dX8_often_11 : decode cX8_often 11 = .ok (.goto 4, 3) := by decide +kernel
theorem dX8_often_14 : decode cX8_often 14 = .ok (.iconst 0, 1) := by decide +kernel
theorem dX8_often_15 : decode cX8_often 15 = .ok (.invokevirtual 154, 3) := by decide +kernel
theorem dX8_often_18 : decode cX8_often 18 = .ok (.iconst 0, 1) := by decide +kernel
theorem dX8_often_19 : decode cX8_often 19 = .ok (.istore_n 2, 1) := by decide +kernel
theorem dX8_often_20 : decode cX8_often 20 = .ok (.iconst (-1), 1) := by decide +kernel
theorem dX8_often_21 : decode cX8_often 21 = .ok (.istore_n 3, 1) := by decide +kernel
theorem dX8_often_22 : decode cX8_often 22 = .ok (.iconst 0, 1) := by decide +kernel
theorem dX8_often_23 : decode cX8_often 23 = .ok (.istore 4, 2) := by decide +kernel
theorem dX8_often_25 : decode cX8_often 25 = .ok (.iload 4, 2) := by decide +kernel
theorem dX8_often_27 : decode cX8_often 27 = .ok (.bipush 15, 2) := by decide +kernel
theorem dX8_often_29 : decode cX8_often 29 = .ok (.if_icmp .gt 32, 3) := by decide +kernel
theorem dX8_often_32 : decode cX8_often 32 = .ok (.aload_n 0, 1) := by decide +kernel
theorem dX8_often_33 : decode cX8_often 33 = .ok (.getfield 58, 3) := by decide +kernel
theorem dX8_often_36 : decode cX8_often 36 = .ok (.iload 4, 2) := by decide +kernel
theorem dX8_often_38 : decode cX8_often 38 = .ok (.invokevirtual 238, 3) := by decide +kernel
theorem dX8_often_41 : decode cX8_often 41 = .ok (.istore 5, 2) := by decide +kernel
theorem dX8_often_43 : decode cX8_often 43 = .ok (.iload 5, 2) := by decide +kernel
theorem dX8_often_45 : decode cX8_often 45 = .ok (.iload_n 2, 1) := by decide +kernel
theorem dX8_often_46 : decode cX8_often 46 = .ok (.if_icmp .le 9, 3) := by decide +kernel
theorem dX8_often_49 : decode cX8_often 49 = .ok (.iload 5, 2) := by decide +kernel
theorem dX8_often_51 : decode cX8_often 51 = .ok (.istore_n 2, 1) := by decide +kernel
theorem dX8_often_52 : decode cX8_often 52 = .ok (.iload 4, 2) := by decide +kernel
theorem dX8_often_54 : decode cX8_often 54 = .ok (.istore_n 3, 1) := by decide +kernel
theorem dX8_often_55 : decode cX8_often 55 = .ok (.iinc 4 1, 3) := by decide +kernel
theorem dX8_often_58 : decode cX8_often 58 = .ok (.goto (-33), 3) := by decide +kernel
theorem dX8_often_61 : decode cX8_often 61 = .ok (.iload_n 3, 1) := by decide +kernel
theorem dX8_often_62 : decode cX8_often 62 = .ok (.iconst (-1), 1) := by decide +kernel
theorem dX8_often_63 : decode cX8_often 63 = .ok (.if_icmp .ne 5, 3) := by decide +kernel
theorem dX8_often_66 : decode cX8_often 66 = .ok (.iconst (-1), 1) := by decide +kernel
theorem dX8_often_67 : decode cX8_often 67 = .ok (.ireturn, 1) := by decide +kernel
theorem dX8_often_68 : decode cX8_often 68 = .ok (.iload_n 1, 1) := by decide +kernel
theorem dX8_often_69 : decode cX8_often 69 = .ok (.ifCond .ne 7, 3) := by decide +kernel
theorem dX8_often_72 : decode cX8_often 72 = .ok (.iload_n 3, 1) := by decide +kernel
theorem dX8_often_73 : decode cX8_often 73 = .ok (.goto 4, 3) := by decide +kernel
theorem dX8_often_76 : decode cX8_often 76 = .ok (.iload_n 2, 1) := by decide +kernel
theorem dX8_often_77 : decode cX8_often 77 = .ok (.ireturn, 1) := by decide +kernel
theorem dX8_deeds_0 : decode cX8_deeds 0 = .ok (.aload_n 0, 1) := by decide +kernel
theorem dX8_deeds_1 : decode cX8_deeds 1 = .ok (.iload_n 1, 1) := by decide +kernel
theorem dX8_deeds_2 : decode cX8_deeds 2 = .ok (.ifCond .lt 13, 3) := by decide +kernel
theorem dX8_deeds_5 : decode cX8_deeds 5 = .ok (.iload_n 1, 1) := by decide +kernel
theorem dX8_deeds_6 : decode cX8_deeds 6 = .ok (.bipush 15, 2) := by decide +kernel
theorem dX8_deeds_8 : decode cX8_deeds 8 = .ok (.if_icmp .gt 7, 3) := by decide +kernel
theorem dX8_deeds_11 : decode cX8_deeds 11 = .ok (.iconst 1, 1) := by decide +kernel
theorem dX8_deeds_12 : decode cX8_deeds 12 = .ok (.goto 4, 3) := by decide +kernel
theorem dX8_deeds_15 : decode cX8_deeds 15 = .ok (.iconst 0, 1) := by decide +kernel
theorem dX8_deeds_16 : decode cX8_deeds 16 = .ok (.invokevirtual 154, 3) := by decide +kernel
theorem dX8_deeds_19 : decode cX8_deeds 19 = .ok (.iconst 0, 1) := by decide +kernel
theorem dX8_deeds_20 : decode cX8_deeds 20 = .ok (.istore_n 2, 1) := by decide +kernel
theorem dX8_deeds_21 : decode cX8_deeds 21 = .ok (.iconst 0, 1) := by decide +kernel
theorem dX8_deeds_22 : decode cX8_deeds 22 = .ok (.istore_n 3, 1) := by decide +kernel
theorem dX8_deeds_23 : decode cX8_deeds 23 = .ok (.iload_n 3, 1) := by decide +kernel
theorem dX8_deeds_24 : decode cX8_deeds 24 = .ok (.aload_n 0, 1) := by decide +kernel
theorem dX8_deeds_25 : decode cX8_deeds 25 = .ok (.getfield 19, 3) := by decide +kernel
theorem dX8_deeds_28 : decode cX8_deeds 28 = .ok (.getfield 128, 3) := by decide +kernel
theorem dX8_deeds_31 : decode cX8_deeds 31 = .ok (.if_icmp .ge 27, 3) := by decide +kernel
theorem dX8_deeds_34 : decode cX8_deeds 34 = .ok (.aload_n 0, 1) := by decide +kernel
theorem dX8_deeds_35 : decode cX8_deeds 35 = .ok (.getfield 58, 3) := by decide +kernel
theorem dX8_deeds_38 : decode cX8_deeds 38 = .ok (.iload_n 3, 1) := by decide +kernel
theorem dX8_deeds_39 : decode cX8_deeds 39 = .ok (.invokevirtual 218, 3) := by decide +kernel
theorem dX8_deeds_42 : decode cX8_deeds 42 = .ok (.iload_n 1, 1) := by decide +kernel
theorem dX8_deeds_43 : decode cX8_deeds 43 = .ok (.if_icmp .ne 9, 3) := by decide +kernel
theorem dX8_deeds_46 : decode cX8_deeds 46 = .ok (.iload_n 2, 1) := by decide +kernel
theorem dX8_deeds_47 : decode cX8_deeds 47 = .ok (.iconst 1, 1) := by decide +kernel
theorem dX8_deeds_48 : decode cX8_deeds 48 = .ok (.iload_n 3, 1) := by decide +kernel
theorem dX8_deeds_49 : decode cX8_deeds 49 = .ok (.ishl, 1) := by decide +kernel
theorem dX8_deeds_50 : decode cX8_deeds 50 = .ok (.ior, 1) := by decide +kernel
theorem dX8_deeds_51 : decode cX8_deeds 51 = .ok (.istore_n 2, 1) := by decide +kernel
theorem dX8_deeds_52 : decode cX8_deeds 52 = .ok (.iinc 3 1, 3) := by decide +kernel
theorem dX8_deeds_55 : decode cX8_deeds 55 = .ok (.goto (-32), 3) := by decide +kernel
theorem dX8_deeds_58 : decode cX8_deeds 58 = .ok (.iload_n 2, 1) := by decide +kernel
theorem dX8_deeds_59 : decode cX8_deeds 59 = .ok (.ireturn, 1) := by decide +kernel
theorem dX8_longest_0 : decode cX8_longest 0 = .ok (.aload_n 0, 1) := by decide +kernel
theorem dX8_longest_1 : decode cX8_longest 1 = .ok (.iload_n 1, 1) := by decide +kernel
theorem dX8_longest_2 : decode cX8_longest 2 = .ok (.ifCond .eq 8, 3) := by decide +kernel
theorem dX8_longest_5 : decode cX8_longest 5 = .ok (.iload_n 1, 1) := by decide +kernel
theorem dX8_longest_6 : decode cX8_longest 6 = .ok (.iconst 1, 1) := by decide +kernel
theorem dX8_longest_7 : decode cX8_longest 7 = .ok (.if_icmp .ne 7, 3) := by decide +kernel
theorem dX8_longest_10 : decode cX8_longest 10 = .ok (.iconst 1, 1) := by decide +kernel
theorem dX8_longest_11 : decode cX8_longest 11 = .ok (.goto 4, 3) := by decide +kernel
theorem dX8_longest_14 : decode cX8_longest 14 = .ok (.iconst 0, 1) := by decide +kernel
theorem dX8_longest_15 : decode cX8_longest 15 = .ok (.invokevirtual 154, 3) := by decide +kernel
theorem dX8_longest_18 : decode cX8_longest 18 = .ok (.iconst (-1), 1) := by decide +kernel
theorem dX8_longest_19 : decode cX8_longest 19 = .ok (.istore_n 2, 1) := by decide +kernel
theorem dX8_longest_20 : decode cX8_longest 20 = .ok (.iconst (-1), 1) := by decide +kernel
theorem dX8_longest_21 : decode cX8_longest 21 = .ok (.istore_n 3, 1) := by decide +kernel
theorem dX8_longest_22 : decode cX8_longest 22 = .ok (.iconst 0, 1) := by decide +kernel
theorem dX8_longest_23 : decode cX8_longest 23 = .ok (.istore 4, 2) := by decide +kernel
theorem dX8_longest_25 : decode cX8_longest 25 = .ok (.iload 4, 2) := by decide +kernel
theorem dX8_longest_27 : decode cX8_longest 27 = .ok (.aload_n 0, 1) := by decide +kernel
theorem dX8_longest_28 : decode cX8_longest 28 = .ok (.getfield 19, 3) := by decide +kernel
theorem dX8_longest_31 : decode cX8_longest 31 = .ok (.getfield 128, 3) := by decide +kernel
theorem dX8_longest_34 : decode cX8_longest 34 = .ok (.if_icmp .ge 35, 3) := by decide +kernel
theorem dX8_longest_37 : decode cX8_longest 37 = .ok (.aload_n 0, 1) := by decide +kernel
theorem dX8_longest_38 : decode cX8_longest 38 = .ok (.getfield 58, 3) := by decide +kernel
theorem dX8_longest_41 : decode cX8_longest 41 = .ok (.iload 4, 2) := by decide +kernel
theorem dX8_longest_43 : decode cX8_longest 43 = .ok (.invokevirtual 209, 3) := by decide +kernel
theorem dX8_longest_46 : decode cX8_longest 46 = .ok (.iload_n 2, 1) := by decide +kernel
theorem dX8_longest_47 : decode cX8_longest 47 = .ok (.if_icmp .le 16, 3) := by decide +kernel
theorem dX8_longest_50 : decode cX8_longest 50 = .ok (.aload_n 0, 1) := by decide +kernel
theorem dX8_longest_51 : decode cX8_longest 51 = .ok (.getfield 58, 3) := by decide +kernel
theorem dX8_longest_54 : decode cX8_longest 54 = .ok (.iload 4, 2) := by decide +kernel
theorem dX8_longest_56 : decode cX8_longest 56 = .ok (.invokevirtual 209, 3) := by decide +kernel
theorem dX8_longest_59 : decode cX8_longest 59 = .ok (.istore_n 2, 1) := by decide +kernel
theorem dX8_longest_60 : decode cX8_longest 60 = .ok (.iload 4, 2) := by decide +kernel
theorem dX8_longest_62 : decode cX8_longest 62 = .ok (.istore_n 3, 1) := by decide +kernel
theorem dX8_longest_63 : decode cX8_longest 63 = .ok (.iinc 4 1, 3) := by decide +kernel
theorem dX8_longest_66 : decode cX8_longest 66 = .ok (.goto (-41), 3) := by decide +kernel
theorem dX8_longest_69 : decode cX8_longest 69 = .ok (.iload_n 1, 1) := by decide +kernel
theorem dX8_longest_70 : decode cX8_longest 70 = .ok (.ifCond .ne 7, 3) := by decide +kernel
theorem dX8_longest_73 : decode cX8_longest 73 = .ok (.iload_n 3, 1) := by decide +kernel
theorem dX8_longest_74 : decode cX8_longest 74 = .ok (.goto 4, 3) := by decide +kernel
theorem dX8_longest_77 : decode cX8_longest 77 = .ok (.iload_n 2, 1) := by decide +kernel
theorem dX8_longest_78 : decode cX8_longest 78 = .ok (.ireturn, 1) := by decide +kernel
theorem dX8_cost_0 : decode cX8_cost 0 = .ok (.aload_n 0, 1) := by decide +kernel
theorem dX8_cost_1 : decode cX8_cost 1 = .ok (.iload_n 1, 1) := by decide +kernel
theorem dX8_cost_2 : decode cX8_cost 2 = .ok (.iload_n 2, 1) := by decide +kernel
theorem dX8_cost_3 : decode cX8_cost 3 = .ok (.invokevirtual 224, 3) := by decide +kernel
theorem dX8_cost_6 : decode cX8_cost 6 = .ok (.aload_n 0, 1) := by decide +kernel
theorem dX8_cost_7 : decode cX8_cost 7 = .ok (.iload_n 1, 1) := by decide +kernel
theorem dX8_cost_8 : decode cX8_cost 8 = .ok (.iload_n 3, 1) := by decide +kernel
theorem dX8_cost_9 : decode cX8_cost 9 = .ok (.invokevirtual 224, 3) := by decide +kernel
theorem dX8_cost_12 : decode cX8_cost 12 = .ok (.aload_n 0, 1) := by decide +kernel
theorem dX8_cost_13 : decode cX8_cost 13 = .ok (.iload_n 2, 1) := by decide +kernel
theorem dX8_cost_14 : decode cX8_cost 14 = .ok (.iload_n 3, 1) := by decide +kernel
theorem dX8_cost_15 : decode cX8_cost 15 = .ok (.if_icmp .gt 7, 3) := by decide +kernel
theorem dX8_cost_18 : decode cX8_cost 18 = .ok (.iconst 1, 1) := by decide +kernel
theorem dX8_cost_19 : decode cX8_cost 19 = .ok (.goto 4, 3) := by decide +kernel
theorem dX8_cost_22 : decode cX8_cost 22 = .ok (.iconst 0, 1) := by decide +kernel
theorem dX8_cost_23 : decode cX8_cost 23 = .ok (.invokevirtual 154, 3) := by decide +kernel
theorem dX8_cost_26 : decode cX8_cost 26 = .ok (.aload_n 0, 1) := by decide +kernel
theorem dX8_cost_27 : decode cX8_cost 27 = .ok (.getfield 58, 3) := by decide +kernel
theorem dX8_cost_30 : decode cX8_cost 30 = .ok (.iload_n 1, 1) := by decide +kernel
theorem dX8_cost_31 : decode cX8_cost 31 = .ok (.iload_n 2, 1) := by decide +kernel
theorem dX8_cost_32 : decode cX8_cost 32 = .ok (.iload_n 3, 1) := by decide +kernel
theorem dX8_cost_33 : decode cX8_cost 33 = .ok (.invokevirtual 241, 3) := by decide +kernel
theorem dX8_cost_36 : decode cX8_cost 36 = .ok (.ireturn, 1) := by decide +kernel
theorem dX8_would_0 : decode cX8_would 0 = .ok (.aload_n 0, 1) := by decide +kernel
theorem dX8_would_1 : decode cX8_would 1 = .ok (.iload_n 1, 1) := by decide +kernel
theorem dX8_would_2 : decode cX8_would 2 = .ok (.iconst 1, 1) := by decide +kernel
theorem dX8_would_3 : decode cX8_would 3 = .ok (.if_icmp .lt 23, 3) := by decide +kernel
theorem dX8_would_6 : decode cX8_would 6 = .ok (.iload_n 1, 1) := by decide +kernel
theorem dX8_would_7 : decode cX8_would 7 = .ok (.bipush 8, 2) := by decide +kernel
theorem dX8_would_9 : decode cX8_would 9 = .ok (.if_icmp .gt 17, 3) := by decide +kernel
theorem dX8_would_12 : decode cX8_would 12 = .ok (.iload_n 2, 1) := by decide +kernel
theorem dX8_would_13 : decode cX8_would 13 = .ok (.ifCond .lt 13, 3) := by decide +kernel
theorem dX8_would_16 : decode cX8_would 16 = .ok (.iload_n 2, 1) := by decide +kernel
theorem dX8_would_17 : decode cX8_would 17 = .ok (.bipush 8, 2) := by decide +kernel
theorem dX8_would_19 : decode cX8_would 19 = .ok (.if_icmp .gt 7, 3) := by decide +kernel
theorem dX8_would_22 : decode cX8_would 22 = .ok (.iconst 1, 1) := by decide +kernel
theorem dX8_would_23 : decode cX8_would 23 = .ok (.goto 4, 3) := by decide +kernel
theorem dX8_would_26 : decode cX8_would 26 = .ok (.iconst 0, 1) := by decide +kernel
theorem dX8_would_27 : decode cX8_would 27 = .ok (.invokevirtual 154, 3) := by decide +kernel
theorem dX8_would_30 : decode cX8_would 30 = .ok (.aload_n 0, 1) := by decide +kernel
theorem dX8_would_31 : decode cX8_would 31 = .ok (.iload_n 3, 1) := by decide +kernel
theorem dX8_would_32 : decode cX8_would 32 = .ok (.ifCond .lt 25, 3) := by decide +kernel
theorem dX8_would_35 : decode cX8_would 35 = .ok (.iload_n 3, 1) := by decide +kernel
theorem dX8_would_36 : decode cX8_would 36 = .ok (.bipush 8, 2) := by decide +kernel
theorem dX8_would_38 : decode cX8_would 38 = .ok (.if_icmp .ge 19, 3) := by decide +kernel
theorem dX8_would_41 : decode cX8_would 41 = .ok (.iload 4, 2) := by decide +kernel
theorem dX8_would_43 : decode cX8_would 43 = .ok (.ifCond .lt 14, 3) := by decide +kernel
theorem dX8_would_46 : decode cX8_would 46 = .ok (.iload 4, 2) := by decide +kernel
theorem dX8_would_48 : decode cX8_would 48 = .ok (.bipush 6, 2) := by decide +kernel
theorem dX8_would_50 : decode cX8_would 50 = .ok (.if_icmp .ge 7, 3) := by decide +kernel
theorem dX8_would_53 : decode cX8_would 53 = .ok (.iconst 1, 1) := by decide +kernel
theorem dX8_would_54 : decode cX8_would 54 = .ok (.goto 4, 3) := by decide +kernel
theorem dX8_would_57 : decode cX8_would 57 = .ok (.iconst 0, 1) := by decide +kernel
theorem dX8_would_58 : decode cX8_would 58 = .ok (.invokevirtual 154, 3) := by decide +kernel
theorem dX8_would_61 : decode cX8_would 61 = .ok (.aload_n 0, 1) := by decide +kernel
theorem dX8_would_62 : decode cX8_would 62 = .ok (.iload 5, 2) := by decide +kernel
theorem dX8_would_64 : decode cX8_would 64 = .ok (.ifCond .lt 14, 3) := by decide +kernel
theorem dX8_would_67 : decode cX8_would 67 = .ok (.iload 5, 2) := by decide +kernel
theorem dX8_would_69 : decode cX8_would 69 = .ok (.bipush 48, 2) := by decide +kernel
theorem dX8_would_71 : decode cX8_would 71 = .ok (.if_icmp .gt 7, 3) := by decide +kernel
theorem dX8_would_74 : decode cX8_would 74 = .ok (.iconst 1, 1) := by decide +kernel
theorem dX8_would_75 : decode cX8_would 75 = .ok (.goto 4, 3) := by decide +kernel
theorem dX8_would_78 : decode cX8_would 78 = .ok (.iconst 0, 1) := by decide +kernel
theorem dX8_would_79 : decode cX8_would 79 = .ok (.invokevirtual 154, 3) := by decide +kernel
theorem dX8_would_82 : decode cX8_would 82 = .ok (.aload_n 0, 1) := by decide +kernel
theorem dX8_would_83 : decode cX8_would 83 = .ok (.iload 6, 2) := by decide +kernel
theorem dX8_would_85 : decode cX8_would 85 = .ok (.ifCond .lt 28, 3) := by decide +kernel
theorem dX8_would_88 : decode cX8_would 88 = .ok (.iload 6, 2) := by decide +kernel
theorem dX8_would_90 : decode cX8_would 90 = .ok (.sipush 200, 3) := by decide +kernel
theorem dX8_would_93 : decode cX8_would 93 = .ok (.if_icmp .gt 20, 3) := by decide +kernel
theorem dX8_would_96 : decode cX8_would 96 = .ok (.iload 7, 2) := by decide +kernel
theorem dX8_would_98 : decode cX8_would 98 = .ok (.ifCond .lt 15, 3) := by decide +kernel
theorem dX8_would_101 : decode cX8_would 101 = .ok (.iload 7, 2) := by decide +kernel
theorem dX8_would_103 : decode cX8_would 103 = .ok (.sipush 999, 3) := by decide +kernel
theorem dX8_would_106 : decode cX8_would 106 = .ok (.if_icmp .gt 7, 3) := by decide +kernel
theorem dX8_would_109 : decode cX8_would 109 = .ok (.iconst 1, 1) := by decide +kernel
theorem dX8_would_110 : decode cX8_would 110 = .ok (.goto 4, 3) := by decide +kernel
theorem dX8_would_113 : decode cX8_would 113 = .ok (.iconst 0, 1) := by decide +kernel
theorem dX8_would_114 : decode cX8_would 114 = .ok (.invokevirtual 154, 3) := by decide +kernel
theorem dX8_would_117 : decode cX8_would 117 = .ok (.aload_n 0, 1) := by decide +kernel
theorem dX8_would_118 : decode cX8_would 118 = .ok (.getfield 29, 3) := by decide +kernel
theorem dX8_would_121 : decode cX8_would 121 = .ok (.iload_n 1, 1) := by decide +kernel
theorem dX8_would_122 : decode cX8_would 122 = .ok (.iload_n 2, 1) := by decide +kernel
theorem dX8_would_123 : decode cX8_would 123 = .ok (.iload_n 3, 1) := by decide +kernel
theorem dX8_would_124 : decode cX8_would 124 = .ok (.iload 4, 2) := by decide +kernel
theorem dX8_would_126 : decode cX8_would 126 = .ok (.iload 5, 2) := by decide +kernel
theorem dX8_would_128 : decode cX8_would 128 = .ok (.iload 6, 2) := by decide +kernel
theorem dX8_would_130 : decode cX8_would 130 = .ok (.iload 7, 2) := by decide +kernel
theorem dX8_would_132 : decode cX8_would 132 = .ok (.invokevirtual 245, 3) := by decide +kernel
theorem dX8_would_135 : decode cX8_would 135 = .ok (.ireturn, 1) := by decide +kernel
theorem dX8_ahead_0 : decode cX8_ahead 0 = .ok (.aload_n 0, 1) := by decide +kernel
theorem dX8_ahead_1 : decode cX8_ahead 1 = .ok (.iload_n 1, 1) := by decide +kernel
theorem dX8_ahead_2 : decode cX8_ahead 2 = .ok (.ifCond .lt 23, 3) := by decide +kernel
theorem dX8_ahead_5 : decode cX8_ahead 5 = .ok (.iload_n 1, 1) := by decide +kernel
theorem dX8_ahead_6 : decode cX8_ahead 6 = .ok (.sipush 999, 3) := by decide +kernel
theorem dX8_ahead_9 : decode cX8_ahead 9 = .ok (.if_icmp .gt 16, 3) := by decide +kernel
theorem dX8_ahead_12 : decode cX8_ahead 12 = .ok (.iload_n 2, 1) := by decide +kernel
theorem dX8_ahead_13 : decode cX8_ahead 13 = .ok (.ifCond .lt 12, 3) := by decide +kernel
theorem dX8_ahead_16 : decode cX8_ahead 16 = .ok (.iload_n 2, 1) := by decide +kernel
theorem dX8_ahead_17 : decode cX8_ahead 17 = .ok (.iconst 2, 1) := by decide +kernel
theorem dX8_ahead_18 : decode cX8_ahead 18 = .ok (.if_icmp .gt 7, 3) := by decide +kernel
theorem dX8_ahead_21 : decode cX8_ahead 21 = .ok (.iconst 1, 1) := by decide +kernel
theorem dX8_ahead_22 : decode cX8_ahead 22 = .ok (.goto 4, 3) := by decide +kernel
theorem dX8_ahead_25 : decode cX8_ahead 25 = .ok (.iconst 0, 1) := by decide +kernel
theorem dX8_ahead_26 : decode cX8_ahead 26 = .ok (.invokevirtual 154, 3) := by decide +kernel
theorem dX8_ahead_29 : decode cX8_ahead 29 = .ok (.aload_n 0, 1) := by decide +kernel
theorem dX8_ahead_30 : decode cX8_ahead 30 = .ok (.getfield 62, 3) := by decide +kernel
theorem dX8_ahead_33 : decode cX8_ahead 33 = .ok (.aload_n 0, 1) := by decide +kernel
theorem dX8_ahead_34 : decode cX8_ahead 34 = .ok (.getfield 58, 3) := by decide +kernel
theorem dX8_ahead_37 : decode cX8_ahead 37 = .ok (.invokevirtual 249, 3) := by decide +kernel
theorem dX8_ahead_40 : decode cX8_ahead 40 = .ok (.aload_n 0, 1) := by decide +kernel
theorem dX8_ahead_41 : decode cX8_ahead 41 = .ok (.getfield 62, 3) := by decide +kernel
theorem dX8_ahead_44 : decode cX8_ahead 44 = .ok (.iload_n 1, 1) := by decide +kernel
theorem dX8_ahead_45 : decode cX8_ahead 45 = .ok (.invokevirtual 251, 3) := by decide +kernel
theorem dX8_ahead_48 : decode cX8_ahead 48 = .ok (.iload_n 2, 1) := by decide +kernel
theorem dX8_ahead_49 : decode cX8_ahead 49 = .ok (.lookupswitch 43 #[(0, 27), (1, 35)], 27) := by decide +kernel
theorem dX8_ahead_76 : decode cX8_ahead 76 = .ok (.aload_n 0, 1) := by decide +kernel
theorem dX8_ahead_77 : decode cX8_ahead 77 = .ok (.getfield 62, 3) := by decide +kernel
theorem dX8_ahead_80 : decode cX8_ahead 80 = .ok (.getfield 197, 3) := by decide +kernel
theorem dX8_ahead_83 : decode cX8_ahead 83 = .ok (.ireturn, 1) := by decide +kernel
theorem dX8_ahead_84 : decode cX8_ahead 84 = .ok (.aload_n 0, 1) := by decide +kernel
theorem dX8_ahead_85 : decode cX8_ahead 85 = .ok (.getfield 62, 3) := by decide +kernel
theorem dX8_ahead_88 : decode cX8_ahead 88 = .ok (.invokevirtual 203, 3) := by decide +kernel
theorem dX8_ahead_91 : decode cX8_ahead 91 = .ok (.ireturn, 1) := by decide +kernel
theorem dX8_ahead_92 : decode cX8_ahead 92 = .ok (.aload_n 0, 1) := by decide +kernel
theorem dX8_ahead_93 : decode cX8_ahead 93 = .ok (.getfield 62, 3) := by decide +kernel
theorem dX8_ahead_96 : decode cX8_ahead 96 = .ok (.invokevirtual 187, 3) := by decide +kernel
theorem dX8_ahead_99 : decode cX8_ahead 99 = .ok (.ireturn, 1) := by decide +kernel
