theorem dX9_restore_0 : decode cX9_restore 0 = .ok (.aload_n 0, 1) := by decide +kernel
theorem dX9_restore_1 : decode cX9_restore 1 = .ok (.iconst 0, 1) := by decide +kernel
theorem dX9_restore_2 : decode cX9_restore 2 = .ok (.putfield 128, 3) := by decide +kernel
theorem dX9_restore_5 : decode cX9_restore 5 = .ok (.aload_n 0, 1) := by decide +kernel
theorem dX9_restore_6 : decode cX9_restore 6 = .ok (.getfield 242, 3) := by decide +kernel
theorem dX9_restore_9 : decode cX9_restore 9 = .ok (.ifCond .ne 5, 3) := by decide +kernel
theorem dX9_restore_12 : decode cX9_restore 12 = .ok (.iconst (-1), 1) := by decide +kernel
theorem dX9_restore_13 : decode cX9_restore 13 = .ok (.ireturn, 1) := by decide +kernel
theorem dX9_restore_14 : decode cX9_restore 14 = .ok (.aload_n 0, 1) := by decide +kernel
theorem dX9_restore_15 : decode cX9_restore 15 = .ok (.dup, 1) := by decide +kernel
theorem dX9_restore_16 : decode cX9_restore 16 = .ok (.getfield 242, 3) := by decide +kernel
theorem dX9_restore_19 : decode cX9_restore 19 = .ok (.iconst 1, 1) := by decide +kernel
theorem dX9_restore_20 : decode cX9_restore 20 = .ok (.isub, 1) := by decide +kernel
theorem dX9_restore_21 : decode cX9_restore 21 = .ok (.putfield 242, 3) := by decide +kernel
theorem dX9_restore_24 : decode cX9_restore 24 = .ok (.aload_n 0, 1) := by decide +kernel
theorem dX9_restore_25 : decode cX9_restore 25 = .ok (.aload_n 0, 1) := by decide +kernel
theorem dX9_restore_26 : decode cX9_restore 26 = .ok (.getfield 67, 3) := by decide +kernel
theorem dX9_restore_29 : decode cX9_restore 29 = .ok (.aload_n 0, 1) := by decide +kernel
theorem dX9_restore_30 : decode cX9_restore 30 = .ok (.getfield 242, 3) := by decide +kernel
theorem dX9_restore_33 : decode cX9_restore 33 = .ok (.aaload, 1) := by decide +kernel
theorem dX9_restore_34 : decode cX9_restore 34 = .ok (.iconst 1, 1) := by decide +kernel
theorem dX9_restore_35 : decode cX9_restore 35 = .ok (.invokevirtual 441, 3) := by decide +kernel
theorem dX9_restore_38 : decode cX9_restore 38 = .ok (.aload_n 0, 1) := by decide +kernel
theorem dX9_restore_39 : decode cX9_restore 39 = .ok (.iconst 0, 1) := by decide +kernel
theorem dX9_restore_40 : decode cX9_restore 40 = .ok (.putfield 239, 3) := by decide +kernel
theorem dX9_restore_43 : decode cX9_restore 43 = .ok (.aload_n 0, 1) := by decide +kernel
theorem dX9_restore_44 : decode cX9_restore 44 = .ok (.getfield 242, 3) := by decide +kernel
theorem dX9_restore_47 : decode cX9_restore 47 = .ok (.ireturn, 1) := by decide +kernel
theorem dX9_status_0 : decode cX9_status 0 = .ok (.aload_n 0, 1) := by decide +kernel
theorem dX9_status_1 : decode cX9_status 1 = .ok (.iconst 0, 1) := by decide +kernel
theorem dX9_status_2 : decode cX9_status 2 = .ok (.putfield 128, 3) := by decide +kernel
theorem dX9_status_5 : decode cX9_status 5 = .ok (.iload_n 1, 1) := by decide +kernel
theorem dX9_status_6 : decode cX9_status 6 = .ok (.iconst 0, 1) := by decide +kernel
theorem dX9_status_7 : decode cX9_status 7 = .ok (.iconst 1, 1) := by decide +kernel
theorem dX9_status_8 : decode cX9_status 8 = .ok (.invokestatic 162, 3) := by decide +kernel
theorem dX9_status_11 : decode cX9_status 11 = .ok (.ifCond .eq 12, 3) := by decide +kernel
theorem dX9_status_14 : decode cX9_status 14 = .ok (.aload_n 0, 1) := by decide +kernel
theorem dX9_status_15 : decode cX9_status 15 = .ok (.getfield 17, 3) := by decide +kernel
theorem dX9_status_18 : decode cX9_status 18 = .ok (.iload_n 1, 1) := by decide +kernel
theorem dX9_status_19 : decode cX9_status 19 = .ok (.iaload, 1) := by decide +kernel
theorem dX9_status_20 : decode cX9_status 20 = .ok (.goto 4, 3) := by decide +kernel
theorem dX9_status_23 : decode cX9_status 23 = .ok (.iconst (-1), 1) := by decide +kernel
theorem dX9_status_24 : decode cX9_status 24 = .ok (.ireturn, 1) := by decide +kernel
theorem dX9_count_0 : decode cX9_count 0 = .ok (.aload_n 0, 1) := by decide +kernel
theorem dX9_count_1 : decode cX9_count 1 = .ok (.iconst 0, 1) := by decide +kernel
theorem dX9_count_2 : decode cX9_count 2 = .ok (.putfield 128, 3) := by decide +kernel
theorem dX9_count_5 : decode cX9_count 5 = .ok (.iload_n 1, 1) := by decide +kernel
theorem dX9_count_6 : decode cX9_count 6 = .ok (.ifCond .ne 10, 3) := by decide +kernel
theorem dX9_count_9 : decode cX9_count 9 = .ok (.aload_n 0, 1) := by decide +kernel
theorem dX9_count_10 : decode cX9_count 10 = .ok (.getfield 242, 3) := by decide +kernel
theorem dX9_count_13 : decode cX9_count 13 = .ok (.goto 28, 3) := by decide +kernel
theorem dX9_count_16 : decode cX9_count 16 = .ok (.iload_n 1, 1) := by decide +kernel
theorem dX9_count_17 : decode cX9_count 17 = .ok (.iconst 1, 1) := by decide +kernel
theorem dX9_count_18 : decode cX9_count 18 = .ok (.if_icmp .ne 10, 3) := by decide +kernel
theorem dX9_count_21 : decode cX9_count 21 = .ok (.aload_n 0, 1) := by decide +kernel
theorem dX9_count_22 : decode cX9_count 22 = .ok (.getfield 131, 3) := by decide +kernel
theorem dX9_count_25 : decode cX9_count 25 = .ok (.goto 16, 3) := by decide +kernel
theorem dX9_count_28 : decode cX9_count 28 = .ok (.iload_n 1, 1) := by decide +kernel
theorem dX9_count_29 : decode cX9_count 29 = .ok (.iconst 2, 1) := by decide +kernel
theorem dX9_count_30 : decode cX9_count 30 = .ok (.if_icmp .ne 10, 3) := by decide +kernel
theorem dX9_count_33 : decode cX9_count 33 = .ok (.aload_n 0, 1) := by decide +kernel
theorem dX9_count_34 : decode cX9_count 34 = .ok (.getfield 236, 3) := by decide +kernel
theorem dX9_count_37 : decode cX9_count 37 = .ok (.goto 4, 3) := by decide +kernel
theorem dX9_count_40 : decode cX9_count 40 = .ok (.iconst (-1), 1) := by decide +kernel
theorem dX9_count_41 : decode cX9_count 41 = .ok (.ireturn, 1) := by decide +kernel
theorem dL_page_0 : decode cL_page 0 = .ok (.aload_n 2, 1) := by decide +kernel
theorem dL_page_1 : decode cL_page 1 = .ok (.iconst 0, 1) := by decide +kernel
theorem dL_page_2 : decode cL_page 2 = .ok (.aload_n 0, 1) := by decide +kernel
theorem dL_page_3 : decode cL_page 3 = .ok (.iload_n 1, 1) := by decide +kernel
theorem dL_page_4 : decode cL_page 4 = .ok (.invokevirtual 7, 3) := by decide +kernel
theorem dL_page_7 : decode cL_page 7 = .ok (.i2l, 1) := by decide +kernel
theorem dL_page_8 : decode cL_page 8 = .ok (.lastore, 1) := by decide +kernel
theorem dL_page_9 : decode cL_page 9 = .ok (.goto 6, 3) := by decide +kernel
theorem dL_page_12 : decode cL_page 12 = .ok (.astore_n 3, 1) := by decide +kernel
theorem dL_page_13 : decode cL_page 13 = .ok (.iconst 1, 1) := by decide +kernel
theorem dL_page_14 : decode cL_page 14 = .ok (.ireturn, 1) := by decide +kernel
theorem dL_page_15 : decode cL_page 15 = .ok (.iconst 0, 1) := by decide +kernel
theorem dL_page_16 : decode cL_page 16 = .ok (.ireturn, 1) := by decide +kernel
theorem dL_law_0 : decode cL_law 0 = .ok (.aload_n 2, 1) := by decide +kernel
theorem dL_law_1 : decode cL_law 1 = .ok (.iconst 0, 1) := by decide +kernel
theorem dL_law_2 : decode cL_law 2 = .ok (.aload_n 0, 1) := by decide +kernel
theorem dL_law_3 : decode cL_law 3 = .ok (.iload_n 1, 1) := by decide +kernel
theorem dL_law_4 : decode cL_law 4 = .ok (.invokevirtual 15, 3) := by decide +kernel
theorem dL_law_7 : decode cL_law 7 = .ok (.i2l, 1) := by decide +kernel
theorem dL_law_8 : decode cL_law 8 = .ok (.lastore, 1) := by decide +kernel
theorem dL_law_9 : decode cL_law 9 = .ok (.goto 6, 3) := by decide +kernel
theorem dL_law_12 : decode cL_law 12 = .ok (.astore_n 3, 1) := by decide +kernel
theorem dL_law_13 : decode cL_law 13 = .ok (.iconst 1, 1) := by decide +kernel
theorem dL_law_14 : decode cL_law 14 = .ok (.ireturn, 1) := by decide +kernel
theorem dL_law_15 : decode cL_law 15 = .ok (.iconst 0, 1) := by decide +kernel
theorem dL_law_16 : decode cL_law 16 = .ok (.ireturn, 1) := by decide +kernel
theorem dL_work_0 : decode cL_work 0 = .ok (.aload_n 2, 1) := by decide +kernel
theorem dL_work_1 : decode cL_work 1 = .ok (.iconst 0, 1) := by decide +kernel
theorem dL_work_2 : decode cL_work 2 = .ok (.aload_n 0, 1) := by decide +kernel
theorem dL_work_3 : decode cL_work 3 = .ok (.iload_n 1, 1) := by decide +kernel
theorem dL_work_4 : decode cL_work 4 = .ok (.invokevirtual 18, 3) := by decide +kernel
theorem dL_work_7 : decode cL_work 7 = .ok (.i2l, 1) := by decide +kernel
theorem dL_work_8 : decode cL_work 8 = .ok (.lastore, 1) := by decide +kernel
theorem dL_work_9 : decode cL_work 9 = .ok (.goto 6, 3) := by decide +kernel
theorem dL_work_12 : decode cL_work 12 = .ok (.astore_n 3, 1) := by decide +kernel
theorem dL_work_13 : decode cL_work 13 = .ok (.iconst 1, 1) := by decide +kernel
theorem dL_work_14 : decode cL_work 14 = .ok (.ireturn, 1) := by decide +kernel
theorem dL_work_15 : decode cL_work 15 = .ok (.iconst 0, 1) := by decide +kernel
theorem dL_work_16 : decode cL_work 16 = .ok (.ireturn, 1) := by decide +kernel
theorem dL_sentence_0 : decode cL_sentence 0 = .ok (.aload_n 2, 1) := by decide +kernel
theorem dL_sentence_1 : decode cL_sentence 1 = .ok (.iconst 0, 1) := by decide +kernel
theorem dL_sentence_2 : decode cL_sentence 2 = .ok (.aload_n 0, 1) := by decide +kernel
theorem dL_sentence_3 : decode cL_sentence 3 = .ok (.iload_n 1, 1) := by decide +kernel
theorem dL_sentence_4 : decode cL_sentence 4 = .ok (.invokevirtual 21, 3) := by decide +kernel
theorem dL_sentence_7 : decode cL_sentence 7 = .ok (.i2l, 1) := by decide +kernel
theorem dL_sentence_8 : decode cL_sentence 8 = .ok (.lastore, 1) := by decide +kernel
theorem dL_sentence_9 : decode cL_sentence 9 = .ok (.goto 6, 3) := by decide +kernel
theorem dL_sentence_12 : decode cL_sentence 12 = .ok (.astore_n 3, 1) := by decide +kernel
theorem dL_sentence_13 : decode cL_sentence 13 = .ok (.iconst 1, 1) := by decide +kernel
theorem dL_sentence_14 : decode cL_sentence 14 = .ok (.ireturn, 1) := by decide +kernel
theorem dL_sentence_15 : decode cL_sentence 15 = .ok (.iconst 0, 1) := by decide +kernel
theorem dL_sentence_16 : decode cL_sentence 16 = .ok (.ireturn, 1) := by decide +kernel
theorem dL_told_0 : decode cL_told 0 = .ok (.aload_n 2, 1) := by decide +kernel
theorem dL_told_1 : decode cL_told 1 = .ok (.iconst 0, 1) := by decide +kernel
theorem dL_told_2 : decode cL_told 2 = .ok (.aload_n 0, 1) := by decide +kernel
theorem dL_told_3 : decode cL_told 3 = .ok (.iload_n 1, 1) := by decide +kernel
theorem dL_told_4 : decode cL_told 4 = .ok (.invokevirtual 24, 3) := by decide +kernel
theorem dL_told_7 : decode cL_told 7 = .ok (.i2l, 1) := by decide +kernel
theorem dL_told_8 : decode cL_told 8 = .ok (.lastore, 1) := by decide +kernel
theorem dL_told_9 : decode cL_told 9 = .ok (.goto 6, 3) := by decide +kernel
theorem dL_told_12 : decode cL_told 12 = .ok (.astore_n 3, 1) := by decide +kernel
theorem dL_told_13 : decode cL_told 13 = .ok (.iconst 1, 1) := by decide +kernel
theorem dL_told_14 : decode cL_told 14 = .ok (.ireturn, 1) := by decide +kernel
theorem dL_told_15 : decode cL_told 15 = .ok (.iconst 0, 1) := by decide +kernel
theorem dL_told_16 : decode cL_told 16 = .ok (.ireturn, 1) := by decide +kernel
theorem dL_line_0 : decode cL_line 0 = .ok (.aload_n 3, 1) := by decide +kernel
theorem dL_line_1 : decode cL_line 1 = .ok (.iconst 0, 1) := by decide +kernel
theorem dL_line_2 : decode cL_line 2 = .ok (.aload_n 0, 1) := by decide +kernel
theorem dL_line_3 : decode cL_line 3 = .ok (.iload_n 1, 1) := by decide +kernel
theorem dL_line_4 : decode cL_line 4 = .ok (.iload_n 2, 1) := by decide +kernel
theorem dL_line_5 : decode cL_line 5 = .ok (.invokevirtual 27, 3) := by decide +kernel
theorem dL_line_8 : decode cL_line 8 = .ok (.i2l, 1) := by decide +kernel
theorem dL_line_9 : decode cL_line 9 = .ok (.lastore, 1) := by decide +kernel
theorem dL_line_10 : decode cL_line 10 = .ok (.goto 11, 3) := by decide +kernel
theorem dL_line_13 : decode cL_line 13 = .ok (.astore 4, 2) := by decide +kernel
theorem dL_line_15 : decode cL_line 15 = .ok (.iconst 1, 1) := by decide +kernel
theorem dL_line_16 : decode cL_line 16 = .ok (.ireturn, 1) := by decide +kernel
theorem dL_line_17 : decode cL_line 17 = .ok (.astore 4, 2) := by decide +kernel
theorem dL_line_19 : decode cL_line 19 = .ok (.iconst 2, 1) := by decide +kernel
theorem dL_line_20 : decode cL_line 20 = .ok (.ireturn, 1) := by decide +kernel
theorem dL_line_21 : decode cL_line 21 = .ok (.iconst 0, 1) := by decide +kernel
theorem dL_line_22 : decode cL_line 22 = .ok (.ireturn, 1) := by decide +kernel
theorem dL_word_0 : decode cL_word 0 = .ok (.aload 4, 2) := by decide +kernel
theorem dL_word_2 : decode cL_word 2 = .ok (.iconst 0, 1) := by decide +kernel
theorem dL_word_3 : decode cL_word 3 = .ok (.aload_n 0, 1) := by decide +kernel
theorem dL_word_4 : decode cL_word 4 = .ok (.iload_n 1, 1) := by decide +kernel
theorem dL_word_5 : decode cL_word 5 = .ok (.iload_n 2, 1) := by decide +kernel
theorem dL_word_6 : decode cL_word 6 = .ok (.iload_n 3, 1) := by decide +kernel
theorem dL_word_7 : decode cL_word 7 = .ok (.invokevirtual 33, 3) := by decide +kernel
theorem dL_word_10 : decode cL_word 10 = .ok (.i2l, 1) := by decide +kernel
theorem dL_word_11 : decode cL_word 11 = .ok (.lastore, 1) := by decide +kernel
theorem dL_word_12 : decode cL_word 12 = .ok (.goto 11, 3) := by decide +kernel
theorem dL_word_15 : decode cL_word 15 = .ok (.astore 5, 2) := by decide +kernel
theorem dL_word_17 : decode cL_word 17 = .ok (.iconst 1, 1) := by decide +kernel
theorem dL_word_18 : decode cL_word 18 = .ok (.ireturn, 1) := by decide +kernel
theorem dL_word_19 : decode cL_word 19 = .ok (.astore 5, 2) := by decide +kernel
theorem dL_word_21 : decode cL_word 21 = .ok (.iconst 2, 1) := by decide +kernel
theorem dL_word_22 : decode cL_word 22 = .ok (.ireturn, 1) := by decide +kernel
theorem dL_word_23 : decode cL_word 23 = .ok (.iconst 0, 1) := by decide +kernel
theorem dL_word_24 : decode cL_word 24 = .ok (.ireturn, 1) := by decide +kernel
theorem dL_reads_0 : decode cL_reads 0 = .ok (.aload_n 2, 1) := by decide +kernel
theorem dL_reads_1 : decode cL_reads 1 = .ok (.iconst 0, 1) := by decide +kernel
theorem dL_reads_2 : decode cL_reads 2 = .ok (.aload_n 0, 1) := by decide +kernel
theorem dL_reads_3 : decode cL_reads 3 = .ok (.iload_n 1, 1) := by decide +kernel
theorem dL_reads_4 : decode cL_reads 4 = .ok (.invokevirtual 37, 3) := by decide +kernel
theorem dL_reads_7 : decode cL_reads 7 = .ok (.i2l, 1) := by decide +kernel
theorem dL_reads_8 : decode cL_reads 8 = .ok (.lastore, 1) := by decide +kernel
theorem dL_reads_9 : decode cL_reads 9 = .ok (.goto 6, 3) := by decide +kernel
theorem dL_reads_12 : decode cL_reads 12 = .ok (.astore_n 3, 1) := by decide +kernel
theorem dL_reads_13 : decode cL_reads 13 = .ok (.iconst 1, 1) := by decide +kernel
theorem dL_reads_14 : decode cL_reads 14 = .ok (.ireturn, 1) := by decide +kernel
theorem dL_reads_15 : decode cL_reads 15 = .ok (.iconst 0, 1) := by decide +kernel
theorem dL_reads_16 : decode cL_reads 16 = .ok (.ireturn, 1) := by decide +kernel
theorem dL_cell_0 : decode cL_cell 0 = .ok (.aload_n 2, 1) := by decide +kernel
theorem dL_cell_1 : decode cL_cell 1 = .ok (.iconst 0, 1) := by decide +kernel
theorem dL_cell_2 : decode cL_cell 2 = .ok (.aload_n 0, 1) := by decide +kernel
theorem dL_cell_3 : decode cL_cell 3 = .ok (.iload_n 1, 1) := by decide +kernel
theorem dL_cell_4 : decode cL_cell 4 = .ok (.invokevirtual 40, 3) := by decide +kernel
theorem dL_cell_7 : decode cL_cell 7 = .ok (.i2l, 1) := by decide +kernel
theorem dL_cell_8 : decode cL_cell 8 = .ok (.lastore, 1) := by decide +kernel
theorem dL_cell_9 : decode cL_cell 9 = .ok (.goto 6, 3) := by decide +kernel
theorem dL_cell_12 : decode cL_cell 12 = .ok (.astore_n 3, 1) := by decide +kernel
theorem dL_cell_13 : decode cL_cell 13 = .ok (.iconst 1, 1) := by decide +kernel
theorem dL_cell_14 : decode cL_cell 14 = .ok (.ireturn, 1) := by decide +kernel
theorem dL_cell_15 : decode cL_cell 15 = .ok (.iconst 0, 1) := by decide +kernel
theorem dL_cell_16 : decode cL_cell 16 = .ok (.ireturn, 1) := by decide +kernel
theorem dL_cost_0 : decode cL_cost 0 = .ok (.aload 4, 2) := by decide +kernel
theorem dL_cost_2 : decode cL_cost 2 = .ok (.iconst 0, 1) := by decide +kernel
theorem dL_cost_3 : decode cL_cost 3 = .ok (.aload_n 0, 1) := by decide +kernel
theorem dL_cost_4 : decode cL_cost 4 = .ok (.iload_n 1, 1) := by decide +kernel
theorem dL_cost_5 : decode cL_cost 5 = .ok (.iload_n 2, 1) := by decide +kernel
theorem dL_cost_6 : decode cL_cost 6 = .ok (.iload_n 3, 1) := by decide +kernel
theorem dL_cost_7 : decode cL_cost 7 = .ok (.invokevirtual 43, 3) := by decide +kernel
theorem dL_cost_10 : decode cL_cost 10 = .ok (.i2l, 1) := by decide +kernel
theorem dL_cost_11 : decode cL_cost 11 = .ok (.lastore, 1) := by decide +kernel
theorem dL_cost_12 : decode cL_cost 12 = .ok (.goto 11, 3) := by decide +kernel
theorem dL_cost_15 : decode cL_cost 15 = .ok (.astore 5, 2) := by decide +kernel
theorem dL_cost_17 : decode cL_cost 17 = .ok (.iconst 1, 1) := by decide +kernel
theorem dL_cost_18 : decode cL_cost 18 = .ok (.ireturn, 1) := by decide +kernel
theorem dL_cost_19 : decode cL_cost 19 = .ok (.astore 5, 2) := by decide +kernel
theorem dL_cost_21 : decode cL_cost 21 = .ok (.iconst 2, 1) := by decide +kernel
theorem dL_cost_22 : decode cL_cost 22 = .ok (.ireturn, 1) := by decide +kernel
theorem dL_cost_23 : decode cL_cost 23 = .ok (.iconst 0, 1) := by decide +kernel
theorem dL_cost_24 : decode cL_cost 24 = .ok (.ireturn, 1) := by decide +kernel
theorem dL_would_0 : decode cL_would 0 = .ok (.aload 8, 2) := by decide +kernel
theorem dL_would_2 : decode cL_would 2 = .ok (.iconst 0, 1) := by decide +kernel
theorem dL_would_3 : decode cL_would 3 = .ok (.aload_n 0, 1) := by decide +kernel
theorem dL_would_4 : decode cL_would 4 = .ok (.iload_n 1, 1) := by decide +kernel
theorem dL_would_5 : decode cL_would 5 = .ok (.iload_n 2, 1) := by decide +kernel
theorem dL_would_6 : decode cL_would 6 = .ok (.iload_n 3, 1) := by decide +kernel
theorem dL_would_7 : decode cL_would 7 = .ok (.iload 4, 2) := by decide +kernel
theorem dL_would_9 : decode cL_would 9 = .ok (.iload 5, 2) := by decide +kernel
theorem dL_would_11 : decode cL_would 11 = .ok (.iload 6, 2) := by decide +kernel
theorem dL_would_13 : decode cL_would 13 = .ok (.iload 7, 2) := by decide +kernel
theorem dL_would_15 : decode cL_would 15 = .ok (.invokevirtual 46, 3) := by decide +kernel
theorem dL_would_18 : decode cL_would 18 = .ok (.i2l, 1) := by decide +kernel
theorem dL_would_19 : decode cL_would 19 = .ok (.lastore, 1) := by decide +kernel
theorem dL_would_20 : decode cL_would 20 = .ok (.goto 7, 3) := by decide +kernel
theorem dL_would_23 : decode cL_would 23 = .ok (.astore 9, 2) := by decide +kernel
theorem dL_would_25 : decode cL_would 25 = .ok (.iconst 1, 1) := by decide +kernel
theorem dL_would_26 : decode cL_would 26 = .ok (.ireturn, 1) := by decide +kernel
theorem dL_would_27 : decode cL_would 27 = .ok (.iconst 0, 1) := by decide +kernel
theorem dL_would_28 : decode cL_would 28 = .ok (.ireturn, 1) := by decide +kernel
theorem dL_ahead_0 : decode cL_ahead 0 = .ok (.aload_n 3, 1) := by decide +kernel
theorem dL_ahead_1 : decode cL_ahead 1 = .ok (.iconst 0, 1) := by decide +kernel
theorem dL_ahead_2 : decode cL_ahead 2 = .ok (.aload_n 0, 1) := by decide +kernel
theorem dL_ahead_3 : decode cL_ahead 3 = .ok (.iload_n 1, 1) := by decide +kernel
theorem dL_ahead_4 : decode cL_ahead 4 = .ok (.iload_n 2, 1) := by decide +kernel
theorem dL_ahead_5 : decode cL_ahead 5 = .ok (.invokevirtual 50, 3) := by decide +kernel
theorem dL_ahead_8 : decode cL_ahead 8 = .ok (.i2l, 1) := by decide +kernel
theorem dL_ahead_9 : decode cL_ahead 9 = .ok (.lastore, 1) := by decide +kernel
theorem dL_ahead_10 : decode cL_ahead 10 = .ok (.goto 7, 3) := by decide +kernel
theorem dL_ahead_13 : decode cL_ahead 13 = .ok (.astore 4, 2) := by decide +kernel
theorem dL_ahead_15 : decode cL_ahead 15 = .ok (.iconst 1, 1) := by decide +kernel
theorem dL_ahead_16 : decode cL_ahead 16 = .ok (.ireturn, 1) := by decide +kernel
theorem dL_ahead_17 : decode cL_ahead 17 = .ok (.iconst 0, 1) := by decide +kernel
theorem dL_ahead_18 : decode cL_ahead 18 = .ok (.ireturn, 1) := by decide +kernel
theorem dL_unlike_0 : decode cL_unlike 0 = .ok (.aload_n 2, 1) := by decide +kernel
theorem dL_unlike_1 : decode cL_unlike 1 = .ok (.iconst 0, 1) := by decide +kernel
theorem dL_unlike_2 : decode cL_unlike 2 = .ok (.aload_n 0, 1) := by decide +kernel
theorem dL_unlike_3 : decode cL_unlike 3 = .ok (.iload_n 1, 1) := by decide +kernel
theorem dL_unlike_4 : decode cL_unlike 4 = .ok (.invokevirtual 53, 3) := by decide +kernel
theorem dL_unlike_7 : decode cL_unlike 7 = .ok (.lastore, 1) := by decide +kernel
theorem dL_unlike_8 : decode cL_unlike 8 = .ok (.goto 6, 3) := by decide +kernel
theorem dL_unlike_11 : decode cL_unlike 11 = .ok (.astore_n 3, 1) := by decide +kernel
theorem dL_unlike_12 : decode cL_unlike 12 = .ok (.iconst 1, 1) := by decide +kernel
theorem dL_unlike_13 : decode cL_unlike 13 = .ok (.ireturn, 1) := by decide +kernel
theorem dL_unlike_14 : decode cL_unlike 14 = .ok (.iconst 0, 1) := by decide +kernel
theorem dL_unlike_15 : decode cL_unlike 15 = .ok (.ireturn, 1) := by decide +kernel
theorem dL_forged_0 : decode cL_forged 0 = .ok (.aload_n 2, 1) := by decide +kernel
theorem dL_forged_1 : decode cL_forged 1 = .ok (.iconst 0, 1) := by decide +kernel
theorem dL_forged_2 : decode cL_forged 2 = .ok (.aload_n 0, 1) := by decide +kernel
theorem dL_forged_3 : decode cL_forged 3 = .ok (.iload_n 1, 1) := by decide +kernel
theorem dL_forged_4 : decode cL_forged 4 = .ok (.invokevirtual 57, 3) := by decide +kernel
theorem dL_forged_7 : decode cL_forged 7 = .ok (.i2l, 1) := by decide +kernel
theorem dL_forged_8 : decode cL_forged 8 = .ok (.lastore, 1) := by decide +kernel
theorem dL_forged_9 : decode cL_forged 9 = .ok (.goto 6, 3) := by decide +kernel
theorem dL_forged_12 : decode cL_forged 12 = .ok (.astore_n 3, 1) := by decide +kernel
theorem dL_forged_13 : decode cL_forged 13 = .ok (.iconst 1, 1) := by decide +kernel
theorem dL_forged_14 : decode cL_forged 14 = .ok (.ireturn, 1) := by decide +kernel
theorem dL_forged_15 : decode cL_forged 15 = .ok (.iconst 0, 1) := by decide +kernel
theorem dL_forged_16 : decode cL_forged 16 = .ok (.ireturn, 1) := by decide +kernel
theorem dL_value_0 : decode cL_value 0 = .ok (.aload_n 2, 1) := by decide +kernel
theorem dL_value_1 : decode cL_value 1 = .ok (.iconst 0, 1) := by decide +kernel
theorem dL_value_2 : decode cL_value 2 = .ok (.aload_n 0, 1) := by decide +kernel
theorem dL_value_3 : decode cL_value 3 = .ok (.iload_n 1, 1) := by decide +kernel
theorem dL_value_4 : decode cL_value 4 = .ok (.invokevirtual 60, 3) := by decide +kernel
theorem dL_value_7 : decode cL_value 7 = .ok (.i2l, 1) := by decide +kernel
theorem dL_value_8 : decode cL_value 8 = .ok (.lastore, 1) := by decide +kernel
theorem dL_value_9 : decode cL_value 9 = .ok (.goto 6, 3) := by decide +kernel
theorem dL_value_12 : decode cL_value 12 = .ok (.astore_n 3, 1) := by decide +kernel
theorem dL_value_13 : decode cL_value 13 = .ok (.iconst 1, 1) := by decide +kernel
theorem dL_value_14 : decode cL_value 14 = .ok (.ireturn, 1) := by decide +kernel
theorem dL_value_15 : decode cL_value 15 = .ok (.iconst 0, 1) := by decide +kernel
theorem dL_value_16 : decode cL_value 16 = .ok (.ireturn, 1) := by decide +kernel
theorem dL_argument_0 : decode cL_argument 0 = .ok (.aload_n 3, 1) := by decide +kernel
theorem dL_argument_1 : decode cL_argument 1 = .ok (.iconst 0, 1) := by decide +kernel
theorem dL_argument_2 : decode cL_argument 2 = .ok (.aload_n 0, 1) := by decide +kernel
theorem dL_argument_3 : decode cL_argument 3 = .ok (.iload_n 1, 1) := by decide +kernel
theorem dL_argument_4 : decode cL_argument 4 = .ok (.iload_n 2, 1) := by decide +kernel
theorem dL_argument_5 : decode cL_argument 5 = .ok (.invokevirtual 63, 3) := by decide +kernel
theorem dL_argument_8 : decode cL_argument 8 = .ok (.i2l, 1) := by decide +kernel
theorem dL_argument_9 : decode cL_argument 9 = .ok (.lastore, 1) := by decide +kernel
theorem dL_argument_10 : decode cL_argument 10 = .ok (.goto 7, 3) := by decide +kernel
theorem dL_argument_13 : decode cL_argument 13 = .ok (.astore 4, 2) := by decide +kernel
theorem dL_argument_15 : decode cL_argument 15 = .ok (.iconst 1, 1) := by decide +kernel
theorem dL_argument_16 : decode cL_argument 16 = .ok (.ireturn, 1) := by decide +kernel
theorem dL_argument_17 : decode cL_argument 17 = .ok (.iconst 0, 1) := by decide +kernel
theorem dL_argument_18 : decode cL_argument 18 = .ok (.ireturn, 1) := by decide +kernel
theorem dL_common_0 : decode cL_common 0 = .ok (.aload_n 3, 1) := by decide +kernel
theorem dL_common_1 : decode cL_common 1 = .ok (.iconst 0, 1) := by decide +kernel
theorem dL_common_2 : decode cL_common 2 = .ok (.aload_n 0, 1) := by decide +kernel
theorem dL_common_3 : decode cL_common 3 = .ok (.iload_n 1, 1) := by decide +kernel
theorem dL_common_4 : decode cL_common 4 = .ok (.iload_n 2, 1) := by decide +kernel
theorem dL_common_5 : decode cL_common 5 = .ok (.invokevirtual 66, 3) := by decide +kernel
theorem dL_common_8 : decode cL_common 8 = .ok (.i2l, 1) := by decide +kernel
theorem dL_common_9 : decode cL_common 9 = .ok (.lastore, 1) := by decide +kernel
theorem dL_common_10 : decode cL_common 10 = .ok (.goto 7, 3) := by decide +kernel
theorem dL_common_13 : decode cL_common 13 = .ok (.astore 4, 2) := by decide +kernel
theorem dL_common_15 : decode cL_common 15 = .ok (.iconst 1, 1) := by decide +kernel
theorem dL_common_16 : decode cL_common 16 = .ok (.ireturn, 1) := by decide +kernel
theorem dL_common_17 : decode cL_common 17 = .ok (.iconst 0, 1) := by decide +kernel
theorem dL_common_18 : decode cL_common 18 = .ok (.ireturn, 1) := by decide +kernel
theorem dL_duel_0 : decode cL_duel 0 = .ok (.aload 4, 2) := by decide +kernel
theorem dL_duel_2 : decode cL_duel 2 = .ok (.iconst 0, 1) := by decide +kernel
theorem dL_duel_3 : decode cL_duel 3 = .ok (.aload_n 0, 1) := by decide +kernel
theorem dL_duel_4 : decode cL_duel 4 = .ok (.iload_n 1, 1) := by decide +kernel
theorem dL_duel_5 : decode cL_duel 5 = .ok (.iload_n 2, 1) := by decide +kernel
theorem dL_duel_6 : decode cL_duel 6 = .ok (.iload_n 3, 1) := by decide +kernel
theorem dL_duel_7 : decode cL_duel 7 = .ok (.invokevirtual 69, 3) := by decide +kernel
theorem dL_duel_10 : decode cL_duel 10 = .ok (.i2l, 1) := by decide +kernel
theorem dL_duel_11 : decode cL_duel 11 = .ok (.lastore, 1) := by decide +kernel
theorem dL_duel_12 : decode cL_duel 12 = .ok (.goto 7, 3) := by decide +kernel
theorem dL_duel_15 : decode cL_duel 15 = .ok (.astore 5, 2) := by decide +kernel
theorem dL_duel_17 : decode cL_duel 17 = .ok (.iconst 1, 1) := by decide +kernel
theorem dL_duel_18 : decode cL_duel 18 = .ok (.ireturn, 1) := by decide +kernel
theorem dL_duel_19 : decode cL_duel 19 = .ok (.iconst 0, 1) := by decide +kernel
theorem dL_duel_20 : decode cL_duel 20 = .ok (.ireturn, 1) := by decide +kernel
theorem dL_chance_0 : decode cL_chance 0 = .ok (.aload 5, 2) := by decide +kernel
theorem dL_chance_2 : decode cL_chance 2 = .ok (.iconst 0, 1) := by decide +kernel
theorem dL_chance_3 : decode cL_chance 3 = .ok (.aload_n 0, 1) := by decide +kernel
theorem dL_chance_4 : decode cL_chance 4 = .ok (.iload_n 1, 1) := by decide +kernel
theorem dL_chance_5 : decode cL_chance 5 = .ok (.iload_n 2, 1) := by decide +kernel
theorem dL_chance_6 : decode cL_chance 6 = .ok (.iload_n 3, 1) := by decide +kernel
theorem dL_chance_7 : decode cL_chance 7 = .ok (.iload 4, 2) := by decide +kernel
theorem dL_chance_9 : decode cL_chance 9 = .ok (.invokevirtual 72, 3) := by decide +kernel
theorem dL_chance_12 : decode cL_chance 12 = .ok (.lastore, 1) := by decide +kernel
theorem dL_chance_13 : decode cL_chance 13 = .ok (.goto 7, 3) := by decide +kernel
theorem dL_chance_16 : decode cL_chance 16 = .ok (.astore 6, 2) := by decide +kernel
theorem dL_chance_18 : decode cL_chance 18 = .ok (.iconst 1, 1) := by decide +kernel
theorem dL_chance_19 : decode cL_chance 19 = .ok (.ireturn, 1) := by decide +kernel
theorem dL_chance_20 : decode cL_chance 20 = .ok (.iconst 0, 1) := by decide +kernel
theorem dL_chance_21 : decode cL_chance 21 = .ok (.ireturn, 1) := by decide +kernel
theorem dL_share_0 : decode cL_share 0 = .ok (.aload 4, 2) := by decide +kernel
theorem dL_share_2 : decode cL_share 2 = .ok (.iconst 0, 1) := by decide +kernel
theorem dL_share_3 : decode cL_share 3 = .ok (.aload_n 0, 1) := by decide +kernel
theorem dL_share_4 : decode cL_share 4 = .ok (.iload_n 1, 1) := by decide +kernel
theorem dL_share_5 : decode cL_share 5 = .ok (.iload_n 2, 1) := by decide +kernel
theorem dL_share_6 : decode cL_share 6 = .ok (.iload_n 3, 1) := by decide +kernel
theorem dL_share_7 : decode cL_share 7 = .ok (.invokevirtual 76, 3) := by decide +kernel
theorem dL_share_10 : decode cL_share 10 = .ok (.i2l, 1) := by decide +kernel
theorem dL_share_11 : decode cL_share 11 = .ok (.lastore, 1) := by decide +kernel
theorem dL_share_12 : decode cL_share 12 = .ok (.goto 11, 3) := by decide +kernel
theorem dL_share_15 : decode cL_share 15 = .ok (.astore 5, 2) := by decide +kernel
theorem dL_share_17 : decode cL_share 17 = .ok (.iconst 1, 1) := by decide +kernel
theorem dL_share_18 : decode cL_share 18 = .ok (.ireturn, 1) := by decide +kernel
theorem dL_share_19 : decode cL_share 19 = .ok (.astore 5, 2) := by decide +kernel
theorem dL_share_21 : decode cL_share 21 = .ok (.iconst 2, 1) := by decide +kernel
theorem dL_share_22 : decode cL_share 22 = .ok (.ireturn, 1) := by decide +kernel
theorem dL_share_23 : decode cL_share 23 = .ok (.iconst 0, 1) := by decide +kernel
theorem dL_share_24 : decode cL_share 24 = .ok (.ireturn, 1) := by decide +kernel
theorem dL_often_0 : decode cL_often 0 = .ok (.aload_n 2, 1) := by decide +kernel
theorem dL_often_1 : decode cL_often 1 = .ok (.iconst 0, 1) := by decide +kernel
theorem dL_often_2 : decode cL_often 2 = .ok (.aload_n 0, 1) := by decide +kernel
theorem dL_often_3 : decode cL_often 3 = .ok (.iload_n 1, 1) := by decide +kernel
theorem dL_often_4 : decode cL_often 4 = .ok (.invokevirtual 79, 3) := by decide +kernel
theorem dL_often_7 : decode cL_often 7 = .ok (.i2l, 1) := by decide +kernel
theorem dL_often_8 : decode cL_often 8 = .ok (.lastore, 1) := by decide +kernel
theorem dL_often_9 : decode cL_often 9 = .ok (.goto 6, 3) := by decide +kernel
theorem dL_often_12 : decode cL_often 12 = .ok (.astore_n 3, 1) := by decide +kernel
theorem dL_often_13 : decode cL_often 13 = .ok (.iconst 1, 1) := by decide +kernel
theorem dL_often_14 : decode cL_often 14 = .ok (.ireturn, 1) := by decide +kernel
theorem dL_often_15 : decode cL_often 15 = .ok (.iconst 0, 1) := by decide +kernel
theorem dL_often_16 : decode cL_often 16 = .ok (.ireturn, 1) := by decide +kernel
theorem dL_deeds_0 : decode cL_deeds 0 = .ok (.aload_n 2, 1) := by decide +kernel
theorem dL_deeds_1 : decode cL_deeds 1 = .ok (.iconst 0, 1) := by decide +kernel
theorem dL_deeds_2 : decode cL_deeds 2 = .ok (.aload_n 0, 1) := by decide +kernel
theorem dL_deeds_3 : decode cL_deeds 3 = .ok (.iload_n 1, 1) := by decide +kernel
theorem dL_deeds_4 : decode cL_deeds 4 = .ok (.invokevirtual 82, 3) := by decide +kernel
theorem dL_deeds_7 : decode cL_deeds 7 = .ok (.i2l, 1) := by decide +kernel
theorem dL_deeds_8 : decode cL_deeds 8 = .ok (.lastore, 1) := by decide +kernel
theorem dL_deeds_9 : decode cL_deeds 9 = .ok (.goto 6, 3) := by decide +kernel
theorem dL_deeds_12 : decode cL_deeds 12 = .ok (.astore_n 3, 1) := by decide +kernel
theorem dL_deeds_13 : decode cL_deeds 13 = .ok (.iconst 1, 1) := by decide +kernel
theorem dL_deeds_14 : decode cL_deeds 14 = .ok (.ireturn, 1) := by decide +kernel
theorem dL_deeds_15 : decode cL_deeds 15 = .ok (.iconst 0, 1) := by decide +kernel
theorem dL_deeds_16 : decode cL_deeds 16 = .ok (.ireturn, 1) := by decide +kernel
theorem dL_longest_0 : decode cL_longest 0 = .ok (.aload_n 2, 1) := by decide +kernel
theorem dL_longest_1 : decode cL_longest 1 = .ok (.iconst 0, 1) := by decide +kernel
theorem dL_longest_2 : decode cL_longest 2 = .ok (.aload_n 0, 1) := by decide +kernel
theorem dL_longest_3 : decode cL_longest 3 = .ok (.iload_n 1, 1) := by decide +kernel
theorem dL_longest_4 : decode cL_longest 4 = .ok (.invokevirtual 85, 3) := by decide +kernel
theorem dL_longest_7 : decode cL_longest 7 = .ok (.i2l, 1) := by decide +kernel
theorem dL_longest_8 : decode cL_longest 8 = .ok (.lastore, 1) := by decide +kernel
theorem dL_longest_9 : decode cL_longest 9 = .ok (.goto 6, 3) := by decide +kernel
theorem dL_longest_12 : decode cL_longest 12 = .ok (.astore_n 3, 1) := by decide +kernel
theorem dL_longest_13 : decode cL_longest 13 = .ok (.iconst 1, 1) := by decide +kernel
theorem dL_longest_14 : decode cL_longest 14 = .ok (.ireturn, 1) := by decide +kernel
theorem dL_longest_15 : decode cL_longest 15 = .ok (.iconst 0, 1) := by decide +kernel
theorem dL_longest_16 : decode cL_longest 16 = .ok (.ireturn, 1) := by decide +kernel
theorem dL_hand_0 : decode cL_hand 0 = .ok (.aload 5, 2) := by decide +kernel
theorem dL_hand_2 : decode cL_hand 2 = .ok (.iconst 0, 1) := by decide +kernel
theorem dL_hand_3 : decode cL_hand 3 = .ok (.aload_n 0, 1) := by decide +kernel
theorem dL_hand_4 : decode cL_hand 4 = .ok (.iload_n 1, 1) := by decide +kernel
theorem dL_hand_5 : decode cL_hand 5 = .ok (.iload_n 2, 1) := by decide +kernel
theorem dL_hand_6 : decode cL_hand 6 = .ok (.iload_n 3, 1) := by decide +kernel
theorem dL_hand_7 : decode cL_hand 7 = .ok (.iload 4, 2) := by decide +kernel
theorem dL_hand_9 : decode cL_hand 9 = .ok (.invokevirtual 88, 3) := by decide +kernel
theorem dL_hand_12 : decode cL_hand 12 = .ok (.i2l, 1) := by decide +kernel
theorem dL_hand_13 : decode cL_hand 13 = .ok (.lastore, 1) := by decide +kernel
theorem dL_hand_14 : decode cL_hand 14 = .ok (.goto 7, 3) := by decide +kernel
theorem dL_hand_17 : decode cL_hand 17 = .ok (.astore 6, 2) := by decide +kernel
theorem dL_hand_19 : decode cL_hand 19 = .ok (.iconst 1, 1) := by decide +kernel
theorem dL_hand_20 : decode cL_hand 20 = .ok (.ireturn, 1) := by decide +kernel
theorem dL_hand_21 : decode cL_hand 21 = .ok (.iconst 0, 1) := by decide +kernel
theorem dL_hand_22 : decode cL_hand 22 = .ok (.ireturn, 1) := by decide +kernel
theorem dL_span_0 : decode cL_span 0 = .ok (.aload 7, 2) := by decide +kernel
theorem dL_span_2 : decode cL_span 2 = .ok (.iconst 0, 1) := by decide +kernel
theorem dL_span_3 : decode cL_span 3 = .ok (.aload_n 0, 1) := by decide +kernel
theorem dL_span_4 : decode cL_span 4 = .ok (.iload_n 1, 1) := by decide +kernel
theorem dL_span_5 : decode cL_span 5 = .ok (.iload_n 2, 1) := by decide +kernel
theorem dL_span_6 : decode cL_span 6 = .ok (.iload_n 3, 1) := by decide +kernel
theorem dL_span_7 : decode cL_span 7 = .ok (.iload 4, 2) := by decide +kernel
theorem dL_span_9 : decode cL_span 9 = .ok (.iload 5, 2) := by decide +kernel
theorem dL_span_11 : decode cL_span 11 = .ok (.iload 6, 2) := by decide +kernel
theorem dL_span_13 : decode cL_span 13 = .ok (.invokevirtual 92, 3) := by decide +kernel
theorem dL_span_16 : decode cL_span 16 = .ok (.i2l, 1) := by decide +kernel
theorem dL_span_17 : decode cL_span 17 = .ok (.lastore, 1) := by decide +kernel
theorem dL_span_18 : decode cL_span 18 = .ok (.goto 7, 3) := by decide +kernel
theorem dL_span_21 : decode cL_span 21 = .ok (.astore 8, 2) := by decide +kernel
theorem dL_span_23 : decode cL_span 23 = .ok (.iconst 1, 1) := by decide +kernel
theorem dL_span_24 : decode cL_span 24 = .ok (.ireturn, 1) := by decide +kernel
theorem dL_span_25 : decode cL_span 25 = .ok (.iconst 0, 1) := by decide +kernel
theorem dL_span_26 : decode cL_span 26 = .ok (.ireturn, 1) := by decide +kernel
