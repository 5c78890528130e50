theorem dL_ahead_18 : decode cL_ahead 18 = .ok (.ireturn, 1) := by decide +kernel
theorem dL_unlike_0 : decode cL_unlike 0 = .ok (.aload_n 2, 1) := by decide +kernel
theorem dL_unlike_1 : decode cL_unlike 1 = .ok (.iconst 0, 1) := by decide +kernel
theorem dL_unlike_2 : decode cL_unlike 2 = .ok (.aload_n 0, 1) := by decide +kernel
theorem dL_unlike_3 : decode cL_unlike 3 = .ok (.iload_n 1, 1) := by decide +kernel
theorem dL_unlike_4 : decode cL_unlike 4 = .ok (.invokevirtual 53, 3) := by decide +kernel
theorem dL_unlike_7 : decode cL_unlike 7 = .ok (.lastore, 1) := by decide +kernel
theorem dL_unlike_8 : decode cL_unlike 8 = .ok (.goto 6, 3) := by decide +kernel
theorem dL_unlike_11 : decode cL_unlike 11 = .ok (.astore_n 3, 1) := by decide +kernel
theorem dL_unlike_12 : decode cL_unlike 12 = .ok (.iconst 1, 1) := by decide +kernel
theorem dL_unlike_13 : decode cL_unlike 13 = .ok (.ireturn, 1) := by decide +kernel
theorem dL_unlike_14 : decode cL_unlike 14 = .ok (.iconst 0, 1) := by decide +kernel
theorem dL_unlike_15 : decode cL_unlike 15 = .ok (.ireturn, 1) := by decide +kernel
theorem dL_forged_0 : decode cL_forged 0 = .ok (.aload_n 2, 1) := by decide +kernel
theorem dL_forged_1 : decode cL_forged 1 = .ok (.iconst 0, 1) := by decide +kernel
theorem dL_forged_2 : decode cL_forged 2 = .ok (.aload_n 0, 1) := by decide +kernel
theorem dL_forged_3 : decode cL_forged 3 = .ok (.iload_n 1, 1) := by decide +kernel
theorem dL_forged_4 : decode cL_forged 4 = .ok (.invokevirtual 57, 3) := by decide +kernel
theorem dL_forged_7 : decode cL_forged 7 = .ok (.i2l, 1) := by decide +kernel
theorem dL_forged_8 : decode cL_forged 8 = .ok (.lastore, 1) := by decide +kernel
theorem dL_forged_9 : decode cL_forged 9 = .ok (.goto 6, 3) := by decide +kernel
theorem dL_forged_12 : decode cL_forged 12 = .ok (.astore_n 3, 1) := by decide +kernel
theorem dL_forged_13 : decode cL_forged 13 = .ok (.iconst 1, 1) := by decide +kernel
theorem dL_forged_14 : decode cL_forged 14 = .ok (.ireturn, 1) := by decide +kernel
theorem dL_forged_15 : decode cL_forged 15 = .ok (.iconst 0, 1) := by decide +kernel
theorem dL_forged_16 : decode cL_forged 16 = .ok (.ireturn, 1) := by decide +kernel
theorem dL_value_0 : decode cL_value 0 = .ok (.aload_n 2, 1) := by decide +kernel
theorem dL_value_1 : decode cL_value 1 = .ok (.iconst 0, 1) := by decide +kernel
theorem dL_value_2 : decode cL_value 2 = .ok (.aload_n 0, 1) := by decide +kernel
theorem dL_value_3 : decode cL_value 3 = .ok (.iload_n 1, 1) := by decide +kernel
theorem dL_value_4 : decode cL_value 4 = .ok (.invokevirtual 60, 3) := by decide +kernel
theorem dL_value_7 : decode cL_value 7 = .ok (.i2l, 1) := by decide +kernel
theorem dL_value_8 : decode cL_value 8 = .ok (.lastore, 1) := by decide +kernel
theorem dL_value_9 : decode cL_value 9 = .ok (.goto 6, 3) := by decide +kernel
theorem dL_value_12 : decode cL_value 12 = .ok (.astore_n 3, 1) := by decide +kernel
theorem dL_value_13 : decode cL_value 13 = .ok (.iconst 1, 1) := by decide +kernel
theorem dL_value_14 : decode cL_value 14 = .ok (.ireturn, 1) := by decide +kernel
theorem dL_value_15 : decode cL_value 15 = .ok (.iconst 0, 1) := by decide +kernel
theorem dL_value_16 : decode cL_value 16 = .ok (.ireturn, 1) := by decide +kernel
theorem dL_argument_0 : decode cL_argument 0 = .ok (.aload_n 3, 1) := by decide +kernel
theorem dL_argument_1 : decode cL_argument 1 = .ok (.iconst 0, 1) := by decide +kernel
theorem dL_argument_2 : decode cL_argument 2 = .ok (.aload_n 0, 1) := by decide +kernel
theorem dL_argument_3 : decode cL_argument 3 = .ok (.iload_n 1, 1) := by decide +kernel
theorem dL_argument_4 : decode cL_argument 4 = .ok (.iload_n 2, 1) := by decide +kernel
theorem dL_argument_5 : decode cL_argument 5 = .ok (.invokevirtual 63, 3) := by decide +kernel
theorem dL_argument_8 : decode cL_argument 8 = .ok (.i2l, 1) := by decide +kernel
theorem dL_argument_9 : decode cL_argument 9 = .ok (.lastore, 1) := by decide +kernel
theorem dL_argument_10 : decode cL_argument 10 = .ok (.goto 7, 3) := by decide +kernel
theorem dL_argument_13 : decode cL_argument 13 = .ok (.astore 4, 2) := by decide +kernel
theorem dL_argument_15 : decode cL_argument 15 = .ok (.iconst 1, 1) := by decide +kernel
theorem dL_argument_16 : decode cL_argument 16 = .ok (.ireturn, 1) := by decide +kernel
theorem dL_argument_17 : decode cL_argument 17 = .ok (.iconst 0, 1) := by decide +kernel
theorem dL_argument_18 : decode cL_argument 18 = .ok (.ireturn, 1) := by decide +kernel
theorem dL_common_0 : decode cL_common 0 = .ok (.aload_n 3, 1) := by decide +kernel
theorem dL_common_1 : decode cL_common 1 = .ok (.iconst 0, 1) := by decide +kernel
theorem dL_common_2 : decode cL_common 2 = .ok (.aload_n 0, 1) := by decide +kernel
theorem dL_common_3 : decode cL_common 3 = .ok (.iload_n 1, 1) := by decide +kernel
theorem dL_common_4 : decode cL_common 4 = .ok (.iload_n 2, 1) := by decide +kernel
theorem dL_common_5 : decode cL_common 5 = .ok (.invokevirtual 66, 3) := by decide +kernel
theorem dL_common_8 : decode cL_common 8 = .ok (.i2l, 1) := by decide +kernel
theorem dL_common_9 : decode cL_common 9 = .ok (.lastore, 1) := by decide +kernel
theorem dL_common_10 : decode cL_common 10 = .ok (.goto 7, 3) := by decide +kernel
theorem dL_common_13 : decode cL_common 13 = .ok (.astore 4, 2) := by decide +kernel
theorem dL_common_15 : decode cL_common 15 = .ok (.iconst 1, 1) := by decide +kernel
theorem dL_common_16 : decode cL_common 16 = .ok (.ireturn, 1) := by decide +kernel
theorem dL_common_17 : decode cL_common 17 = .ok (.iconst 0, 1) := by decide +kernel
theorem dL_common_18 : decode cL_common 18 = .ok (.ireturn, 1) := by decide +kernel
theorem dL_duel_0 : decode cL_duel 0 = .ok (.aload 4, 2) := by decide +kernel
theorem dL_duel_2 : decode cL_duel 2 = .ok (.iconst 0, 1) := by decide +kernel
theorem dL_duel_3 : decode cL_duel 3 = .ok (.aload_n 0, 1) := by decide +kernel
theorem dL_duel_4 : decode cL_duel 4 = .ok (.iload_n 1, 1) := by decide +kernel
theorem dL_duel_5 : decode cL_duel 5 = .ok (.iload_n 2, 1) := by decide +kernel
theorem dL_duel_6 : decode cL_duel 6 = .ok (.iload_n 3, 1) := by decide +kernel
theorem dL_duel_7 : decode cL_duel 7 = .ok (.invokevirtual 69, 3) := by decide +kernel
theorem dL_duel_10 : decode cL_duel 10 = .ok (.i2l, 1) := by decide +kernel
theorem dL_duel_11 : decode cL_duel 11 = .ok (.lastore, 1) := by decide +kernel
theorem dL_duel_12 : decode cL_duel 12 = .ok (.goto 7, 3) := by decide +kernel
theorem dL_duel_15 : decode cL_duel 15 = .ok (.astore 5, 2) := by decide +kernel
theorem dL_duel_17 : decode cL_duel 17 = .ok (.iconst 1, 1) := by decide +kernel
theorem dL_duel_18 : decode cL_duel 18 = .ok (.ireturn, 1) := by decide +kernel
theorem dL_duel_19 : decode cL_duel 19 = .ok (.iconst 0, 1) := by decide +kernel
theorem dL_duel_20 : decode cL_duel 20 = .ok (.ireturn, 1) := by decide +kernel
theorem dL_chance_0 : decode cL_chance 0 = .ok (.aload 5, 2) := by decide +kernel
theorem dL_chance_2 : decode cL_chance 2 = .ok (.iconst 0, 1) := by decide +kernel
theorem dL_chance_3 : decode cL_chance 3 = .ok (.aload_n 0, 1) := by decide +kernel
theorem dL_chance_4 : decode cL_chance 4 = .ok (.iload_n 1, 1) := by decide +kernel
theorem dL_chance_5 : decode cL_chance 5 = .ok (.iload_n 2, 1) := by decide +kernel
theorem dL_chance_6 : decode cL_chance 6 = .ok (.iload_n 3, 1) := by decide +kernel
theorem dL_chance_7 : decode cL_chance 7 = .ok (.iload 4, 2) := by decide +kernel
theorem dL_chance_9 : decode cL_chance 9 = .ok (.invokevirtual 72, 3) := by decide +kernel
theorem dL_chance_12 : decode cL_chance 12 = .ok (.lastore, 1) := by decide +kernel
theorem dL_chance_13 : decode cL_chance 13 = .ok (.goto 7, 3) := by decide +kernel
theorem dL_chance_16 : decode cL_chance 16 = .ok (.astore 6, 2) := by decide +kernel
theorem dL_chance_18 : decode cL_chance 18 = .ok (.iconst 1, 1) := by decide +kernel
theorem dL_chance_19 : decode cL_chance 19 = .ok (.ireturn, 1) := by decide +kernel
theorem dL_chance_20 : decode cL_chance 20 = .ok (.iconst 0, 1) := by decide +kernel
theorem dL_chance_21 : decode cL_chance 21 = .ok (.ireturn, 1) := by decide +kernel
theorem dL_share_0 : decode cL_share 0 = .ok (.aload 4, 2) := by decide +kernel
theorem dL_share_2 : decode cL_share 2 = .ok (.iconst 0, 1) := by decide +kernel
theorem dL_share_3 : decode cL_share 3 = .ok (.aload_n 0, 1) := by decide +kernel
theorem dL_share_4 : decode cL_share 4 = .ok (.iload_n 1, 1) := by decide +kernel
theorem dL_share_5 : decode cL_share 5 = .ok (.iload_n 2, 1) := by decide +kernel
theorem dL_share_6 : decode cL_share 6 = .ok (.iload_n 3, 1) := by decide +kernel
theorem dL_share_7 : decode cL_share 7 = .ok (.invokevirtual 76, 3) := by decide +kernel
theorem dL_share_10 : decode cL_share 10 = .ok (.i2l, 1) := by decide +kernel
theorem dL_share_11 : decode cL_share 11 = .ok (.lastore, 1) := by decide +kernel
theorem dL_share_12 : decode cL_share 12 = .ok (.goto 11, 3) := by decide +kernel
theorem dL_share_15 : decode cL_share 15 = .ok (.astore 5, 2) := by decide +kernel
theorem dL_share_17 : decode cL_share 17 = .ok (.iconst 1, 1) := by decide +kernel
theorem dL_share_18 : decode cL_share 18 = .ok (.ireturn, 1) := by decide +kernel
theorem dL_share_19 : decode cL_share 19 = .ok (.astore 5, 2) := by decide +kernel
theorem dL_share_21 : decode cL_share 21 = .ok (.iconst 2, 1) := by decide +kernel
theorem dL_share_22 : decode cL_share 22 = .ok (.ireturn, 1) := by decide +kernel
theorem dL_share_23 : decode cL_share 23 = .ok (.iconst 0, 1) := by decide +kernel
theorem dL_share_24 : decode cL_share 24 = .ok (.ireturn, 1) := by decide +kernel
theorem dL_often_0 : decode cL_often 0 = .ok (.aload_n 2, 1) := by decide +kernel
theorem dL_often_1 : decode cL_often 1 = .ok (.iconst 0, 1) := by decide +kernel
theorem dL_often_2 : decode cL_often 2 = .ok (.aload_n 0, 1) := by decide +kernel
theorem dL_often_3 : decode cL_often 3 = .ok (.iload_n 1, 1) := by decide +kernel
theorem dL_often_4 : decode cL_often 4 = .ok (.invokevirtual 79, 3) := by decide +kernel
theorem dL_often_7 : decode cL_often 7 = .ok (.i2l, 1) := by decide +kernel
theorem dL_often_8 : decode cL_often 8 = .ok (.lastore, 1) := by decide +kernel
theorem dL_often_9 : decode cL_often 9 = .ok (.goto 6, 3) := by decide +kernel
theorem dL_often_12 : decode cL_often 12 = .ok (.astore_n 3, 1) := by decide +kernel
theorem dL_often_13 : decode cL_often 13 = .ok (.iconst 1, 1) := by decide +kernel
theorem dL_often_14 : decode cL_often 14 = .ok (.ireturn, 1) := by decide +kernel
theorem dL_often_15 : decode cL_often 15 = .ok (.iconst 0, 1) := by decide +kernel
theorem dL_often_16 : decode cL_often 16 = .ok (.ireturn, 1) := by decide +kernel
theorem dL_deeds_0 : decode cL_deeds 0 = .ok (.aload_n 2, 1) := by decide +kernel
theorem dL_deeds_1 : decode cL_deeds 1 = .ok (.iconst 0, 1) := by decide +kernel
theorem dL_deeds_2 : decode cL_deeds 2 = .ok (.aload_n 0, 1) := by decide +kernel
theorem dL_deeds_3 : decode cL_deeds 3 = .ok (.iload_n 1, 1) := by decide +kernel
theorem dL_deeds_4 : decode cL_deeds 4 = .ok (.invokevirtual 82, 3) := by decide +kernel
theorem dL_deeds_7 : decode cL_deeds 7 = .ok (.i2l, 1) := by decide +kernel
theorem dL_deeds_8 : decode cL_deeds 8 = .ok (.lastore, 1) := by decide +kernel
theorem dL_deeds_9 : decode cL_deeds 9 = .ok (.goto 6, 3) := by decide +kernel
theorem dL_deeds_12 : decode cL_deeds 12 = .ok (.astore_n 3, 1) := by decide +kernel
theorem dL_deeds_13 : decode cL_deeds 13 = .ok (.iconst 1, 1) := by decide +kernel
theorem dL_deeds_14 : decode cL_deeds 14 = .ok (.ireturn, 1) := by decide +kernel
theorem dL_deeds_15 : decode cL_deeds 15 = .ok (.iconst 0, 1) := by decide +kernel
theorem dL_deeds_16 : decode cL_deeds 16 = .ok (.ireturn, 1) := by decide +kernel
theorem dL_longest_0 : decode cL_longest 0 = .ok (.aload_n 2, 1) := by decide +kernel
theorem dL_longest_1 : decode cL_longest 1 = .ok (.iconst 0, 1) := by decide +kernel
theorem dL_longest_2 : decode cL_longest 2 = .ok (.aload_n 0, 1) := by decide +kernel
theorem dL_longest_3 : decode cL_longest 3 = .ok (.iload_n 1, 1) := by decide +kernel
theorem dL_longest_4 : decode cL_longest 4 = .ok (.invokevirtual 85, 3) := by decide +kernel
theorem dL_longest_7 : decode cL_longest 7 = .ok (.i2l, 1) := by decide +kernel
theorem dL_longest_8 : decode cL_longest 8 = .ok (.lastore, 1) := by decide +kernel
theorem dL_longest_9 : decode cL_longest 9 = .ok (.goto 6, 3) := by decide +kernel
theorem dL_longest_12 : decode cL_longest 12 = .ok (.astore_n 3, 1) := by decide +kernel
theorem dL_longest_13 : decode cL_longest 13 = .ok (.iconst 1, 1) := by decide +kernel
theorem dL_longest_14 : decode cL_longest 14 = .ok (.ireturn, 1) := by decide +kernel
theorem dL_longest_15 : decode cL_longest 15 = .ok (.iconst 0, 1) := by decide +kernel
theorem dL_longest_16 : decode cL_longest 16 = .ok (.ireturn, 1) := by decide +kernel
theorem dL_hand_0 : decode cL_hand 0 = .ok (.aload 5, 2) := by decide +kernel
theorem dL_hand_2 : decode cL_hand 2 = .ok (.iconst 0, 1) := by decide +kernel
theorem dL_hand_3 : decode cL_hand 3 = .ok (.aload_n 0, 1) := by decide +kernel
theorem dL_hand_4 : decode cL_hand 4 = .ok (.iload_n 1, 1) := by decide +kernel
theorem dL_hand_5 : decode cL_hand 5 = .ok (.iload_n 2, 1) := by decide +kernel
theorem dL_hand_6 : decode cL_hand 6 = .ok (.iload_n 3, 1) := by decide +kernel
theorem dL_hand_7 : decode cL_hand 7 = .ok (.iload 4, 2) := by decide +kernel
theorem dL_hand_9 : decode cL_hand 9 = .ok (.invokevirtual 88, 3) := by decide +kernel
theorem dL_hand_12 : decode cL_hand 12 = .ok (.i2l, 1) := by decide +kernel
theorem dL_hand_13 : decode cL_hand 13 = .ok (.lastore, 1) := by decide +kernel
theorem dL_hand_14 : decode cL_hand 14 = .ok (.goto 7, 3) := by decide +kernel
theorem dL_hand_17 : decode cL_hand 17 = .ok (.astore 6, 2) := by decide +kernel
theorem dL_hand_19 : decode cL_hand 19 = .ok (.iconst 1, 1) := by decide +kernel
theorem dL_hand_20 : decode cL_hand 20 = .ok (.ireturn, 1) := by decide +kernel
theorem dL_hand_21 : decode cL_hand 21 = .ok (.iconst 0, 1) := by decide +kernel
theorem dL_hand_22 : decode cL_hand 22 = .ok (.ireturn, 1) := by decide +kernel
theorem dL_span_0 : decode cL_span 0 = .ok (.aload 7, 2) := by decide +kernel
theorem dL_span_2 : decode cL_span 2 = .ok (.iconst 0, 1) := by decide +kernel
theorem dL_span_3 : decode cL_span 3 = .ok (.aload_n 0, 1) := by decide +kernel
theorem dL_span_4 : decode cL_span 4 = .ok (.iload_n 1, 1) := by decide +kernel
theorem dL_span_5 : decode cL_span 5 = .ok (.iload_n 2, 1) := by decide +kernel
theorem dL_span_6 : decode cL_span 6 = .ok (.iload_n 3, 1) := by decide +kernel
theorem dL_span_7 : decode cL_span 7 = .ok (.iload 4, 2) := by decide +kernel
theorem dL_span_9 : decode cL_span 9 = .ok (.iload 5, 2) := by decide +kernel
theorem dL_span_11 : decode cL_span 11 = .ok (.iload 6, 2) := by decide +kernel
theorem dL_span_13 : decode cL_span 13 = .ok (.invokevirtual 92, 3) := by decide +kernel
theorem dL_span_16 : decode cL_span 16 = .ok (.i2l, 1) := by decide +kernel
theorem dL_span_17 : decode cL_span 17 = .ok (.lastore, 1) := by decide +kernel
theorem dL_span_18 : decode cL_span 18 = .ok (.goto 7, 3) := by decide +kernel
theorem dL_span_21 : decode cL_span 21 = .ok (.astore 8, 2) := by decide +kernel
theorem dL_span_23 : decode cL_span 23 = .ok (.iconst 1, 1) := by decide +kernel
theorem dL_span_24 : decode cL_span 24 = .ok (.ireturn, 1) := by decide +kernel
theorem dL_span_25 : decode cL_span 25 = .ok (.iconst 0, 1) := by decide +kernel
theorem dL_span_26 : decode cL_span 26 = .ok (.ireturn, 1) := by decide +kernel
theorem dL_law__0 : decode cL_law_ 0 = .ok (.new 8, 3) := by decide +kernel
theorem dL_law__3 : decode cL_law_ 3 = .ok (.dup, 1) := by decide +kernel
theorem dL_law__4 : decode cL_law_ 4 = .ok (.invokespecial 96, 3) := by decide +kernel
theorem dL_law__7 : decode cL_law_ 7 = .ok (.astore_n 1, 1) := by decide +kernel
theorem dL_law__8 : decode cL_law_ 8 = .ok (.new 97, 3) := by decide +kernel
theorem dL_law__11 : decode cL_law_ 11 = .ok (.dup, 1) := by decide +kernel
theorem dL_law__12 : decode cL_law_ 12 = .ok (.invokespecial 99, 3) := by decide +kernel
theorem dL_law__15 : decode cL_law_ 15 = .ok (.astore_n 2, 1) := by decide +kernel
theorem dL_law__16 : decode cL_law_ 16 = .ok (.iconst 1, 1) := by decide +kernel
theorem dL_law__17 : decode cL_law_ 17 = .ok (.newarray .long, 2) := by decide +kernel
theorem dL_law__19 : decode cL_law_ 19 = .ok (.astore_n 3, 1) := by decide +kernel
theorem dL_law__20 : decode cL_law_ 20 = .ok (.iconst 0, 1) := by decide +kernel
theorem dL_law__21 : decode cL_law_ 21 = .ok (.istore 4, 2) := by decide +kernel
theorem dL_law__23 : decode cL_law_ 23 = .ok (.iload 4, 2) := by decide +kernel
theorem dL_law__25 : decode cL_law_ 25 = .ok (.aload_n 0, 1) := by decide +kernel
theorem dL_law__26 : decode cL_law_ 26 = .ok (.arraylength, 1) := by decide +kernel
theorem dL_law__27 : decode cL_law_ 27 = .ok (.bipush 8, 2) := by decide +kernel
theorem dL_law__29 : decode cL_law_ 29 = .ok (.isub, 1) := by decide +kernel
theorem dL_law__30 : decode cL_law_ 30 = .ok (.if_icmp .gt 2208, 3) := by decide +kernel
theorem dL_law__33 : decode cL_law_ 33 = .ok (.aload_n 0, 1) := by decide +kernel
theorem dL_law__34 : decode cL_law_ 34 = .ok (.iload 4, 2) := by decide +kernel
theorem dL_law__36 : decode cL_law_ 36 = .ok (.iaload, 1) := by decide +kernel
theorem dL_law__37 : decode cL_law_ 37 = .ok (.bipush 63, 2) := by decide +kernel
theorem dL_law__39 : decode cL_law_ 39 = .ok (.iand, 1) := by decide +kernel
theorem dL_law__40 : decode cL_law_ 40 = .ok (.tableswitch 2192 0 38 #[172, 245, 301, 357, 413, 469, 482, 495, 551, 619, 699, 755, 811, 891, 1023, 1091, 1104, 1117, 1131, 1144, 1158, 1213, 1269, 1325, 1393, 1461, 1474, 1487, 1567, 1658, 1738, 1794, 1850, 1906, 1998, 2116, 2129, 2142, 2167], 172) := by decide +kernel
theorem dL_law__212 : decode cL_law_ 212 = .ok (.aload_n 1, 1) := by decide +kernel
theorem dL_law__213 : decode cL_law_ 213 = .ok (.aload_n 0, 1) := by decide +kernel
theorem dL_law__214 : decode cL_law_ 214 = .ok (.iload 4, 2) := by decide +kernel
theorem dL_law__216 : decode cL_law_ 216 = .ok (.iconst 1, 1) := by decide +kernel
theorem dL_law__217 : decode cL_law_ 217 = .ok (.iadd, 1) := by decide +kernel
theorem dL_law__218 : decode cL_law_ 218 = .ok (.iaload, 1) := by decide +kernel
theorem dL_law__219 : decode cL_law_ 219 = .ok (.aload_n 0, 1) := by decide +kernel
theorem dL_law__220 : decode cL_law_ 220 = .ok (.iload 4, 2) := by decide +kernel
theorem dL_law__222 : decode cL_law_ 222 = .ok (.iconst 2, 1) := by decide +kernel
theorem dL_law__223 : decode cL_law_ 223 = .ok (.iadd, 1) := by decide +kernel
theorem dL_law__224 : decode cL_law_ 224 = .ok (.iaload, 1) := by decide +kernel
theorem dL_law__225 : decode cL_law_ 225 = .ok (.aload_n 0, 1) := by decide +kernel
theorem dL_law__226 : decode cL_law_ 226 = .ok (.iload 4, 2) := by decide +kernel
theorem dL_law__228 : decode cL_law_ 228 = .ok (.iconst 3, 1) := by decide +kernel
theorem dL_law__229 : decode cL_law_ 229 = .ok (.iadd, 1) := by decide +kernel
theorem dL_law__230 : decode cL_law_ 230 = .ok (.iaload, 1) := by decide +kernel
theorem dL_law__231 : decode cL_law_ 231 = .ok (.aload_n 0, 1) := by decide +kernel
theorem dL_law__232 : decode cL_law_ 232 = .ok (.iload 4, 2) := by decide +kernel
theorem dL_law__234 : decode cL_law_ 234 = .ok (.iconst 4, 1) := by decide +kernel
theorem dL_law__235 : decode cL_law_ 235 = .ok (.iadd, 1) := by decide +kernel
theorem dL_law__236 : decode cL_law_ 236 = .ok (.iaload, 1) := by decide +kernel
theorem dL_law__237 : decode cL_law_ 237 = .ok (.aload_n 0, 1) := by decide +kernel
theorem dL_law__238 : decode cL_law_ 238 = .ok (.iload 4, 2) := by decide +kernel
theorem dL_law__240 : decode cL_law_ 240 = .ok (.iconst 5, 1) := by decide +kernel
theorem dL_law__241 : decode cL_law_ 241 = .ok (.iadd, 1) := by decide +kernel
theorem dL_law__242 : decode cL_law_ 242 = .ok (.iaload, 1) := by decide +kernel
theorem dL_law__243 : decode cL_law_ 243 = .ok (.invokevirtual 100, 3) := by decide +kernel
theorem dL_law__246 : decode cL_law_ 246 = .ok (.aload_n 2, 1) := by decide +kernel
theorem dL_law__247 : decode cL_law_ 247 = .ok (.aload_n 0, 1) := by decide +kernel
theorem dL_law__248 : decode cL_law_ 248 = .ok (.iload 4, 2) := by decide +kernel
theorem dL_law__250 : decode cL_law_ 250 = .ok (.iconst 1, 1) := by decide +kernel
theorem dL_law__251 : decode cL_law_ 251 = .ok (.iadd, 1) := by decide +kernel
theorem dL_law__252 : decode cL_law_ 252 = .ok (.iaload, 1) := by decide +kernel
theorem dL_law__253 : decode cL_law_ 253 = .ok (.aload_n 0, 1) := by decide +kernel
theorem dL_law__254 : decode cL_law_ 254 = .ok (.iload 4, 2) := by decide +kernel
theorem dL_law__256 : decode cL_law_ 256 = .ok (.iconst 2, 1) := by decide +kernel
theorem dL_law__257 : decode cL_law_ 257 = .ok (.iadd, 1) := by decide +kernel
theorem dL_law__258 : decode cL_law_ 258 = .ok (.iaload, 1) := by decide +kernel
theorem dL_law__259 : decode cL_law_ 259 = .ok (.aload_n 0, 1) := by decide +kernel
theorem dL_law__260 : decode cL_law_ 260 = .ok (.iload 4, 2) := by decide +kernel
theorem dL_law__262 : decode cL_law_ 262 = .ok (.iconst 3, 1) := by decide +kernel
theorem dL_law__263 : decode cL_law_ 263 = .ok (.iadd, 1) := by decide +kernel
theorem dL_law__264 : decode cL_law_ 264 = .ok (.iaload, 1) := by decide +kernel
theorem dL_law__265 : decode cL_law_ 265 = .ok (.aload_n 0, 1) := by decide +kernel
theorem dL_law__266 : decode cL_law_ 266 = .ok (.iload 4, 2) := by decide +kernel
theorem dL_law__268 : decode cL_law_ 268 = .ok (.iconst 4, 1) := by decide +kernel
theorem dL_law__269 : decode cL_law_ 269 = .ok (.iadd, 1) := by decide +kernel
theorem dL_law__270 : decode cL_law_ 270 = .ok (.iaload, 1) := by decide +kernel
theorem dL_law__271 : decode cL_law_ 271 = .ok (.aload_n 0, 1) := by decide +kernel
theorem dL_law__272 : decode cL_law_ 272 = .ok (.iload 4, 2) := by decide +kernel
theorem dL_law__274 : decode cL_law_ 274 = .ok (.iconst 5, 1) := by decide +kernel
theorem dL_law__275 : decode cL_law_ 275 = .ok (.iadd, 1) := by decide +kernel
theorem dL_law__276 : decode cL_law_ 276 = .ok (.iaload, 1) := by decide +kernel
theorem dL_law__277 : decode cL_law_ 277 = .ok (.invokevirtual 104, 3) := by decide +kernel
theorem dL_law__280 : decode cL_law_ 280 = .ok (.if_icmp .eq 1952, 3) := by decide +kernel
theorem dL_law__283 : decode cL_law_ 283 = .ok (.iconst 0, 1) := by decide +kernel
theorem dL_law__284 : decode cL_law_ 284 = .ok (.ireturn, 1) := by decide +kernel
theorem dL_law__285 : decode cL_law_ 285 = .ok (.aload_n 1, 1) := by decide +kernel
theorem dL_law__286 : decode cL_law_ 286 = .ok (.aload_n 0, 1) := by decide +kernel
theorem dL_law__287 : decode cL_law_ 287 = .ok (.iload 4, 2) := by decide +kernel
theorem dL_law__289 : decode cL_law_ 289 = .ok (.iconst 1, 1) := by decide +kernel
theorem dL_law__290 : decode cL_law_ 290 = .ok (.iadd, 1) := by decide +kernel
theorem dL_law__291 : decode cL_law_ 291 = .ok (.iaload, 1) := by decide +kernel
theorem dL_law__292 : decode cL_law_ 292 = .ok (.aload_n 3, 1) := by decide +kernel
theorem dL_law__293 : decode cL_law_ 293 = .ok (.invokestatic 105, 3) := by decide +kernel
theorem dL_law__296 : decode cL_law_ 296 = .ok (.istore 5, 2) := by decide +kernel
theorem dL_law__298 : decode cL_law_ 298 = .ok (.aload_n 2, 1) := by decide +kernel
theorem dL_law__299 : decode cL_law_ 299 = .ok (.aload_n 0, 1) := by decide +kernel
theorem dL_law__300 : decode cL_law_ 300 = .ok (.iload 4, 2) := by decide +kernel
theorem dL_law__302 : decode cL_law_ 302 = .ok (.iconst 1, 1) := by decide +kernel
theorem dL_law__303 : decode cL_law_ 303 = .ok (.iadd, 1) := by decide +kernel
theorem dL_law__304 : decode cL_law_ 304 = .ok (.iaload, 1) := by decide +kernel
theorem dL_law__305 : decode cL_law_ 305 = .ok (.invokevirtual 110, 3) := by decide +kernel
theorem dL_law__308 : decode cL_law_ 308 = .ok (.istore 6, 2) := by decide +kernel
theorem dL_law__310 : decode cL_law_ 310 = .ok (.aload_n 2, 1) := by decide +kernel
theorem dL_law__311 : decode cL_law_ 311 = .ok (.invokevirtual 111, 3) := by decide +kernel
theorem dL_law__314 : decode cL_law_ 314 = .ok (.iload 5, 2) := by decide +kernel
theorem dL_law__316 : decode cL_law_ 316 = .ok (.if_icmp .eq 5, 3) := by decide +kernel
theorem dL_law__319 : decode cL_law_ 319 = .ok (.iconst 0, 1) := by decide +kernel
theorem dL_law__320 : decode cL_law_ 320 = .ok (.ireturn, 1) := by decide +kernel
theorem dL_law__321 : decode cL_law_ 321 = .ok (.iload 5, 2) := by decide +kernel
theorem dL_law__323 : decode cL_law_ 323 = .ok (.ifCond .ne 15, 3) := by decide +kernel
theorem dL_law__326 : decode cL_law_ 326 = .ok (.aload_n 3, 1) := by decide +kernel
theorem dL_law__327 : decode cL_law_ 327 = .ok (.iconst 0, 1) := by decide +kernel
theorem dL_law__328 : decode cL_law_ 328 = .ok (.laload, 1) := by decide +kernel
theorem dL_law__329 : decode cL_law_ 329 = .ok (.iload 6, 2) := by decide +kernel
theorem dL_law__331 : decode cL_law_ 331 = .ok (.i2l, 1) := by decide +kernel
theorem dL_law__332 : decode cL_law_ 332 = .ok (.lcmp, 1) := by decide +kernel
theorem dL_law__333 : decode cL_law_ 333 = .ok (.ifCond .eq 5, 3) := by decide +kernel
theorem dL_law__336 : decode cL_law_ 336 = .ok (.iconst 0, 1) := by decide +kernel
theorem dL_law__337 : decode cL_law_ 337 = .ok (.ireturn, 1) := by decide +kernel
theorem dL_law__338 : decode cL_law_ 338 = .ok (.goto 1894, 3) := by decide +kernel
theorem dL_law__341 : decode cL_law_ 341 = .ok (.aload_n 1, 1) := by decide +kernel
theorem dL_law__342 : decode cL_law_ 342 = .ok (.aload_n 0, 1) := by decide +kernel
theorem dL_law__343 : decode cL_law_ 343 = .ok (.iload 4, 2) := by decide +kernel
theorem dL_law__345 : decode cL_law_ 345 = .ok (.iconst 1, 1) := by decide +kernel
theorem dL_law__346 : decode cL_law_ 346 = .ok (.iadd, 1) := by decide +kernel
theorem dL_law__347 : decode cL_law_ 347 = .ok (.iaload, 1) := by decide +kernel
theorem dL_law__348 : decode cL_law_ 348 = .ok (.aload_n 3, 1) := by decide +kernel
theorem dL_law__349 : decode cL_law_ 349 = .ok (.invokestatic 115, 3) := by decide +kernel
theorem dL_law__352 : decode cL_law_ 352 = .ok (.istore 5, 2) := by decide +kernel
theorem dL_law__354 : decode cL_law_ 354 = .ok (.aload_n 2, 1) := by decide +kernel
theorem dL_law__355 : decode cL_law_ 355 = .ok (.aload_n 0, 1) := by decide +kernel
theorem dL_law__356 : decode cL_law_ 356 = .ok (.iload 4, 2) := by decide +kernel
theorem dL_law__358 : decode cL_law_ 358 = .ok (.iconst 1, 1) := by decide +kernel
theorem dL_law__359 : decode cL_law_ 359 = .ok (.iadd, 1) := by decide +kernel
theorem dL_law__360 : decode cL_law_ 360 = .ok (.iaload, 1) := by decide +kernel
theorem dL_law__361 : decode cL_law_ 361 = .ok (.invokevirtual 117, 3) := by decide +kernel
theorem dL_law__364 : decode cL_law_ 364 = .ok (.istore 6, 2) := by decide +kernel
theorem dL_law__366 : decode cL_law_ 366 = .ok (.aload_n 2, 1) := by decide +kernel
theorem dL_law__367 : decode cL_law_ 367 = .ok (.invokevirtual 111, 3) := by decide +kernel
theorem dL_law__370 : decode cL_law_ 370 = .ok (.iload 5, 2) := by decide +kernel
theorem dL_law__372 : decode cL_law_ 372 = .ok (.if_icmp .eq 5, 3) := by decide +kernel
theorem dL_law__375 : decode cL_law_ 375 = .ok (.iconst 0, 1) := by decide +kernel
theorem dL_law__376 : decode cL_law_ 376 = .ok (.ireturn, 1) := by decide +kernel
theorem dL_law__377 : decode cL_law_ 377 = .ok (.iload 5, 2) := by decide +kernel
theorem dL_law__379 : decode cL_law_ 379 = .ok (.ifCond .ne 15, 3) := by decide +kernel
theorem dL_law__382 : decode cL_law_ 382 = .ok (.aload_n 3, 1) := by decide +kernel
theorem dL_law__383 : decode cL_law_ 383 = .ok (.iconst 0, 1) := by decide +kernel
theorem dL_law__384 : decode cL_law_ 384 = .ok (.laload, 1) := by decide +kernel
theorem dL_law__385 : decode cL_law_ 385 = .ok (.iload 6, 2) := by decide +kernel
theorem dL_law__387 : decode cL_law_ 387 = .ok (.i2l, 1) := by decide +kernel
theorem dL_law__388 : decode cL_law_ 388 = .ok (.lcmp, 1) := by decide +kernel
theorem dL_law__389 : decode cL_law_ 389 = .ok (.ifCond .eq 5, 3) := by decide +kernel
theorem dL_law__392 : decode cL_law_ 392 = .ok (.iconst 0, 1) := by decide +kernel
theorem dL_law__393 : decode cL_law_ 393 = .ok (.ireturn, 1) := by decide +kernel
theorem dL_law__394 : decode cL_law_ 394 = .ok (.goto 1838, 3) := by decide +kernel
theorem dL_law__397 : decode cL_law_ 397 = .ok (.aload_n 1, 1) := by decide +kernel
theorem dL_law__398 : decode cL_law_ 398 = .ok (.aload_n 0, 1) := by decide +kernel
theorem dL_law__399 : decode cL_law_ 399 = .ok (.iload 4, 2) := by decide +kernel
theorem dL_law__401 : decode cL_law_ 401 = .ok (.iconst 1, 1) := by decide +kernel
theorem dL_law__402 : decode cL_law_ 402 = .ok (.iadd, 1) := by decide +kernel
theorem dL_law__403 : decode cL_law_ 403 = .ok (.iaload, 1) := by decide +kernel
theorem dL_law__404 : decode cL_law_ 404 = .ok (.aload_n 3, 1) := by decide +kernel
theorem dL_law__405 : decode cL_law_ 405 = .ok (.invokestatic 118, 3) := by decide +kernel
theorem dL_law__408 : decode cL_law_ 408 = .ok (.istore 5, 2) := by decide +kernel
theorem dL_law__410 : decode cL_law_ 410 = .ok (.aload_n 2, 1) := by decide +kernel
theorem dL_law__411 : decode cL_law_ 411 = .ok (.aload_n 0, 1) := by decide +kernel
theorem dL_law__412 : decode cL_law_ 412 = .ok (.iload 4, 2) := by decide +kernel
theorem dL_law__414 : decode cL_law_ 414 = .ok (.iconst 1, 1) := by decide +kernel
theorem dL_law__415 : decode cL_law_ 415 = .ok (.iadd, 1) := by decide +kernel
theorem dL_law__416 : decode cL_law_ 416 = .ok (.iaload, 1) := by decide +kernel
theorem dL_law__417 : decode cL_law_ 417 = .ok (.invokevirtual 120, 3) := by decide +kernel
theorem dL_law__420 : decode cL_law_ 420 = .ok (.istore 6, 2) := by decide +kernel
theorem dL_law__422 : decode cL_law_ 422 = .ok (.aload_n 2, 1) := by decide +kernel
theorem dL_law__423 : decode cL_law_ 423 = .ok (.invokevirtual 111, 3) := by decide +kernel
theorem dL_law__426 : decode cL_law_ 426 = .ok (.iload 5, 2) := by decide +kernel
theorem dL_law__428 : decode cL_law_ 428 = .ok (.if_icmp .eq 5, 3) := by decide +kernel
theorem dL_law__431 : decode cL_law_ 431 = .ok (.iconst 0, 1) := by decide +kernel
theorem dL_law__432 : decode cL_law_ 432 = .ok (.ireturn, 1) := by decide +kernel
theorem dL_law__433 : decode cL_law_ 433 = .ok (.iload 5, 2) := by decide +kernel
theorem dL_law__435 : decode cL_law_ 435 = .ok (.ifCond .ne 15, 3) := by decide +kernel
theorem dL_law__438 : decode cL_law_ 438 = .ok (.aload_n 3, 1) := by decide +kernel
theorem dL_law__439 : decode cL_law_ 439 = .ok (.iconst 0, 1) := by decide +kernel
theorem dL_law__440 : decode cL_law_ 440 = .ok (.laload, 1) := by decide +kernel
theorem dL_law__441 : decode cL_law_ 441 = .ok (.iload 6, 2) := by decide +kernel
theorem dL_law__443 : decode cL_law_ 443 = .ok (.i2l, 1) := by decide +kernel
theorem dL_law__444 : decode cL_law_ 444 = .ok (.lcmp, 1) := by decide +kernel
theorem dL_law__445 : decode cL_law_ 445 = .ok (.ifCond .eq 5, 3) := by decide +kernel
theorem dL_law__448 : decode cL_law_ 448 = .ok (.iconst 0, 1) := by decide +kernel
theorem dL_law__449 : decode cL_law_ 449 = .ok (.ireturn, 1) := by decide +kernel
theorem dL_law__450 : decode cL_law_ 450 = .ok (.goto 1782, 3) := by decide +kernel
theorem dL_law__453 : decode cL_law_ 453 = .ok (.aload_n 1, 1) := by decide +kernel
theorem dL_law__454 : decode cL_law_ 454 = .ok (.aload_n 0, 1) := by decide +kernel
theorem dL_law__455 : decode cL_law_ 455 = .ok (.iload 4, 2) := by decide +kernel
theorem dL_law__457 : decode cL_law_ 457 = .ok (.iconst 1, 1) := by decide +kernel
theorem dL_law__458 : decode cL_law_ 458 = .ok (.iadd, 1) := by decide +kernel
theorem dL_law__459 : decode cL_law_ 459 = .ok (.iaload, 1) := by decide +kernel
theorem dL_law__460 : decode cL_law_ 460 = .ok (.aload_n 3, 1) := by decide +kernel
theorem dL_law__461 : decode cL_law_ 461 = .ok (.invokestatic 121, 3) := by decide +kernel
theorem dL_law__464 : decode cL_law_ 464 = .ok (.istore 5, 2) := by decide +kernel
theorem dL_law__466 : decode cL_law_ 466 = .ok (.aload_n 2, 1) := by decide +kernel
theorem dL_law__467 : decode cL_law_ 467 = .ok (.aload_n 0, 1) := by decide +kernel
theorem dL_law__468 : decode cL_law_ 468 = .ok (.iload 4, 2) := by decide +kernel
theorem dL_law__470 : decode cL_law_ 470 = .ok (.iconst 1, 1) := by decide +kernel
theorem dL_law__471 : decode cL_law_ 471 = .ok (.iadd, 1) := by decide +kernel
theorem dL_law__472 : decode cL_law_ 472 = .ok (.iaload, 1) := by decide +kernel
theorem dL_law__473 : decode cL_law_ 473 = .ok (.invokevirtual 123, 3) := by decide +kernel
theorem dL_law__476 : decode cL_law_ 476 = .ok (.istore 6, 2) := by decide +kernel
theorem dL_law__478 : decode cL_law_ 478 = .ok (.aload_n 2, 1) := by decide +kernel
theorem dL_law__479 : decode cL_law_ 479 = .ok (.invokevirtual 111, 3) := by decide +kernel
theorem dL_law__482 : decode cL_law_ 482 = .ok (.iload 5, 2) := by decide +kernel
theorem dL_law__484 : decode cL_law_ 484 = .ok (.if_icmp .eq 5, 3) := by decide +kernel
theorem dL_law__487 : decode cL_law_ 487 = .ok (.iconst 0, 1) := by decide +kernel
theorem dL_law__488 : decode cL_law_ 488 = .ok (.ireturn, 1) := by decide +kernel
theorem dL_law__489 : decode cL_law_ 489 = .ok (.iload 5, 2) := by decide +kernel
theorem dL_law__491 : decode cL_law_ 491 = .ok (.ifCond .ne 15, 3) := by decide +kernel
theorem dL_law__494 : decode cL_law_ 494 = .ok (.aload_n 3, 1) := by decide +kernel
theorem dL_law__495 : decode cL_law_ 495 = .ok (.iconst 0, 1) := by decide +kernel
theorem dL_law__496 : decode cL_law_ 496 = .ok (.laload, 1) := by decide +kernel
theorem dL_law__497 : decode cL_law_ 497 = .ok (.iload 6, 2) := by decide +kernel
theorem dL_law__499 : decode cL_law_ 499 = .ok (.i2l, 1) := by decide +kernel
theorem dL_law__500 : decode cL_law_ 500 = .ok (.lcmp, 1) := by decide +kernel
theorem dL_law__501 : decode cL_law_ 501 = .ok (.ifCond .eq 5, 3) := by decide +kernel
theorem dL_law__504 : decode cL_law_ 504 = .ok (.iconst 0, 1) := by decide +kernel
theorem dL_law__505 : decode cL_law_ 505 = .ok (.ireturn, 1) := by decide +kernel
theorem dL_law__506 : decode cL_law_ 506 = .ok (.goto 1726, 3) := by decide +kernel
theorem dL_law__509 : decode cL_law_ 509 = .ok (.aload_n 1, 1) := by decide +kernel
theorem dL_law__510 : decode cL_law_ 510 = .ok (.invokevirtual 124, 3) := by decide +kernel
theorem dL_law__513 : decode cL_law_ 513 = .ok (.aload_n 2, 1) := by decide +kernel
theorem dL_law__514 : decode cL_law_ 514 = .ok (.invokevirtual 127, 3) := by decide +kernel
theorem dL_law__517 : decode cL_law_ 517 = .ok (.if_icmp .eq 1715, 3) := by decide +kernel
theorem dL_law__520 : decode cL_law_ 520 = .ok (.iconst 0, 1) := by decide +kernel
theorem dL_law__521 : decode cL_law_ 521 = .ok (.ireturn, 1) := by decide +kernel
theorem dL_law__522 : decode cL_law_ 522 = .ok (.aload_n 1, 1) := by decide +kernel
theorem dL_law__523 : decode cL_law_ 523 = .ok (.invokevirtual 128, 3) := by decide +kernel
theorem dL_law__526 : decode cL_law_ 526 = .ok (.aload_n 2, 1) := by decide +kernel
theorem dL_law__527 : decode cL_law_ 527 = .ok (.invokevirtual 131, 3) := by decide +kernel
theorem dL_law__530 : decode cL_law_ 530 = .ok (.if_icmp .eq 1702, 3) := by decide +kernel
theorem dL_law__533 : decode cL_law_ 533 = .ok (.iconst 0, 1) := by decide +kernel
theorem dL_law__534 : decode cL_law_ 534 = .ok (.ireturn, 1) := by decide +kernel
theorem dL_law__535 : decode cL_law_ 535 = .ok (.aload_n 1, 1) := by decide +kernel
theorem dL_law__536 : decode cL_law_ 536 = .ok (.aload_n 0, 1) := by decide +kernel
theorem dL_law__537 : decode cL_law_ 537 = .ok (.iload 4, 2) := by decide +kernel
theorem dL_law__539 : decode cL_law_ 539 = .ok (.iconst 1, 1) := by decide +kernel
theorem dL_law__540 : decode cL_law_ 540 = .ok (.iadd, 1) := by decide +kernel
theorem dL_law__541 : decode cL_law_ 541 = .ok (.iaload, 1) := by decide +kernel
theorem dL_law__542 : decode cL_law_ 542 = .ok (.aload_n 3, 1) := by decide +kernel
theorem dL_law__543 : decode cL_law_ 543 = .ok (.invokestatic 132, 3) := by decide +kernel
theorem dL_law__546 : decode cL_law_ 546 = .ok (.istore 5, 2) := by decide +kernel
theorem dL_law__548 : decode cL_law_ 548 = .ok (.aload_n 2, 1) := by decide +kernel
theorem dL_law__549 : decode cL_law_ 549 = .ok (.aload_n 0, 1) := by decide +kernel
theorem dL_law__550 : decode cL_law_ 550 = .ok (.iload 4, 2) := by decide +kernel
theorem dL_law__552 : decode cL_law_ 552 = .ok (.iconst 1, 1) := by decide +kernel
theorem dL_law__553 : decode cL_law_ 553 = .ok (.iadd, 1) := by decide +kernel
theorem dL_law__554 : decode cL_law_ 554 = .ok (.iaload, 1) := by decide +kernel
theorem dL_law__555 : decode cL_law_ 555 = .ok (.invokevirtual 134, 3) := by decide +kernel
theorem dL_law__558 : decode cL_law_ 558 = .ok (.istore 6, 2) := by decide +kernel
theorem dL_law__560 : decode cL_law_ 560 = .ok (.aload_n 2, 1) := by decide +kernel
theorem dL_law__561 : decode cL_law_ 561 = .ok (.invokevirtual 111, 3) := by decide +kernel
theorem dL_law__564 : decode cL_law_ 564 = .ok (.iload 5, 2) := by decide +kernel
theorem dL_law__566 : decode cL_law_ 566 = .ok (.if_icmp .eq 5, 3) := by decide +kernel
theorem dL_law__569 : decode cL_law_ 569 = .ok (.iconst 0, 1) := by decide +kernel
theorem dL_law__570 : decode cL_law_ 570 = .ok (.ireturn, 1) := by decide +kernel
theorem dL_law__571 : decode cL_law_ 571 = .ok (.iload 5, 2) := by decide +kernel
theorem dL_law__573 : decode cL_law_ 573 = .ok (.ifCond .ne 15, 3) := by decide +kernel
theorem dL_law__576 : decode cL_law_ 576 = .ok (.aload_n 3, 1) := by decide +kernel
theorem dL_law__577 : decode cL_law_ 577 = .ok (.iconst 0, 1) := by decide +kernel
theorem dL_law__578 : decode cL_law_ 578 = .ok (.laload, 1) := by decide +kernel
theorem dL_law__579 : decode cL_law_ 579 = .ok (.iload 6, 2) := by decide +kernel
theorem dL_law__581 : decode cL_law_ 581 = .ok (.i2l, 1) := by decide +kernel
theorem dL_law__582 : decode cL_law_ 582 = .ok (.lcmp, 1) := by decide +kernel
theorem dL_law__583 : decode cL_law_ 583 = .ok (.ifCond .eq 5, 3) := by decide +kernel
theorem dL_law__586 : decode cL_law_ 586 = .ok (.iconst 0, 1) := by decide +kernel
theorem dL_law__587 : decode cL_law_ 587 = .ok (.ireturn, 1) := by decide +kernel
theorem dL_law__588 : decode cL_law_ 588 = .ok (.goto 1644, 3) := by decide +kernel
theorem dL_law__591 : decode cL_law_ 591 = .ok (.aload_n 1, 1) := by decide +kernel
theorem dL_law__592 : decode cL_law_ 592 = .ok (.aload_n 0, 1) := by decide +kernel
theorem dL_law__593 : decode cL_law_ 593 = .ok (.iload 4, 2) := by decide +kernel
theorem dL_law__595 : decode cL_law_ 595 = .ok (.iconst 1, 1) := by decide +kernel
theorem dL_law__596 : decode cL_law_ 596 = .ok (.iadd, 1) := by decide +kernel
theorem dL_law__597 : decode cL_law_ 597 = .ok (.iaload, 1) := by decide +kernel
theorem dL_law__598 : decode cL_law_ 598 = .ok (.aload_n 0, 1) := by decide +kernel
theorem dL_law__599 : decode cL_law_ 599 = .ok (.iload 4, 2) := by decide +kernel
theorem dL_law__601 : decode cL_law_ 601 = .ok (.iconst 2, 1) := by decide +kernel
theorem dL_law__602 : decode cL_law_ 602 = .ok (.iadd, 1) := by decide +kernel
theorem dL_law__603 : decode cL_law_ 603 = .ok (.iaload, 1) := by decide +kernel
theorem dL_law__604 : decode cL_law_ 604 = .ok (.aload_n 3, 1) := by decide +kernel
theorem dL_law__605 : decode cL_law_ 605 = .ok (.invokestatic 135, 3) := by decide +kernel
theorem dL_law__608 : decode cL_law_ 608 = .ok (.istore 5, 2) := by decide +kernel
theorem dL_law__610 : decode cL_law_ 610 = .ok (.aload_n 2, 1) := by decide +kernel
theorem dL_law__611 : decode cL_law_ 611 = .ok (.aload_n 0, 1) := by decide +kernel
theorem dL_law__612 : decode cL_law_ 612 = .ok (.iload 4, 2) := by decide +kernel
theorem dL_law__614 : decode cL_law_ 614 = .ok (.iconst 1, 1) := by decide +kernel
theorem dL_law__615 : decode cL_law_ 615 = .ok (.iadd, 1) := by decide +kernel
theorem dL_law__616 : decode cL_law_ 616 = .ok (.iaload, 1) := by decide +kernel
theorem dL_law__617 : decode cL_law_ 617 = .ok (.aload_n 0, 1) := by decide +kernel
theorem dL_law__618 : decode cL_law_ 618 = .ok (.iload 4, 2) := by decide +kernel
theorem dL_law__620 : decode cL_law_ 620 = .ok (.iconst 2, 1) := by decide +kernel
theorem dL_law__621 : decode cL_law_ 621 = .ok (.iadd, 1) := by decide +kernel
theorem dL_law__622 : decode cL_law_ 622 = .ok (.iaload, 1) := by decide +kernel
theorem dL_law__623 : decode cL_law_ 623 = .ok (.invokevirtual 138, 3) := by decide +kernel
theorem dL_law__626 : decode cL_law_ 626 = .ok (.istore 6, 2) := by decide +kernel
theorem dL_law__628 : decode cL_law_ 628 = .ok (.aload_n 2, 1) := by decide +kernel
theorem dL_law__629 : decode cL_law_ 629 = .ok (.invokevirtual 111, 3) := by decide +kernel
theorem dL_law__632 : decode cL_law_ 632 = .ok (.iload 5, 2) := by decide +kernel
theorem dL_law__634 : decode cL_law_ 634 = .ok (.if_icmp .eq 5, 3) := by decide +kernel
theorem dL_law__637 : decode cL_law_ 637 = .ok (.iconst 0, 1) := by decide +kernel
theorem dL_law__638 : decode cL_law_ 638 = .ok (.ireturn, 1) := by decide +kernel
theorem dL_law__639 : decode cL_law_ 639 = .ok (.iload 5, 2) := by decide +kernel
theorem dL_law__641 : decode cL_law_ 641 = .ok (.ifCond .ne 15, 3) := by decide +kernel
theorem dL_law__644 : decode cL_law_ 644 = .ok (.aload_n 3, 1) := by decide +kernel
theorem dL_law__645 : decode cL_law_ 645 = .ok (.iconst 0, 1) := by decide +kernel
theorem dL_law__646 : decode cL_law_ 646 = .ok (.laload, 1) := by decide +kernel
theorem dL_law__647 : decode cL_law_ 647 = .ok (.iload 6, 2) := by decide +kernel
theorem dL_law__649 : decode cL_law_ 649 = .ok (.i2l, 1) := by decide +kernel
theorem dL_law__650 : decode cL_law_ 650 = .ok (.lcmp, 1) := by decide +kernel
theorem dL_law__651 : decode cL_law_ 651 = .ok (.ifCond .eq 5, 3) := by decide +kernel
theorem dL_law__654 : decode cL_law_ 654 = .ok (.iconst 0, 1) := by decide +kernel
theorem dL_law__655 : decode cL_law_ 655 = .ok (.ireturn, 1) := by decide +kernel
theorem dL_law__656 : decode cL_law_ 656 = .ok (.goto 1576, 3) := by decide +kernel
theorem dL_law__659 : decode cL_law_ 659 = .ok (.aload_n 1, 1) := by decide +kernel
theorem dL_law__660 : decode cL_law_ 660 = .ok (.aload_n 0, 1) := by decide +kernel
theorem dL_law__661 : decode cL_law_ 661 = .ok (.iload 4, 2) := by decide +kernel
theorem dL_law__663 : decode cL_law_ 663 = .ok (.iconst 1, 1) := by decide +kernel
theorem dL_law__664 : decode cL_law_ 664 = .ok (.iadd, 1) := by decide +kernel
theorem dL_law__665 : decode cL_law_ 665 = .ok (.iaload, 1) := by decide +kernel
theorem dL_law__666 : decode cL_law_ 666 = .ok (.aload_n 0, 1) := by decide +kernel
theorem dL_law__667 : decode cL_law_ 667 = .ok (.iload 4, 2) := by decide +kernel
theorem dL_law__669 : decode cL_law_ 669 = .ok (.iconst 2, 1) := by decide +kernel
theorem dL_law__670 : decode cL_law_ 670 = .ok (.iadd, 1) := by decide +kernel
theorem dL_law__671 : decode cL_law_ 671 = .ok (.iaload, 1) := by decide +kernel
theorem dL_law__672 : decode cL_law_ 672 = .ok (.aload_n 0, 1) := by decide +kernel
theorem dL_law__673 : decode cL_law_ 673 = .ok (.iload 4, 2) := by decide +kernel
theorem dL_law__675 : decode cL_law_ 675 = .ok (.iconst 3, 1) := by decide +kernel
theorem dL_law__676 : decode cL_law_ 676 = .ok (.iadd, 1) := by decide +kernel
theorem dL_law__677 : decode cL_law_ 677 = .ok (.iaload, 1) := by decide +kernel
theorem dL_law__678 : decode cL_law_ 678 = .ok (.aload_n 3, 1) := by decide +kernel
theorem dL_law__679 : decode cL_law_ 679 = .ok (.invokestatic 139, 3) := by decide +kernel
theorem dL_law__682 : decode cL_law_ 682 = .ok (.istore 5, 2) := by decide +kernel
theorem dL_law__684 : decode cL_law_ 684 = .ok (.aload_n 2, 1) := by decide +kernel
theorem dL_law__685 : decode cL_law_ 685 = .ok (.aload_n 0, 1) := by decide +kernel
theorem dL_law__686 : decode cL_law_ 686 = .ok (.iload 4, 2) := by decide +kernel
theorem dL_law__688 : decode cL_law_ 688 = .ok (.iconst 1, 1) := by decide +kernel
theorem dL_law__689 : decode cL_law_ 689 = .ok (.iadd, 1) := by decide +kernel
theorem dL_law__690 : decode cL_law_ 690 = .ok (.iaload, 1) := by decide +kernel
theorem dL_law__691 : decode cL_law_ 691 = .ok (.aload_n 0, 1) := by decide +kernel
theorem dL_law__692 : decode cL_law_ 692 = .ok (.iload 4, 2) := by decide +kernel
theorem dL_law__694 : decode cL_law_ 694 = .ok (.iconst 2, 1) := by decide +kernel
theorem dL_law__695 : decode cL_law_ 695 = .ok (.iadd, 1) := by decide +kernel
theorem dL_law__696 : decode cL_law_ 696 = .ok (.iaload, 1) := by decide +kernel
theorem dL_law__697 : decode cL_law_ 697 = .ok (.aload_n 0, 1) := by decide +kernel
theorem dL_law__698 : decode cL_law_ 698 = .ok (.iload 4, 2) := by decide +kernel
theorem dL_law__700 : decode cL_law_ 700 = .ok (.iconst 3, 1) := by decide +kernel
theorem dL_law__701 : decode cL_law_ 701 = .ok (.iadd, 1) := by decide +kernel
theorem dL_law__702 : decode cL_law_ 702 = .ok (.iaload, 1) := by decide +kernel
theorem dL_law__703 : decode cL_law_ 703 = .ok (.invokevirtual 142, 3) := by decide +kernel
theorem dL_law__706 : decode cL_law_ 706 = .ok (.istore 6, 2) := by decide +kernel
theorem dL_law__708 : decode cL_law_ 708 = .ok (.aload_n 2, 1) := by decide +kernel
theorem dL_law__709 : decode cL_law_ 709 = .ok (.invokevirtual 111, 3) := by decide +kernel
theorem dL_law__712 : decode cL_law_ 712 = .ok (.iload 5, 2) := by decide +kernel
theorem dL_law__714 : decode cL_law_ 714 = .ok (.if_icmp .eq 5, 3) := by decide +kernel
theorem dL_law__717 : decode cL_law_ 717 = .ok (.iconst 0, 1) := by decide +kernel
theorem dL_law__718 : decode cL_law_ 718 = .ok (.ireturn, 1) := by decide +kernel
theorem dL_law__719 : decode cL_law_ 719 = .ok (.iload 5, 2) := by decide +kernel
theorem dL_law__721 : decode cL_law_ 721 = .ok (.ifCond .ne 15, 3) := by decide +kernel
theorem dL_law__724 : decode cL_law_ 724 = .ok (.aload_n 3, 1) := by decide +kernel
theorem dL_law__725 : decode cL_law_ 725 = .ok (.iconst 0, 1) := by decide +kernel
theorem dL_law__726 : decode cL_law_ 726 = .ok (.laload, 1) := by decide +kernel
theorem dL_law__727 : decode cL_law_ 727 = .ok (.iload 6, 2) := by decide +kernel
theorem dL_law__729 : decode cL_law_ 729 = .ok (.i2l, 1) := by decide +kernel
theorem dL_law__730 : decode cL_law_ 730 = .ok (.lcmp, 1) := by decide +kernel
theorem dL_law__731 : decode cL_law_ 731 = .ok (.ifCond .eq 5, 3) := by decide +kernel
theorem dL_law__734 : decode cL_law_ 734 = .ok (.iconst 0, 1) := by decide +kernel
theorem dL_law__735 : decode cL_law_ 735 = .ok (.ireturn, 1) := by decide +kernel
theorem dL_law__736 : decode cL_law_ 736 = .ok (.goto 1496, 3) := by decide +kernel
theorem dL_law__739 : decode cL_law_ 739 = .ok (.aload_n 1, 1) := by decide +kernel
theorem dL_law__740 : decode cL_law_ 740 = .ok (.aload_n 0, 1) := by decide +kernel
theorem dL_law__741 : decode cL_law_ 741 = .ok (.iload 4, 2) := by decide +kernel
theorem dL_law__743 : decode cL_law_ 743 = .ok (.iconst 1, 1) := by decide +kernel
theorem dL_law__744 : decode cL_law_ 744 = .ok (.iadd, 1) := by decide +kernel
theorem dL_law__745 : decode cL_law_ 745 = .ok (.iaload, 1) := by decide +kernel
theorem dL_law__746 : decode cL_law_ 746 = .ok (.aload_n 3, 1) := by decide +kernel
theorem dL_law__747 : decode cL_law_ 747 = .ok (.invokestatic 143, 3) := by decide +kernel
theorem dL_law__750 : decode cL_law_ 750 = .ok (.istore 5, 2) := by decide +kernel
theorem dL_law__752 : decode cL_law_ 752 = .ok (.aload_n 2, 1) := by decide +kernel
theorem dL_law__753 : decode cL_law_ 753 = .ok (.aload_n 0, 1) := by decide +kernel
theorem dL_law__754 : decode cL_law_ 754 = .ok (.iload 4, 2) := by decide +kernel
theorem dL_law__756 : decode cL_law_ 756 = .ok (.iconst 1, 1) := by decide +kernel
theorem dL_law__757 : decode cL_law_ 757 = .ok (.iadd, 1) := by decide +kernel
theorem dL_law__758 : decode cL_law_ 758 = .ok (.iaload, 1) := by decide +kernel
theorem dL_law__759 : decode cL_law_ 759 = .ok (.invokevirtual 145, 3) := by decide +kernel
theorem dL_law__762 : decode cL_law_ 762 = .ok (.istore 6, 2) := by decide +kernel
theorem dL_law__764 : decode cL_law_ 764 = .ok (.aload_n 2, 1) := by decide +kernel
theorem dL_law__765 : decode cL_law_ 765 = .ok (.invokevirtual 111, 3) := by decide +kernel
theorem dL_law__768 : decode cL_law_ 768 = .ok (.iload 5, 2) := by decide +kernel
theorem dL_law__770 : decode cL_law_ 770 = .ok (.if_icmp .eq 5, 3) := by decide +kernel
theorem dL_law__773 : decode cL_law_ 773 = .ok (.iconst 0, 1) := by decide +kernel
theorem dL_law__774 : decode cL_law_ 774 = .ok (.ireturn, 1) := by decide +kernel
theorem dL_law__775 : decode cL_law_ 775 = .ok (.iload 5, 2) := by decide +kernel
theorem dL_law__777 : decode cL_law_ 777 = .ok (.ifCond .ne 15, 3) := by decide +kernel
theorem dL_law__780 : decode cL_law_ 780 = .ok (.aload_n 3, 1) := by decide +kernel
theorem dL_law__781 : decode cL_law_ 781 = .ok (.iconst 0, 1) := by decide +kernel
theorem dL_law__782 : decode cL_law_ 782 = .ok (.laload, 1) := by decide +kernel
theorem dL_law__783 : decode cL_law_ 783 = .ok (.iload 6, 2) := by decide +kernel
theorem dL_law__785 : decode cL_law_ 785 = .ok (.i2l, 1) := by decide +kernel
theorem dL_law__786 : decode cL_law_ 786 = .ok (.lcmp, 1) := by decide +kernel
theorem dL_law__787 : decode cL_law_ 787 = .ok (.ifCond .eq 5, 3) := by decide +kernel
theorem dL_law__790 : decode cL_law_ 790 = .ok (.iconst 0, 1) := by decide +kernel
theorem dL_law__791 : decode cL_law_ 791 = .ok (.ireturn, 1) := by decide +kernel
theorem dL_law__792 : decode cL_law_ 792 = .ok (.goto 1440, 3) := by decide +kernel
theorem dL_law__795 : decode cL_law_ 795 = .ok (.aload_n 1, 1) := by decide +kernel
theorem dL_law__796 : decode cL_law_ 796 = .ok (.aload_n 0, 1) := by decide +kernel
theorem dL_law__797 : decode cL_law_ 797 = .ok (.iload 4, 2) := by decide +kernel
theorem dL_law__799 : decode cL_law_ 799 = .ok (.iconst 1, 1) := by decide +kernel
theorem dL_law__800 : decode cL_law_ 800 = .ok (.iadd, 1) := by decide +kernel
theorem dL_law__801 : decode cL_law_ 801 = .ok (.iaload, 1) := by decide +kernel
theorem dL_law__802 : decode cL_law_ 802 = .ok (.aload_n 3, 1) := by decide +kernel
theorem dL_law__803 : decode cL_law_ 803 = .ok (.invokestatic 146, 3) := by decide +kernel
theorem dL_law__806 : decode cL_law_ 806 = .ok (.istore 5, 2) := by decide +kernel
theorem dL_law__808 : decode cL_law_ 808 = .ok (.aload_n 2, 1) := by decide +kernel
theorem dL_law__809 : decode cL_law_ 809 = .ok (.aload_n 0, 1) := by decide +kernel
theorem dL_law__810 : decode cL_law_ 810 = .ok (.iload 4, 2) := by decide +kernel
theorem dL_law__812 : decode cL_law_ 812 = .ok (.iconst 1, 1) := by decide +kernel
theorem dL_law__813 : decode cL_law_ 813 = .ok (.iadd, 1) := by decide +kernel
theorem dL_law__814 : decode cL_law_ 814 = .ok (.iaload, 1) := by decide +kernel
theorem dL_law__815 : decode cL_law_ 815 = .ok (.invokevirtual 148, 3) := by decide +kernel
theorem dL_law__818 : decode cL_law_ 818 = .ok (.istore 6, 2) := by decide +kernel
theorem dL_law__820 : decode cL_law_ 820 = .ok (.aload_n 2, 1) := by decide +kernel
theorem dL_law__821 : decode cL_law_ 821 = .ok (.invokevirtual 111, 3) := by decide +kernel
theorem dL_law__824 : decode cL_law_ 824 = .ok (.iload 5, 2) := by decide +kernel
theorem dL_law__826 : decode cL_law_ 826 = .ok (.if_icmp .eq 5, 3) := by decide +kernel
theorem dL_law__829 : decode cL_law_ 829 = .ok (.iconst 0, 1) := by decide +kernel
theorem dL_law__830 : decode cL_law_ 830 = .ok (.ireturn, 1) := by decide +kernel
theorem dL_law__831 : decode cL_law_ 831 = .ok (.iload 5, 2) := by decide +kernel
theorem dL_law__833 : decode cL_law_ 833 = .ok (.ifCond .ne 15, 3) := by decide +kernel
theorem dL_law__836 : decode cL_law_ 836 = .ok (.aload_n 3, 1) := by decide +kernel
theorem dL_law__837 : decode cL_law_ 837 = .ok (.iconst 0, 1) := by decide +kernel
theorem dL_law__838 : decode cL_law_ 838 = .ok (.laload, 1) := by decide +kernel
theorem dL_law__839 : decode cL_law_ 839 = .ok (.iload 6, 2) := by decide +kernel
theorem dL_law__841 : decode cL_law_ 841 = .ok (.i2l, 1) := by decide +kernel
theorem dL_law__842 : decode cL_law_ 842 = .ok (.lcmp, 1) := by decide +kernel
theorem dL_law__843 : decode cL_law_ 843 = .ok (.ifCond .eq 5, 3) := by decide +kernel
theorem dL_law__846 : decode cL_law_ 846 = .ok (.iconst 0, 1) := by decide +kernel
theorem dL_law__847 : decode cL_law_ 847 = .ok (.ireturn, 1) := by decide +kernel
theorem dL_law__848 : decode cL_law_ 848 = .ok (.goto 1384, 3) := by decide +kernel
theorem dL_law__851 : decode cL_law_ 851 = .ok (.aload_n 1, 1) := by decide +kernel
theorem dL_law__852 : decode cL_law_ 852 = .ok (.aload_n 0, 1) := by decide +kernel
theorem dL_law__853 : decode cL_law_ 853 = .ok (.iload 4, 2) := by decide +kernel
theorem dL_law__855 : decode cL_law_ 855 = .ok (.iconst 1, 1) := by decide +kernel
theorem dL_law__856 : decode cL_law_ 856 = .ok (.iadd, 1) := by decide +kernel
theorem dL_law__857 : decode cL_law_ 857 = .ok (.iaload, 1) := by decide +kernel
theorem dL_law__858 : decode cL_law_ 858 = .ok (.aload_n 0, 1) := by decide +kernel
theorem dL_law__859 : decode cL_law_ 859 = .ok (.iload 4, 2) := by decide +kernel
theorem dL_law__861 : decode cL_law_ 861 = .ok (.iconst 2, 1) := by decide +kernel
theorem dL_law__862 : decode cL_law_ 862 = .ok (.iadd, 1) := by decide +kernel
theorem dL_law__863 : decode cL_law_ 863 = .ok (.iaload, 1) := by decide +kernel
theorem dL_law__864 : decode cL_law_ 864 = .ok (.aload_n 0, 1) := by decide +kernel
theorem dL_law__865 : decode cL_law_ 865 = .ok (.iload 4, 2) := by decide +kernel
theorem dL_law__867 : decode cL_law_ 867 = .ok (.iconst 3, 1) := by decide +kernel
theorem dL_law__868 : decode cL_law_ 868 = .ok (.iadd, 1) := by decide +kernel
theorem dL_law__869 : decode cL_law_ 869 = .ok (.iaload, 1) := by decide +kernel
theorem dL_law__870 : decode cL_law_ 870 = .ok (.aload_n 3, 1) := by decide +kernel
theorem dL_law__871 : decode cL_law_ 871 = .ok (.invokestatic 149, 3) := by decide +kernel
theorem dL_law__874 : decode cL_law_ 874 = .ok (.istore 5, 2) := by decide +kernel
theorem dL_law__876 : decode cL_law_ 876 = .ok (.aload_n 2, 1) := by decide +kernel
theorem dL_law__877 : decode cL_law_ 877 = .ok (.aload_n 0, 1) := by decide +kernel
theorem dL_law__878 : decode cL_law_ 878 = .ok (.iload 4, 2) := by decide +kernel
theorem dL_law__880 : decode cL_law_ 880 = .ok (.iconst 1, 1) := by decide +kernel
theorem dL_law__881 : decode cL_law_ 881 = .ok (.iadd, 1) := by decide +kernel
theorem dL_law__882 : decode cL_law_ 882 = .ok (.iaload, 1) := by decide +kernel
theorem dL_law__883 : decode cL_law_ 883 = .ok (.aload_n 0, 1) := by decide +kernel
theorem dL_law__884 : decode cL_law_ 884 = .ok (.iload 4, 2) := by decide +kernel
theorem dL_law__886 : decode cL_law_ 886 = .ok (.iconst 2, 1) := by decide +kernel
theorem dL_law__887 : decode cL_law_ 887 = .ok (.iadd, 1) := by decide +kernel
theorem dL_law__888 : decode cL_law_ 888 = .ok (.iaload, 1) := by decide +kernel
theorem dL_law__889 : decode cL_law_ 889 = .ok (.aload_n 0, 1) := by decide +kernel
theorem dL_law__890 : decode cL_law_ 890 = .ok (.iload 4, 2) := by decide +kernel
theorem dL_law__892 : decode cL_law_ 892 = .ok (.iconst 3, 1) := by decide +kernel
theorem dL_law__893 : decode cL_law_ 893 = .ok (.iadd, 1) := by decide +kernel
theorem dL_law__894 : decode cL_law_ 894 = .ok (.iaload, 1) := by decide +kernel
theorem dL_law__895 : decode cL_law_ 895 = .ok (.invokevirtual 151, 3) := by decide +kernel
theorem dL_law__898 : decode cL_law_ 898 = .ok (.istore 6, 2) := by decide +kernel
theorem dL_law__900 : decode cL_law_ 900 = .ok (.aload_n 2, 1) := by decide +kernel
theorem dL_law__901 : decode cL_law_ 901 = .ok (.invokevirtual 111, 3) := by decide +kernel
theorem dL_law__904 : decode cL_law_ 904 = .ok (.iload 5, 2) := by decide +kernel
theorem dL_law__906 : decode cL_law_ 906 = .ok (.if_icmp .eq 5, 3) := by decide +kernel
theorem dL_law__909 : decode cL_law_ 909 = .ok (.iconst 0, 1) := by decide +kernel
theorem dL_law__910 : decode cL_law_ 910 = .ok (.ireturn, 1) := by decide +kernel
theorem dL_law__911 : decode cL_law_ 911 = .ok (.iload 5, 2) := by decide +kernel
theorem dL_law__913 : decode cL_law_ 913 = .ok (.ifCond .ne 15, 3) := by decide +kernel
theorem dL_law__916 : decode cL_law_ 916 = .ok (.aload_n 3, 1) := by decide +kernel
theorem dL_law__917 : decode cL_law_ 917 = .ok (.iconst 0, 1) := by decide +kernel
theorem dL_law__918 : decode cL_law_ 918 = .ok (.laload, 1) := by decide +kernel
theorem dL_law__919 : decode cL_law_ 919 = .ok (.iload 6, 2) := by decide +kernel
theorem dL_law__921 : decode cL_law_ 921 = .ok (.i2l, 1) := by decide +kernel
theorem dL_law__922 : decode cL_law_ 922 = .ok (.lcmp, 1) := by decide +kernel
theorem dL_law__923 : decode cL_law_ 923 = .ok (.ifCond .eq 5, 3) := by decide +kernel
theorem dL_law__926 : decode cL_law_ 926 = .ok (.iconst 0, 1) := by decide +kernel
theorem dL_law__927 : decode cL_law_ 927 = .ok (.ireturn, 1) := by decide +kernel
theorem dL_law__928 : decode cL_law_ 928 = .ok (.goto 1304, 3) := by decide +kernel
theorem dL_law__931 : decode cL_law_ 931 = .ok (.aload_n 1, 1) := by decide +kernel
theorem dL_law__932 : decode cL_law_ 932 = .ok (.aload_n 0, 1) := by decide +kernel
theorem dL_law__933 : decode cL_law_ 933 = .ok (.iload 4, 2) := by decide +kernel
theorem dL_law__935 : decode cL_law_ 935 = .ok (.iconst 1, 1) := by decide +kernel
theorem dL_law__936 : decode cL_law_ 936 = .ok (.iadd, 1) := by decide +kernel
theorem dL_law__937 : decode cL_law_ 937 = .ok (.iaload, 1) := by decide +kernel
theorem dL_law__938 : decode cL_law_ 938 = .ok (.aload_n 0, 1) := by decide +kernel
theorem dL_law__939 : decode cL_law_ 939 = .ok (.iload 4, 2) := by decide +kernel
theorem dL_law__941 : decode cL_law_ 941 = .ok (.iconst 2, 1) := by decide +kernel
theorem dL_law__942 : decode cL_law_ 942 = .ok (.iadd, 1) := by decide +kernel
theorem dL_law__943 : decode cL_law_ 943 = .ok (.iaload, 1) := by decide +kernel
theorem dL_law__944 : decode cL_law_ 944 = .ok (.aload_n 0, 1) := by decide +kernel
theorem dL_law__945 : decode cL_law_ 945 = .ok (.iload 4, 2) := by decide +kernel
theorem dL_law__947 : decode cL_law_ 947 = .ok (.iconst 3, 1) := by decide +kernel
theorem dL_law__948 : decode cL_law_ 948 = .ok (.iadd, 1) := by decide +kernel
theorem dL_law__949 : decode cL_law_ 949 = .ok (.iaload, 1) := by decide +kernel
theorem dL_law__950 : decode cL_law_ 950 = .ok (.aload_n 0, 1) := by decide +kernel
theorem dL_law__951 : decode cL_law_ 951 = .ok (.iload 4, 2) := by decide +kernel
theorem dL_law__953 : decode cL_law_ 953 = .ok (.iconst 4, 1) := by decide +kernel
theorem dL_law__954 : decode cL_law_ 954 = .ok (.iadd, 1) := by decide +kernel
theorem dL_law__955 : decode cL_law_ 955 = .ok (.iaload, 1) := by decide +kernel
theorem dL_law__956 : decode cL_law_ 956 = .ok (.aload_n 0, 1) := by decide +kernel
theorem dL_law__957 : decode cL_law_ 957 = .ok (.iload 4, 2) := by decide +kernel
theorem dL_law__959 : decode cL_law_ 959 = .ok (.iconst 5, 1) := by decide +kernel
theorem dL_law__960 : decode cL_law_ 960 = .ok (.iadd, 1) := by decide +kernel
theorem dL_law__961 : decode cL_law_ 961 = .ok (.iaload, 1) := by decide +kernel
theorem dL_law__962 : decode cL_law_ 962 = .ok (.aload_n 0, 1) := by decide +kernel
theorem dL_law__963 : decode cL_law_ 963 = .ok (.iload 4, 2) := by decide +kernel
theorem dL_law__965 : decode cL_law_ 965 = .ok (.bipush 6, 2) := by decide +kernel
theorem dL_law__967 : decode cL_law_ 967 = .ok (.iadd, 1) := by decide +kernel
theorem dL_law__968 : decode cL_law_ 968 = .ok (.iaload, 1) := by decide +kernel
theorem dL_law__969 : decode cL_law_ 969 = .ok (.aload_n 0, 1) := by decide +kernel
theorem dL_law__970 : decode cL_law_ 970 = .ok (.iload 4, 2) := by decide +kernel
theorem dL_law__972 : decode cL_law_ 972 = .ok (.bipush 7, 2) := by decide +kernel
theorem dL_law__974 : decode cL_law_ 974 = .ok (.iadd, 1) := by decide +kernel
theorem dL_law__975 : decode cL_law_ 975 = .ok (.iaload, 1) := by decide +kernel
theorem dL_law__976 : decode cL_law_ 976 = .ok (.aload_n 3, 1) := by decide +kernel
theorem dL_law__977 : decode cL_law_ 977 = .ok (.invokestatic 152, 3) := by decide +kernel
theorem dL_law__980 : decode cL_law_ 980 = .ok (.istore 5, 2) := by decide +kernel
theorem dL_law__982 : decode cL_law_ 982 = .ok (.aload_n 2, 1) := by decide +kernel
theorem dL_law__983 : decode cL_law_ 983 = .ok (.aload_n 0, 1) := by decide +kernel
theorem dL_law__984 : decode cL_law_ 984 = .ok (.iload 4, 2) := by decide +kernel
theorem dL_law__986 : decode cL_law_ 986 = .ok (.iconst 1, 1) := by decide +kernel
theorem dL_law__987 : decode cL_law_ 987 = .ok (.iadd, 1) := by decide +kernel
theorem dL_law__988 : decode cL_law_ 988 = .ok (.iaload, 1) := by decide +kernel
theorem dL_law__989 : decode cL_law_ 989 = .ok (.aload_n 0, 1) := by decide +kernel
theorem dL_law__990 : decode cL_law_ 990 = .ok (.iload 4, 2) := by decide +kernel
theorem dL_law__992 : decode cL_law_ 992 = .ok (.iconst 2, 1) := by decide +kernel
theorem dL_law__993 : decode cL_law_ 993 = .ok (.iadd, 1) := by decide +kernel
theorem dL_law__994 : decode cL_law_ 994 = .ok (.iaload, 1) := by decide +kernel
theorem dL_law__995 : decode cL_law_ 995 = .ok (.aload_n 0, 1) := by decide +kernel
theorem dL_law__996 : decode cL_law_ 996 = .ok (.iload 4, 2) := by decide +kernel
theorem dL_law__998 : decode cL_law_ 998 = .ok (.iconst 3, 1) := by decide +kernel
theorem dL_law__999 : decode cL_law_ 999 = .ok (.iadd, 1) := by decide +kernel
theorem dL_law__1000 : decode cL_law_ 1000 = .ok (.iaload, 1) := by decide +kernel
theorem dL_law__1001 : decode cL_law_ 1001 = .ok (.aload_n 0, 1) := by decide +kernel
theorem dL_law__1002 : decode cL_law_ 1002 = .ok (.iload 4, 2) := by decide +kernel
theorem dL_law__1004 : decode cL_law_ 1004 = .ok (.iconst 4, 1) := by decide +kernel
theorem dL_law__1005 : decode cL_law_ 1005 = .ok (.iadd, 1) := by decide +kernel
theorem dL_law__1006 : decode cL_law_ 1006 = .ok (.iaload, 1) := by decide +kernel
theorem dL_law__1007 : decode cL_law_ 1007 = .ok (.aload_n 0, 1) := by decide +kernel
theorem dL_law__1008 : decode cL_law_ 1008 = .ok (.iload 4, 2) := by decide +kernel
theorem dL_law__1010 : decode cL_law_ 1010 = .ok (.iconst 5, 1) := by decide +kernel
theorem dL_law__1011 : decode cL_law_ 1011 = .ok (.iadd, 1) := by decide +kernel
theorem dL_law__1012 : decode cL_law_ 1012 = .ok (.iaload, 1) := by decide +kernel
theorem dL_law__1013 : decode cL_law_ 1013 = .ok (.aload_n 0, 1) := by decide +kernel
theorem dL_law__1014 : decode cL_law_ 1014 = .ok (.iload 4, 2) := by decide +kernel
theorem dL_law__1016 : decode cL_law_ 1016 = .ok (.bipush 6, 2) := by decide +kernel
theorem dL_law__1018 : decode cL_law_ 1018 = .ok (.iadd, 1) := by decide +kernel
theorem dL_law__1019 : decode cL_law_ 1019 = .ok (.iaload, 1) := by decide +kernel
theorem dL_law__1020 : decode cL_law_ 1020 = .ok (.aload_n 0, 1) := by decide +kernel
theorem dL_law__1021 : decode cL_law_ 1021 = .ok (.iload 4, 2) := by decide +kernel
theorem dL_law__1023 : decode cL_law_ 1023 = .ok (.bipush 7, 2) := by decide +kernel
theorem dL_law__1025 : decode cL_law_ 1025 = .ok (.iadd, 1) := by decide +kernel
theorem dL_law__1026 : decode cL_law_ 1026 = .ok (.iaload, 1) := by decide +kernel
theorem dL_law__1027 : decode cL_law_ 1027 = .ok (.invokevirtual 155, 3) := by decide +kernel
theorem dL_law__1030 : decode cL_law_ 1030 = .ok (.istore 6, 2) := by decide +kernel
theorem dL_law__1032 : decode cL_law_ 1032 = .ok (.aload_n 2, 1) := by decide +kernel
theorem dL_law__1033 : decode cL_law_ 1033 = .ok (.invokevirtual 111, 3) := by decide +kernel
theorem dL_law__1036 : decode cL_law_ 1036 = .ok (.iload 5, 2) := by decide +kernel
theorem dL_law__1038 : decode cL_law_ 1038 = .ok (.if_icmp .eq 5, 3) := by decide +kernel
theorem dL_law__1041 : decode cL_law_ 1041 = .ok (.iconst 0, 1) := by decide +kernel
theorem dL_law__1042 : decode cL_law_ 1042 = .ok (.ireturn, 1) := by decide +kernel
theorem dL_law__1043 : decode cL_law_ 1043 = .ok (.iload 5, 2) := by decide +kernel
theorem dL_law__1045 : decode cL_law_ 1045 = .ok (.ifCond .ne 15, 3) := by decide +kernel
theorem dL_law__1048 : decode cL_law_ 1048 = .ok (.aload_n 3, 1) := by decide +kernel
theorem dL_law__1049 : decode cL_law_ 1049 = .ok (.iconst 0, 1) := by decide +kernel
theorem dL_law__1050 : decode cL_law_ 1050 = .ok (.laload, 1) := by decide +kernel
theorem dL_law__1051 : decode cL_law_ 1051 = .ok (.iload 6, 2) := by decide +kernel
theorem dL_law__1053 : decode cL_law_ 1053 = .ok (.i2l, 1) := by decide +kernel
theorem dL_law__1054 : decode cL_law_ 1054 = .ok (.lcmp, 1) := by decide +kernel
theorem dL_law__1055 : decode cL_law_ 1055 = .ok (.ifCond .eq 5, 3) := by decide +kernel
theorem dL_law__1058 : decode cL_law_ 1058 = .ok (.iconst 0, 1) := by decide +kernel
theorem dL_law__1059 : decode cL_law_ 1059 = .ok (.ireturn, 1) := by decide +kernel
theorem dL_law__1060 : decode cL_law_ 1060 = .ok (.goto 1172, 3) := by decide +kernel
theorem dL_law__1063 : decode cL_law_ 1063 = .ok (.aload_n 1, 1) := by decide +kernel
theorem dL_law__1064 : decode cL_law_ 1064 = .ok (.aload_n 0, 1) := by decide +kernel
theorem dL_law__1065 : decode cL_law_ 1065 = .ok (.iload 4, 2) := by decide +kernel
theorem dL_law__1067 : decode cL_law_ 1067 = .ok (.iconst 1, 1) := by decide +kernel
theorem dL_law__1068 : decode cL_law_ 1068 = .ok (.iadd, 1) := by decide +kernel
theorem dL_law__1069 : decode cL_law_ 1069 = .ok (.iaload, 1) := by decide +kernel
theorem dL_law__1070 : decode cL_law_ 1070 = .ok (.aload_n 0, 1) := by decide +kernel
theorem dL_law__1071 : decode cL_law_ 1071 = .ok (.iload 4, 2) := by decide +kernel
theorem dL_law__1073 : decode cL_law_ 1073 = .ok (.iconst 2, 1) := by decide +kernel
theorem dL_law__1074 : decode cL_law_ 1074 = .ok (.iadd, 1) := by decide +kernel
theorem dL_law__1075 : decode cL_law_ 1075 = .ok (.iaload, 1) := by decide +kernel
theorem dL_law__1076 : decode cL_law_ 1076 = .ok (.aload_n 3, 1) := by decide +kernel
theorem dL_law__1077 : decode cL_law_ 1077 = .ok (.invokestatic 156, 3) := by decide +kernel
theorem dL_law__1080 : decode cL_law_ 1080 = .ok (.istore 5, 2) := by decide +kernel
theorem dL_law__1082 : decode cL_law_ 1082 = .ok (.aload_n 2, 1) := by decide +kernel
theorem dL_law__1083 : decode cL_law_ 1083 = .ok (.aload_n 0, 1) := by decide +kernel
theorem dL_law__1084 : decode cL_law_ 1084 = .ok (.iload 4, 2) := by decide +kernel
theorem dL_law__1086 : decode cL_law_ 1086 = .ok (.iconst 1, 1) := by decide +kernel
theorem dL_law__1087 : decode cL_law_ 1087 = .ok (.iadd, 1) := by decide +kernel
theorem dL_law__1088 : decode cL_law_ 1088 = .ok (.iaload, 1) := by decide +kernel
theorem dL_law__1089 : decode cL_law_ 1089 = .ok (.aload_n 0, 1) := by decide +kernel
theorem dL_law__1090 : decode cL_law_ 1090 = .ok (.iload 4, 2) := by decide +kernel
theorem dL_law__1092 : decode cL_law_ 1092 = .ok (.iconst 2, 1) := by decide +kernel
theorem dL_law__1093 : decode cL_law_ 1093 = .ok (.iadd, 1) := by decide +kernel
theorem dL_law__1094 : decode cL_law_ 1094 = .ok (.iaload, 1) := by decide +kernel
theorem dL_law__1095 : decode cL_law_ 1095 = .ok (.invokevirtual 158, 3) := by decide +kernel
theorem dL_law__1098 : decode cL_law_ 1098 = .ok (.istore 6, 2) := by decide +kernel
theorem dL_law__1100 : decode cL_law_ 1100 = .ok (.aload_n 2, 1) := by decide +kernel
theorem dL_law__1101 : decode cL_law_ 1101 = .ok (.invokevirtual 111, 3) := by decide +kernel
theorem dL_law__1104 : decode cL_law_ 1104 = .ok (.iload 5, 2) := by decide +kernel
theorem dL_law__1106 : decode cL_law_ 1106 = .ok (.if_icmp .eq 5, 3) := by decide +kernel
theorem dL_law__1109 : decode cL_law_ 1109 = .ok (.iconst 0, 1) := by decide +kernel
theorem dL_law__1110 : decode cL_law_ 1110 = .ok (.ireturn, 1) := by decide +kernel
theorem dL_law__1111 : decode cL_law_ 1111 = .ok (.iload 5, 2) := by decide +kernel
theorem dL_law__1113 : decode cL_law_ 1113 = .ok (.ifCond .ne 15, 3) := by decide +kernel
theorem dL_law__1116 : decode cL_law_ 1116 = .ok (.aload_n 3, 1) := by decide +kernel
theorem dL_law__1117 : decode cL_law_ 1117 = .ok (.iconst 0, 1) := by decide +kernel
theorem dL_law__1118 : decode cL_law_ 1118 = .ok (.laload, 1) := by decide +kernel
theorem dL_law__1119 : decode cL_law_ 1119 = .ok (.iload 6, 2) := by decide +kernel
theorem dL_law__1121 : decode cL_law_ 1121 = .ok (.i2l, 1) := by decide +kernel
theorem dL_law__1122 : decode cL_law_ 1122 = .ok (.lcmp, 1) := by decide +kernel
theorem dL_law__1123 : decode cL_law_ 1123 = .ok (.ifCond .eq 5, 3) := by decide +kernel
theorem dL_law__1126 : decode cL_law_ 1126 = .ok (.iconst 0, 1) := by decide +kernel
theorem dL_law__1127 : decode cL_law_ 1127 = .ok (.ireturn, 1) := by decide +kernel
theorem dL_law__1128 : decode cL_law_ 1128 = .ok (.goto 1104, 3) := by decide +kernel
theorem dL_law__1131 : decode cL_law_ 1131 = .ok (.aload_n 1, 1) := by decide +kernel
theorem dL_law__1132 : decode cL_law_ 1132 = .ok (.invokevirtual 159, 3) := by decide +kernel
theorem dL_law__1135 : decode cL_law_ 1135 = .ok (.aload_n 2, 1) := by decide +kernel
theorem dL_law__1136 : decode cL_law_ 1136 = .ok (.invokevirtual 162, 3) := by decide +kernel
theorem dL_law__1139 : decode cL_law_ 1139 = .ok (.if_icmp .eq 1093, 3) := by decide +kernel
theorem dL_law__1142 : decode cL_law_ 1142 = .ok (.iconst 0, 1) := by decide +kernel
theorem dL_law__1143 : decode cL_law_ 1143 = .ok (.ireturn, 1) := by decide +kernel
theorem dL_law__1144 : decode cL_law_ 1144 = .ok (.aload_n 1, 1) := by decide +kernel
theorem dL_law__1145 : decode cL_law_ 1145 = .ok (.invokevirtual 163, 3) := by decide +kernel
theorem dL_law__1148 : decode cL_law_ 1148 = .ok (.aload_n 2, 1) := by decide +kernel
theorem dL_law__1149 : decode cL_law_ 1149 = .ok (.invokevirtual 167, 3) := by decide +kernel
theorem dL_law__1152 : decode cL_law_ 1152 = .ok (.if_icmp .eq 1080, 3) := by decide +kernel
theorem dL_law__1155 : decode cL_law_ 1155 = .ok (.iconst 0, 1) := by decide +kernel
theorem dL_law__1156 : decode cL_law_ 1156 = .ok (.ireturn, 1) := by decide +kernel
theorem dL_law__1157 : decode cL_law_ 1157 = .ok (.aload_n 1, 1) := by decide +kernel
theorem dL_law__1158 : decode cL_law_ 1158 = .ok (.invokevirtual 168, 3) := by decide +kernel
theorem dL_law__1161 : decode cL_law_ 1161 = .ok (.aload_n 2, 1) := by decide +kernel
theorem dL_law__1162 : decode cL_law_ 1162 = .ok (.invokevirtual 172, 3) := by decide +kernel
theorem dL_law__1165 : decode cL_law_ 1165 = .ok (.lcmp, 1) := by decide +kernel
theorem dL_law__1166 : decode cL_law_ 1166 = .ok (.ifCond .eq 1066, 3) := by decide +kernel
theorem dL_law__1169 : decode cL_law_ 1169 = .ok (.iconst 0, 1) := by decide +kernel
theorem dL_law__1170 : decode cL_law_ 1170 = .ok (.ireturn, 1) := by decide +kernel
theorem dL_law__1171 : decode cL_law_ 1171 = .ok (.aload_n 1, 1) := by decide +kernel
theorem dL_law__1172 : decode cL_law_ 1172 = .ok (.invokevirtual 173, 3) := by decide +kernel
theorem dL_law__1175 : decode cL_law_ 1175 = .ok (.aload_n 2, 1) := by decide +kernel
theorem dL_law__1176 : decode cL_law_ 1176 = .ok (.invokevirtual 176, 3) := by decide +kernel
theorem dL_law__1179 : decode cL_law_ 1179 = .ok (.if_icmp .eq 1053, 3) := by decide +kernel
theorem dL_law__1182 : decode cL_law_ 1182 = .ok (.iconst 0, 1) := by decide +kernel
theorem dL_law__1183 : decode cL_law_ 1183 = .ok (.ireturn, 1) := by decide +kernel
theorem dL_law__1184 : decode cL_law_ 1184 = .ok (.aload_n 1, 1) := by decide +kernel
theorem dL_law__1185 : decode cL_law_ 1185 = .ok (.invokevirtual 177, 3) := by decide +kernel
theorem dL_law__1188 : decode cL_law_ 1188 = .ok (.aload_n 2, 1) := by decide +kernel
theorem dL_law__1189 : decode cL_law_ 1189 = .ok (.invokevirtual 180, 3) := by decide +kernel
theorem dL_law__1192 : decode cL_law_ 1192 = .ok (.lcmp, 1) := by decide +kernel
theorem dL_law__1193 : decode cL_law_ 1193 = .ok (.ifCond .eq 1039, 3) := by decide +kernel
theorem dL_law__1196 : decode cL_law_ 1196 = .ok (.iconst 0, 1) := by decide +kernel
theorem dL_law__1197 : decode cL_law_ 1197 = .ok (.ireturn, 1) := by decide +kernel
theorem dL_law__1198 : decode cL_law_ 1198 = .ok (.aload_n 1, 1) := by decide +kernel
theorem dL_law__1199 : decode cL_law_ 1199 = .ok (.aload_n 0, 1) := by decide +kernel
theorem dL_law__1200 : decode cL_law_ 1200 = .ok (.iload 4, 2) := by decide +kernel
theorem dL_law__1202 : decode cL_law_ 1202 = .ok (.iconst 1, 1) := by decide +kernel
theorem dL_law__1203 : decode cL_law_ 1203 = .ok (.iadd, 1) := by decide +kernel
theorem dL_law__1204 : decode cL_law_ 1204 = .ok (.iaload, 1) := by decide +kernel
theorem dL_law__1205 : decode cL_law_ 1205 = .ok (.aload_n 3, 1) := by decide +kernel
theorem dL_law__1206 : decode cL_law_ 1206 = .ok (.invokestatic 181, 3) := by decide +kernel
theorem dL_law__1209 : decode cL_law_ 1209 = .ok (.istore 5, 2) := by decide +kernel
theorem dL_law__1211 : decode cL_law_ 1211 = .ok (.aload_n 2, 1) := by decide +kernel
theorem dL_law__1212 : decode cL_law_ 1212 = .ok (.aload_n 0, 1) := by decide +kernel
theorem dL_law__1213 : decode cL_law_ 1213 = .ok (.iload 4, 2) := by decide +kernel
theorem dL_law__1215 : decode cL_law_ 1215 = .ok (.iconst 1, 1) := by decide +kernel
theorem dL_law__1216 : decode cL_law_ 1216 = .ok (.iadd, 1) := by decide +kernel
theorem dL_law__1217 : decode cL_law_ 1217 = .ok (.iaload, 1) := by decide +kernel
theorem dL_law__1218 : decode cL_law_ 1218 = .ok (.invokevirtual 183, 3) := by decide +kernel
theorem dL_law__1221 : decode cL_law_ 1221 = .ok (.lstore 6, 2) := by decide +kernel
theorem dL_law__1223 : decode cL_law_ 1223 = .ok (.aload_n 2, 1) := by decide +kernel
theorem dL_law__1224 : decode cL_law_ 1224 = .ok (.invokevirtual 111, 3) := by decide +kernel
theorem dL_law__1227 : decode cL_law_ 1227 = .ok (.iload 5, 2) := by decide +kernel
theorem dL_law__1229 : decode cL_law_ 1229 = .ok (.if_icmp .eq 5, 3) := by decide +kernel
theorem dL_law__1232 : decode cL_law_ 1232 = .ok (.iconst 0, 1) := by decide +kernel
theorem dL_law__1233 : decode cL_law_ 1233 = .ok (.ireturn, 1) := by decide +kernel
theorem dL_law__1234 : decode cL_law_ 1234 = .ok (.iload 5, 2) := by decide +kernel
theorem dL_law__1236 : decode cL_law_ 1236 = .ok (.ifCond .ne 14, 3) := by decide +kernel
theorem dL_law__1239 : decode cL_law_ 1239 = .ok (.aload_n 3, 1) := by decide +kernel
theorem dL_law__1240 : decode cL_law_ 1240 = .ok (.iconst 0, 1) := by decide +kernel
theorem dL_law__1241 : decode cL_law_ 1241 = .ok (.laload, 1) := by decide +kernel
theorem dL_law__1242 : decode cL_law_ 1242 = .ok (.lload 6, 2) := by decide +kernel
theorem dL_law__1244 : decode cL_law_ 1244 = .ok (.lcmp, 1) := by decide +kernel
theorem dL_law__1245 : decode cL_law_ 1245 = .ok (.ifCond .eq 5, 3) := by decide +kernel
theorem dL_law__1248 : decode cL_law_ 1248 = .ok (.iconst 0, 1) := by decide +kernel
theorem dL_law__1249 : decode cL_law_ 1249 = .ok (.ireturn, 1) := by decide +kernel
theorem dL_law__1250 : decode cL_law_ 1250 = .ok (.goto 982, 3) := by decide +kernel
theorem dL_law__1253 : decode cL_law_ 1253 = .ok (.aload_n 1, 1) := by decide +kernel
theorem dL_law__1254 : decode cL_law_ 1254 = .ok (.aload_n 0, 1) := by decide +kernel
theorem dL_law__1255 : decode cL_law_ 1255 = .ok (.iload 4, 2) := by decide +kernel
theorem dL_law__1257 : decode cL_law_ 1257 = .ok (.iconst 1, 1) := by decide +kernel
theorem dL_law__1258 : decode cL_law_ 1258 = .ok (.iadd, 1) := by decide +kernel
