theorem dX4_seekFewest_0 : decode cX4_seekFewest 0 = .ok (.iconst 0, 1) := by decide +kernel
theorem dX4_seekFewest_1 : decode cX4_seekFewest 1 = .ok (.istore_n 3, 1) := by decide +kernel
theorem dX4_seekFewest_2 : decode cX4_seekFewest 2 = .ok (.iload_n 3, 1) := by decide +kernel
theorem dX4_seekFewest_3 : decode cX4_seekFewest 3 = .ok (.bipush 26, 2) := by decide +kernel
theorem dX4_seekFewest_5 : decode cX4_seekFewest 5 = .ok (.if_icmp .ge 25, 3) := by decide +kernel
theorem dX4_seekFewest_8 : decode cX4_seekFewest 8 = .ok (.aload_n 0, 1) := by decide +kernel
theorem dX4_seekFewest_9 : decode cX4_seekFewest 9 = .ok (.getfield 18, 3) := by decide +kernel
theorem dX4_seekFewest_12 : decode cX4_seekFewest 12 = .ok (.iload_n 3, 1) := by decide +kernel
theorem dX4_seekFewest_13 : decode cX4_seekFewest 13 = .ok (.sipush 1000, 3) := by decide +kernel
theorem dX4_seekFewest_16 : decode cX4_seekFewest 16 = .ok (.iastore, 1) := by decide +kernel
theorem dX4_seekFewest_17 : decode cX4_seekFewest 17 = .ok (.aload_n 0, 1) := by decide +kernel
theorem dX4_seekFewest_18 : decode cX4_seekFewest 18 = .ok (.getfield 22, 3) := by decide +kernel
theorem dX4_seekFewest_21 : decode cX4_seekFewest 21 = .ok (.iload_n 3, 1) := by decide +kernel
theorem dX4_seekFewest_22 : decode cX4_seekFewest 22 = .ok (.lconst 0, 1) := by decide +kernel
theorem dX4_seekFewest_23 : decode cX4_seekFewest 23 = .ok (.lastore, 1) := by decide +kernel
theorem dX4_seekFewest_24 : decode cX4_seekFewest 24 = .ok (.iinc 3 1, 3) := by decide +kernel
theorem dX4_seekFewest_27 : decode cX4_seekFewest 27 = .ok (.goto (-25), 3) := by decide +kernel
theorem dX4_seekFewest_30 : decode cX4_seekFewest 30 = .ok (.aload_n 0, 1) := by decide +kernel
theorem dX4_seekFewest_31 : decode cX4_seekFewest 31 = .ok (.getfield 18, 3) := by decide +kernel
theorem dX4_seekFewest_34 : decode cX4_seekFewest 34 = .ok (.iconst 0, 1) := by decide +kernel
theorem dX4_seekFewest_35 : decode cX4_seekFewest 35 = .ok (.iconst 0, 1) := by decide +kernel
theorem dX4_seekFewest_36 : decode cX4_seekFewest 36 = .ok (.iastore, 1) := by decide +kernel
theorem dX4_seekFewest_37 : decode cX4_seekFewest 37 = .ok (.aload_n 0, 1) := by decide +kernel
theorem dX4_seekFewest_38 : decode cX4_seekFewest 38 = .ok (.getfield 22, 3) := by decide +kernel
theorem dX4_seekFewest_41 : decode cX4_seekFewest 41 = .ok (.iconst 0, 1) := by decide +kernel
theorem dX4_seekFewest_42 : decode cX4_seekFewest 42 = .ok (.lconst 1, 1) := by decide +kernel
theorem dX4_seekFewest_43 : decode cX4_seekFewest 43 = .ok (.lastore, 1) := by decide +kernel
theorem dX4_seekFewest_44 : decode cX4_seekFewest 44 = .ok (.iconst 0, 1) := by decide +kernel
theorem dX4_seekFewest_45 : decode cX4_seekFewest 45 = .ok (.istore_n 3, 1) := by decide +kernel
theorem dX4_seekFewest_46 : decode cX4_seekFewest 46 = .ok (.iload_n 3, 1) := by decide +kernel
theorem dX4_seekFewest_47 : decode cX4_seekFewest 47 = .ok (.aload_n 0, 1) := by decide +kernel
theorem dX4_seekFewest_48 : decode cX4_seekFewest 48 = .ok (.getfield 28, 3) := by decide +kernel
theorem dX4_seekFewest_51 : decode cX4_seekFewest 51 = .ok (.getfield 35, 3) := by decide +kernel
theorem dX4_seekFewest_54 : decode cX4_seekFewest 54 = .ok (.if_icmp .ge 62, 3) := by decide +kernel
theorem dX4_seekFewest_57 : decode cX4_seekFewest 57 = .ok (.iconst 0, 1) := by decide +kernel
theorem dX4_seekFewest_58 : decode cX4_seekFewest 58 = .ok (.istore 4, 2) := by decide +kernel
theorem dX4_seekFewest_60 : decode cX4_seekFewest 60 = .ok (.iload 4, 2) := by decide +kernel
theorem dX4_seekFewest_62 : decode cX4_seekFewest 62 = .ok (.aload_n 0, 1) := by decide +kernel
theorem dX4_seekFewest_63 : decode cX4_seekFewest 63 = .ok (.getfield 28, 3) := by decide +kernel
theorem dX4_seekFewest_66 : decode cX4_seekFewest 66 = .ok (.getfield 41, 3) := by decide +kernel
theorem dX4_seekFewest_69 : decode cX4_seekFewest 69 = .ok (.iload_n 3, 1) := by decide +kernel
theorem dX4_seekFewest_70 : decode cX4_seekFewest 70 = .ok (.iaload, 1) := by decide +kernel
theorem dX4_seekFewest_71 : decode cX4_seekFewest 71 = .ok (.if_icmp .ge 31, 3) := by decide +kernel
theorem dX4_seekFewest_74 : decode cX4_seekFewest 74 = .ok (.aload_n 0, 1) := by decide +kernel
theorem dX4_seekFewest_75 : decode cX4_seekFewest 75 = .ok (.aload_n 2, 1) := by decide +kernel
theorem dX4_seekFewest_76 : decode cX4_seekFewest 76 = .ok (.aload_n 0, 1) := by decide +kernel
theorem dX4_seekFewest_77 : decode cX4_seekFewest 77 = .ok (.getfield 28, 3) := by decide +kernel
theorem dX4_seekFewest_80 : decode cX4_seekFewest 80 = .ok (.iload_n 3, 1) := by decide +kernel
theorem dX4_seekFewest_81 : decode cX4_seekFewest 81 = .ok (.iload 4, 2) := by decide +kernel
theorem dX4_seekFewest_83 : decode cX4_seekFewest 83 = .ok (.invokevirtual 52, 3) := by decide +kernel
theorem dX4_seekFewest_86 : decode cX4_seekFewest 86 = .ok (.aload_n 1, 1) := by decide +kernel
theorem dX4_seekFewest_87 : decode cX4_seekFewest 87 = .ok (.iload_n 3, 1) := by decide +kernel
theorem dX4_seekFewest_88 : decode cX4_seekFewest 88 = .ok (.iload 4, 2) := by decide +kernel
theorem dX4_seekFewest_90 : decode cX4_seekFewest 90 = .ok (.invokevirtual 60, 3) := by decide +kernel
theorem dX4_seekFewest_93 : decode cX4_seekFewest 93 = .ok (.invokevirtual 66, 3) := by decide +kernel
theorem dX4_seekFewest_96 : decode cX4_seekFewest 96 = .ok (.iinc 4 1, 3) := by decide +kernel
theorem dX4_seekFewest_99 : decode cX4_seekFewest 99 = .ok (.goto (-39), 3) := by decide +kernel
theorem dX4_seekFewest_102 : decode cX4_seekFewest 102 = .ok (.aload_n 0, 1) := by decide +kernel
theorem dX4_seekFewest_103 : decode cX4_seekFewest 103 = .ok (.aload_n 2, 1) := by decide +kernel
theorem dX4_seekFewest_104 : decode cX4_seekFewest 104 = .ok (.getfield 44, 3) := by decide +kernel
theorem dX4_seekFewest_107 : decode cX4_seekFewest 107 = .ok (.invokevirtual 70, 3) := by decide +kernel
theorem dX4_seekFewest_110 : decode cX4_seekFewest 110 = .ok (.iinc 3 1, 3) := by decide +kernel
theorem dX4_seekFewest_113 : decode cX4_seekFewest 113 = .ok (.goto (-67), 3) := by decide +kernel
theorem dX4_seekFewest_116 : decode cX4_seekFewest 116 = .ok (.return_, 1) := by decide +kernel
theorem dX4_foundFewest_0 : decode cX4_foundFewest 0 = .ok (.aload_n 0, 1) := by decide +kernel
theorem dX4_foundFewest_1 : decode cX4_foundFewest 1 = .ok (.getfield 18, 3) := by decide +kernel
theorem dX4_foundFewest_4 : decode cX4_foundFewest 4 = .ok (.iconst 2, 1) := by decide +kernel
theorem dX4_foundFewest_5 : decode cX4_foundFewest 5 = .ok (.iload_n 1, 1) := by decide +kernel
theorem dX4_foundFewest_6 : decode cX4_foundFewest 6 = .ok (.imul, 1) := by decide +kernel
theorem dX4_foundFewest_7 : decode cX4_foundFewest 7 = .ok (.iaload, 1) := by decide +kernel
theorem dX4_foundFewest_8 : decode cX4_foundFewest 8 = .ok (.sipush 1000, 3) := by decide +kernel
theorem dX4_foundFewest_11 : decode cX4_foundFewest 11 = .ok (.if_icmp .ge 14, 3) := by decide +kernel
theorem dX4_foundFewest_14 : decode cX4_foundFewest 14 = .ok (.aload_n 0, 1) := by decide +kernel
theorem dX4_foundFewest_15 : decode cX4_foundFewest 15 = .ok (.getfield 18, 3) := by decide +kernel
theorem dX4_foundFewest_18 : decode cX4_foundFewest 18 = .ok (.iconst 2, 1) := by decide +kernel
theorem dX4_foundFewest_19 : decode cX4_foundFewest 19 = .ok (.iload_n 1, 1) := by decide +kernel
theorem dX4_foundFewest_20 : decode cX4_foundFewest 20 = .ok (.imul, 1) := by decide +kernel
theorem dX4_foundFewest_21 : decode cX4_foundFewest 21 = .ok (.iaload, 1) := by decide +kernel
theorem dX4_foundFewest_22 : decode cX4_foundFewest 22 = .ok (.goto 4, 3) := by decide +kernel
theorem dX4_foundFewest_25 : decode cX4_foundFewest 25 = .ok (.iconst (-1), 1) := by decide +kernel
theorem dX4_foundFewest_26 : decode cX4_foundFewest 26 = .ok (.ireturn, 1) := by decide +kernel
theorem dX4_foundMany_0 : decode cX4_foundMany 0 = .ok (.aload_n 0, 1) := by decide +kernel
theorem dX4_foundMany_1 : decode cX4_foundMany 1 = .ok (.getfield 18, 3) := by decide +kernel
theorem dX4_foundMany_4 : decode cX4_foundMany 4 = .ok (.iconst 2, 1) := by decide +kernel
theorem dX4_foundMany_5 : decode cX4_foundMany 5 = .ok (.iload_n 1, 1) := by decide +kernel
theorem dX4_foundMany_6 : decode cX4_foundMany 6 = .ok (.imul, 1) := by decide +kernel
theorem dX4_foundMany_7 : decode cX4_foundMany 7 = .ok (.iaload, 1) := by decide +kernel
theorem dX4_foundMany_8 : decode cX4_foundMany 8 = .ok (.sipush 1000, 3) := by decide +kernel
theorem dX4_foundMany_11 : decode cX4_foundMany 11 = .ok (.if_icmp .ge 14, 3) := by decide +kernel
theorem dX4_foundMany_14 : decode cX4_foundMany 14 = .ok (.aload_n 0, 1) := by decide +kernel
theorem dX4_foundMany_15 : decode cX4_foundMany 15 = .ok (.getfield 22, 3) := by decide +kernel
theorem dX4_foundMany_18 : decode cX4_foundMany 18 = .ok (.iconst 2, 1) := by decide +kernel
theorem dX4_foundMany_19 : decode cX4_foundMany 19 = .ok (.iload_n 1, 1) := by decide +kernel
theorem dX4_foundMany_20 : decode cX4_foundMany 20 = .ok (.imul, 1) := by decide +kernel
theorem dX4_foundMany_21 : decode cX4_foundMany 21 = .ok (.laload, 1) := by decide +kernel
theorem dX4_foundMany_22 : decode cX4_foundMany 22 = .ok (.goto 4, 3) := by decide +kernel
theorem dX4_foundMany_25 : decode cX4_foundMany 25 = .ok (.lconst 0, 1) := by decide +kernel
theorem dX4_foundMany_26 : decode cX4_foundMany 26 = .ok (.lreturn, 1) := by decide +kernel
theorem dX4_passInBoth_0 : decode cX4_passInBoth 0 = .ok (.iconst 0, 1) := by decide +kernel
theorem dX4_passInBoth_1 : decode cX4_passInBoth 1 = .ok (.istore 4, 2) := by decide +kernel
theorem dX4_passInBoth_3 : decode cX4_passInBoth 3 = .ok (.iconst 0, 1) := by decide +kernel
theorem dX4_passInBoth_4 : decode cX4_passInBoth 4 = .ok (.istore 5, 2) := by decide +kernel
theorem dX4_passInBoth_6 : decode cX4_passInBoth 6 = .ok (.iload 5, 2) := by decide +kernel
theorem dX4_passInBoth_8 : decode cX4_passInBoth 8 = .ok (.bipush 8, 2) := by decide +kernel
theorem dX4_passInBoth_10 : decode cX4_passInBoth 10 = .ok (.if_icmp .ge 84, 3) := by decide +kernel
theorem dX4_passInBoth_13 : decode cX4_passInBoth 13 = .ok (.aload_n 0, 1) := by decide +kernel
theorem dX4_passInBoth_14 : decode cX4_passInBoth 14 = .ok (.getfield 25, 3) := by decide +kernel
theorem dX4_passInBoth_17 : decode cX4_passInBoth 17 = .ok (.iload 5, 2) := by decide +kernel
theorem dX4_passInBoth_19 : decode cX4_passInBoth 19 = .ok (.iconst 1, 1) := by decide +kernel
theorem dX4_passInBoth_20 : decode cX4_passInBoth 20 = .ok (.iadd, 1) := by decide +kernel
theorem dX4_passInBoth_21 : decode cX4_passInBoth 21 = .ok (.iaload, 1) := by decide +kernel
theorem dX4_passInBoth_22 : decode cX4_passInBoth 22 = .ok (.istore 6, 2) := by decide +kernel
theorem dX4_passInBoth_24 : decode cX4_passInBoth 24 = .ok (.aload_n 1, 1) := by decide +kernel
theorem dX4_passInBoth_25 : decode cX4_passInBoth 25 = .ok (.iload_n 3, 1) := by decide +kernel
theorem dX4_passInBoth_26 : decode cX4_passInBoth 26 = .ok (.iload 5, 2) := by decide +kernel
theorem dX4_passInBoth_28 : decode cX4_passInBoth 28 = .ok (.invokevirtual 60, 3) := by decide +kernel
theorem dX4_passInBoth_31 : decode cX4_passInBoth 31 = .ok (.ifCond .eq 24, 3) := by decide +kernel
theorem dX4_passInBoth_34 : decode cX4_passInBoth 34 = .ok (.aload_n 0, 1) := by decide +kernel
theorem dX4_passInBoth_35 : decode cX4_passInBoth 35 = .ok (.getfield 28, 3) := by decide +kernel
theorem dX4_passInBoth_38 : decode cX4_passInBoth 38 = .ok (.iload_n 3, 1) := by decide +kernel
theorem dX4_passInBoth_39 : decode cX4_passInBoth 39 = .ok (.iload 5, 2) := by decide +kernel
theorem dX4_passInBoth_41 : decode cX4_passInBoth 41 = .ok (.invokevirtual 52, 3) := by decide +kernel
theorem dX4_passInBoth_44 : decode cX4_passInBoth 44 = .ok (.iload_n 2, 1) := by decide +kernel
theorem dX4_passInBoth_45 : decode cX4_passInBoth 45 = .ok (.if_icmp .ne 10, 3) := by decide +kernel
theorem dX4_passInBoth_48 : decode cX4_passInBoth 48 = .ok (.iload 4, 2) := by decide +kernel
theorem dX4_passInBoth_50 : decode cX4_passInBoth 50 = .ok (.iconst 1, 1) := by decide +kernel
theorem dX4_passInBoth_51 : decode cX4_passInBoth 51 = .ok (.iadd, 1) := by decide +kernel
theorem dX4_passInBoth_52 : decode cX4_passInBoth 52 = .ok (.goto 4, 3) := by decide +kernel
theorem dX4_passInBoth_55 : decode cX4_passInBoth 55 = .ok (.iconst 0, 1) := by decide +kernel
theorem dX4_passInBoth_56 : decode cX4_passInBoth 56 = .ok (.istore 7, 2) := by decide +kernel
theorem dX4_passInBoth_58 : decode cX4_passInBoth 58 = .ok (.aload_n 0, 1) := by decide +kernel
theorem dX4_passInBoth_59 : decode cX4_passInBoth 59 = .ok (.getfield 25, 3) := by decide +kernel
theorem dX4_passInBoth_62 : decode cX4_passInBoth 62 = .ok (.iload 5, 2) := by decide +kernel
theorem dX4_passInBoth_64 : decode cX4_passInBoth 64 = .ok (.iconst 1, 1) := by decide +kernel
theorem dX4_passInBoth_65 : decode cX4_passInBoth 65 = .ok (.iadd, 1) := by decide +kernel
theorem dX4_passInBoth_66 : decode cX4_passInBoth 66 = .ok (.iload 7, 2) := by decide +kernel
theorem dX4_passInBoth_68 : decode cX4_passInBoth 68 = .ok (.iload 6, 2) := by decide +kernel
theorem dX4_passInBoth_70 : decode cX4_passInBoth 70 = .ok (.aload_n 0, 1) := by decide +kernel
theorem dX4_passInBoth_71 : decode cX4_passInBoth 71 = .ok (.getfield 25, 3) := by decide +kernel
theorem dX4_passInBoth_74 : decode cX4_passInBoth 74 = .ok (.iload 5, 2) := by decide +kernel
theorem dX4_passInBoth_76 : decode cX4_passInBoth 76 = .ok (.iaload, 1) := by decide +kernel
theorem dX4_passInBoth_77 : decode cX4_passInBoth 77 = .ok (.invokestatic 81, 3) := by decide +kernel
theorem dX4_passInBoth_80 : decode cX4_passInBoth 80 = .ok (.invokestatic 81, 3) := by decide +kernel
theorem dX4_passInBoth_83 : decode cX4_passInBoth 83 = .ok (.iastore, 1) := by decide +kernel
theorem dX4_passInBoth_84 : decode cX4_passInBoth 84 = .ok (.iload 6, 2) := by decide +kernel
theorem dX4_passInBoth_86 : decode cX4_passInBoth 86 = .ok (.istore 4, 2) := by decide +kernel
theorem dX4_passInBoth_88 : decode cX4_passInBoth 88 = .ok (.iinc 5 1, 3) := by decide +kernel
theorem dX4_passInBoth_91 : decode cX4_passInBoth 91 = .ok (.goto (-85), 3) := by decide +kernel
theorem dX4_passInBoth_94 : decode cX4_passInBoth 94 = .ok (.return_, 1) := by decide +kernel
theorem dX4_longestInBoth_0 : decode cX4_longestInBoth 0 = .ok (.iconst 0, 1) := by decide +kernel
theorem dX4_longestInBoth_1 : decode cX4_longestInBoth 1 = .ok (.istore 4, 2) := by decide +kernel
theorem dX4_longestInBoth_3 : decode cX4_longestInBoth 3 = .ok (.iload 4, 2) := by decide +kernel
theorem dX4_longestInBoth_5 : decode cX4_longestInBoth 5 = .ok (.bipush 8, 2) := by decide +kernel
theorem dX4_longestInBoth_7 : decode cX4_longestInBoth 7 = .ok (.if_icmp .gt 17, 3) := by decide +kernel
theorem dX4_longestInBoth_10 : decode cX4_longestInBoth 10 = .ok (.aload_n 0, 1) := by decide +kernel
theorem dX4_longestInBoth_11 : decode cX4_longestInBoth 11 = .ok (.getfield 25, 3) := by decide +kernel
theorem dX4_longestInBoth_14 : decode cX4_longestInBoth 14 = .ok (.iload 4, 2) := by decide +kernel
theorem dX4_longestInBoth_16 : decode cX4_longestInBoth 16 = .ok (.iconst 0, 1) := by decide +kernel
theorem dX4_longestInBoth_17 : decode cX4_longestInBoth 17 = .ok (.iastore, 1) := by decide +kernel
theorem dX4_longestInBoth_18 : decode cX4_longestInBoth 18 = .ok (.iinc 4 1, 3) := by decide +kernel
theorem dX4_longestInBoth_21 : decode cX4_longestInBoth 21 = .ok (.goto (-18), 3) := by decide +kernel
theorem dX4_longestInBoth_24 : decode cX4_longestInBoth 24 = .ok (.iconst 0, 1) := by decide +kernel
theorem dX4_longestInBoth_25 : decode cX4_longestInBoth 25 = .ok (.istore 4, 2) := by decide +kernel
theorem dX4_longestInBoth_27 : decode cX4_longestInBoth 27 = .ok (.iload 4, 2) := by decide +kernel
theorem dX4_longestInBoth_29 : decode cX4_longestInBoth 29 = .ok (.bipush 8, 2) := by decide +kernel
theorem dX4_longestInBoth_31 : decode cX4_longestInBoth 31 = .ok (.if_icmp .ge 35, 3) := by decide +kernel
theorem dX4_longestInBoth_34 : decode cX4_longestInBoth 34 = .ok (.aload_n 1, 1) := by decide +kernel
theorem dX4_longestInBoth_35 : decode cX4_longestInBoth 35 = .ok (.iload_n 2, 1) := by decide +kernel
theorem dX4_longestInBoth_36 : decode cX4_longestInBoth 36 = .ok (.iload 4, 2) := by decide +kernel
theorem dX4_longestInBoth_38 : decode cX4_longestInBoth 38 = .ok (.invokevirtual 60, 3) := by decide +kernel
theorem dX4_longestInBoth_41 : decode cX4_longestInBoth 41 = .ok (.ifCond .eq 19, 3) := by decide +kernel
theorem dX4_longestInBoth_44 : decode cX4_longestInBoth 44 = .ok (.aload_n 0, 1) := by decide +kernel
theorem dX4_longestInBoth_45 : decode cX4_longestInBoth 45 = .ok (.aload_n 1, 1) := by decide +kernel
theorem dX4_longestInBoth_46 : decode cX4_longestInBoth 46 = .ok (.aload_n 0, 1) := by decide +kernel
theorem dX4_longestInBoth_47 : decode cX4_longestInBoth 47 = .ok (.getfield 28, 3) := by decide +kernel
theorem dX4_longestInBoth_50 : decode cX4_longestInBoth 50 = .ok (.iload_n 2, 1) := by decide +kernel
theorem dX4_longestInBoth_51 : decode cX4_longestInBoth 51 = .ok (.iload 4, 2) := by decide +kernel
theorem dX4_longestInBoth_53 : decode cX4_longestInBoth 53 = .ok (.invokevirtual 52, 3) := by decide +kernel
theorem dX4_longestInBoth_56 : decode cX4_longestInBoth 56 = .ok (.iload_n 3, 1) := by decide +kernel
theorem dX4_longestInBoth_57 : decode cX4_longestInBoth 57 = .ok (.invokevirtual 77, 3) := by decide +kernel
theorem dX4_longestInBoth_60 : decode cX4_longestInBoth 60 = .ok (.iinc 4 1, 3) := by decide +kernel
theorem dX4_longestInBoth_63 : decode cX4_longestInBoth 63 = .ok (.goto (-36), 3) := by decide +kernel
theorem dX4_longestInBoth_66 : decode cX4_longestInBoth 66 = .ok (.aload_n 0, 1) := by decide +kernel
theorem dX4_longestInBoth_67 : decode cX4_longestInBoth 67 = .ok (.getfield 25, 3) := by decide +kernel
theorem dX4_longestInBoth_70 : decode cX4_longestInBoth 70 = .ok (.bipush 8, 2) := by decide +kernel
theorem dX4_longestInBoth_72 : decode cX4_longestInBoth 72 = .ok (.iaload, 1) := by decide +kernel
theorem dX4_longestInBoth_73 : decode cX4_longestInBoth 73 = .ok (.ireturn, 1) := by decide +kernel
theorem dX4_valueOf_0 : decode cX4_valueOf 0 = .ok (.iconst 0, 1) := by decide +kernel
theorem dX4_valueOf_1 : decode cX4_valueOf 1 = .ok (.istore_n 1, 1) := by decide +kernel
theorem dX4_valueOf_2 : decode cX4_valueOf 2 = .ok (.iconst 0, 1) := by decide +kernel
theorem dX4_valueOf_3 : decode cX4_valueOf 3 = .ok (.istore_n 2, 1) := by decide +kernel
theorem dX4_valueOf_4 : decode cX4_valueOf 4 = .ok (.iconst 0, 1) := by decide +kernel
theorem dX4_valueOf_5 : decode cX4_valueOf 5 = .ok (.istore_n 3, 1) := by decide +kernel
theorem dX4_valueOf_6 : decode cX4_valueOf 6 = .ok (.iload_n 3, 1) := by decide +kernel
theorem dX4_valueOf_7 : decode cX4_valueOf 7 = .ok (.bipush 8, 2) := by decide +kernel
theorem dX4_valueOf_9 : decode cX4_valueOf 9 = .ok (.if_icmp .gt 40, 3) := by decide +kernel
theorem dX4_valueOf_12 : decode cX4_valueOf 12 = .ok (.iload_n 0, 1) := by decide +kernel
theorem dX4_valueOf_13 : decode cX4_valueOf 13 = .ok (.iload_n 3, 1) := by decide +kernel
theorem dX4_valueOf_14 : decode cX4_valueOf 14 = .ok (.ishr, 1) := by decide +kernel
theorem dX4_valueOf_15 : decode cX4_valueOf 15 = .ok (.iconst 1, 1) := by decide +kernel
theorem dX4_valueOf_16 : decode cX4_valueOf 16 = .ok (.iand, 1) := by decide +kernel
theorem dX4_valueOf_17 : decode cX4_valueOf 17 = .ok (.iconst 1, 1) := by decide +kernel
theorem dX4_valueOf_18 : decode cX4_valueOf 18 = .ok (.if_icmp .ne 15, 3) := by decide +kernel
theorem dX4_valueOf_21 : decode cX4_valueOf 21 = .ok (.iload_n 2, 1) := by decide +kernel
theorem dX4_valueOf_22 : decode cX4_valueOf 22 = .ok (.bipush 8, 2) := by decide +kernel
theorem dX4_valueOf_24 : decode cX4_valueOf 24 = .ok (.if_icmp .ge 9, 3) := by decide +kernel
theorem dX4_valueOf_27 : decode cX4_valueOf 27 = .ok (.iinc 2 1, 3) := by decide +kernel
theorem dX4_valueOf_30 : decode cX4_valueOf 30 = .ok (.goto 13, 3) := by decide +kernel
theorem dX4_valueOf_33 : decode cX4_valueOf 33 = .ok (.iload_n 1, 1) := by decide +kernel
theorem dX4_valueOf_34 : decode cX4_valueOf 34 = .ok (.getstatic 86, 3) := by decide +kernel
theorem dX4_valueOf_37 : decode cX4_valueOf 37 = .ok (.iload_n 2, 1) := by decide +kernel
theorem dX4_valueOf_38 : decode cX4_valueOf 38 = .ok (.iaload, 1) := by decide +kernel
theorem dX4_valueOf_39 : decode cX4_valueOf 39 = .ok (.ixor, 1) := by decide +kernel
theorem dX4_valueOf_40 : decode cX4_valueOf 40 = .ok (.istore_n 1, 1) := by decide +kernel
theorem dX4_valueOf_41 : decode cX4_valueOf 41 = .ok (.iconst 0, 1) := by decide +kernel
theorem dX4_valueOf_42 : decode cX4_valueOf 42 = .ok (.istore_n 2, 1) := by decide +kernel
theorem dX4_valueOf_43 : decode cX4_valueOf 43 = .ok (.iinc 3 1, 3) := by decide +kernel
theorem dX4_valueOf_46 : decode cX4_valueOf 46 = .ok (.goto (-40), 3) := by decide +kernel
theorem dX4_valueOf_49 : decode cX4_valueOf 49 = .ok (.iload_n 1, 1) := by decide +kernel
theorem dX4_valueOf_50 : decode cX4_valueOf 50 = .ok (.ireturn, 1) := by decide +kernel
theorem dX5_init_0 : decode cX5_init 0 = .ok (.aload_n 0, 1) := by decide +kernel
theorem dX5_init_1 : decode cX5_init 1 = .ok (.invokespecial 7, 3) := by decide +kernel
theorem dX5_init_4 : decode cX5_init 4 = .ok (.aload_n 0, 1) := by decide +kernel
theorem dX5_init_5 : decode cX5_init 5 = .ok (.sipush 938, 3) := by decide +kernel
theorem dX5_init_8 : decode cX5_init 8 = .ok (.newarray .int, 2) := by decide +kernel
theorem dX5_init_10 : decode cX5_init 10 = .ok (.putfield 13, 3) := by decide +kernel
theorem dX5_init_13 : decode cX5_init 13 = .ok (.aload_n 0, 1) := by decide +kernel
theorem dX5_init_14 : decode cX5_init 14 = .ok (.iconst 3, 1) := by decide +kernel
theorem dX5_init_15 : decode cX5_init 15 = .ok (.newarray .int, 2) := by decide +kernel
theorem dX5_init_17 : decode cX5_init 17 = .ok (.putfield 17, 3) := by decide +kernel
theorem dX5_init_20 : decode cX5_init 20 = .ok (.return_, 1) := by decide +kernel
theorem dX5_clear_0 : decode cX5_clear 0 = .ok (.aload_n 0, 1) := by decide +kernel
theorem dX5_clear_1 : decode cX5_clear 1 = .ok (.iconst 0, 1) := by decide +kernel
theorem dX5_clear_2 : decode cX5_clear 2 = .ok (.putfield 20, 3) := by decide +kernel
theorem dX5_clear_5 : decode cX5_clear 5 = .ok (.aload_n 0, 1) := by decide +kernel
theorem dX5_clear_6 : decode cX5_clear 6 = .ok (.iconst 0, 1) := by decide +kernel
theorem dX5_clear_7 : decode cX5_clear 7 = .ok (.putfield 24, 3) := by decide +kernel
theorem dX5_clear_10 : decode cX5_clear 10 = .ok (.return_, 1) := by decide +kernel
theorem dX5_placeOf_0 : decode cX5_placeOf 0 = .ok (.sipush 224, 3) := by decide +kernel
theorem dX5_placeOf_3 : decode cX5_placeOf 3 = .ok (.iload_n 0, 1) := by decide +kernel
theorem dX5_placeOf_4 : decode cX5_placeOf 4 = .ok (.sipush 238, 3) := by decide +kernel
theorem dX5_placeOf_7 : decode cX5_placeOf 7 = .ok (.imul, 1) := by decide +kernel
theorem dX5_placeOf_8 : decode cX5_placeOf 8 = .ok (.iadd, 1) := by decide +kernel
theorem dX5_placeOf_9 : decode cX5_placeOf 9 = .ok (.ireturn, 1) := by decide +kernel
theorem dX5_keepWork_0 : decode cX5_keepWork 0 = .ok (.aload_n 0, 1) := by decide +kernel
theorem dX5_keepWork_1 : decode cX5_keepWork 1 = .ok (.getfield 20, 3) := by decide +kernel
theorem dX5_keepWork_4 : decode cX5_keepWork 4 = .ok (.bipush 16, 2) := by decide +kernel
theorem dX5_keepWork_6 : decode cX5_keepWork 6 = .ok (.if_icmp .ge 28, 3) := by decide +kernel
theorem dX5_keepWork_9 : decode cX5_keepWork 9 = .ok (.aload_n 1, 1) := by decide +kernel
theorem dX5_keepWork_10 : decode cX5_keepWork 10 = .ok (.aload_n 0, 1) := by decide +kernel
theorem dX5_keepWork_11 : decode cX5_keepWork 11 = .ok (.getfield 13, 3) := by decide +kernel
theorem dX5_keepWork_14 : decode cX5_keepWork 14 = .ok (.aload_n 0, 1) := by decide +kernel
theorem dX5_keepWork_15 : decode cX5_keepWork 15 = .ok (.getfield 20, 3) := by decide +kernel
theorem dX5_keepWork_18 : decode cX5_keepWork 18 = .ok (.bipush 14, 2) := by decide +kernel
theorem dX5_keepWork_20 : decode cX5_keepWork 20 = .ok (.imul, 1) := by decide +kernel
theorem dX5_keepWork_21 : decode cX5_keepWork 21 = .ok (.invokevirtual 27, 3) := by decide +kernel
theorem dX5_keepWork_24 : decode cX5_keepWork 24 = .ok (.aload_n 0, 1) := by decide +kernel
theorem dX5_keepWork_25 : decode cX5_keepWork 25 = .ok (.dup, 1) := by decide +kernel
theorem dX5_keepWork_26 : decode cX5_keepWork 26 = .ok (.getfield 20, 3) := by decide +kernel
theorem dX5_keepWork_29 : decode cX5_keepWork 29 = .ok (.iconst 1, 1) := by decide +kernel
theorem dX5_keepWork_30 : decode cX5_keepWork 30 = .ok (.iadd, 1) := by decide +kernel
theorem dX5_keepWork_31 : decode cX5_keepWork 31 = .ok (.putfield 20, 3) := by decide +kernel
theorem dX5_keepWork_34 : decode cX5_keepWork 34 = .ok (.return_, 1) := by decide +kernel
theorem dX5_takeWorkBack_0 : decode cX5_takeWorkBack 0 = .ok (.aload_n 0, 1) := by decide +kernel
theorem dX5_takeWorkBack_1 : decode cX5_takeWorkBack 1 = .ok (.getfield 20, 3) := by decide +kernel
theorem dX5_takeWorkBack_4 : decode cX5_takeWorkBack 4 = .ok (.ifCond .ne 5, 3) := by decide +kernel
theorem dX5_takeWorkBack_7 : decode cX5_takeWorkBack 7 = .ok (.iconst 0, 1) := by decide +kernel
theorem dX5_takeWorkBack_8 : decode cX5_takeWorkBack 8 = .ok (.ireturn, 1) := by decide +kernel
theorem dX5_takeWorkBack_9 : decode cX5_takeWorkBack 9 = .ok (.aload_n 0, 1) := by decide +kernel
theorem dX5_takeWorkBack_10 : decode cX5_takeWorkBack 10 = .ok (.dup, 1) := by decide +kernel
theorem dX5_takeWorkBack_11 : decode cX5_takeWorkBack 11 = .ok (.getfield 20, 3) := by decide +kernel
theorem dX5_takeWorkBack_14 : decode cX5_takeWorkBack 14 = .ok (.iconst 1, 1) := by decide +kernel
theorem dX5_takeWorkBack_15 : decode cX5_takeWorkBack 15 = .ok (.isub, 1) := by decide +kernel
theorem dX5_takeWorkBack_16 : decode cX5_takeWorkBack 16 = .ok (.putfield 20, 3) := by decide +kernel
theorem dX5_takeWorkBack_19 : decode cX5_takeWorkBack 19 = .ok (.aload_n 1, 1) := by decide +kernel
theorem dX5_takeWorkBack_20 : decode cX5_takeWorkBack 20 = .ok (.aload_n 0, 1) := by decide +kernel
theorem dX5_takeWorkBack_21 : decode cX5_takeWorkBack 21 = .ok (.getfield 13, 3) := by decide +kernel
theorem dX5_takeWorkBack_24 : decode cX5_takeWorkBack 24 = .ok (.aload_n 0, 1) := by decide +kernel
theorem dX5_takeWorkBack_25 : decode cX5_takeWorkBack 25 = .ok (.getfield 20, 3) := by decide +kernel
theorem dX5_takeWorkBack_28 : decode cX5_takeWorkBack 28 = .ok (.bipush 14, 2) := by decide +kernel
theorem dX5_takeWorkBack_30 : decode cX5_takeWorkBack 30 = .ok (.imul, 1) := by decide +kernel
theorem dX5_takeWorkBack_31 : decode cX5_takeWorkBack 31 = .ok (.invokevirtual 31, 3) := by decide +kernel
theorem dX5_takeWorkBack_34 : decode cX5_takeWorkBack 34 = .ok (.iconst 1, 1) := by decide +kernel
theorem dX5_takeWorkBack_35 : decode cX5_takeWorkBack 35 = .ok (.ireturn, 1) := by decide +kernel
theorem dX5_keepImage_0 : decode cX5_keepImage 0 = .ok (.aload_n 0, 1) := by decide +kernel
theorem dX5_keepImage_1 : decode cX5_keepImage 1 = .ok (.getfield 24, 3) := by decide +kernel
theorem dX5_keepImage_4 : decode cX5_keepImage 4 = .ok (.iconst 3, 1) := by decide +kernel
theorem dX5_keepImage_5 : decode cX5_keepImage 5 = .ok (.if_icmp .lt 5, 3) := by decide +kernel
theorem dX5_keepImage_8 : decode cX5_keepImage 8 = .ok (.iconst 0, 1) := by decide +kernel
theorem dX5_keepImage_9 : decode cX5_keepImage 9 = .ok (.ireturn, 1) := by decide +kernel
theorem dX5_keepImage_10 : decode cX5_keepImage 10 = .ok (.aload_n 0, 1) := by decide +kernel
theorem dX5_keepImage_11 : decode cX5_keepImage 11 = .ok (.getfield 24, 3) := by decide +kernel
theorem dX5_keepImage_14 : decode cX5_keepImage 14 = .ok (.invokestatic 34, 3) := by decide +kernel
theorem dX5_keepImage_17 : decode cX5_keepImage 17 = .ok (.istore_n 2, 1) := by decide +kernel
theorem dX5_keepImage_18 : decode cX5_keepImage 18 = .ok (.aload_n 1, 1) := by decide +kernel
theorem dX5_keepImage_19 : decode cX5_keepImage 19 = .ok (.aload_n 0, 1) := by decide +kernel
theorem dX5_keepImage_20 : decode cX5_keepImage 20 = .ok (.getfield 13, 3) := by decide +kernel
theorem dX5_keepImage_23 : decode cX5_keepImage 23 = .ok (.iload_n 2, 1) := by decide +kernel
theorem dX5_keepImage_24 : decode cX5_keepImage 24 = .ok (.invokevirtual 27, 3) := by decide +kernel
theorem dX5_keepImage_27 : decode cX5_keepImage 27 = .ok (.aload_n 0, 1) := by decide +kernel
theorem dX5_keepImage_28 : decode cX5_keepImage 28 = .ok (.getfield 13, 3) := by decide +kernel
theorem dX5_keepImage_31 : decode cX5_keepImage 31 = .ok (.iconst 0, 1) := by decide +kernel
theorem dX5_keepImage_32 : decode cX5_keepImage 32 = .ok (.aload_n 0, 1) := by decide +kernel
theorem dX5_keepImage_33 : decode cX5_keepImage 33 = .ok (.getfield 13, 3) := by decide +kernel
theorem dX5_keepImage_36 : decode cX5_keepImage 36 = .ok (.iload_n 2, 1) := by decide +kernel
theorem dX5_keepImage_37 : decode cX5_keepImage 37 = .ok (.bipush 14, 2) := by decide +kernel
theorem dX5_keepImage_39 : decode cX5_keepImage 39 = .ok (.iadd, 1) := by decide +kernel
theorem dX5_keepImage_40 : decode cX5_keepImage 40 = .ok (.sipush 224, 3) := by decide +kernel
theorem dX5_keepImage_43 : decode cX5_keepImage 43 = .ok (.invokestatic 38, 3) := by decide +kernel
theorem dX5_keepImage_46 : decode cX5_keepImage 46 = .ok (.aload_n 0, 1) := by decide +kernel
theorem dX5_keepImage_47 : decode cX5_keepImage 47 = .ok (.getfield 17, 3) := by decide +kernel
theorem dX5_keepImage_50 : decode cX5_keepImage 50 = .ok (.aload_n 0, 1) := by decide +kernel
theorem dX5_keepImage_51 : decode cX5_keepImage 51 = .ok (.getfield 24, 3) := by decide +kernel
theorem dX5_keepImage_54 : decode cX5_keepImage 54 = .ok (.aload_n 0, 1) := by decide +kernel
theorem dX5_keepImage_55 : decode cX5_keepImage 55 = .ok (.getfield 20, 3) := by decide +kernel
theorem dX5_keepImage_58 : decode cX5_keepImage 58 = .ok (.iastore, 1) := by decide +kernel
theorem dX5_keepImage_59 : decode cX5_keepImage 59 = .ok (.aload_n 0, 1) := by decide +kernel
theorem dX5_keepImage_60 : decode cX5_keepImage 60 = .ok (.dup, 1) := by decide +kernel
theorem dX5_keepImage_61 : decode cX5_keepImage 61 = .ok (.getfield 24, 3) := by decide +kernel
theorem dX5_keepImage_64 : decode cX5_keepImage 64 = .ok (.iconst 1, 1) := by decide +kernel
theorem dX5_keepImage_65 : decode cX5_keepImage 65 = .ok (.iadd, 1) := by decide +kernel
theorem dX5_keepImage_66 : decode cX5_keepImage 66 = .ok (.putfield 24, 3) := by decide +kernel
theorem dX5_keepImage_69 : decode cX5_keepImage 69 = .ok (.iconst 1, 1) := by decide +kernel
theorem dX5_keepImage_70 : decode cX5_keepImage 70 = .ok (.ireturn, 1) := by decide +kernel
theorem dX5_takeImageBack_0 : decode cX5_takeImageBack 0 = .ok (.aload_n 0, 1) := by decide +kernel
theorem dX5_takeImageBack_1 : decode cX5_takeImageBack 1 = .ok (.getfield 24, 3) := by decide +kernel
theorem dX5_takeImageBack_4 : decode cX5_takeImageBack 4 = .ok (.ifCond .ne 5, 3) := by decide +kernel
theorem dX5_takeImageBack_7 : decode cX5_takeImageBack 7 = .ok (.iconst 0, 1) := by decide +kernel
theorem dX5_takeImageBack_8 : decode cX5_takeImageBack 8 = .ok (.ireturn, 1) := by decide +kernel
theorem dX5_takeImageBack_9 : decode cX5_takeImageBack 9 = .ok (.aload_n 0, 1) := by decide +kernel
theorem dX5_takeImageBack_10 : decode cX5_takeImageBack 10 = .ok (.dup, 1) := by decide +kernel
theorem dX5_takeImageBack_11 : decode cX5_takeImageBack 11 = .ok (.getfield 24, 3) := by decide +kernel
theorem dX5_takeImageBack_14 : decode cX5_takeImageBack 14 = .ok (.iconst 1, 1) := by decide +kernel
theorem dX5_takeImageBack_15 : decode cX5_takeImageBack 15 = .ok (.isub, 1) := by decide +kernel
theorem dX5_takeImageBack_16 : decode cX5_takeImageBack 16 = .ok (.putfield 24, 3) := by decide +kernel
theorem dX5_takeImageBack_19 : decode cX5_takeImageBack 19 = .ok (.aload_n 0, 1) := by decide +kernel
theorem dX5_takeImageBack_20 : decode cX5_takeImageBack 20 = .ok (.getfield 24, 3) := by decide +kernel
theorem dX5_takeImageBack_23 : decode cX5_takeImageBack 23 = .ok (.invokestatic 34, 3) := by decide +kernel
theorem dX5_takeImageBack_26 : decode cX5_takeImageBack 26 = .ok (.istore_n 2, 1) := by decide +kernel
theorem dX5_takeImageBack_27 : decode cX5_takeImageBack 27 = .ok (.aload_n 1, 1) := by decide +kernel
theorem dX5_takeImageBack_28 : decode cX5_takeImageBack 28 = .ok (.aload_n 0, 1) := by decide +kernel
theorem dX5_takeImageBack_29 : decode cX5_takeImageBack 29 = .ok (.getfield 13, 3) := by decide +kernel
theorem dX5_takeImageBack_32 : decode cX5_takeImageBack 32 = .ok (.iload_n 2, 1) := by decide +kernel
theorem dX5_takeImageBack_33 : decode cX5_takeImageBack 33 = .ok (.invokevirtual 31, 3) := by decide +kernel
theorem dX5_takeImageBack_36 : decode cX5_takeImageBack 36 = .ok (.aload_n 0, 1) := by decide +kernel
theorem dX5_takeImageBack_37 : decode cX5_takeImageBack 37 = .ok (.getfield 13, 3) := by decide +kernel
theorem dX5_takeImageBack_40 : decode cX5_takeImageBack 40 = .ok (.iload_n 2, 1) := by decide +kernel
theorem dX5_takeImageBack_41 : decode cX5_takeImageBack 41 = .ok (.bipush 14, 2) := by decide +kernel
theorem dX5_takeImageBack_43 : decode cX5_takeImageBack 43 = .ok (.iadd, 1) := by decide +kernel
theorem dX5_takeImageBack_44 : decode cX5_takeImageBack 44 = .ok (.aload_n 0, 1) := by decide +kernel
theorem dX5_takeImageBack_45 : decode cX5_takeImageBack 45 = .ok (.getfield 13, 3) := by decide +kernel
theorem dX5_takeImageBack_48 : decode cX5_takeImageBack 48 = .ok (.iconst 0, 1) := by decide +kernel
theorem dX5_takeImageBack_49 : decode cX5_takeImageBack 49 = .ok (.sipush 224, 3) := by decide +kernel
theorem dX5_takeImageBack_52 : decode cX5_takeImageBack 52 = .ok (.invokestatic 38, 3) := by decide +kernel
theorem dX5_takeImageBack_55 : decode cX5_takeImageBack 55 = .ok (.aload_n 0, 1) := by decide +kernel
theorem dX5_takeImageBack_56 : decode cX5_takeImageBack 56 = .ok (.aload_n 0, 1) := by decide +kernel
theorem dX5_takeImageBack_57 : decode cX5_takeImageBack 57 = .ok (.getfield 17, 3) := by decide +kernel
theorem dX5_takeImageBack_60 : decode cX5_takeImageBack 60 = .ok (.aload_n 0, 1) := by decide +kernel
theorem dX5_takeImageBack_61 : decode cX5_takeImageBack 61 = .ok (.getfield 24, 3) := by decide +kernel
theorem dX5_takeImageBack_64 : decode cX5_takeImageBack 64 = .ok (.iaload, 1) := by decide +kernel
theorem dX5_takeImageBack_65 : decode cX5_takeImageBack 65 = .ok (.putfield 20, 3) := by decide +kernel
theorem dX5_takeImageBack_68 : decode cX5_takeImageBack 68 = .ok (.iconst 1, 1) := by decide +kernel
theorem dX5_takeImageBack_69 : decode cX5_takeImageBack 69 = .ok (.ireturn, 1) := by decide +kernel
theorem dX5_struckInImage_0 : decode cX5_struckInImage 0 = .ok (.aload_n 0, 1) := by decide +kernel
theorem dX5_struckInImage_1 : decode cX5_struckInImage 1 = .ok (.getfield 24, 3) := by decide +kernel
theorem dX5_struckInImage_4 : decode cX5_struckInImage 4 = .ok (.ifCond .le 22, 3) := by decide +kernel
theorem dX5_struckInImage_7 : decode cX5_struckInImage 7 = .ok (.aload_n 0, 1) := by decide +kernel
theorem dX5_struckInImage_8 : decode cX5_struckInImage 8 = .ok (.getfield 13, 3) := by decide +kernel
theorem dX5_struckInImage_11 : decode cX5_struckInImage 11 = .ok (.aload_n 0, 1) := by decide +kernel
theorem dX5_struckInImage_12 : decode cX5_struckInImage 12 = .ok (.getfield 24, 3) := by decide +kernel
theorem dX5_struckInImage_15 : decode cX5_struckInImage 15 = .ok (.iconst 1, 1) := by decide +kernel
theorem dX5_struckInImage_16 : decode cX5_struckInImage 16 = .ok (.isub, 1) := by decide +kernel
theorem dX5_struckInImage_17 : decode cX5_struckInImage 17 = .ok (.invokestatic 34, 3) := by decide +kernel
theorem dX5_struckInImage_20 : decode cX5_struckInImage 20 = .ok (.iload_n 1, 1) := by decide +kernel
theorem dX5_struckInImage_21 : decode cX5_struckInImage 21 = .ok (.iadd, 1) := by decide +kernel
theorem dX5_struckInImage_22 : decode cX5_struckInImage 22 = .ok (.iaload, 1) := by decide +kernel
theorem dX5_struckInImage_23 : decode cX5_struckInImage 23 = .ok (.goto 4, 3) := by decide +kernel
theorem dX5_struckInImage_26 : decode cX5_struckInImage 26 = .ok (.iconst 0, 1) := by decide +kernel
theorem dX5_struckInImage_27 : decode cX5_struckInImage 27 = .ok (.ireturn, 1) := by decide +kernel
theorem dX6_init_0 : decode cX6_init 0 = .ok (.aload_n 0, 1) := by decide +kernel
theorem dX6_init_1 : decode cX6_init 1 = .ok (.invokespecial 3, 3) := by decide +kernel
theorem dX6_init_4 : decode cX6_init 4 = .ok (.aload_n 0, 1) := by decide +kernel
theorem dX6_init_5 : decode cX6_init 5 = .ok (.bipush 30, 2) := by decide +kernel
theorem dX6_init_7 : decode cX6_init 7 = .ok (.newarray .int, 2) := by decide +kernel
theorem dX6_init_9 : decode cX6_init 9 = .ok (.putfield 11, 3) := by decide +kernel
theorem dX6_init_12 : decode cX6_init 12 = .ok (.aload_n 0, 1) := by decide +kernel
theorem dX6_init_13 : decode cX6_init 13 = .ok (.bipush 30, 2) := by decide +kernel
theorem dX6_init_15 : decode cX6_init 15 = .ok (.newarray .int, 2) := by decide +kernel
theorem dX6_init_17 : decode cX6_init 17 = .ok (.putfield 15, 3) := by decide +kernel
theorem dX6_init_20 : decode cX6_init 20 = .ok (.aload_n 0, 1) := by decide +kernel
theorem dX6_init_21 : decode cX6_init 21 = .ok (.bipush 30, 2) := by decide +kernel
theorem dX6_init_23 : decode cX6_init 23 = .ok (.newarray .int, 2) := by decide +kernel
theorem dX6_init_25 : decode cX6_init 25 = .ok (.putfield 18, 3) := by decide +kernel
theorem dX6_init_28 : decode cX6_init 28 = .ok (.aload_n 0, 1) := by decide +kernel
theorem dX6_init_29 : decode cX6_init 29 = .ok (.bipush 30, 2) := by decide +kernel
theorem dX6_init_31 : decode cX6_init 31 = .ok (.newarray .int, 2) := by decide +kernel
theorem dX6_init_33 : decode cX6_init 33 = .ok (.putfield 21, 3) := by decide +kernel
theorem dX6_init_36 : decode cX6_init 36 = .ok (.aload_n 0, 1) := by decide +kernel
theorem dX6_init_37 : decode cX6_init 37 = .ok (.bipush 30, 2) := by decide +kernel
theorem dX6_init_39 : decode cX6_init 39 = .ok (.newarray .int, 2) := by decide +kernel
theorem dX6_init_41 : decode cX6_init 41 = .ok (.putfield 24, 3) := by decide +kernel
theorem dX6_init_44 : decode cX6_init 44 = .ok (.return_, 1) := by decide +kernel
theorem dX6_kindTaken_0 : decode cX6_kindTaken 0 = .ok (.aload_n 0, 1) := by decide +kernel
theorem dX6_kindTaken_1 : decode cX6_kindTaken 1 = .ok (.ldc 83, 2) := by decide +kernel
theorem dX6_kindTaken_3 : decode cX6_kindTaken 3 = .ok (.invokevirtual 85, 3) := by decide +kernel
theorem dX6_kindTaken_6 : decode cX6_kindTaken 6 = .ok (.ifCond .eq 7, 3) := by decide +kernel
theorem dX6_kindTaken_9 : decode cX6_kindTaken 9 = .ok (.iconst 0, 1) := by decide +kernel
theorem dX6_kindTaken_10 : decode cX6_kindTaken 10 = .ok (.goto 83, 3) := by decide +kernel
theorem dX6_kindTaken_13 : decode cX6_kindTaken 13 = .ok (.aload_n 0, 1) := by decide +kernel
theorem dX6_kindTaken_14 : decode cX6_kindTaken 14 = .ok (.ldc 89, 2) := by decide +kernel
theorem dX6_kindTaken_16 : decode cX6_kindTaken 16 = .ok (.invokevirtual 85, 3) := by decide +kernel
theorem dX6_kindTaken_19 : decode cX6_kindTaken 19 = .ok (.ifCond .eq 7, 3) := by decide +kernel
theorem dX6_kindTaken_22 : decode cX6_kindTaken 22 = .ok (.iconst 1, 1) := by decide +kernel
theorem dX6_kindTaken_23 : decode cX6_kindTaken 23 = .ok (.goto 70, 3) := by decide +kernel
theorem dX6_kindTaken_26 : decode cX6_kindTaken 26 = .ok (.aload_n 0, 1) := by decide +kernel
theorem dX6_kindTaken_27 : decode cX6_kindTaken 27 = .ok (.ldc 91, 2) := by decide +kernel
theorem dX6_kindTaken_29 : decode cX6_kindTaken 29 = .ok (.invokevirtual 85, 3) := by decide +kernel
theorem dX6_kindTaken_32 : decode cX6_kindTaken 32 = .ok (.ifCond .eq 7, 3) := by decide +kernel
theorem dX6_kindTaken_35 : decode cX6_kindTaken 35 = .ok (.iconst 2, 1) := by decide +kernel
theorem dX6_kindTaken_36 : decode cX6_kindTaken 36 = .ok (.goto 57, 3) := by decide +kernel
theorem dX6_kindTaken_39 : decode cX6_kindTaken 39 = .ok (.aload_n 0, 1) := by decide +kernel
theorem dX6_kindTaken_40 : decode cX6_kindTaken 40 = .ok (.ldc 93, 2) := by decide +kernel
theorem dX6_kindTaken_42 : decode cX6_kindTaken 42 = .ok (.invokevirtual 85, 3) := by decide +kernel
theorem dX6_kindTaken_45 : decode cX6_kindTaken 45 = .ok (.ifCond .eq 7, 3) := by decide +kernel
theorem dX6_kindTaken_48 : decode cX6_kindTaken 48 = .ok (.iconst 3, 1) := by decide +kernel
theorem dX6_kindTaken_49 : decode cX6_kindTaken 49 = .ok (.goto 44, 3) := by decide +kernel
theorem dX6_kindTaken_52 : decode cX6_kindTaken 52 = .ok (.aload_n 0, 1) := by decide +kernel
theorem dX6_kindTaken_53 : decode cX6_kindTaken 53 = .ok (.ldc 95, 2) := by decide +kernel
theorem dX6_kindTaken_55 : decode cX6_kindTaken 55 = .ok (.invokevirtual 85, 3) := by decide +kernel
theorem dX6_kindTaken_58 : decode cX6_kindTaken 58 = .ok (.ifCond .eq 7, 3) := by decide +kernel
theorem dX6_kindTaken_61 : decode cX6_kindTaken 61 = .ok (.iconst 4, 1) := by decide +kernel
theorem dX6_kindTaken_62 : decode cX6_kindTaken 62 = .ok (.goto 31, 3) := by decide +kernel
theorem dX6_kindTaken_65 : decode cX6_kindTaken 65 = .ok (.aload_n 0, 1) := by decide +kernel
theorem dX6_kindTaken_66 : decode cX6_kindTaken 66 = .ok (.ldc 97, 2) := by decide +kernel
theorem dX6_kindTaken_68 : decode cX6_kindTaken 68 = .ok (.invokevirtual 85, 3) := by decide +kernel
theorem dX6_kindTaken_71 : decode cX6_kindTaken 71 = .ok (.ifCond .eq 7, 3) := by decide +kernel
theorem dX6_kindTaken_74 : decode cX6_kindTaken 74 = .ok (.iconst 5, 1) := by decide +kernel
theorem dX6_kindTaken_75 : decode cX6_kindTaken 75 = .ok (.goto 18, 3) := by decide +kernel
theorem dX6_kindTaken_78 : decode cX6_kindTaken 78 = .ok (.aload_n 0, 1) := by decide +kernel
theorem dX6_kindTaken_79 : decode cX6_kindTaken 79 = .ok (.ldc 99, 2) := by decide +kernel
theorem dX6_kindTaken_81 : decode cX6_kindTaken 81 = .ok (.invokevirtual 85, 3) := by decide +kernel
theorem dX6_kindTaken_84 : decode cX6_kindTaken 84 = .ok (.ifCond .eq 8, 3) := by decide +kernel
theorem dX6_kindTaken_87 : decode cX6_kindTaken 87 = .ok (.bipush 6, 2) := by decide +kernel
theorem dX6_kindTaken_89 : decode cX6_kindTaken 89 = .ok (.goto 4, 3) := by decide +kernel
theorem dX6_kindTaken_92 : decode cX6_kindTaken 92 = .ok (.iconst (-1), 1) := by decide +kernel
theorem dX6_kindTaken_93 : decode cX6_kindTaken 93 = .ok (.ireturn, 1) := by decide +kernel
theorem dX6_readFirst_0 : decode cX6_readFirst 0 = .ok (.aload_n 1, 1) := by decide +kernel
theorem dX6_readFirst_1 : decode cX6_readFirst 1 = .ok (.iload_n 3, 1) := by decide +kernel
theorem dX6_readFirst_2 : decode cX6_readFirst 2 = .ok (.iload 4, 2) := by decide +kernel
theorem dX6_readFirst_4 : decode cX6_readFirst 4 = .ok (.invokevirtual 101, 3) := by decide +kernel
theorem dX6_readFirst_7 : decode cX6_readFirst 7 = .ok (.ifCond .ne 5, 3) := by decide +kernel
theorem dX6_readFirst_10 : decode cX6_readFirst 10 = .ok (.iconst 0, 1) := by decide +kernel
theorem dX6_readFirst_11 : decode cX6_readFirst 11 = .ok (.ireturn, 1) := by decide +kernel
theorem dX6_readFirst_12 : decode cX6_readFirst 12 = .ok (.aload_n 0, 1) := by decide +kernel
theorem dX6_readFirst_13 : decode cX6_readFirst 13 = .ok (.getfield 15, 3) := by decide +kernel
theorem dX6_readFirst_16 : decode cX6_readFirst 16 = .ok (.iload_n 2, 1) := by decide +kernel
theorem dX6_readFirst_17 : decode cX6_readFirst 17 = .ok (.aload_n 1, 1) := by decide +kernel
theorem dX6_readFirst_18 : decode cX6_readFirst 18 = .ok (.getfield 104, 3) := by decide +kernel
theorem dX6_readFirst_21 : decode cX6_readFirst 21 = .ok (.iastore, 1) := by decide +kernel
theorem dX6_readFirst_22 : decode cX6_readFirst 22 = .ok (.iconst 1, 1) := by decide +kernel
theorem dX6_readFirst_23 : decode cX6_readFirst 23 = .ok (.ireturn, 1) := by decide +kernel
theorem dX6_readSecond_0 : decode cX6_readSecond 0 = .ok (.aload_n 1, 1) := by decide +kernel
theorem dX6_readSecond_1 : decode cX6_readSecond 1 = .ok (.iconst 0, 1) := by decide +kernel
theorem dX6_readSecond_2 : decode cX6_readSecond 2 = .ok (.iload_n 3, 1) := by decide +kernel
theorem dX6_readSecond_3 : decode cX6_readSecond 3 = .ok (.invokevirtual 101, 3) := by decide +kernel
theorem dX6_readSecond_6 : decode cX6_readSecond 6 = .ok (.ifCond .ne 5, 3) := by decide +kernel
theorem dX6_readSecond_9 : decode cX6_readSecond 9 = .ok (.iconst 0, 1) := by decide +kernel
theorem dX6_readSecond_10 : decode cX6_readSecond 10 = .ok (.ireturn, 1) := by decide +kernel
theorem dX6_readSecond_11 : decode cX6_readSecond 11 = .ok (.aload_n 0, 1) := by decide +kernel
theorem dX6_readSecond_12 : decode cX6_readSecond 12 = .ok (.getfield 18, 3) := by decide +kernel
theorem dX6_readSecond_15 : decode cX6_readSecond 15 = .ok (.iload_n 2, 1) := by decide +kernel
theorem dX6_readSecond_16 : decode cX6_readSecond 16 = .ok (.aload_n 1, 1) := by decide +kernel
theorem dX6_readSecond_17 : decode cX6_readSecond 17 = .ok (.getfield 104, 3) := by decide +kernel
theorem dX6_readSecond_20 : decode cX6_readSecond 20 = .ok (.iastore, 1) := by decide +kernel
theorem dX6_readSecond_21 : decode cX6_readSecond 21 = .ok (.iconst 1, 1) := by decide +kernel
theorem dX6_readSecond_22 : decode cX6_readSecond 22 = .ok (.ireturn, 1) := by decide +kernel
theorem dX6_readStrike_0 : decode cX6_readStrike 0 = .ok (.aload_n 0, 1) := by decide +kernel
theorem dX6_readStrike_1 : decode cX6_readStrike 1 = .ok (.aload_n 1, 1) := by decide +kernel
theorem dX6_readStrike_2 : decode cX6_readStrike 2 = .ok (.iload_n 2, 1) := by decide +kernel
theorem dX6_readStrike_3 : decode cX6_readStrike 3 = .ok (.iconst 0, 1) := by decide +kernel
theorem dX6_readStrike_4 : decode cX6_readStrike 4 = .ok (.aload_n 0, 1) := by decide +kernel
theorem dX6_readStrike_5 : decode cX6_readStrike 5 = .ok (.getfield 31, 3) := by decide +kernel
theorem dX6_readStrike_8 : decode cX6_readStrike 8 = .ok (.iconst 1, 1) := by decide +kernel
theorem dX6_readStrike_9 : decode cX6_readStrike 9 = .ok (.isub, 1) := by decide +kernel
theorem dX6_readStrike_10 : decode cX6_readStrike 10 = .ok (.invokevirtual 72, 3) := by decide +kernel
theorem dX6_readStrike_13 : decode cX6_readStrike 13 = .ok (.ifCond .eq 24, 3) := by decide +kernel
theorem dX6_readStrike_16 : decode cX6_readStrike 16 = .ok (.aload_n 0, 1) := by decide +kernel
theorem dX6_readStrike_17 : decode cX6_readStrike 17 = .ok (.aload_n 1, 1) := by decide +kernel
theorem dX6_readStrike_18 : decode cX6_readStrike 18 = .ok (.iload_n 2, 1) := by decide +kernel
theorem dX6_readStrike_19 : decode cX6_readStrike 19 = .ok (.bipush 7, 2) := by decide +kernel
theorem dX6_readStrike_21 : decode cX6_readStrike 21 = .ok (.invokevirtual 76, 3) := by decide +kernel
theorem dX6_readStrike_24 : decode cX6_readStrike 24 = .ok (.ifCond .eq 13, 3) := by decide +kernel
theorem dX6_readStrike_27 : decode cX6_readStrike 27 = .ok (.aload_n 1, 1) := by decide +kernel
theorem dX6_readStrike_28 : decode cX6_readStrike 28 = .ok (.iconst 0, 1) := by decide +kernel
theorem dX6_readStrike_29 : decode cX6_readStrike 29 = .ok (.bipush 7, 2) := by decide +kernel
theorem dX6_readStrike_31 : decode cX6_readStrike 31 = .ok (.invokevirtual 101, 3) := by decide +kernel
theorem dX6_readStrike_34 : decode cX6_readStrike 34 = .ok (.ifCond .ne 5, 3) := by decide +kernel
theorem dX6_readStrike_37 : decode cX6_readStrike 37 = .ok (.iconst 0, 1) := by decide +kernel
theorem dX6_readStrike_38 : decode cX6_readStrike 38 = .ok (.ireturn, 1) := by decide +kernel
theorem dX6_readStrike_39 : decode cX6_readStrike 39 = .ok (.aload_n 0, 1) := by decide +kernel
theorem dX6_readStrike_40 : decode cX6_readStrike 40 = .ok (.getfield 21, 3) := by decide +kernel
theorem dX6_readStrike_43 : decode cX6_readStrike 43 = .ok (.iload_n 2, 1) := by decide +kernel
theorem dX6_readStrike_44 : decode cX6_readStrike 44 = .ok (.aload_n 1, 1) := by decide +kernel
theorem dX6_readStrike_45 : decode cX6_readStrike 45 = .ok (.getfield 104, 3) := by decide +kernel
theorem dX6_readStrike_48 : decode cX6_readStrike 48 = .ok (.iastore, 1) := by decide +kernel
theorem dX6_readStrike_49 : decode cX6_readStrike 49 = .ok (.iconst 1, 1) := by decide +kernel
theorem dX6_readStrike_50 : decode cX6_readStrike 50 = .ok (.ireturn, 1) := by decide +kernel
theorem dX6_readAgain_0 : decode cX6_readAgain 0 = .ok (.aload_n 0, 1) := by decide +kernel
theorem dX6_readAgain_1 : decode cX6_readAgain 1 = .ok (.aload_n 1, 1) := by decide +kernel
theorem dX6_readAgain_2 : decode cX6_readAgain 2 = .ok (.iload_n 2, 1) := by decide +kernel
theorem dX6_readAgain_3 : decode cX6_readAgain 3 = .ok (.iconst 0, 1) := by decide +kernel
theorem dX6_readAgain_4 : decode cX6_readAgain 4 = .ok (.bipush 60, 2) := by decide +kernel
theorem dX6_readAgain_6 : decode cX6_readAgain 6 = .ok (.invokevirtual 72, 3) := by decide +kernel
theorem dX6_readAgain_9 : decode cX6_readAgain 9 = .ok (.ifCond .eq 23, 3) := by decide +kernel
theorem dX6_readAgain_12 : decode cX6_readAgain 12 = .ok (.aload_n 1, 1) := by decide +kernel
theorem dX6_readAgain_13 : decode cX6_readAgain 13 = .ok (.bipush 91, 2) := by decide +kernel
theorem dX6_readAgain_15 : decode cX6_readAgain 15 = .ok (.invokevirtual 54, 3) := by decide +kernel
theorem dX6_readAgain_18 : decode cX6_readAgain 18 = .ok (.ifCond .eq 14, 3) := by decide +kernel
theorem dX6_readAgain_21 : decode cX6_readAgain 21 = .ok (.aload_n 0, 1) := by decide +kernel
theorem dX6_readAgain_22 : decode cX6_readAgain 22 = .ok (.aload_n 1, 1) := by decide +kernel
theorem dX6_readAgain_23 : decode cX6_readAgain 23 = .ok (.iload_n 3, 1) := by decide +kernel
theorem dX6_readAgain_24 : decode cX6_readAgain 24 = .ok (.iconst 1, 1) := by decide +kernel
theorem dX6_readAgain_25 : decode cX6_readAgain 25 = .ok (.iadd, 1) := by decide +kernel
theorem dX6_readAgain_26 : decode cX6_readAgain 26 = .ok (.invokevirtual 34, 3) := by decide +kernel
theorem dX6_readAgain_29 : decode cX6_readAgain 29 = .ok (.ifCond .ne 5, 3) := by decide +kernel
theorem dX6_readAgain_32 : decode cX6_readAgain 32 = .ok (.iconst 0, 1) := by decide +kernel
theorem dX6_readAgain_33 : decode cX6_readAgain 33 = .ok (.ireturn, 1) := by decide +kernel
theorem dX6_readAgain_34 : decode cX6_readAgain 34 = .ok (.aload_n 0, 1) := by decide +kernel
theorem dX6_readAgain_35 : decode cX6_readAgain 35 = .ok (.getfield 24, 3) := by decide +kernel
theorem dX6_readAgain_38 : decode cX6_readAgain 38 = .ok (.iload_n 2, 1) := by decide +kernel
theorem dX6_readAgain_39 : decode cX6_readAgain 39 = .ok (.aload_n 0, 1) := by decide +kernel
theorem dX6_readAgain_40 : decode cX6_readAgain 40 = .ok (.getfield 27, 3) := by decide +kernel
theorem dX6_readAgain_43 : decode cX6_readAgain 43 = .ok (.iastore, 1) := by decide +kernel
theorem dX6_readAgain_44 : decode cX6_readAgain 44 = .ok (.aload_n 1, 1) := by decide +kernel
theorem dX6_readAgain_45 : decode cX6_readAgain 45 = .ok (.bipush 93, 2) := by decide +kernel
theorem dX6_readAgain_47 : decode cX6_readAgain 47 = .ok (.invokevirtual 54, 3) := by decide +kernel
theorem dX6_readAgain_50 : decode cX6_readAgain 50 = .ok (.ireturn, 1) := by decide +kernel
theorem dX6_readStep_0 : decode cX6_readStep 0 = .ok (.aload_n 1, 1) := by decide +kernel
theorem dX6_readStep_1 : decode cX6_readStep 1 = .ok (.invokevirtual 58, 3) := by decide +kernel
theorem dX6_readStep_4 : decode cX6_readStep 4 = .ok (.ifCond .ne 5, 3) := by decide +kernel
theorem dX6_readStep_7 : decode cX6_readStep 7 = .ok (.iconst 0, 1) := by decide +kernel
theorem dX6_readStep_8 : decode cX6_readStep 8 = .ok (.ireturn, 1) := by decide +kernel
theorem dX6_readStep_9 : decode cX6_readStep 9 = .ok (.aload_n 1, 1) := by decide +kernel
theorem dX6_readStep_10 : decode cX6_readStep 10 = .ok (.invokestatic 62, 3) := by decide +kernel
theorem dX6_readStep_13 : decode cX6_readStep 13 = .ok (.istore_n 3, 1) := by decide +kernel
theorem dX6_readStep_14 : decode cX6_readStep 14 = .ok (.iload_n 3, 1) := by decide +kernel
theorem dX6_readStep_15 : decode cX6_readStep 15 = .ok (.iconst (-1), 1) := by decide +kernel
theorem dX6_readStep_16 : decode cX6_readStep 16 = .ok (.if_icmp .eq 12, 3) := by decide +kernel
theorem dX6_readStep_19 : decode cX6_readStep 19 = .ok (.aload_n 0, 1) := by decide +kernel
theorem dX6_readStep_20 : decode cX6_readStep 20 = .ok (.getfield 27, 3) := by decide +kernel
theorem dX6_readStep_23 : decode cX6_readStep 23 = .ok (.bipush 30, 2) := by decide +kernel
theorem dX6_readStep_25 : decode cX6_readStep 25 = .ok (.if_icmp .lt 13, 3) := by decide +kernel
theorem dX6_readStep_28 : decode cX6_readStep 28 = .ok (.aload_n 1, 1) := by decide +kernel
theorem dX6_readStep_29 : decode cX6_readStep 29 = .ok (.iconst 1, 1) := by decide +kernel
theorem dX6_readStep_30 : decode cX6_readStep 30 = .ok (.aload_n 1, 1) := by decide +kernel
theorem dX6_readStep_31 : decode cX6_readStep 31 = .ok (.getfield 66, 3) := by decide +kernel
theorem dX6_readStep_34 : decode cX6_readStep 34 = .ok (.invokevirtual 47, 3) := by decide +kernel
theorem dX6_readStep_37 : decode cX6_readStep 37 = .ok (.ireturn, 1) := by decide +kernel
theorem dX6_readStep_38 : decode cX6_readStep 38 = .ok (.iload_n 3, 1) := by decide +kernel
theorem dX6_readStep_39 : decode cX6_readStep 39 = .ok (.bipush 6, 2) := by decide +kernel
theorem dX6_readStep_41 : decode cX6_readStep 41 = .ok (.if_icmp .ne 19, 3) := by decide +kernel
theorem dX6_readStep_44 : decode cX6_readStep 44 = .ok (.iload_n 2, 1) := by decide +kernel
theorem dX6_readStep_45 : decode cX6_readStep 45 = .ok (.bipush 6, 2) := by decide +kernel
theorem dX6_readStep_47 : decode cX6_readStep 47 = .ok (.if_icmp .lt 13, 3) := by decide +kernel
theorem dX6_readStep_50 : decode cX6_readStep 50 = .ok (.aload_n 1, 1) := by decide +kernel
theorem dX6_readStep_51 : decode cX6_readStep 51 = .ok (.iconst 3, 1) := by decide +kernel
theorem dX6_readStep_52 : decode cX6_readStep 52 = .ok (.aload_n 1, 1) := by decide +kernel
theorem dX6_readStep_53 : decode cX6_readStep 53 = .ok (.getfield 66, 3) := by decide +kernel
theorem dX6_readStep_56 : decode cX6_readStep 56 = .ok (.invokevirtual 47, 3) := by decide +kernel
theorem dX6_readStep_59 : decode cX6_readStep 59 = .ok (.ireturn, 1) := by decide +kernel
theorem dX6_readStep_60 : decode cX6_readStep 60 = .ok (.aload_n 0, 1) := by decide +kernel
theorem dX6_readStep_61 : decode cX6_readStep 61 = .ok (.getfield 27, 3) := by decide +kernel
theorem dX6_readStep_64 : decode cX6_readStep 64 = .ok (.istore 4, 2) := by decide +kernel
theorem dX6_readStep_66 : decode cX6_readStep 66 = .ok (.aload_n 0, 1) := by decide +kernel
theorem dX6_readStep_67 : decode cX6_readStep 67 = .ok (.getfield 11, 3) := by decide +kernel
theorem dX6_readStep_70 : decode cX6_readStep 70 = .ok (.iload 4, 2) := by decide +kernel
theorem dX6_readStep_72 : decode cX6_readStep 72 = .ok (.iload_n 3, 1) := by decide +kernel
theorem dX6_readStep_73 : decode cX6_readStep 73 = .ok (.iastore, 1) := by decide +kernel
theorem dX6_readStep_74 : decode cX6_readStep 74 = .ok (.aload_n 0, 1) := by decide +kernel
theorem dX6_readStep_75 : decode cX6_readStep 75 = .ok (.getfield 24, 3) := by decide +kernel
theorem dX6_readStep_78 : decode cX6_readStep 78 = .ok (.iload 4, 2) := by decide +kernel
theorem dX6_readStep_80 : decode cX6_readStep 80 = .ok (.iload 4, 2) := by decide +kernel
theorem dX6_readStep_82 : decode cX6_readStep 82 = .ok (.iconst 1, 1) := by decide +kernel
theorem dX6_readStep_83 : decode cX6_readStep 83 = .ok (.iadd, 1) := by decide +kernel
theorem dX6_readStep_84 : decode cX6_readStep 84 = .ok (.iastore, 1) := by decide +kernel
theorem dX6_readStep_85 : decode cX6_readStep 85 = .ok (.aload_n 0, 1) := by decide +kernel
theorem dX6_readStep_86 : decode cX6_readStep 86 = .ok (.dup, 1) := by decide +kernel
theorem dX6_readStep_87 : decode cX6_readStep 87 = .ok (.getfield 27, 3) := by decide +kernel
theorem dX6_readStep_90 : decode cX6_readStep 90 = .ok (.iconst 1, 1) := by decide +kernel
theorem dX6_readStep_91 : decode cX6_readStep 91 = .ok (.iadd, 1) := by decide +kernel
theorem dX6_readStep_92 : decode cX6_readStep 92 = .ok (.putfield 27, 3) := by decide +kernel
theorem dX6_readStep_95 : decode cX6_readStep 95 = .ok (.iload_n 3, 1) := by decide +kernel
theorem dX6_readStep_96 : decode cX6_readStep 96 = .ok (.tableswitch 114 0 6 #[44, 52, 114, 63, 114, 74, 105], 44) := by decide +kernel
theorem dX6_readStep_140 : decode cX6_readStep 140 = .ok (.aload_n 0, 1) := by decide +kernel
theorem dX6_readStep_141 : decode cX6_readStep 141 = .ok (.aload_n 1, 1) := by decide +kernel
theorem dX6_readStep_142 : decode cX6_readStep 142 = .ok (.iload 4, 2) := by decide +kernel
theorem dX6_readStep_144 : decode cX6_readStep 144 = .ok (.invokevirtual 69, 3) := by decide +kernel
theorem dX6_readStep_147 : decode cX6_readStep 147 = .ok (.ireturn, 1) := by decide +kernel
theorem dX6_readStep_148 : decode cX6_readStep 148 = .ok (.aload_n 0, 1) := by decide +kernel
theorem dX6_readStep_149 : decode cX6_readStep 149 = .ok (.aload_n 1, 1) := by decide +kernel
theorem dX6_readStep_150 : decode cX6_readStep 150 = .ok (.iload 4, 2) := by decide +kernel
theorem dX6_readStep_152 : decode cX6_readStep 152 = .ok (.iconst 1, 1) := by decide +kernel
theorem dX6_readStep_153 : decode cX6_readStep 153 = .ok (.bipush 99, 2) := by decide +kernel
theorem dX6_readStep_155 : decode cX6_readStep 155 = .ok (.invokevirtual 72, 3) := by decide +kernel
theorem dX6_readStep_158 : decode cX6_readStep 158 = .ok (.ireturn, 1) := by decide +kernel
theorem dX6_readStep_159 : decode cX6_readStep 159 = .ok (.aload_n 0, 1) := by decide +kernel
theorem dX6_readStep_160 : decode cX6_readStep 160 = .ok (.aload_n 1, 1) := by decide +kernel
theorem dX6_readStep_161 : decode cX6_readStep 161 = .ok (.iload 4, 2) := by decide +kernel
theorem dX6_readStep_163 : decode cX6_readStep 163 = .ok (.iconst 1, 1) := by decide +kernel
theorem dX6_readStep_164 : decode cX6_readStep 164 = .ok (.bipush 99, 2) := by decide +kernel
theorem dX6_readStep_166 : decode cX6_readStep 166 = .ok (.invokevirtual 72, 3) := by decide +kernel
theorem dX6_readStep_169 : decode cX6_readStep 169 = .ok (.ireturn, 1) := by decide +kernel
theorem dX6_readStep_170 : decode cX6_readStep 170 = .ok (.aload_n 0, 1) := by decide +kernel
theorem dX6_readStep_171 : decode cX6_readStep 171 = .ok (.aload_n 1, 1) := by decide +kernel
theorem dX6_readStep_172 : decode cX6_readStep 172 = .ok (.iload 4, 2) := by decide +kernel
theorem dX6_readStep_174 : decode cX6_readStep 174 = .ok (.iconst 0, 1) := by decide +kernel
theorem dX6_readStep_175 : decode cX6_readStep 175 = .ok (.iconst 3, 1) := by decide +kernel
theorem dX6_readStep_176 : decode cX6_readStep 176 = .ok (.invokevirtual 72, 3) := by decide +kernel
theorem dX6_readStep_179 : decode cX6_readStep 179 = .ok (.ifCond .eq 20, 3) := by decide +kernel
theorem dX6_readStep_182 : decode cX6_readStep 182 = .ok (.aload_n 0, 1) := by decide +kernel
theorem dX6_readStep_183 : decode cX6_readStep 183 = .ok (.aload_n 1, 1) := by decide +kernel
theorem dX6_readStep_184 : decode cX6_readStep 184 = .ok (.iload 4, 2) := by decide +kernel
theorem dX6_readStep_186 : decode cX6_readStep 186 = .ok (.sipush 999, 3) := by decide +kernel
theorem dX6_readStep_189 : decode cX6_readStep 189 = .ok (.invokevirtual 76, 3) := by decide +kernel
theorem dX6_readStep_192 : decode cX6_readStep 192 = .ok (.ifCond .eq 7, 3) := by decide +kernel
theorem dX6_readStep_195 : decode cX6_readStep 195 = .ok (.iconst 1, 1) := by decide +kernel
theorem dX6_readStep_196 : decode cX6_readStep 196 = .ok (.goto 4, 3) := by decide +kernel
theorem dX6_readStep_199 : decode cX6_readStep 199 = .ok (.iconst 0, 1) := by decide +kernel
theorem dX6_readStep_200 : decode cX6_readStep 200 = .ok (.ireturn, 1) := by decide +kernel
theorem dX6_readStep_201 : decode cX6_readStep 201 = .ok (.aload_n 0, 1) := by decide +kernel
theorem dX6_readStep_202 : decode cX6_readStep 202 = .ok (.aload_n 1, 1) := by decide +kernel
theorem dX6_readStep_203 : decode cX6_readStep 203 = .ok (.iload 4, 2) := by decide +kernel
theorem dX6_readStep_205 : decode cX6_readStep 205 = .ok (.iload_n 2, 1) := by decide +kernel
theorem dX6_readStep_206 : decode cX6_readStep 206 = .ok (.invokevirtual 80, 3) := by decide +kernel
theorem dX6_readStep_209 : decode cX6_readStep 209 = .ok (.ireturn, 1) := by decide +kernel
theorem dX6_readStep_210 : decode cX6_readStep 210 = .ok (.iconst 1, 1) := by decide +kernel
theorem dX6_readStep_211 : decode cX6_readStep 211 = .ok (.ireturn, 1) := by decide +kernel
theorem dX6_readSteps_0 : decode cX6_readSteps 0 = .ok (.iconst 0, 1) := by decide +kernel
theorem dX6_readSteps_1 : decode cX6_readSteps 1 = .ok (.istore_n 3, 1) := by decide +kernel
theorem dX6_readSteps_2 : decode cX6_readSteps 2 = .ok (.iload_n 3, 1) := by decide +kernel
theorem dX6_readSteps_3 : decode cX6_readSteps 3 = .ok (.bipush 30, 2) := by decide +kernel
theorem dX6_readSteps_5 : decode cX6_readSteps 5 = .ok (.if_icmp .gt 54, 3) := by decide +kernel
theorem dX6_readSteps_8 : decode cX6_readSteps 8 = .ok (.aload_n 1, 1) := by decide +kernel
theorem dX6_readSteps_9 : decode cX6_readSteps 9 = .ok (.invokevirtual 38, 3) := by decide +kernel
theorem dX6_readSteps_12 : decode cX6_readSteps 12 = .ok (.istore 4, 2) := by decide +kernel
theorem dX6_readSteps_14 : decode cX6_readSteps 14 = .ok (.iload 4, 2) := by decide +kernel
theorem dX6_readSteps_16 : decode cX6_readSteps 16 = .ok (.iconst (-1), 1) := by decide +kernel
theorem dX6_readSteps_17 : decode cX6_readSteps 17 = .ok (.if_icmp .eq 14, 3) := by decide +kernel
theorem dX6_readSteps_20 : decode cX6_readSteps 20 = .ok (.iload_n 2, 1) := by decide +kernel
theorem dX6_readSteps_21 : decode cX6_readSteps 21 = .ok (.ifCond .le 12, 3) := by decide +kernel
theorem dX6_readSteps_24 : decode cX6_readSteps 24 = .ok (.iload 4, 2) := by decide +kernel
theorem dX6_readSteps_26 : decode cX6_readSteps 26 = .ok (.bipush 93, 2) := by decide +kernel
theorem dX6_readSteps_28 : decode cX6_readSteps 28 = .ok (.if_icmp .ne 5, 3) := by decide +kernel
theorem dX6_readSteps_31 : decode cX6_readSteps 31 = .ok (.iconst 1, 1) := by decide +kernel
theorem dX6_readSteps_32 : decode cX6_readSteps 32 = .ok (.ireturn, 1) := by decide +kernel
theorem dX6_readSteps_33 : decode cX6_readSteps 33 = .ok (.aload_n 0, 1) := by decide +kernel
theorem dX6_readSteps_34 : decode cX6_readSteps 34 = .ok (.aload_n 1, 1) := by decide +kernel
theorem dX6_readSteps_35 : decode cX6_readSteps 35 = .ok (.iload_n 2, 1) := by decide +kernel
theorem dX6_readSteps_36 : decode cX6_readSteps 36 = .ok (.invokevirtual 51, 3) := by decide +kernel
theorem dX6_readSteps_39 : decode cX6_readSteps 39 = .ok (.ifCond .eq 12, 3) := by decide +kernel
theorem dX6_readSteps_42 : decode cX6_readSteps 42 = .ok (.aload_n 1, 1) := by decide +kernel
theorem dX6_readSteps_43 : decode cX6_readSteps 43 = .ok (.bipush 59, 2) := by decide +kernel
theorem dX6_readSteps_45 : decode cX6_readSteps 45 = .ok (.invokevirtual 54, 3) := by decide +kernel
theorem dX6_readSteps_48 : decode cX6_readSteps 48 = .ok (.ifCond .ne 5, 3) := by decide +kernel
theorem dX6_readSteps_51 : decode cX6_readSteps 51 = .ok (.iconst 0, 1) := by decide +kernel
theorem dX6_readSteps_52 : decode cX6_readSteps 52 = .ok (.ireturn, 1) := by decide +kernel
theorem dX6_readSteps_53 : decode cX6_readSteps 53 = .ok (.iinc 3 1, 3) := by decide +kernel
theorem dX6_readSteps_56 : decode cX6_readSteps 56 = .ok (.goto (-54), 3) := by decide +kernel
theorem dX6_readSteps_59 : decode cX6_readSteps 59 = .ok (.iconst 1, 1) := by decide +kernel
theorem dX6_readSteps_60 : decode cX6_readSteps 60 = .ok (.ireturn, 1) := by decide +kernel
theorem dX6_readFrom_0 : decode cX6_readFrom 0 = .ok (.aload_n 0, 1) := by decide +kernel
theorem dX6_readFrom_1 : decode cX6_readFrom 1 = .ok (.iconst 0, 1) := by decide +kernel
theorem dX6_readFrom_2 : decode cX6_readFrom 2 = .ok (.putfield 27, 3) := by decide +kernel
theorem dX6_readFrom_5 : decode cX6_readFrom 5 = .ok (.aload_n 0, 1) := by decide +kernel
theorem dX6_readFrom_6 : decode cX6_readFrom 6 = .ok (.iload_n 2, 1) := by decide +kernel
theorem dX6_readFrom_7 : decode cX6_readFrom 7 = .ok (.putfield 31, 3) := by decide +kernel
theorem dX6_readFrom_10 : decode cX6_readFrom 10 = .ok (.aload_n 0, 1) := by decide +kernel
theorem dX6_readFrom_11 : decode cX6_readFrom 11 = .ok (.aload_n 1, 1) := by decide +kernel
theorem dX6_readFrom_12 : decode cX6_readFrom 12 = .ok (.iconst 0, 1) := by decide +kernel
theorem dX6_readFrom_13 : decode cX6_readFrom 13 = .ok (.invokevirtual 34, 3) := by decide +kernel
theorem dX6_readFrom_16 : decode cX6_readFrom 16 = .ok (.ifCond .eq 27, 3) := by decide +kernel
theorem dX6_readFrom_19 : decode cX6_readFrom 19 = .ok (.aload_n 1, 1) := by decide +kernel
theorem dX6_readFrom_20 : decode cX6_readFrom 20 = .ok (.invokevirtual 38, 3) := by decide +kernel
theorem dX6_readFrom_23 : decode cX6_readFrom 23 = .ok (.iconst (-1), 1) := by decide +kernel
theorem dX6_readFrom_24 : decode cX6_readFrom 24 = .ok (.if_icmp .eq 15, 3) := by decide +kernel
theorem dX6_readFrom_27 : decode cX6_readFrom 27 = .ok (.aload_n 1, 1) := by decide +kernel
theorem dX6_readFrom_28 : decode cX6_readFrom 28 = .ok (.iconst 1, 1) := by decide +kernel
theorem dX6_readFrom_29 : decode cX6_readFrom 29 = .ok (.aload_n 1, 1) := by decide +kernel
theorem dX6_readFrom_30 : decode cX6_readFrom 30 = .ok (.getfield 44, 3) := by decide +kernel
theorem dX6_readFrom_33 : decode cX6_readFrom 33 = .ok (.invokevirtual 47, 3) := by decide +kernel
theorem dX6_readFrom_36 : decode cX6_readFrom 36 = .ok (.ifCond .eq 7, 3) := by decide +kernel
theorem dX6_readFrom_39 : decode cX6_readFrom 39 = .ok (.iconst 1, 1) := by decide +kernel
theorem dX6_readFrom_40 : decode cX6_readFrom 40 = .ok (.goto 4, 3) := by decide +kernel
theorem dX6_readFrom_43 : decode cX6_readFrom 43 = .ok (.iconst 0, 1) := by decide +kernel
theorem dX6_readFrom_44 : decode cX6_readFrom 44 = .ok (.ireturn, 1) := by decide +kernel
theorem dX6_doStep_0 : decode cX6_doStep 0 = .ok (.aload_n 0, 1) := by decide +kernel
theorem dX6_doStep_1 : decode cX6_doStep 1 = .ok (.getfield 15, 3) := by decide +kernel
theorem dX6_doStep_4 : decode cX6_doStep 4 = .ok (.iload_n 2, 1) := by decide +kernel
theorem dX6_doStep_5 : decode cX6_doStep 5 = .ok (.iaload, 1) := by decide +kernel
theorem dX6_doStep_6 : decode cX6_doStep 6 = .ok (.istore_n 3, 1) := by decide +kernel
theorem dX6_doStep_7 : decode cX6_doStep 7 = .ok (.aload_n 0, 1) := by decide +kernel
theorem dX6_doStep_8 : decode cX6_doStep 8 = .ok (.getfield 11, 3) := by decide +kernel
theorem dX6_doStep_11 : decode cX6_doStep 11 = .ok (.iload_n 2, 1) := by decide +kernel
theorem dX6_doStep_12 : decode cX6_doStep 12 = .ok (.iaload, 1) := by decide +kernel
theorem dX6_doStep_13 : decode cX6_doStep 13 = .ok (.tableswitch 75 0 4 #[35, 53, 59, 64, 70], 35) := by decide +kernel
theorem dX6_doStep_48 : decode cX6_doStep 48 = .ok (.aload_n 1, 1) := by decide +kernel
theorem dX6_doStep_49 : decode cX6_doStep 49 = .ok (.iload_n 3, 1) := by decide +kernel
theorem dX6_doStep_50 : decode cX6_doStep 50 = .ok (.aload_n 0, 1) := by decide +kernel
theorem dX6_doStep_51 : decode cX6_doStep 51 = .ok (.getfield 18, 3) := by decide +kernel
theorem dX6_doStep_54 : decode cX6_doStep 54 = .ok (.iload_n 2, 1) := by decide +kernel
theorem dX6_doStep_55 : decode cX6_doStep 55 = .ok (.iaload, 1) := by decide +kernel
theorem dX6_doStep_56 : decode cX6_doStep 56 = .ok (.aload_n 0, 1) := by decide +kernel
theorem dX6_doStep_57 : decode cX6_doStep 57 = .ok (.getfield 21, 3) := by decide +kernel
theorem dX6_doStep_60 : decode cX6_doStep 60 = .ok (.iload_n 2, 1) := by decide +kernel
theorem dX6_doStep_61 : decode cX6_doStep 61 = .ok (.iaload, 1) := by decide +kernel
theorem dX6_doStep_62 : decode cX6_doStep 62 = .ok (.invokevirtual 134, 3) := by decide +kernel
theorem dX6_doStep_65 : decode cX6_doStep 65 = .ok (.ireturn, 1) := by decide +kernel
theorem dX6_doStep_66 : decode cX6_doStep 66 = .ok (.aload_n 1, 1) := by decide +kernel
theorem dX6_doStep_67 : decode cX6_doStep 67 = .ok (.iload_n 3, 1) := by decide +kernel
theorem dX6_doStep_68 : decode cX6_doStep 68 = .ok (.invokevirtual 139, 3) := by decide +kernel
theorem dX6_doStep_71 : decode cX6_doStep 71 = .ok (.ireturn, 1) := by decide +kernel
theorem dX6_doStep_72 : decode cX6_doStep 72 = .ok (.aload_n 1, 1) := by decide +kernel
theorem dX6_doStep_73 : decode cX6_doStep 73 = .ok (.invokevirtual 143, 3) := by decide +kernel
theorem dX6_doStep_76 : decode cX6_doStep 76 = .ok (.ireturn, 1) := by decide +kernel
theorem dX6_doStep_77 : decode cX6_doStep 77 = .ok (.aload_n 1, 1) := by decide +kernel
theorem dX6_doStep_78 : decode cX6_doStep 78 = .ok (.iload_n 3, 1) := by decide +kernel
theorem dX6_doStep_79 : decode cX6_doStep 79 = .ok (.invokevirtual 146, 3) := by decide +kernel
theorem dX6_doStep_82 : decode cX6_doStep 82 = .ok (.ireturn, 1) := by decide +kernel
theorem dX6_doStep_83 : decode cX6_doStep 83 = .ok (.aload_n 1, 1) := by decide +kernel
theorem dX6_doStep_84 : decode cX6_doStep 84 = .ok (.invokevirtual 149, 3) := by decide +kernel
theorem dX6_doStep_87 : decode cX6_doStep 87 = .ok (.ireturn, 1) := by decide +kernel
theorem dX6_doStep_88 : decode cX6_doStep 88 = .ok (.aload_n 1, 1) := by decide +kernel
theorem dX6_doStep_89 : decode cX6_doStep 89 = .ok (.iload_n 3, 1) := by decide +kernel
theorem dX6_doStep_90 : decode cX6_doStep 90 = .ok (.aload_n 0, 1) := by decide +kernel
theorem dX6_doStep_91 : decode cX6_doStep 91 = .ok (.getfield 18, 3) := by decide +kernel
theorem dX6_doStep_94 : decode cX6_doStep 94 = .ok (.iload_n 2, 1) := by decide +kernel
theorem dX6_doStep_95 : decode cX6_doStep 95 = .ok (.iaload, 1) := by decide +kernel
theorem dX6_doStep_96 : decode cX6_doStep 96 = .ok (.invokevirtual 152, 3) := by decide +kernel
theorem dX6_doStep_99 : decode cX6_doStep 99 = .ok (.ireturn, 1) := by decide +kernel
theorem dX6_countStep_0 : decode cX6_countStep 0 = .ok (.iload_n 1, 1) := by decide +kernel
theorem dX6_countStep_1 : decode cX6_countStep 1 = .ok (.ifCond .eq 16, 3) := by decide +kernel
theorem dX6_countStep_4 : decode cX6_countStep 4 = .ok (.aload_n 0, 1) := by decide +kernel
theorem dX6_countStep_5 : decode cX6_countStep 5 = .ok (.dup, 1) := by decide +kernel
theorem dX6_countStep_6 : decode cX6_countStep 6 = .ok (.getfield 110, 3) := by decide +kernel
theorem dX6_countStep_9 : decode cX6_countStep 9 = .ok (.iconst 1, 1) := by decide +kernel
theorem dX6_countStep_10 : decode cX6_countStep 10 = .ok (.iadd, 1) := by decide +kernel
theorem dX6_countStep_11 : decode cX6_countStep 11 = .ok (.putfield 110, 3) := by decide +kernel
theorem dX6_countStep_14 : decode cX6_countStep 14 = .ok (.goto 13, 3) := by decide +kernel
theorem dX6_countStep_17 : decode cX6_countStep 17 = .ok (.aload_n 0, 1) := by decide +kernel
theorem dX6_countStep_18 : decode cX6_countStep 18 = .ok (.dup, 1) := by decide +kernel
theorem dX6_countStep_19 : decode cX6_countStep 19 = .ok (.getfield 113, 3) := by decide +kernel
theorem dX6_countStep_22 : decode cX6_countStep 22 = .ok (.iconst 1, 1) := by decide +kernel
theorem dX6_countStep_23 : decode cX6_countStep 23 = .ok (.iadd, 1) := by decide +kernel
theorem dX6_countStep_24 : decode cX6_countStep 24 = .ok (.putfield 113, 3) := by decide +kernel
theorem dX6_countStep_27 : decode cX6_countStep 27 = .ok (.return_, 1) := by decide +kernel
theorem dX6_doSteps_0 : decode cX6_doSteps 0 = .ok (.iload 4, 2) := by decide +kernel
theorem dX6_doSteps_2 : decode cX6_doSteps 2 = .ok (.bipush 6, 2) := by decide +kernel
theorem dX6_doSteps_4 : decode cX6_doSteps 4 = .ok (.if_icmp .le 4, 3) := by decide +kernel
theorem dX6_doSteps_7 : decode cX6_doSteps 7 = .ok (.return_, 1) := by decide +kernel
theorem dX6_doSteps_8 : decode cX6_doSteps 8 = .ok (.iload_n 2, 1) := by decide +kernel
theorem dX6_doSteps_9 : decode cX6_doSteps 9 = .ok (.istore 5, 2) := by decide +kernel
theorem dX6_doSteps_11 : decode cX6_doSteps 11 = .ok (.iload 5, 2) := by decide +kernel
theorem dX6_doSteps_13 : decode cX6_doSteps 13 = .ok (.iload_n 3, 1) := by decide +kernel
theorem dX6_doSteps_14 : decode cX6_doSteps 14 = .ok (.if_icmp .ge 119, 3) := by decide +kernel
theorem dX6_doSteps_17 : decode cX6_doSteps 17 = .ok (.aload_n 0, 1) := by decide +kernel
theorem dX6_doSteps_18 : decode cX6_doSteps 18 = .ok (.getfield 107, 3) := by decide +kernel
theorem dX6_doSteps_21 : decode cX6_doSteps 21 = .ok (.sipush 200, 3) := by decide +kernel
theorem dX6_doSteps_24 : decode cX6_doSteps 24 = .ok (.if_icmp .ge 109, 3) := by decide +kernel
theorem dX6_doSteps_27 : decode cX6_doSteps 27 = .ok (.aload_n 0, 1) := by decide +kernel
theorem dX6_doSteps_28 : decode cX6_doSteps 28 = .ok (.dup, 1) := by decide +kernel
theorem dX6_doSteps_29 : decode cX6_doSteps 29 = .ok (.getfield 107, 3) := by decide +kernel
theorem dX6_doSteps_32 : decode cX6_doSteps 32 = .ok (.iconst 1, 1) := by decide +kernel
theorem dX6_doSteps_33 : decode cX6_doSteps 33 = .ok (.iadd, 1) := by decide +kernel
theorem dX6_doSteps_34 : decode cX6_doSteps 34 = .ok (.putfield 107, 3) := by decide +kernel
theorem dX6_doSteps_37 : decode cX6_doSteps 37 = .ok (.aload_n 0, 1) := by decide +kernel
theorem dX6_doSteps_38 : decode cX6_doSteps 38 = .ok (.getfield 11, 3) := by decide +kernel
theorem dX6_doSteps_41 : decode cX6_doSteps 41 = .ok (.iload 5, 2) := by decide +kernel
theorem dX6_doSteps_43 : decode cX6_doSteps 43 = .ok (.iaload, 1) := by decide +kernel
theorem dX6_doSteps_44 : decode cX6_doSteps 44 = .ok (.bipush 6, 2) := by decide +kernel
theorem dX6_doSteps_46 : decode cX6_doSteps 46 = .ok (.if_icmp .eq 17, 3) := by decide +kernel
theorem dX6_doSteps_49 : decode cX6_doSteps 49 = .ok (.aload_n 0, 1) := by decide +kernel
theorem dX6_doSteps_50 : decode cX6_doSteps 50 = .ok (.aload_n 0, 1) := by decide +kernel
theorem dX6_doSteps_51 : decode cX6_doSteps 51 = .ok (.aload_n 1, 1) := by decide +kernel
theorem dX6_doSteps_52 : decode cX6_doSteps 52 = .ok (.iload 5, 2) := by decide +kernel
theorem dX6_doSteps_54 : decode cX6_doSteps 54 = .ok (.invokevirtual 120, 3) := by decide +kernel
theorem dX6_doSteps_57 : decode cX6_doSteps 57 = .ok (.invokevirtual 124, 3) := by decide +kernel
theorem dX6_doSteps_60 : decode cX6_doSteps 60 = .ok (.goto 54, 3) := by decide +kernel
theorem dX6_doSteps_63 : decode cX6_doSteps 63 = .ok (.iconst 0, 1) := by decide +kernel
theorem dX6_doSteps_64 : decode cX6_doSteps 64 = .ok (.istore 6, 2) := by decide +kernel
theorem dX6_doSteps_66 : decode cX6_doSteps 66 = .ok (.iload 6, 2) := by decide +kernel
theorem dX6_doSteps_68 : decode cX6_doSteps 68 = .ok (.aload_n 0, 1) := by decide +kernel
theorem dX6_doSteps_69 : decode cX6_doSteps 69 = .ok (.getfield 15, 3) := by decide +kernel
theorem dX6_doSteps_72 : decode cX6_doSteps 72 = .ok (.iload 5, 2) := by decide +kernel
theorem dX6_doSteps_74 : decode cX6_doSteps 74 = .ok (.iaload, 1) := by decide +kernel
theorem dX6_doSteps_75 : decode cX6_doSteps 75 = .ok (.if_icmp .ge 39, 3) := by decide +kernel
theorem dX6_doSteps_78 : decode cX6_doSteps 78 = .ok (.aload_n 0, 1) := by decide +kernel
theorem dX6_doSteps_79 : decode cX6_doSteps 79 = .ok (.getfield 107, 3) := by decide +kernel
theorem dX6_doSteps_82 : decode cX6_doSteps 82 = .ok (.sipush 200, 3) := by decide +kernel
theorem dX6_doSteps_85 : decode cX6_doSteps 85 = .ok (.if_icmp .ge 29, 3) := by decide +kernel
theorem dX6_doSteps_88 : decode cX6_doSteps 88 = .ok (.aload_n 0, 1) := by decide +kernel
theorem dX6_doSteps_89 : decode cX6_doSteps 89 = .ok (.aload_n 1, 1) := by decide +kernel
theorem dX6_doSteps_90 : decode cX6_doSteps 90 = .ok (.iload 5, 2) := by decide +kernel
theorem dX6_doSteps_92 : decode cX6_doSteps 92 = .ok (.iconst 1, 1) := by decide +kernel
theorem dX6_doSteps_93 : decode cX6_doSteps 93 = .ok (.iadd, 1) := by decide +kernel
theorem dX6_doSteps_94 : decode cX6_doSteps 94 = .ok (.aload_n 0, 1) := by decide +kernel
theorem dX6_doSteps_95 : decode cX6_doSteps 95 = .ok (.getfield 24, 3) := by decide +kernel
theorem dX6_doSteps_98 : decode cX6_doSteps 98 = .ok (.iload 5, 2) := by decide +kernel
theorem dX6_doSteps_100 : decode cX6_doSteps 100 = .ok (.iaload, 1) := by decide +kernel
theorem dX6_doSteps_101 : decode cX6_doSteps 101 = .ok (.iload 4, 2) := by decide +kernel
theorem dX6_doSteps_103 : decode cX6_doSteps 103 = .ok (.iconst 1, 1) := by decide +kernel
theorem dX6_doSteps_104 : decode cX6_doSteps 104 = .ok (.iadd, 1) := by decide +kernel
theorem dX6_doSteps_105 : decode cX6_doSteps 105 = .ok (.invokevirtual 116, 3) := by decide +kernel
theorem dX6_doSteps_108 : decode cX6_doSteps 108 = .ok (.iinc 6 1, 3) := by decide +kernel
theorem dX6_doSteps_111 : decode cX6_doSteps 111 = .ok (.goto (-45), 3) := by decide +kernel
theorem dX6_doSteps_114 : decode cX6_doSteps 114 = .ok (.iload 5, 2) := by decide +kernel
theorem dX6_doSteps_116 : decode cX6_doSteps 116 = .ok (.iconst 1, 1) := by decide +kernel
theorem dX6_doSteps_117 : decode cX6_doSteps 117 = .ok (.iadd, 1) := by decide +kernel
theorem dX6_doSteps_118 : decode cX6_doSteps 118 = .ok (.aload_n 0, 1) := by decide +kernel
theorem dX6_doSteps_119 : decode cX6_doSteps 119 = .ok (.getfield 24, 3) := by decide +kernel
theorem dX6_doSteps_122 : decode cX6_doSteps 122 = .ok (.iload 5, 2) := by decide +kernel
theorem dX6_doSteps_124 : decode cX6_doSteps 124 = .ok (.iaload, 1) := by decide +kernel
theorem dX6_doSteps_125 : decode cX6_doSteps 125 = .ok (.invokestatic 128, 3) := by decide +kernel
theorem dX6_doSteps_128 : decode cX6_doSteps 128 = .ok (.istore 5, 2) := by decide +kernel
theorem dX6_doSteps_130 : decode cX6_doSteps 130 = .ok (.goto (-119), 3) := by decide +kernel
theorem dX6_doSteps_133 : decode cX6_doSteps 133 = .ok (.return_, 1) := by decide +kernel
theorem dX6_doAll_0 : decode cX6_doAll 0 = .ok (.aload_n 0, 1) := by decide +kernel
theorem dX6_doAll_1 : decode cX6_doAll 1 = .ok (.iconst 0, 1) := by decide +kernel
theorem dX6_doAll_2 : decode cX6_doAll 2 = .ok (.putfield 107, 3) := by decide +kernel
theorem dX6_doAll_5 : decode cX6_doAll 5 = .ok (.aload_n 0, 1) := by decide +kernel
theorem dX6_doAll_6 : decode cX6_doAll 6 = .ok (.iconst 0, 1) := by decide +kernel
theorem dX6_doAll_7 : decode cX6_doAll 7 = .ok (.putfield 110, 3) := by decide +kernel
theorem dX6_doAll_10 : decode cX6_doAll 10 = .ok (.aload_n 0, 1) := by decide +kernel
theorem dX6_doAll_11 : decode cX6_doAll 11 = .ok (.iconst 0, 1) := by decide +kernel
theorem dX6_doAll_12 : decode cX6_doAll 12 = .ok (.putfield 113, 3) := by decide +kernel
theorem dX6_doAll_15 : decode cX6_doAll 15 = .ok (.aload_n 0, 1) := by decide +kernel
theorem dX6_doAll_16 : decode cX6_doAll 16 = .ok (.aload_n 1, 1) := by decide +kernel
theorem dX6_doAll_17 : decode cX6_doAll 17 = .ok (.iconst 0, 1) := by decide +kernel
theorem dX6_doAll_18 : decode cX6_doAll 18 = .ok (.aload_n 0, 1) := by decide +kernel
theorem dX6_doAll_19 : decode cX6_doAll 19 = .ok (.getfield 27, 3) := by decide +kernel
theorem dX6_doAll_22 : decode cX6_doAll 22 = .ok (.iconst 0, 1) := by decide +kernel
theorem dX6_doAll_23 : decode cX6_doAll 23 = .ok (.invokevirtual 116, 3) := by decide +kernel
theorem dX6_doAll_26 : decode cX6_doAll 26 = .ok (.return_, 1) := by decide +kernel
theorem dX7_init_0 : decode cX7_init 0 = .ok (.aload_n 0, 1) := by decide +kernel
theorem dX7_init_1 : decode cX7_init 1 = .ok (.invokespecial 3, 3) := by decide +kernel
theorem dX7_init_4 : decode cX7_init 4 = .ok (.aload_n 0, 1) := by decide +kernel
theorem dX7_init_5 : decode cX7_init 5 = .ok (.sipush 600, 3) := by decide +kernel
theorem dX7_init_8 : decode cX7_init 8 = .ok (.newarray .int, 2) := by decide +kernel
theorem dX7_init_10 : decode cX7_init 10 = .ok (.putfield 9, 3) := by decide +kernel
theorem dX7_init_13 : decode cX7_init 13 = .ok (.aload_n 0, 1) := by decide +kernel
theorem dX7_init_14 : decode cX7_init 14 = .ok (.iconst (-1), 1) := by decide +kernel
theorem dX7_init_15 : decode cX7_init 15 = .ok (.putfield 15, 3) := by decide +kernel
theorem dX7_init_18 : decode cX7_init 18 = .ok (.return_, 1) := by decide +kernel
theorem dX7_put_0 : decode cX7_put 0 = .ok (.bipush 24, 2) := by decide +kernel
theorem dX7_put_2 : decode cX7_put 2 = .ok (.istore_n 2, 1) := by decide +kernel
theorem dX7_put_3 : decode cX7_put 3 = .ok (.iload_n 2, 1) := by decide +kernel
theorem dX7_put_4 : decode cX7_put 4 = .ok (.ifCond .lt 45, 3) := by decide +kernel
theorem dX7_put_7 : decode cX7_put 7 = .ok (.aload_n 0, 1) := by decide +kernel
theorem dX7_put_8 : decode cX7_put 8 = .ok (.getfield 19, 3) := by decide +kernel
theorem dX7_put_11 : decode cX7_put 11 = .ok (.sipush 600, 3) := by decide +kernel
theorem dX7_put_14 : decode cX7_put 14 = .ok (.if_icmp .ge 35, 3) := by decide +kernel
theorem dX7_put_17 : decode cX7_put 17 = .ok (.aload_n 0, 1) := by decide +kernel
theorem dX7_put_18 : decode cX7_put 18 = .ok (.getfield 9, 3) := by decide +kernel
theorem dX7_put_21 : decode cX7_put 21 = .ok (.aload_n 0, 1) := by decide +kernel
theorem dX7_put_22 : decode cX7_put 22 = .ok (.getfield 19, 3) := by decide +kernel
theorem dX7_put_25 : decode cX7_put 25 = .ok (.iload_n 1, 1) := by decide +kernel
theorem dX7_put_26 : decode cX7_put 26 = .ok (.iload_n 2, 1) := by decide +kernel
theorem dX7_put_27 : decode cX7_put 27 = .ok (.iushr, 1) := by decide +kernel
theorem dX7_put_28 : decode cX7_put 28 = .ok (.sipush 255, 3) := by decide +kernel
theorem dX7_put_31 : decode cX7_put 31 = .ok (.iand, 1) := by decide +kernel
theorem dX7_put_32 : decode cX7_put 32 = .ok (.iastore, 1) := by decide +kernel
theorem dX7_put_33 : decode cX7_put 33 = .ok (.aload_n 0, 1) := by decide +kernel
theorem dX7_put_34 : decode cX7_put 34 = .ok (.dup, 1) := by decide +kernel
theorem dX7_put_35 : decode cX7_put 35 = .ok (.getfield 19, 3) := by decide +kernel
theorem dX7_put_38 : decode cX7_put 38 = .ok (.iconst 1, 1) := by decide +kernel
theorem dX7_put_39 : decode cX7_put 39 = .ok (.iadd, 1) := by decide +kernel
theorem dX7_put_40 : decode cX7_put 40 = .ok (.putfield 19, 3) := by decide +kernel
theorem dX7_put_43 : decode cX7_put 43 = .ok (.iinc 2 (-8), 3) := by decide +kernel
theorem dX7_put_46 : decode cX7_put 46 = .ok (.goto (-43), 3) := by decide +kernel
theorem dX7_put_49 : decode cX7_put 49 = .ok (.return_, 1) := by decide +kernel
theorem dX7_open_0 : decode cX7_open 0 = .ok (.aload_n 0, 1) := by decide +kernel
theorem dX7_open_1 : decode cX7_open 1 = .ok (.iload_n 1, 1) := by decide +kernel
theorem dX7_open_2 : decode cX7_open 2 = .ok (.sipush 600, 3) := by decide +kernel
theorem dX7_open_5 : decode cX7_open 5 = .ok (.invokestatic 22, 3) := by decide +kernel
theorem dX7_open_8 : decode cX7_open 8 = .ok (.putfield 28, 3) := by decide +kernel
theorem dX7_open_11 : decode cX7_open 11 = .ok (.aload_n 0, 1) := by decide +kernel
theorem dX7_open_12 : decode cX7_open 12 = .ok (.iconst 0, 1) := by decide +kernel
theorem dX7_open_13 : decode cX7_open 13 = .ok (.putfield 19, 3) := by decide +kernel
theorem dX7_open_16 : decode cX7_open 16 = .ok (.aload_n 0, 1) := by decide +kernel
theorem dX7_open_17 : decode cX7_open 17 = .ok (.iconst 0, 1) := by decide +kernel
theorem dX7_open_18 : decode cX7_open 18 = .ok (.putfield 31, 3) := by decide +kernel
theorem dX7_open_21 : decode cX7_open 21 = .ok (.aload_n 0, 1) := by decide +kernel
theorem dX7_open_22 : decode cX7_open 22 = .ok (.iconst 0, 1) := by decide +kernel
theorem dX7_open_23 : decode cX7_open 23 = .ok (.putfield 34, 3) := by decide +kernel
theorem dX7_open_26 : decode cX7_open 26 = .ok (.aload_n 0, 1) := by decide +kernel
theorem dX7_open_27 : decode cX7_open 27 = .ok (.iconst (-1), 1) := by decide +kernel
theorem dX7_open_28 : decode cX7_open 28 = .ok (.putfield 15, 3) := by decide +kernel
theorem dX7_open_31 : decode cX7_open 31 = .ok (.return_, 1) := by decide +kernel
