theorem dX0_init_0 : decode cX0_init 0 = .ok (.aload_n 0, 1) := by decide +kernel
theorem dX0_init_1 : decode cX0_init 1 = .ok (.invokespecial 3, 3) := by decide +kernel
theorem dX0_init_4 : decode cX0_init 4 = .ok (.aload_n 0, 1) := by decide +kernel
theorem dX0_init_5 : decode cX0_init 5 = .ok (.bipush 6, 2) := by decide +kernel
theorem dX0_init_7 : decode cX0_init 7 = .ok (.newarray .int, 2) := by decide +kernel
theorem dX0_init_9 : decode cX0_init 9 = .ok (.putfield 9, 3) := by decide +kernel
theorem dX0_init_12 : decode cX0_init 12 = .ok (.aload_n 0, 1) := by decide +kernel
theorem dX0_init_13 : decode cX0_init 13 = .ok (.iconst 4, 1) := by decide +kernel
theorem dX0_init_14 : decode cX0_init 14 = .ok (.newarray .int, 2) := by decide +kernel
theorem dX0_init_16 : decode cX0_init 16 = .ok (.putfield 15, 3) := by decide +kernel
theorem dX0_init_19 : decode cX0_init 19 = .ok (.aload_n 0, 1) := by decide +kernel
theorem dX0_init_20 : decode cX0_init 20 = .ok (.bipush 60, 2) := by decide +kernel
theorem dX0_init_22 : decode cX0_init 22 = .ok (.putfield 20, 3) := by decide +kernel
theorem dX0_init_25 : decode cX0_init 25 = .ok (.aload_n 0, 1) := by decide +kernel
theorem dX0_init_26 : decode cX0_init 26 = .ok (.aload_n 1, 1) := by decide +kernel
theorem dX0_init_27 : decode cX0_init 27 = .ok (.putfield 24, 3) := by decide +kernel
theorem dX0_init_30 : decode cX0_init 30 = .ok (.aload_n 0, 1) := by decide +kernel
theorem dX0_init_31 : decode cX0_init 31 = .ok (.aload_n 2, 1) := by decide +kernel
theorem dX0_init_32 : decode cX0_init 32 = .ok (.putfield 28, 3) := by decide +kernel
theorem dX0_init_35 : decode cX0_init 35 = .ok (.return_, 1) := by decide +kernel
theorem dX0_startAnew_0 : decode cX0_startAnew 0 = .ok (.iconst 0, 1) := by decide +kernel
theorem dX0_startAnew_1 : decode cX0_startAnew 1 = .ok (.istore_n 1, 1) := by decide +kernel
theorem dX0_startAnew_2 : decode cX0_startAnew 2 = .ok (.iload_n 1, 1) := by decide +kernel
theorem dX0_startAnew_3 : decode cX0_startAnew 3 = .ok (.bipush 6, 2) := by decide +kernel
theorem dX0_startAnew_5 : decode cX0_startAnew 5 = .ok (.if_icmp .ge 16, 3) := by decide +kernel
theorem dX0_startAnew_8 : decode cX0_startAnew 8 = .ok (.aload_n 0, 1) := by decide +kernel
theorem dX0_startAnew_9 : decode cX0_startAnew 9 = .ok (.getfield 9, 3) := by decide +kernel
theorem dX0_startAnew_12 : decode cX0_startAnew 12 = .ok (.iload_n 1, 1) := by decide +kernel
theorem dX0_startAnew_13 : decode cX0_startAnew 13 = .ok (.iconst 0, 1) := by decide +kernel
theorem dX0_startAnew_14 : decode cX0_startAnew 14 = .ok (.iastore, 1) := by decide +kernel
theorem dX0_startAnew_15 : decode cX0_startAnew 15 = .ok (.iinc 1 1, 3) := by decide +kernel
theorem dX0_startAnew_18 : decode cX0_startAnew 18 = .ok (.goto (-16), 3) := by decide +kernel
theorem dX0_startAnew_21 : decode cX0_startAnew 21 = .ok (.aload_n 0, 1) := by decide +kernel
theorem dX0_startAnew_22 : decode cX0_startAnew 22 = .ok (.getfield 24, 3) := by decide +kernel
theorem dX0_startAnew_25 : decode cX0_startAnew 25 = .ok (.getfield 32, 3) := by decide +kernel
theorem dX0_startAnew_28 : decode cX0_startAnew 28 = .ok (.iconst 0, 1) := by decide +kernel
theorem dX0_startAnew_29 : decode cX0_startAnew 29 = .ok (.aload_n 0, 1) := by decide +kernel
theorem dX0_startAnew_30 : decode cX0_startAnew 30 = .ok (.getfield 15, 3) := by decide +kernel
theorem dX0_startAnew_33 : decode cX0_startAnew 33 = .ok (.iconst 0, 1) := by decide +kernel
theorem dX0_startAnew_34 : decode cX0_startAnew 34 = .ok (.iconst 4, 1) := by decide +kernel
theorem dX0_startAnew_35 : decode cX0_startAnew 35 = .ok (.invokestatic 35, 3) := by decide +kernel
theorem dX0_startAnew_38 : decode cX0_startAnew 38 = .ok (.aload_n 0, 1) := by decide +kernel
theorem dX0_startAnew_39 : decode cX0_startAnew 39 = .ok (.iconst 0, 1) := by decide +kernel
theorem dX0_startAnew_40 : decode cX0_startAnew 40 = .ok (.putfield 41, 3) := by decide +kernel
theorem dX0_startAnew_43 : decode cX0_startAnew 43 = .ok (.aload_n 0, 1) := by decide +kernel
theorem dX0_startAnew_44 : decode cX0_startAnew 44 = .ok (.aload_n 0, 1) := by decide +kernel
theorem dX0_startAnew_45 : decode cX0_startAnew 45 = .ok (.getfield 24, 3) := by decide +kernel
theorem dX0_startAnew_48 : decode cX0_startAnew 48 = .ok (.getfield 44, 3) := by decide +kernel
theorem dX0_startAnew_51 : decode cX0_startAnew 51 = .ok (.putfield 20, 3) := by decide +kernel
theorem dX0_startAnew_54 : decode cX0_startAnew 54 = .ok (.aload_n 0, 1) := by decide +kernel
theorem dX0_startAnew_55 : decode cX0_startAnew 55 = .ok (.iconst 0, 1) := by decide +kernel
theorem dX0_startAnew_56 : decode cX0_startAnew 56 = .ok (.putfield 47, 3) := by decide +kernel
theorem dX0_startAnew_59 : decode cX0_startAnew 59 = .ok (.aload_n 0, 1) := by decide +kernel
theorem dX0_startAnew_60 : decode cX0_startAnew 60 = .ok (.iconst 0, 1) := by decide +kernel
theorem dX0_startAnew_61 : decode cX0_startAnew 61 = .ok (.putfield 50, 3) := by decide +kernel
theorem dX0_startAnew_64 : decode cX0_startAnew 64 = .ok (.return_, 1) := by decide +kernel
theorem dX0_takeOver_0 : decode cX0_takeOver 0 = .ok (.aload_n 1, 1) := by decide +kernel
theorem dX0_takeOver_1 : decode cX0_takeOver 1 = .ok (.getfield 9, 3) := by decide +kernel
theorem dX0_takeOver_4 : decode cX0_takeOver 4 = .ok (.iconst 0, 1) := by decide +kernel
theorem dX0_takeOver_5 : decode cX0_takeOver 5 = .ok (.aload_n 0, 1) := by decide +kernel
theorem dX0_takeOver_6 : decode cX0_takeOver 6 = .ok (.getfield 9, 3) := by decide +kernel
theorem dX0_takeOver_9 : decode cX0_takeOver 9 = .ok (.iconst 0, 1) := by decide +kernel
theorem dX0_takeOver_10 : decode cX0_takeOver 10 = .ok (.bipush 6, 2) := by decide +kernel
theorem dX0_takeOver_12 : decode cX0_takeOver 12 = .ok (.invokestatic 35, 3) := by decide +kernel
theorem dX0_takeOver_15 : decode cX0_takeOver 15 = .ok (.aload_n 1, 1) := by decide +kernel
theorem dX0_takeOver_16 : decode cX0_takeOver 16 = .ok (.getfield 15, 3) := by decide +kernel
theorem dX0_takeOver_19 : decode cX0_takeOver 19 = .ok (.iconst 0, 1) := by decide +kernel
theorem dX0_takeOver_20 : decode cX0_takeOver 20 = .ok (.aload_n 0, 1) := by decide +kernel
theorem dX0_takeOver_21 : decode cX0_takeOver 21 = .ok (.getfield 15, 3) := by decide +kernel
theorem dX0_takeOver_24 : decode cX0_takeOver 24 = .ok (.iconst 0, 1) := by decide +kernel
theorem dX0_takeOver_25 : decode cX0_takeOver 25 = .ok (.iconst 4, 1) := by decide +kernel
theorem dX0_takeOver_26 : decode cX0_takeOver 26 = .ok (.invokestatic 35, 3) := by decide +kernel
theorem dX0_takeOver_29 : decode cX0_takeOver 29 = .ok (.aload_n 0, 1) := by decide +kernel
theorem dX0_takeOver_30 : decode cX0_takeOver 30 = .ok (.aload_n 1, 1) := by decide +kernel
theorem dX0_takeOver_31 : decode cX0_takeOver 31 = .ok (.getfield 41, 3) := by decide +kernel
theorem dX0_takeOver_34 : decode cX0_takeOver 34 = .ok (.putfield 41, 3) := by decide +kernel
theorem dX0_takeOver_37 : decode cX0_takeOver 37 = .ok (.aload_n 0, 1) := by decide +kernel
theorem dX0_takeOver_38 : decode cX0_takeOver 38 = .ok (.aload_n 1, 1) := by decide +kernel
theorem dX0_takeOver_39 : decode cX0_takeOver 39 = .ok (.getfield 20, 3) := by decide +kernel
theorem dX0_takeOver_42 : decode cX0_takeOver 42 = .ok (.putfield 20, 3) := by decide +kernel
theorem dX0_takeOver_45 : decode cX0_takeOver 45 = .ok (.aload_n 0, 1) := by decide +kernel
theorem dX0_takeOver_46 : decode cX0_takeOver 46 = .ok (.aload_n 1, 1) := by decide +kernel
theorem dX0_takeOver_47 : decode cX0_takeOver 47 = .ok (.getfield 47, 3) := by decide +kernel
theorem dX0_takeOver_50 : decode cX0_takeOver 50 = .ok (.putfield 47, 3) := by decide +kernel
theorem dX0_takeOver_53 : decode cX0_takeOver 53 = .ok (.aload_n 0, 1) := by decide +kernel
theorem dX0_takeOver_54 : decode cX0_takeOver 54 = .ok (.aload_n 1, 1) := by decide +kernel
theorem dX0_takeOver_55 : decode cX0_takeOver 55 = .ok (.getfield 50, 3) := by decide +kernel
theorem dX0_takeOver_58 : decode cX0_takeOver 58 = .ok (.putfield 50, 3) := by decide +kernel
theorem dX0_takeOver_61 : decode cX0_takeOver 61 = .ok (.return_, 1) := by decide +kernel
theorem dX0_writeTo_0 : decode cX0_writeTo 0 = .ok (.aload_n 0, 1) := by decide +kernel
theorem dX0_writeTo_1 : decode cX0_writeTo 1 = .ok (.getfield 9, 3) := by decide +kernel
theorem dX0_writeTo_4 : decode cX0_writeTo 4 = .ok (.iconst 0, 1) := by decide +kernel
theorem dX0_writeTo_5 : decode cX0_writeTo 5 = .ok (.aload_n 1, 1) := by decide +kernel
theorem dX0_writeTo_6 : decode cX0_writeTo 6 = .ok (.iload_n 2, 1) := by decide +kernel
theorem dX0_writeTo_7 : decode cX0_writeTo 7 = .ok (.bipush 6, 2) := by decide +kernel
theorem dX0_writeTo_9 : decode cX0_writeTo 9 = .ok (.invokestatic 35, 3) := by decide +kernel
theorem dX0_writeTo_12 : decode cX0_writeTo 12 = .ok (.aload_n 0, 1) := by decide +kernel
theorem dX0_writeTo_13 : decode cX0_writeTo 13 = .ok (.getfield 15, 3) := by decide +kernel
theorem dX0_writeTo_16 : decode cX0_writeTo 16 = .ok (.iconst 0, 1) := by decide +kernel
theorem dX0_writeTo_17 : decode cX0_writeTo 17 = .ok (.aload_n 1, 1) := by decide +kernel
theorem dX0_writeTo_18 : decode cX0_writeTo 18 = .ok (.iload_n 2, 1) := by decide +kernel
theorem dX0_writeTo_19 : decode cX0_writeTo 19 = .ok (.bipush 6, 2) := by decide +kernel
theorem dX0_writeTo_21 : decode cX0_writeTo 21 = .ok (.iadd, 1) := by decide +kernel
theorem dX0_writeTo_22 : decode cX0_writeTo 22 = .ok (.iconst 4, 1) := by decide +kernel
theorem dX0_writeTo_23 : decode cX0_writeTo 23 = .ok (.invokestatic 35, 3) := by decide +kernel
theorem dX0_writeTo_26 : decode cX0_writeTo 26 = .ok (.iload_n 2, 1) := by decide +kernel
theorem dX0_writeTo_27 : decode cX0_writeTo 27 = .ok (.bipush 6, 2) := by decide +kernel
theorem dX0_writeTo_29 : decode cX0_writeTo 29 = .ok (.iadd, 1) := by decide +kernel
theorem dX0_writeTo_30 : decode cX0_writeTo 30 = .ok (.iconst 4, 1) := by decide +kernel
theorem dX0_writeTo_31 : decode cX0_writeTo 31 = .ok (.iadd, 1) := by decide +kernel
theorem dX0_writeTo_32 : decode cX0_writeTo 32 = .ok (.istore_n 3, 1) := by decide +kernel
theorem dX0_writeTo_33 : decode cX0_writeTo 33 = .ok (.aload_n 1, 1) := by decide +kernel
theorem dX0_writeTo_34 : decode cX0_writeTo 34 = .ok (.iload_n 3, 1) := by decide +kernel
theorem dX0_writeTo_35 : decode cX0_writeTo 35 = .ok (.aload_n 0, 1) := by decide +kernel
theorem dX0_writeTo_36 : decode cX0_writeTo 36 = .ok (.getfield 41, 3) := by decide +kernel
theorem dX0_writeTo_39 : decode cX0_writeTo 39 = .ok (.iastore, 1) := by decide +kernel
theorem dX0_writeTo_40 : decode cX0_writeTo 40 = .ok (.aload_n 1, 1) := by decide +kernel
theorem dX0_writeTo_41 : decode cX0_writeTo 41 = .ok (.iload_n 3, 1) := by decide +kernel
theorem dX0_writeTo_42 : decode cX0_writeTo 42 = .ok (.iconst 1, 1) := by decide +kernel
theorem dX0_writeTo_43 : decode cX0_writeTo 43 = .ok (.iadd, 1) := by decide +kernel
theorem dX0_writeTo_44 : decode cX0_writeTo 44 = .ok (.aload_n 0, 1) := by decide +kernel
theorem dX0_writeTo_45 : decode cX0_writeTo 45 = .ok (.getfield 20, 3) := by decide +kernel
theorem dX0_writeTo_48 : decode cX0_writeTo 48 = .ok (.iastore, 1) := by decide +kernel
theorem dX0_writeTo_49 : decode cX0_writeTo 49 = .ok (.aload_n 1, 1) := by decide +kernel
theorem dX0_writeTo_50 : decode cX0_writeTo 50 = .ok (.iload_n 3, 1) := by decide +kernel
theorem dX0_writeTo_51 : decode cX0_writeTo 51 = .ok (.iconst 2, 1) := by decide +kernel
theorem dX0_writeTo_52 : decode cX0_writeTo 52 = .ok (.iadd, 1) := by decide +kernel
theorem dX0_writeTo_53 : decode cX0_writeTo 53 = .ok (.aload_n 0, 1) := by decide +kernel
theorem dX0_writeTo_54 : decode cX0_writeTo 54 = .ok (.getfield 47, 3) := by decide +kernel
theorem dX0_writeTo_57 : decode cX0_writeTo 57 = .ok (.iastore, 1) := by decide +kernel
theorem dX0_writeTo_58 : decode cX0_writeTo 58 = .ok (.aload_n 1, 1) := by decide +kernel
theorem dX0_writeTo_59 : decode cX0_writeTo 59 = .ok (.iload_n 3, 1) := by decide +kernel
theorem dX0_writeTo_60 : decode cX0_writeTo 60 = .ok (.iconst 3, 1) := by decide +kernel
theorem dX0_writeTo_61 : decode cX0_writeTo 61 = .ok (.iadd, 1) := by decide +kernel
theorem dX0_writeTo_62 : decode cX0_writeTo 62 = .ok (.aload_n 0, 1) := by decide +kernel
theorem dX0_writeTo_63 : decode cX0_writeTo 63 = .ok (.getfield 50, 3) := by decide +kernel
theorem dX0_writeTo_66 : decode cX0_writeTo 66 = .ok (.iastore, 1) := by decide +kernel
theorem dX0_writeTo_67 : decode cX0_writeTo 67 = .ok (.return_, 1) := by decide +kernel
theorem dX0_readBack_0 : decode cX0_readBack 0 = .ok (.aload_n 1, 1) := by decide +kernel
theorem dX0_readBack_1 : decode cX0_readBack 1 = .ok (.iload_n 2, 1) := by decide +kernel
theorem dX0_readBack_2 : decode cX0_readBack 2 = .ok (.aload_n 0, 1) := by decide +kernel
theorem dX0_readBack_3 : decode cX0_readBack 3 = .ok (.getfield 9, 3) := by decide +kernel
theorem dX0_readBack_6 : decode cX0_readBack 6 = .ok (.iconst 0, 1) := by decide +kernel
theorem dX0_readBack_7 : decode cX0_readBack 7 = .ok (.bipush 6, 2) := by decide +kernel
theorem dX0_readBack_9 : decode cX0_readBack 9 = .ok (.invokestatic 35, 3) := by decide +kernel
theorem dX0_readBack_12 : decode cX0_readBack 12 = .ok (.aload_n 1, 1) := by decide +kernel
theorem dX0_readBack_13 : decode cX0_readBack 13 = .ok (.iload_n 2, 1) := by decide +kernel
theorem dX0_readBack_14 : decode cX0_readBack 14 = .ok (.bipush 6, 2) := by decide +kernel
theorem dX0_readBack_16 : decode cX0_readBack 16 = .ok (.iadd, 1) := by decide +kernel
theorem dX0_readBack_17 : decode cX0_readBack 17 = .ok (.aload_n 0, 1) := by decide +kernel
theorem dX0_readBack_18 : decode cX0_readBack 18 = .ok (.getfield 15, 3) := by decide +kernel
theorem dX0_readBack_21 : decode cX0_readBack 21 = .ok (.iconst 0, 1) := by decide +kernel
theorem dX0_readBack_22 : decode cX0_readBack 22 = .ok (.iconst 4, 1) := by decide +kernel
theorem dX0_readBack_23 : decode cX0_readBack 23 = .ok (.invokestatic 35, 3) := by decide +kernel
theorem dX0_readBack_26 : decode cX0_readBack 26 = .ok (.iload_n 2, 1) := by decide +kernel
theorem dX0_readBack_27 : decode cX0_readBack 27 = .ok (.bipush 6, 2) := by decide +kernel
theorem dX0_readBack_29 : decode cX0_readBack 29 = .ok (.iadd, 1) := by decide +kernel
theorem dX0_readBack_30 : decode cX0_readBack 30 = .ok (.iconst 4, 1) := by decide +kernel
theorem dX0_readBack_31 : decode cX0_readBack 31 = .ok (.iadd, 1) := by decide +kernel
theorem dX0_readBack_32 : decode cX0_readBack 32 = .ok (.istore_n 3, 1) := by decide +kernel
theorem dX0_readBack_33 : decode cX0_readBack 33 = .ok (.aload_n 0, 1) := by decide +kernel
theorem dX0_readBack_34 : decode cX0_readBack 34 = .ok (.aload_n 1, 1) := by decide +kernel
theorem dX0_readBack_35 : decode cX0_readBack 35 = .ok (.iload_n 3, 1) := by decide +kernel
theorem dX0_readBack_36 : decode cX0_readBack 36 = .ok (.iaload, 1) := by decide +kernel
theorem dX0_readBack_37 : decode cX0_readBack 37 = .ok (.putfield 41, 3) := by decide +kernel
theorem dX0_readBack_40 : decode cX0_readBack 40 = .ok (.aload_n 0, 1) := by decide +kernel
theorem dX0_readBack_41 : decode cX0_readBack 41 = .ok (.aload_n 1, 1) := by decide +kernel
theorem dX0_readBack_42 : decode cX0_readBack 42 = .ok (.iload_n 3, 1) := by decide +kernel
theorem dX0_readBack_43 : decode cX0_readBack 43 = .ok (.iconst 1, 1) := by decide +kernel
theorem dX0_readBack_44 : decode cX0_readBack 44 = .ok (.iadd, 1) := by decide +kernel
theorem dX0_readBack_45 : decode cX0_readBack 45 = .ok (.iaload, 1) := by decide +kernel
theorem dX0_readBack_46 : decode cX0_readBack 46 = .ok (.putfield 20, 3) := by decide +kernel
theorem dX0_readBack_49 : decode cX0_readBack 49 = .ok (.aload_n 0, 1) := by decide +kernel
theorem dX0_readBack_50 : decode cX0_readBack 50 = .ok (.aload_n 1, 1) := by decide +kernel
theorem dX0_readBack_51 : decode cX0_readBack 51 = .ok (.iload_n 3, 1) := by decide +kernel
theorem dX0_readBack_52 : decode cX0_readBack 52 = .ok (.iconst 2, 1) := by decide +kernel
theorem dX0_readBack_53 : decode cX0_readBack 53 = .ok (.iadd, 1) := by decide +kernel
theorem dX0_readBack_54 : decode cX0_readBack 54 = .ok (.iaload, 1) := by decide +kernel
theorem dX0_readBack_55 : decode cX0_readBack 55 = .ok (.putfield 47, 3) := by decide +kernel
theorem dX0_readBack_58 : decode cX0_readBack 58 = .ok (.aload_n 0, 1) := by decide +kernel
theorem dX0_readBack_59 : decode cX0_readBack 59 = .ok (.aload_n 1, 1) := by decide +kernel
theorem dX0_readBack_60 : decode cX0_readBack 60 = .ok (.iload_n 3, 1) := by decide +kernel
theorem dX0_readBack_61 : decode cX0_readBack 61 = .ok (.iconst 3, 1) := by decide +kernel
theorem dX0_readBack_62 : decode cX0_readBack 62 = .ok (.iadd, 1) := by decide +kernel
theorem dX0_readBack_63 : decode cX0_readBack 63 = .ok (.iaload, 1) := by decide +kernel
theorem dX0_readBack_64 : decode cX0_readBack 64 = .ok (.putfield 50, 3) := by decide +kernel
theorem dX0_readBack_67 : decode cX0_readBack 67 = .ok (.return_, 1) := by decide +kernel
theorem dX2_hasLine_0 : decode cX2_hasLine 0 = .ok (.iload_n 1, 1) := by decide +kernel
theorem dX2_hasLine_1 : decode cX2_hasLine 1 = .ok (.ifCond .lt 15, 3) := by decide +kernel
theorem dX2_hasLine_4 : decode cX2_hasLine 4 = .ok (.iload_n 1, 1) := by decide +kernel
theorem dX2_hasLine_5 : decode cX2_hasLine 5 = .ok (.aload_n 0, 1) := by decide +kernel
theorem dX2_hasLine_6 : decode cX2_hasLine 6 = .ok (.getfield 25, 3) := by decide +kernel
theorem dX2_hasLine_9 : decode cX2_hasLine 9 = .ok (.if_icmp .ge 7, 3) := by decide +kernel
theorem dX2_hasLine_12 : decode cX2_hasLine 12 = .ok (.iconst 1, 1) := by decide +kernel
theorem dX2_hasLine_13 : decode cX2_hasLine 13 = .ok (.goto 4, 3) := by decide +kernel
theorem dX2_hasLine_16 : decode cX2_hasLine 16 = .ok (.iconst 0, 1) := by decide +kernel
theorem dX2_hasLine_17 : decode cX2_hasLine 17 = .ok (.ireturn, 1) := by decide +kernel
theorem dX2_hasWord_0 : decode cX2_hasWord 0 = .ok (.aload_n 0, 1) := by decide +kernel
theorem dX2_hasWord_1 : decode cX2_hasWord 1 = .ok (.iload_n 1, 1) := by decide +kernel
theorem dX2_hasWord_2 : decode cX2_hasWord 2 = .ok (.invokevirtual 28, 3) := by decide +kernel
theorem dX2_hasWord_5 : decode cX2_hasWord 5 = .ok (.ifCond .eq 21, 3) := by decide +kernel
theorem dX2_hasWord_8 : decode cX2_hasWord 8 = .ok (.iload_n 2, 1) := by decide +kernel
theorem dX2_hasWord_9 : decode cX2_hasWord 9 = .ok (.ifCond .lt 17, 3) := by decide +kernel
theorem dX2_hasWord_12 : decode cX2_hasWord 12 = .ok (.iload_n 2, 1) := by decide +kernel
theorem dX2_hasWord_13 : decode cX2_hasWord 13 = .ok (.aload_n 0, 1) := by decide +kernel
theorem dX2_hasWord_14 : decode cX2_hasWord 14 = .ok (.getfield 9, 3) := by decide +kernel
theorem dX2_hasWord_17 : decode cX2_hasWord 17 = .ok (.iload_n 1, 1) := by decide +kernel
theorem dX2_hasWord_18 : decode cX2_hasWord 18 = .ok (.iaload, 1) := by decide +kernel
theorem dX2_hasWord_19 : decode cX2_hasWord 19 = .ok (.if_icmp .ge 7, 3) := by decide +kernel
theorem dX2_hasWord_22 : decode cX2_hasWord 22 = .ok (.iconst 1, 1) := by decide +kernel
theorem dX2_hasWord_23 : decode cX2_hasWord 23 = .ok (.goto 4, 3) := by decide +kernel
theorem dX2_hasWord_26 : decode cX2_hasWord 26 = .ok (.iconst 0, 1) := by decide +kernel
theorem dX2_hasWord_27 : decode cX2_hasWord 27 = .ok (.ireturn, 1) := by decide +kernel
theorem dX0_isLeft_0 : decode cX0_isLeft 0 = .ok (.aload_n 0, 1) := by decide +kernel
theorem dX0_isLeft_1 : decode cX0_isLeft 1 = .ok (.getfield 24, 3) := by decide +kernel
theorem dX0_isLeft_4 : decode cX0_isLeft 4 = .ok (.iload_n 1, 1) := by decide +kernel
theorem dX0_isLeft_5 : decode cX0_isLeft 5 = .ok (.iload_n 2, 1) := by decide +kernel
theorem dX0_isLeft_6 : decode cX0_isLeft 6 = .ok (.invokevirtual 53, 3) := by decide +kernel
theorem dX0_isLeft_9 : decode cX0_isLeft 9 = .ok (.ifCond .eq 20, 3) := by decide +kernel
theorem dX0_isLeft_12 : decode cX0_isLeft 12 = .ok (.aload_n 0, 1) := by decide +kernel
theorem dX0_isLeft_13 : decode cX0_isLeft 13 = .ok (.getfield 9, 3) := by decide +kernel
theorem dX0_isLeft_16 : decode cX0_isLeft 16 = .ok (.iload_n 1, 1) := by decide +kernel
theorem dX0_isLeft_17 : decode cX0_isLeft 17 = .ok (.iaload, 1) := by decide +kernel
theorem dX0_isLeft_18 : decode cX0_isLeft 18 = .ok (.iload_n 2, 1) := by decide +kernel
theorem dX0_isLeft_19 : decode cX0_isLeft 19 = .ok (.ishr, 1) := by decide +kernel
theorem dX0_isLeft_20 : decode cX0_isLeft 20 = .ok (.iconst 1, 1) := by decide +kernel
theorem dX0_isLeft_21 : decode cX0_isLeft 21 = .ok (.iand, 1) := by decide +kernel
theorem dX0_isLeft_22 : decode cX0_isLeft 22 = .ok (.ifCond .ne 7, 3) := by decide +kernel
theorem dX0_isLeft_25 : decode cX0_isLeft 25 = .ok (.iconst 1, 1) := by decide +kernel
theorem dX0_isLeft_26 : decode cX0_isLeft 26 = .ok (.goto 4, 3) := by decide +kernel
theorem dX0_isLeft_29 : decode cX0_isLeft 29 = .ok (.iconst 0, 1) := by decide +kernel
theorem dX0_isLeft_30 : decode cX0_isLeft 30 = .ok (.ireturn, 1) := by decide +kernel
theorem dJ6_bitCount_0f7a4_0 : decode cJ6_bitCount_0f7a4 0 = .ok (.iload_n 0, 1) := by decide +kernel
theorem dJ6_bitCount_0f7a4_1 : decode cJ6_bitCount_0f7a4 1 = .ok (.iload_n 0, 1) := by decide +kernel
theorem dJ6_bitCount_0f7a4_2 : decode cJ6_bitCount_0f7a4 2 = .ok (.iconst 1, 1) := by decide +kernel
theorem dJ6_bitCount_0f7a4_3 : decode cJ6_bitCount_0f7a4 3 = .ok (.iushr, 1) := by decide +kernel
theorem dJ6_bitCount_0f7a4_4 : decode cJ6_bitCount_0f7a4 4 = .ok (.ldc_w 265, 3) := by decide +kernel
theorem dJ6_bitCount_0f7a4_7 : decode cJ6_bitCount_0f7a4 7 = .ok (.iand, 1) := by decide +kernel
theorem dJ6_bitCount_0f7a4_8 : decode cJ6_bitCount_0f7a4 8 = .ok (.isub, 1) := by decide +kernel
theorem dJ6_bitCount_0f7a4_9 : decode cJ6_bitCount_0f7a4 9 = .ok (.istore_n 0, 1) := by decide +kernel
theorem dJ6_bitCount_0f7a4_10 : decode cJ6_bitCount_0f7a4 10 = .ok (.iload_n 0, 1) := by decide +kernel
theorem dJ6_bitCount_0f7a4_11 : decode cJ6_bitCount_0f7a4 11 = .ok (.ldc_w 266, 3) := by decide +kernel
theorem dJ6_bitCount_0f7a4_14 : decode cJ6_bitCount_0f7a4 14 = .ok (.iand, 1) := by decide +kernel
theorem dJ6_bitCount_0f7a4_15 : decode cJ6_bitCount_0f7a4 15 = .ok (.iload_n 0, 1) := by decide +kernel
theorem dJ6_bitCount_0f7a4_16 : decode cJ6_bitCount_0f7a4 16 = .ok (.iconst 2, 1) := by decide +kernel
theorem dJ6_bitCount_0f7a4_17 : decode cJ6_bitCount_0f7a4 17 = .ok (.iushr, 1) := by decide +kernel
theorem dJ6_bitCount_0f7a4_18 : decode cJ6_bitCount_0f7a4 18 = .ok (.ldc_w 266, 3) := by decide +kernel
theorem dJ6_bitCount_0f7a4_21 : decode cJ6_bitCount_0f7a4 21 = .ok (.iand, 1) := by decide +kernel
theorem dJ6_bitCount_0f7a4_22 : decode cJ6_bitCount_0f7a4 22 = .ok (.iadd, 1) := by decide +kernel
theorem dJ6_bitCount_0f7a4_23 : decode cJ6_bitCount_0f7a4 23 = .ok (.istore_n 0, 1) := by decide +kernel
theorem dJ6_bitCount_0f7a4_24 : decode cJ6_bitCount_0f7a4 24 = .ok (.iload_n 0, 1) := by decide +kernel
theorem dJ6_bitCount_0f7a4_25 : decode cJ6_bitCount_0f7a4 25 = .ok (.iload_n 0, 1) := by decide +kernel
theorem dJ6_bitCount_0f7a4_26 : decode cJ6_bitCount_0f7a4 26 = .ok (.iconst 4, 1) := by decide +kernel
theorem dJ6_bitCount_0f7a4_27 : decode cJ6_bitCount_0f7a4 27 = .ok (.iushr, 1) := by decide +kernel
theorem dJ6_bitCount_0f7a4_28 : decode cJ6_bitCount_0f7a4 28 = .ok (.iadd, 1) := by decide +kernel
theorem dJ6_bitCount_0f7a4_29 : decode cJ6_bitCount_0f7a4 29 = .ok (.ldc_w 267, 3) := by decide +kernel
theorem dJ6_bitCount_0f7a4_32 : decode cJ6_bitCount_0f7a4 32 = .ok (.iand, 1) := by decide +kernel
theorem dJ6_bitCount_0f7a4_33 : decode cJ6_bitCount_0f7a4 33 = .ok (.istore_n 0, 1) := by decide +kernel
theorem dJ6_bitCount_0f7a4_34 : decode cJ6_bitCount_0f7a4 34 = .ok (.iload_n 0, 1) := by decide +kernel
theorem dJ6_bitCount_0f7a4_35 : decode cJ6_bitCount_0f7a4 35 = .ok (.iload_n 0, 1) := by decide +kernel
theorem dJ6_bitCount_0f7a4_36 : decode cJ6_bitCount_0f7a4 36 = .ok (.bipush 8, 2) := by decide +kernel
theorem dJ6_bitCount_0f7a4_38 : decode cJ6_bitCount_0f7a4 38 = .ok (.iushr, 1) := by decide +kernel
theorem dJ6_bitCount_0f7a4_39 : decode cJ6_bitCount_0f7a4 39 = .ok (.iadd, 1) := by decide +kernel
theorem dJ6_bitCount_0f7a4_40 : decode cJ6_bitCount_0f7a4 40 = .ok (.istore_n 0, 1) := by decide +kernel
theorem dJ6_bitCount_0f7a4_41 : decode cJ6_bitCount_0f7a4 41 = .ok (.iload_n 0, 1) := by decide +kernel
theorem dJ6_bitCount_0f7a4_42 : decode cJ6_bitCount_0f7a4 42 = .ok (.iload_n 0, 1) := by decide +kernel
theorem dJ6_bitCount_0f7a4_43 : decode cJ6_bitCount_0f7a4 43 = .ok (.bipush 16, 2) := by decide +kernel
theorem dJ6_bitCount_0f7a4_45 : decode cJ6_bitCount_0f7a4 45 = .ok (.iushr, 1) := by decide +kernel
theorem dJ6_bitCount_0f7a4_46 : decode cJ6_bitCount_0f7a4 46 = .ok (.iadd, 1) := by decide +kernel
theorem dJ6_bitCount_0f7a4_47 : decode cJ6_bitCount_0f7a4 47 = .ok (.istore_n 0, 1) := by decide +kernel
theorem dJ6_bitCount_0f7a4_48 : decode cJ6_bitCount_0f7a4 48 = .ok (.iload_n 0, 1) := by decide +kernel
theorem dJ6_bitCount_0f7a4_49 : decode cJ6_bitCount_0f7a4 49 = .ok (.bipush 63, 2) := by decide +kernel
theorem dJ6_bitCount_0f7a4_51 : decode cJ6_bitCount_0f7a4 51 = .ok (.iand, 1) := by decide +kernel
theorem dJ6_bitCount_0f7a4_52 : decode cJ6_bitCount_0f7a4 52 = .ok (.ireturn, 1) := by decide +kernel
theorem dX0_leftIn_0 : decode cX0_leftIn 0 = .ok (.aload_n 0, 1) := by decide +kernel
theorem dX0_leftIn_1 : decode cX0_leftIn 1 = .ok (.getfield 24, 3) := by decide +kernel
theorem dX0_leftIn_4 : decode cX0_leftIn 4 = .ok (.iload_n 1, 1) := by decide +kernel
theorem dX0_leftIn_5 : decode cX0_leftIn 5 = .ok (.invokevirtual 57, 3) := by decide +kernel
theorem dX0_leftIn_8 : decode cX0_leftIn 8 = .ok (.ifCond .eq 25, 3) := by decide +kernel
theorem dX0_leftIn_11 : decode cX0_leftIn 11 = .ok (.aload_n 0, 1) := by decide +kernel
theorem dX0_leftIn_12 : decode cX0_leftIn 12 = .ok (.getfield 24, 3) := by decide +kernel
theorem dX0_leftIn_15 : decode cX0_leftIn 15 = .ok (.getfield 61, 3) := by decide +kernel
theorem dX0_leftIn_18 : decode cX0_leftIn 18 = .ok (.iload_n 1, 1) := by decide +kernel
theorem dX0_leftIn_19 : decode cX0_leftIn 19 = .ok (.iaload, 1) := by decide +kernel
theorem dX0_leftIn_20 : decode cX0_leftIn 20 = .ok (.aload_n 0, 1) := by decide +kernel
theorem dX0_leftIn_21 : decode cX0_leftIn 21 = .ok (.getfield 9, 3) := by decide +kernel
theorem dX0_leftIn_24 : decode cX0_leftIn 24 = .ok (.iload_n 1, 1) := by decide +kernel
theorem dX0_leftIn_25 : decode cX0_leftIn 25 = .ok (.iaload, 1) := by decide +kernel
theorem dX0_leftIn_26 : decode cX0_leftIn 26 = .ok (.invokestatic 64, 3) := by decide +kernel
theorem dX0_leftIn_29 : decode cX0_leftIn 29 = .ok (.isub, 1) := by decide +kernel
theorem dX0_leftIn_30 : decode cX0_leftIn 30 = .ok (.goto 4, 3) := by decide +kernel
theorem dX0_leftIn_33 : decode cX0_leftIn 33 = .ok (.iconst 0, 1) := by decide +kernel
theorem dX0_leftIn_34 : decode cX0_leftIn 34 = .ok (.ireturn, 1) := by decide +kernel
theorem dX0_leftInAll_0 : decode cX0_leftInAll 0 = .ok (.aload_n 0, 1) := by decide +kernel
theorem dX0_leftInAll_1 : decode cX0_leftInAll 1 = .ok (.getfield 24, 3) := by decide +kernel
theorem dX0_leftInAll_4 : decode cX0_leftInAll 4 = .ok (.getfield 70, 3) := by decide +kernel
theorem dX0_leftInAll_7 : decode cX0_leftInAll 7 = .ok (.istore_n 1, 1) := by decide +kernel
theorem dX0_leftInAll_8 : decode cX0_leftInAll 8 = .ok (.iconst 0, 1) := by decide +kernel
theorem dX0_leftInAll_9 : decode cX0_leftInAll 9 = .ok (.istore_n 2, 1) := by decide +kernel
theorem dX0_leftInAll_10 : decode cX0_leftInAll 10 = .ok (.iload_n 2, 1) := by decide +kernel
theorem dX0_leftInAll_11 : decode cX0_leftInAll 11 = .ok (.aload_n 0, 1) := by decide +kernel
theorem dX0_leftInAll_12 : decode cX0_leftInAll 12 = .ok (.getfield 24, 3) := by decide +kernel
theorem dX0_leftInAll_15 : decode cX0_leftInAll 15 = .ok (.getfield 73, 3) := by decide +kernel
theorem dX0_leftInAll_18 : decode cX0_leftInAll 18 = .ok (.if_icmp .ge 21, 3) := by decide +kernel
theorem dX0_leftInAll_21 : decode cX0_leftInAll 21 = .ok (.iload_n 1, 1) := by decide +kernel
theorem dX0_leftInAll_22 : decode cX0_leftInAll 22 = .ok (.aload_n 0, 1) := by decide +kernel
theorem dX0_leftInAll_23 : decode cX0_leftInAll 23 = .ok (.getfield 9, 3) := by decide +kernel
theorem dX0_leftInAll_26 : decode cX0_leftInAll 26 = .ok (.iload_n 2, 1) := by decide +kernel
theorem dX0_leftInAll_27 : decode cX0_leftInAll 27 = .ok (.iaload, 1) := by decide +kernel
theorem dX0_leftInAll_28 : decode cX0_leftInAll 28 = .ok (.invokestatic 64, 3) := by decide +kernel
theorem dX0_leftInAll_31 : decode cX0_leftInAll 31 = .ok (.isub, 1) := by decide +kernel
theorem dX0_leftInAll_32 : decode cX0_leftInAll 32 = .ok (.istore_n 1, 1) := by decide +kernel
theorem dX0_leftInAll_33 : decode cX0_leftInAll 33 = .ok (.iinc 2 1, 3) := by decide +kernel
theorem dX0_leftInAll_36 : decode cX0_leftInAll 36 = .ok (.goto (-26), 3) := by decide +kernel
theorem dX0_leftInAll_39 : decode cX0_leftInAll 39 = .ok (.iload_n 1, 1) := by decide +kernel
theorem dX0_leftInAll_40 : decode cX0_leftInAll 40 = .ok (.ireturn, 1) := by decide +kernel
theorem dX0_leftBits_0 : decode cX0_leftBits 0 = .ok (.aload_n 0, 1) := by decide +kernel
theorem dX0_leftBits_1 : decode cX0_leftBits 1 = .ok (.getfield 24, 3) := by decide +kernel
theorem dX0_leftBits_4 : decode cX0_leftBits 4 = .ok (.iload_n 1, 1) := by decide +kernel
theorem dX0_leftBits_5 : decode cX0_leftBits 5 = .ok (.invokevirtual 57, 3) := by decide +kernel
theorem dX0_leftBits_8 : decode cX0_leftBits 8 = .ok (.ifCond .eq 28, 3) := by decide +kernel
theorem dX0_leftBits_11 : decode cX0_leftBits 11 = .ok (.iconst 1, 1) := by decide +kernel
theorem dX0_leftBits_12 : decode cX0_leftBits 12 = .ok (.aload_n 0, 1) := by decide +kernel
theorem dX0_leftBits_13 : decode cX0_leftBits 13 = .ok (.getfield 24, 3) := by decide +kernel
theorem dX0_leftBits_16 : decode cX0_leftBits 16 = .ok (.getfield 61, 3) := by decide +kernel
theorem dX0_leftBits_19 : decode cX0_leftBits 19 = .ok (.iload_n 1, 1) := by decide +kernel
theorem dX0_leftBits_20 : decode cX0_leftBits 20 = .ok (.iaload, 1) := by decide +kernel
theorem dX0_leftBits_21 : decode cX0_leftBits 21 = .ok (.ishl, 1) := by decide +kernel
theorem dX0_leftBits_22 : decode cX0_leftBits 22 = .ok (.iconst 1, 1) := by decide +kernel
theorem dX0_leftBits_23 : decode cX0_leftBits 23 = .ok (.isub, 1) := by decide +kernel
theorem dX0_leftBits_24 : decode cX0_leftBits 24 = .ok (.aload_n 0, 1) := by decide +kernel
theorem dX0_leftBits_25 : decode cX0_leftBits 25 = .ok (.getfield 9, 3) := by decide +kernel
theorem dX0_leftBits_28 : decode cX0_leftBits 28 = .ok (.iload_n 1, 1) := by decide +kernel
theorem dX0_leftBits_29 : decode cX0_leftBits 29 = .ok (.iaload, 1) := by decide +kernel
theorem dX0_leftBits_30 : decode cX0_leftBits 30 = .ok (.iconst (-1), 1) := by decide +kernel
theorem dX0_leftBits_31 : decode cX0_leftBits 31 = .ok (.ixor, 1) := by decide +kernel
theorem dX0_leftBits_32 : decode cX0_leftBits 32 = .ok (.iand, 1) := by decide +kernel
theorem dX0_leftBits_33 : decode cX0_leftBits 33 = .ok (.goto 4, 3) := by decide +kernel
theorem dX0_leftBits_36 : decode cX0_leftBits 36 = .ok (.iconst 0, 1) := by decide +kernel
theorem dX0_leftBits_37 : decode cX0_leftBits 37 = .ok (.ireturn, 1) := by decide +kernel
theorem dX2_wordAt_0 : decode cX2_wordAt 0 = .ok (.aload_n 0, 1) := by decide +kernel
theorem dX2_wordAt_1 : decode cX2_wordAt 1 = .ok (.iload_n 1, 1) := by decide +kernel
theorem dX2_wordAt_2 : decode cX2_wordAt 2 = .ok (.iload_n 2, 1) := by decide +kernel
theorem dX2_wordAt_3 : decode cX2_wordAt 3 = .ok (.invokevirtual 32, 3) := by decide +kernel
theorem dX2_wordAt_6 : decode cX2_wordAt 6 = .ok (.ifCond .eq 17, 3) := by decide +kernel
theorem dX2_wordAt_9 : decode cX2_wordAt 9 = .ok (.aload_n 0, 1) := by decide +kernel
theorem dX2_wordAt_10 : decode cX2_wordAt 10 = .ok (.getfield 15, 3) := by decide +kernel
theorem dX2_wordAt_13 : decode cX2_wordAt 13 = .ok (.iload_n 1, 1) := by decide +kernel
theorem dX2_wordAt_14 : decode cX2_wordAt 14 = .ok (.bipush 8, 2) := by decide +kernel
theorem dX2_wordAt_16 : decode cX2_wordAt 16 = .ok (.imul, 1) := by decide +kernel
theorem dX2_wordAt_17 : decode cX2_wordAt 17 = .ok (.iload_n 2, 1) := by decide +kernel
theorem dX2_wordAt_18 : decode cX2_wordAt 18 = .ok (.iadd, 1) := by decide +kernel
theorem dX2_wordAt_19 : decode cX2_wordAt 19 = .ok (.iaload, 1) := by decide +kernel
theorem dX2_wordAt_20 : decode cX2_wordAt 20 = .ok (.goto 4, 3) := by decide +kernel
theorem dX2_wordAt_23 : decode cX2_wordAt 23 = .ok (.iconst 0, 1) := by decide +kernel
theorem dX2_wordAt_24 : decode cX2_wordAt 24 = .ok (.ireturn, 1) := by decide +kernel
theorem dX0_lowestWord_0 : decode cX0_lowestWord 0 = .ok (.iload_n 2, 1) := by decide +kernel
theorem dX0_lowestWord_1 : decode cX0_lowestWord 1 = .ok (.ifCond .ne 7, 3) := by decide +kernel
theorem dX0_lowestWord_4 : decode cX0_lowestWord 4 = .ok (.iconst 0, 1) := by decide +kernel
theorem dX0_lowestWord_5 : decode cX0_lowestWord 5 = .ok (.goto 20, 3) := by decide +kernel
theorem dX0_lowestWord_8 : decode cX0_lowestWord 8 = .ok (.aload_n 0, 1) := by decide +kernel
theorem dX0_lowestWord_9 : decode cX0_lowestWord 9 = .ok (.getfield 24, 3) := by decide +kernel
theorem dX0_lowestWord_12 : decode cX0_lowestWord 12 = .ok (.iload_n 1, 1) := by decide +kernel
theorem dX0_lowestWord_13 : decode cX0_lowestWord 13 = .ok (.iload_n 2, 1) := by decide +kernel
theorem dX0_lowestWord_14 : decode cX0_lowestWord 14 = .ok (.iload_n 2, 1) := by decide +kernel
theorem dX0_lowestWord_15 : decode cX0_lowestWord 15 = .ok (.ineg, 1) := by decide +kernel
theorem dX0_lowestWord_16 : decode cX0_lowestWord 16 = .ok (.iand, 1) := by decide +kernel
theorem dX0_lowestWord_17 : decode cX0_lowestWord 17 = .ok (.iconst 1, 1) := by decide +kernel
theorem dX0_lowestWord_18 : decode cX0_lowestWord 18 = .ok (.isub, 1) := by decide +kernel
theorem dX0_lowestWord_19 : decode cX0_lowestWord 19 = .ok (.invokestatic 64, 3) := by decide +kernel
theorem dX0_lowestWord_22 : decode cX0_lowestWord 22 = .ok (.invokevirtual 83, 3) := by decide +kernel
theorem dX0_lowestWord_25 : decode cX0_lowestWord 25 = .ok (.ireturn, 1) := by decide +kernel
theorem dX0_firstLeft_0 : decode cX0_firstLeft 0 = .ok (.aload_n 0, 1) := by decide +kernel
theorem dX0_firstLeft_1 : decode cX0_firstLeft 1 = .ok (.iload_n 1, 1) := by decide +kernel
theorem dX0_firstLeft_2 : decode cX0_firstLeft 2 = .ok (.invokevirtual 76, 3) := by decide +kernel
theorem dX0_firstLeft_5 : decode cX0_firstLeft 5 = .ok (.istore_n 2, 1) := by decide +kernel
theorem dX0_firstLeft_6 : decode cX0_firstLeft 6 = .ok (.iload_n 2, 1) := by decide +kernel
theorem dX0_firstLeft_7 : decode cX0_firstLeft 7 = .ok (.ifCond .ne 7, 3) := by decide +kernel
theorem dX0_firstLeft_10 : decode cX0_firstLeft 10 = .ok (.iconst (-1), 1) := by decide +kernel
theorem dX0_firstLeft_11 : decode cX0_firstLeft 11 = .ok (.goto 9, 3) := by decide +kernel
theorem dX0_firstLeft_14 : decode cX0_firstLeft 14 = .ok (.aload_n 0, 1) := by decide +kernel
theorem dX0_firstLeft_15 : decode cX0_firstLeft 15 = .ok (.iload_n 1, 1) := by decide +kernel
theorem dX0_firstLeft_16 : decode cX0_firstLeft 16 = .ok (.iload_n 2, 1) := by decide +kernel
theorem dX0_firstLeft_17 : decode cX0_firstLeft 17 = .ok (.invokevirtual 79, 3) := by decide +kernel
theorem dX0_firstLeft_20 : decode cX0_firstLeft 20 = .ok (.ireturn, 1) := by decide +kernel
theorem dX0_sumOfLeft_0 : decode cX0_sumOfLeft 0 = .ok (.aload_n 0, 1) := by decide +kernel
theorem dX0_sumOfLeft_1 : decode cX0_sumOfLeft 1 = .ok (.iload_n 1, 1) := by decide +kernel
theorem dX0_sumOfLeft_2 : decode cX0_sumOfLeft 2 = .ok (.invokevirtual 76, 3) := by decide +kernel
theorem dX0_sumOfLeft_5 : decode cX0_sumOfLeft 5 = .ok (.istore_n 2, 1) := by decide +kernel
theorem dX0_sumOfLeft_6 : decode cX0_sumOfLeft 6 = .ok (.iconst 0, 1) := by decide +kernel
theorem dX0_sumOfLeft_7 : decode cX0_sumOfLeft 7 = .ok (.istore_n 3, 1) := by decide +kernel
theorem dX0_sumOfLeft_8 : decode cX0_sumOfLeft 8 = .ok (.iconst 0, 1) := by decide +kernel
theorem dX0_sumOfLeft_9 : decode cX0_sumOfLeft 9 = .ok (.istore 4, 2) := by decide +kernel
theorem dX0_sumOfLeft_11 : decode cX0_sumOfLeft 11 = .ok (.iload 4, 2) := by decide +kernel
theorem dX0_sumOfLeft_13 : decode cX0_sumOfLeft 13 = .ok (.bipush 8, 2) := by decide +kernel
theorem dX0_sumOfLeft_15 : decode cX0_sumOfLeft 15 = .ok (.if_icmp .ge 32, 3) := by decide +kernel
theorem dX0_sumOfLeft_18 : decode cX0_sumOfLeft 18 = .ok (.iload_n 2, 1) := by decide +kernel
theorem dX0_sumOfLeft_19 : decode cX0_sumOfLeft 19 = .ok (.iload 4, 2) := by decide +kernel
theorem dX0_sumOfLeft_21 : decode cX0_sumOfLeft 21 = .ok (.ishr, 1) := by decide +kernel
theorem dX0_sumOfLeft_22 : decode cX0_sumOfLeft 22 = .ok (.iconst 1, 1) := by decide +kernel
theorem dX0_sumOfLeft_23 : decode cX0_sumOfLeft 23 = .ok (.iand, 1) := by decide +kernel
theorem dX0_sumOfLeft_24 : decode cX0_sumOfLeft 24 = .ok (.iconst 1, 1) := by decide +kernel
theorem dX0_sumOfLeft_25 : decode cX0_sumOfLeft 25 = .ok (.if_icmp .ne 16, 3) := by decide +kernel
theorem dX0_sumOfLeft_28 : decode cX0_sumOfLeft 28 = .ok (.iload_n 3, 1) := by decide +kernel
theorem dX0_sumOfLeft_29 : decode cX0_sumOfLeft 29 = .ok (.aload_n 0, 1) := by decide +kernel
theorem dX0_sumOfLeft_30 : decode cX0_sumOfLeft 30 = .ok (.getfield 24, 3) := by decide +kernel
theorem dX0_sumOfLeft_33 : decode cX0_sumOfLeft 33 = .ok (.iload_n 1, 1) := by decide +kernel
theorem dX0_sumOfLeft_34 : decode cX0_sumOfLeft 34 = .ok (.iload 4, 2) := by decide +kernel
theorem dX0_sumOfLeft_36 : decode cX0_sumOfLeft 36 = .ok (.invokevirtual 83, 3) := by decide +kernel
theorem dX0_sumOfLeft_39 : decode cX0_sumOfLeft 39 = .ok (.iadd, 1) := by decide +kernel
theorem dX0_sumOfLeft_40 : decode cX0_sumOfLeft 40 = .ok (.istore_n 3, 1) := by decide +kernel
theorem dX0_sumOfLeft_41 : decode cX0_sumOfLeft 41 = .ok (.iinc 4 1, 3) := by decide +kernel
theorem dX0_sumOfLeft_44 : decode cX0_sumOfLeft 44 = .ok (.goto (-33), 3) := by decide +kernel
theorem dX0_sumOfLeft_47 : decode cX0_sumOfLeft 47 = .ok (.iload_n 3, 1) := by decide +kernel
theorem dX0_sumOfLeft_48 : decode cX0_sumOfLeft 48 = .ok (.ireturn, 1) := by decide +kernel
theorem dX0_timesSaid_0 : decode cX0_timesSaid 0 = .ok (.iconst 0, 1) := by decide +kernel
theorem dX0_timesSaid_1 : decode cX0_timesSaid 1 = .ok (.istore_n 2, 1) := by decide +kernel
theorem dX0_timesSaid_2 : decode cX0_timesSaid 2 = .ok (.iconst 0, 1) := by decide +kernel
theorem dX0_timesSaid_3 : decode cX0_timesSaid 3 = .ok (.istore_n 3, 1) := by decide +kernel
theorem dX0_timesSaid_4 : decode cX0_timesSaid 4 = .ok (.iload_n 3, 1) := by decide +kernel
theorem dX0_timesSaid_5 : decode cX0_timesSaid 5 = .ok (.aload_n 0, 1) := by decide +kernel
theorem dX0_timesSaid_6 : decode cX0_timesSaid 6 = .ok (.getfield 24, 3) := by decide +kernel
theorem dX0_timesSaid_9 : decode cX0_timesSaid 9 = .ok (.getfield 73, 3) := by decide +kernel
theorem dX0_timesSaid_12 : decode cX0_timesSaid 12 = .ok (.if_icmp .ge 67, 3) := by decide +kernel
theorem dX0_timesSaid_15 : decode cX0_timesSaid 15 = .ok (.aload_n 0, 1) := by decide +kernel
theorem dX0_timesSaid_16 : decode cX0_timesSaid 16 = .ok (.iload_n 3, 1) := by decide +kernel
theorem dX0_timesSaid_17 : decode cX0_timesSaid 17 = .ok (.invokevirtual 76, 3) := by decide +kernel
theorem dX0_timesSaid_20 : decode cX0_timesSaid 20 = .ok (.istore 4, 2) := by decide +kernel
theorem dX0_timesSaid_22 : decode cX0_timesSaid 22 = .ok (.iconst 0, 1) := by decide +kernel
theorem dX0_timesSaid_23 : decode cX0_timesSaid 23 = .ok (.istore 5, 2) := by decide +kernel
theorem dX0_timesSaid_25 : decode cX0_timesSaid 25 = .ok (.iload 5, 2) := by decide +kernel
theorem dX0_timesSaid_27 : decode cX0_timesSaid 27 = .ok (.aload_n 0, 1) := by decide +kernel
theorem dX0_timesSaid_28 : decode cX0_timesSaid 28 = .ok (.getfield 24, 3) := by decide +kernel
theorem dX0_timesSaid_31 : decode cX0_timesSaid 31 = .ok (.getfield 61, 3) := by decide +kernel
theorem dX0_timesSaid_34 : decode cX0_timesSaid 34 = .ok (.iload_n 3, 1) := by decide +kernel
theorem dX0_timesSaid_35 : decode cX0_timesSaid 35 = .ok (.iaload, 1) := by decide +kernel
theorem dX0_timesSaid_36 : decode cX0_timesSaid 36 = .ok (.if_icmp .ge 37, 3) := by decide +kernel
theorem dX0_timesSaid_39 : decode cX0_timesSaid 39 = .ok (.iload 4, 2) := by decide +kernel
theorem dX0_timesSaid_41 : decode cX0_timesSaid 41 = .ok (.iload 5, 2) := by decide +kernel
theorem dX0_timesSaid_43 : decode cX0_timesSaid 43 = .ok (.ishr, 1) := by decide +kernel
theorem dX0_timesSaid_44 : decode cX0_timesSaid 44 = .ok (.iconst 1, 1) := by decide +kernel
theorem dX0_timesSaid_45 : decode cX0_timesSaid 45 = .ok (.iand, 1) := by decide +kernel
theorem dX0_timesSaid_46 : decode cX0_timesSaid 46 = .ok (.iconst 1, 1) := by decide +kernel
theorem dX0_timesSaid_47 : decode cX0_timesSaid 47 = .ok (.if_icmp .ne 20, 3) := by decide +kernel
theorem dX0_timesSaid_50 : decode cX0_timesSaid 50 = .ok (.aload_n 0, 1) := by decide +kernel
theorem dX0_timesSaid_51 : decode cX0_timesSaid 51 = .ok (.getfield 24, 3) := by decide +kernel
theorem dX0_timesSaid_54 : decode cX0_timesSaid 54 = .ok (.iload_n 3, 1) := by decide +kernel
theorem dX0_timesSaid_55 : decode cX0_timesSaid 55 = .ok (.iload 5, 2) := by decide +kernel
theorem dX0_timesSaid_57 : decode cX0_timesSaid 57 = .ok (.invokevirtual 83, 3) := by decide +kernel
theorem dX0_timesSaid_60 : decode cX0_timesSaid 60 = .ok (.iload_n 1, 1) := by decide +kernel
theorem dX0_timesSaid_61 : decode cX0_timesSaid 61 = .ok (.if_icmp .ne 6, 3) := by decide +kernel
theorem dX0_timesSaid_64 : decode cX0_timesSaid 64 = .ok (.iinc 2 1, 3) := by decide +kernel
theorem dX0_timesSaid_67 : decode cX0_timesSaid 67 = .ok (.iinc 5 1, 3) := by decide +kernel
theorem dX0_timesSaid_70 : decode cX0_timesSaid 70 = .ok (.goto (-45), 3) := by decide +kernel
theorem dX0_timesSaid_73 : decode cX0_timesSaid 73 = .ok (.iinc 3 1, 3) := by decide +kernel
theorem dX0_timesSaid_76 : decode cX0_timesSaid 76 = .ok (.goto (-72), 3) := by decide +kernel
theorem dX0_timesSaid_79 : decode cX0_timesSaid 79 = .ok (.iload_n 2, 1) := by decide +kernel
theorem dX0_timesSaid_80 : decode cX0_timesSaid 80 = .ok (.ireturn, 1) := by decide +kernel
theorem dX0_inAllCells_0 : decode cX0_inAllCells 0 = .ok (.iconst 0, 1) := by decide +kernel
theorem dX0_inAllCells_1 : decode cX0_inAllCells 1 = .ok (.istore_n 1, 1) := by decide +kernel
theorem dX0_inAllCells_2 : decode cX0_inAllCells 2 = .ok (.iconst 0, 1) := by decide +kernel
theorem dX0_inAllCells_3 : decode cX0_inAllCells 3 = .ok (.istore_n 2, 1) := by decide +kernel
theorem dX0_inAllCells_4 : decode cX0_inAllCells 4 = .ok (.iload_n 2, 1) := by decide +kernel
theorem dX0_inAllCells_5 : decode cX0_inAllCells 5 = .ok (.iconst 4, 1) := by decide +kernel
theorem dX0_inAllCells_6 : decode cX0_inAllCells 6 = .ok (.if_icmp .ge 18, 3) := by decide +kernel
theorem dX0_inAllCells_9 : decode cX0_inAllCells 9 = .ok (.iload_n 1, 1) := by decide +kernel
theorem dX0_inAllCells_10 : decode cX0_inAllCells 10 = .ok (.aload_n 0, 1) := by decide +kernel
theorem dX0_inAllCells_11 : decode cX0_inAllCells 11 = .ok (.getfield 15, 3) := by decide +kernel
theorem dX0_inAllCells_14 : decode cX0_inAllCells 14 = .ok (.iload_n 2, 1) := by decide +kernel
theorem dX0_inAllCells_15 : decode cX0_inAllCells 15 = .ok (.iaload, 1) := by decide +kernel
theorem dX0_inAllCells_16 : decode cX0_inAllCells 16 = .ok (.iadd, 1) := by decide +kernel
theorem dX0_inAllCells_17 : decode cX0_inAllCells 17 = .ok (.istore_n 1, 1) := by decide +kernel
theorem dX0_inAllCells_18 : decode cX0_inAllCells 18 = .ok (.iinc 2 1, 3) := by decide +kernel
theorem dX0_inAllCells_21 : decode cX0_inAllCells 21 = .ok (.goto (-17), 3) := by decide +kernel
theorem dX0_inAllCells_24 : decode cX0_inAllCells 24 = .ok (.iload_n 1, 1) := by decide +kernel
theorem dX0_inAllCells_25 : decode cX0_inAllCells 25 = .ok (.ireturn, 1) := by decide +kernel
theorem dX0_speaks_0 : decode cX0_speaks 0 = .ok (.aload_n 0, 1) := by decide +kernel
theorem dX0_speaks_1 : decode cX0_speaks 1 = .ok (.invokevirtual 86, 3) := by decide +kernel
theorem dX0_speaks_4 : decode cX0_speaks 4 = .ok (.aload_n 1, 1) := by decide +kernel
theorem dX0_speaks_5 : decode cX0_speaks 5 = .ok (.getfield 90, 3) := by decide +kernel
theorem dX0_speaks_8 : decode cX0_speaks 8 = .ok (.if_icmp .eq 5, 3) := by decide +kernel
theorem dX0_speaks_11 : decode cX0_speaks 11 = .ok (.iconst 0, 1) := by decide +kernel
theorem dX0_speaks_12 : decode cX0_speaks 12 = .ok (.ireturn, 1) := by decide +kernel
theorem dX0_speaks_13 : decode cX0_speaks 13 = .ok (.iconst 0, 1) := by decide +kernel
theorem dX0_speaks_14 : decode cX0_speaks 14 = .ok (.istore_n 2, 1) := by decide +kernel
theorem dX0_speaks_15 : decode cX0_speaks 15 = .ok (.iconst 0, 1) := by decide +kernel
theorem dX0_speaks_16 : decode cX0_speaks 16 = .ok (.istore_n 3, 1) := by decide +kernel
theorem dX0_speaks_17 : decode cX0_speaks 17 = .ok (.iload_n 3, 1) := by decide +kernel
theorem dX0_speaks_18 : decode cX0_speaks 18 = .ok (.aload_n 0, 1) := by decide +kernel
theorem dX0_speaks_19 : decode cX0_speaks 19 = .ok (.getfield 24, 3) := by decide +kernel
theorem dX0_speaks_22 : decode cX0_speaks 22 = .ok (.getfield 73, 3) := by decide +kernel
theorem dX0_speaks_25 : decode cX0_speaks 25 = .ok (.if_icmp .ge 82, 3) := by decide +kernel
theorem dX0_speaks_28 : decode cX0_speaks 28 = .ok (.aload_n 0, 1) := by decide +kernel
theorem dX0_speaks_29 : decode cX0_speaks 29 = .ok (.iload_n 3, 1) := by decide +kernel
theorem dX0_speaks_30 : decode cX0_speaks 30 = .ok (.invokevirtual 76, 3) := by decide +kernel
theorem dX0_speaks_33 : decode cX0_speaks 33 = .ok (.istore 4, 2) := by decide +kernel
theorem dX0_speaks_35 : decode cX0_speaks 35 = .ok (.iconst 0, 1) := by decide +kernel
theorem dX0_speaks_36 : decode cX0_speaks 36 = .ok (.istore 5, 2) := by decide +kernel
theorem dX0_speaks_38 : decode cX0_speaks 38 = .ok (.iload 5, 2) := by decide +kernel
theorem dX0_speaks_40 : decode cX0_speaks 40 = .ok (.aload_n 0, 1) := by decide +kernel
theorem dX0_speaks_41 : decode cX0_speaks 41 = .ok (.getfield 24, 3) := by decide +kernel
theorem dX0_speaks_44 : decode cX0_speaks 44 = .ok (.getfield 61, 3) := by decide +kernel
theorem dX0_speaks_47 : decode cX0_speaks 47 = .ok (.iload_n 3, 1) := by decide +kernel
theorem dX0_speaks_48 : decode cX0_speaks 48 = .ok (.iaload, 1) := by decide +kernel
theorem dX0_speaks_49 : decode cX0_speaks 49 = .ok (.if_icmp .ge 52, 3) := by decide +kernel
theorem dX0_speaks_52 : decode cX0_speaks 52 = .ok (.iload_n 2, 1) := by decide +kernel
theorem dX0_speaks_53 : decode cX0_speaks 53 = .ok (.aload_n 1, 1) := by decide +kernel
theorem dX0_speaks_54 : decode cX0_speaks 54 = .ok (.getfield 90, 3) := by decide +kernel
theorem dX0_speaks_57 : decode cX0_speaks 57 = .ok (.if_icmp .ge 44, 3) := by decide +kernel
theorem dX0_speaks_60 : decode cX0_speaks 60 = .ok (.iload 4, 2) := by decide +kernel
theorem dX0_speaks_62 : decode cX0_speaks 62 = .ok (.iload 5, 2) := by decide +kernel
theorem dX0_speaks_64 : decode cX0_speaks 64 = .ok (.ishr, 1) := by decide +kernel
theorem dX0_speaks_65 : decode cX0_speaks 65 = .ok (.iconst 1, 1) := by decide +kernel
theorem dX0_speaks_66 : decode cX0_speaks 66 = .ok (.iand, 1) := by decide +kernel
theorem dX0_speaks_67 : decode cX0_speaks 67 = .ok (.iconst 1, 1) := by decide +kernel
theorem dX0_speaks_68 : decode cX0_speaks 68 = .ok (.if_icmp .ne 27, 3) := by decide +kernel
theorem dX0_speaks_71 : decode cX0_speaks 71 = .ok (.aload_n 1, 1) := by decide +kernel
theorem dX0_speaks_72 : decode cX0_speaks 72 = .ok (.getfield 95, 3) := by decide +kernel
theorem dX0_speaks_75 : decode cX0_speaks 75 = .ok (.iload_n 2, 1) := by decide +kernel
theorem dX0_speaks_76 : decode cX0_speaks 76 = .ok (.iaload, 1) := by decide +kernel
theorem dX0_speaks_77 : decode cX0_speaks 77 = .ok (.aload_n 0, 1) := by decide +kernel
theorem dX0_speaks_78 : decode cX0_speaks 78 = .ok (.getfield 24, 3) := by decide +kernel
theorem dX0_speaks_81 : decode cX0_speaks 81 = .ok (.iload_n 3, 1) := by decide +kernel
theorem dX0_speaks_82 : decode cX0_speaks 82 = .ok (.iload 5, 2) := by decide +kernel
theorem dX0_speaks_84 : decode cX0_speaks 84 = .ok (.invokevirtual 83, 3) := by decide +kernel
theorem dX0_speaks_87 : decode cX0_speaks 87 = .ok (.if_icmp .eq 5, 3) := by decide +kernel
theorem dX0_speaks_90 : decode cX0_speaks 90 = .ok (.iconst 0, 1) := by decide +kernel
theorem dX0_speaks_91 : decode cX0_speaks 91 = .ok (.ireturn, 1) := by decide +kernel
theorem dX0_speaks_92 : decode cX0_speaks 92 = .ok (.iinc 2 1, 3) := by decide +kernel
theorem dX0_speaks_95 : decode cX0_speaks 95 = .ok (.iinc 5 1, 3) := by decide +kernel
theorem dX0_speaks_98 : decode cX0_speaks 98 = .ok (.goto (-60), 3) := by decide +kernel
theorem dX0_speaks_101 : decode cX0_speaks 101 = .ok (.iinc 3 1, 3) := by decide +kernel
theorem dX0_speaks_104 : decode cX0_speaks 104 = .ok (.goto (-87), 3) := by decide +kernel
theorem dX0_speaks_107 : decode cX0_speaks 107 = .ok (.iconst 1, 1) := by decide +kernel
theorem dX0_speaks_108 : decode cX0_speaks 108 = .ok (.ireturn, 1) := by decide +kernel
theorem dX0_speaksBehind_0 : decode cX0_speaksBehind 0 = .ok (.aload_n 0, 1) := by decide +kernel
theorem dX0_speaksBehind_1 : decode cX0_speaksBehind 1 = .ok (.getfield 9, 3) := by decide +kernel
theorem dX0_speaksBehind_4 : decode cX0_speaksBehind 4 = .ok (.iload_n 2, 1) := by decide +kernel
theorem dX0_speaksBehind_5 : decode cX0_speaksBehind 5 = .ok (.dup2, 1) := by decide +kernel
theorem dX0_speaksBehind_6 : decode cX0_speaksBehind 6 = .ok (.iaload, 1) := by decide +kernel
theorem dX0_speaksBehind_7 : decode cX0_speaksBehind 7 = .ok (.iload_n 3, 1) := by decide +kernel
theorem dX0_speaksBehind_8 : decode cX0_speaksBehind 8 = .ok (.ixor, 1) := by decide +kernel
theorem dX0_speaksBehind_9 : decode cX0_speaksBehind 9 = .ok (.iastore, 1) := by decide +kernel
theorem dX0_speaksBehind_10 : decode cX0_speaksBehind 10 = .ok (.aload_n 0, 1) := by decide +kernel
theorem dX0_speaksBehind_11 : decode cX0_speaksBehind 11 = .ok (.aload_n 1, 1) := by decide +kernel
theorem dX0_speaksBehind_12 : decode cX0_speaksBehind 12 = .ok (.invokevirtual 98, 3) := by decide +kernel
theorem dX0_speaksBehind_15 : decode cX0_speaksBehind 15 = .ok (.istore 4, 2) := by decide +kernel
theorem dX0_speaksBehind_17 : decode cX0_speaksBehind 17 = .ok (.aload_n 0, 1) := by decide +kernel
theorem dX0_speaksBehind_18 : decode cX0_speaksBehind 18 = .ok (.getfield 9, 3) := by decide +kernel
theorem dX0_speaksBehind_21 : decode cX0_speaksBehind 21 = .ok (.iload_n 2, 1) := by decide +kernel
theorem dX0_speaksBehind_22 : decode cX0_speaksBehind 22 = .ok (.dup2, 1) := by decide +kernel
theorem dX0_speaksBehind_23 : decode cX0_speaksBehind 23 = .ok (.iaload, 1) := by decide +kernel
theorem dX0_speaksBehind_24 : decode cX0_speaksBehind 24 = .ok (.iload_n 3, 1) := by decide +kernel
theorem dX0_speaksBehind_25 : decode cX0_speaksBehind 25 = .ok (.ixor, 1) := by decide +kernel
theorem dX0_speaksBehind_26 : decode cX0_speaksBehind 26 = .ok (.iastore, 1) := by decide +kernel
theorem dX0_speaksBehind_27 : decode cX0_speaksBehind 27 = .ok (.iload 4, 2) := by decide +kernel
theorem dX0_speaksBehind_29 : decode cX0_speaksBehind 29 = .ok (.ireturn, 1) := by decide +kernel
theorem dX8_bitsOf_0 : decode cX8_bitsOf 0 = .ok (.iconst 1, 1) := by decide +kernel
theorem dX8_bitsOf_1 : decode cX8_bitsOf 1 = .ok (.iload_n 1, 1) := by decide +kernel
theorem dX8_bitsOf_2 : decode cX8_bitsOf 2 = .ok (.iload_n 0, 1) := by decide +kernel
theorem dX8_bitsOf_3 : decode cX8_bitsOf 3 = .ok (.isub, 1) := by decide +kernel
theorem dX8_bitsOf_4 : decode cX8_bitsOf 4 = .ok (.iconst 1, 1) := by decide +kernel
theorem dX8_bitsOf_5 : decode cX8_bitsOf 5 = .ok (.iadd, 1) := by decide +kernel
theorem dX8_bitsOf_6 : decode cX8_bitsOf 6 = .ok (.ishl, 1) := by decide +kernel
theorem dX8_bitsOf_7 : decode cX8_bitsOf 7 = .ok (.iconst 1, 1) := by decide +kernel
theorem dX8_bitsOf_8 : decode cX8_bitsOf 8 = .ok (.isub, 1) := by decide +kernel
theorem dX8_bitsOf_9 : decode cX8_bitsOf 9 = .ok (.iload_n 0, 1) := by decide +kernel
theorem dX8_bitsOf_10 : decode cX8_bitsOf 10 = .ok (.ishl, 1) := by decide +kernel
theorem dX8_bitsOf_11 : decode cX8_bitsOf 11 = .ok (.ireturn, 1) := by decide +kernel
theorem dX1_joined_0 : decode cX1_joined 0 = .ok (.iload_n 0, 1) := by decide +kernel
theorem dX1_joined_1 : decode cX1_joined 1 = .ok (.tableswitch 81 (-13) (-8) #[75, 63, 51, 47, 43, 39], 39) := by decide +kernel
theorem dX1_joined_40 : decode cX1_joined 40 = .ok (.iload_n 1, 1) := by decide +kernel
theorem dX1_joined_41 : decode cX1_joined 41 = .ok (.iload_n 2, 1) := by decide +kernel
theorem dX1_joined_42 : decode cX1_joined 42 = .ok (.iadd, 1) := by decide +kernel
theorem dX1_joined_43 : decode cX1_joined 43 = .ok (.ireturn, 1) := by decide +kernel
theorem dX1_joined_44 : decode cX1_joined 44 = .ok (.iload_n 1, 1) := by decide +kernel
theorem dX1_joined_45 : decode cX1_joined 45 = .ok (.iload_n 2, 1) := by decide +kernel
theorem dX1_joined_46 : decode cX1_joined 46 = .ok (.isub, 1) := by decide +kernel
theorem dX1_joined_47 : decode cX1_joined 47 = .ok (.ireturn, 1) := by decide +kernel
theorem dX1_joined_48 : decode cX1_joined 48 = .ok (.iload_n 1, 1) := by decide +kernel
theorem dX1_joined_49 : decode cX1_joined 49 = .ok (.iload_n 2, 1) := by decide +kernel
theorem dX1_joined_50 : decode cX1_joined 50 = .ok (.imul, 1) := by decide +kernel
theorem dX1_joined_51 : decode cX1_joined 51 = .ok (.ireturn, 1) := by decide +kernel
theorem dX1_joined_52 : decode cX1_joined 52 = .ok (.iload_n 2, 1) := by decide +kernel
theorem dX1_joined_53 : decode cX1_joined 53 = .ok (.ifCond .ne 7, 3) := by decide +kernel
theorem dX1_joined_56 : decode cX1_joined 56 = .ok (.iconst 0, 1) := by decide +kernel
theorem dX1_joined_57 : decode cX1_joined 57 = .ok (.goto 6, 3) := by decide +kernel
theorem dX1_joined_60 : decode cX1_joined 60 = .ok (.iload_n 1, 1) := by decide +kernel
theorem dX1_joined_61 : decode cX1_joined 61 = .ok (.iload_n 2, 1) := by decide +kernel
theorem dX1_joined_62 : decode cX1_joined 62 = .ok (.idiv, 1) := by decide +kernel
theorem dX1_joined_63 : decode cX1_joined 63 = .ok (.ireturn, 1) := by decide +kernel
theorem dX1_joined_64 : decode cX1_joined 64 = .ok (.iload_n 2, 1) := by decide +kernel
theorem dX1_joined_65 : decode cX1_joined 65 = .ok (.ifCond .ne 7, 3) := by decide +kernel
theorem dX1_joined_68 : decode cX1_joined 68 = .ok (.iconst 0, 1) := by decide +kernel
theorem dX1_joined_69 : decode cX1_joined 69 = .ok (.goto 6, 3) := by decide +kernel
theorem dX1_joined_72 : decode cX1_joined 72 = .ok (.iload_n 1, 1) := by decide +kernel
theorem dX1_joined_73 : decode cX1_joined 73 = .ok (.iload_n 2, 1) := by decide +kernel
theorem dX1_joined_74 : decode cX1_joined 74 = .ok (.irem, 1) := by decide +kernel
theorem dX1_joined_75 : decode cX1_joined 75 = .ok (.ireturn, 1) := by decide +kernel
theorem dX1_joined_76 : decode cX1_joined 76 = .ok (.iload_n 1, 1) := by decide +kernel
theorem dX1_joined_77 : decode cX1_joined 77 = .ok (.iload_n 2, 1) := by decide +kernel
theorem dX1_joined_78 : decode cX1_joined 78 = .ok (.invokestatic 41, 3) := by decide +kernel
theorem dX1_joined_81 : decode cX1_joined 81 = .ok (.ireturn, 1) := by decide +kernel
theorem dX1_joined_82 : decode cX1_joined 82 = .ok (.iload_n 1, 1) := by decide +kernel
theorem dX1_joined_83 : decode cX1_joined 83 = .ok (.iload_n 2, 1) := by decide +kernel
theorem dX1_joined_84 : decode cX1_joined 84 = .ok (.invokestatic 47, 3) := by decide +kernel
theorem dX1_joined_87 : decode cX1_joined 87 = .ok (.ireturn, 1) := by decide +kernel
theorem dX1_worked_0 : decode cX1_worked 0 = .ok (.iconst 0, 1) := by decide +kernel
theorem dX1_worked_1 : decode cX1_worked 1 = .ok (.istore_n 1, 1) := by decide +kernel
theorem dX1_worked_2 : decode cX1_worked 2 = .ok (.iconst 0, 1) := by decide +kernel
theorem dX1_worked_3 : decode cX1_worked 3 = .ok (.istore_n 2, 1) := by decide +kernel
theorem dX1_worked_4 : decode cX1_worked 4 = .ok (.iload_n 2, 1) := by decide +kernel
theorem dX1_worked_5 : decode cX1_worked 5 = .ok (.aload_n 0, 1) := by decide +kernel
theorem dX1_worked_6 : decode cX1_worked 6 = .ok (.getfield 33, 3) := by decide +kernel
theorem dX1_worked_9 : decode cX1_worked 9 = .ok (.if_icmp .ge 96, 3) := by decide +kernel
theorem dX1_worked_12 : decode cX1_worked 12 = .ok (.aload_n 0, 1) := by decide +kernel
theorem dX1_worked_13 : decode cX1_worked 13 = .ok (.getfield 9, 3) := by decide +kernel
theorem dX1_worked_16 : decode cX1_worked 16 = .ok (.iload_n 2, 1) := by decide +kernel
theorem dX1_worked_17 : decode cX1_worked 17 = .ok (.iaload, 1) := by decide +kernel
theorem dX1_worked_18 : decode cX1_worked 18 = .ok (.istore_n 3, 1) := by decide +kernel
theorem dX1_worked_19 : decode cX1_worked 19 = .ok (.iload_n 3, 1) := by decide +kernel
theorem dX1_worked_20 : decode cX1_worked 20 = .ok (.bipush (-7), 2) := by decide +kernel
theorem dX1_worked_22 : decode cX1_worked 22 = .ok (.if_icmp .ge 40, 3) := by decide +kernel
theorem dX1_worked_25 : decode cX1_worked 25 = .ok (.iload_n 1, 1) := by decide +kernel
theorem dX1_worked_26 : decode cX1_worked 26 = .ok (.iconst 2, 1) := by decide +kernel
theorem dX1_worked_27 : decode cX1_worked 27 = .ok (.if_icmp .lt 35, 3) := by decide +kernel
theorem dX1_worked_30 : decode cX1_worked 30 = .ok (.iinc 1 (-1), 3) := by decide +kernel
theorem dX1_worked_33 : decode cX1_worked 33 = .ok (.aload_n 0, 1) := by decide +kernel
theorem dX1_worked_34 : decode cX1_worked 34 = .ok (.getfield 15, 3) := by decide +kernel
theorem dX1_worked_37 : decode cX1_worked 37 = .ok (.iload_n 1, 1) := by decide +kernel
theorem dX1_worked_38 : decode cX1_worked 38 = .ok (.iconst 1, 1) := by decide +kernel
theorem dX1_worked_39 : decode cX1_worked 39 = .ok (.isub, 1) := by decide +kernel
theorem dX1_worked_40 : decode cX1_worked 40 = .ok (.iload_n 3, 1) := by decide +kernel
theorem dX1_worked_41 : decode cX1_worked 41 = .ok (.aload_n 0, 1) := by decide +kernel
theorem dX1_worked_42 : decode cX1_worked 42 = .ok (.getfield 15, 3) := by decide +kernel
theorem dX1_worked_45 : decode cX1_worked 45 = .ok (.iload_n 1, 1) := by decide +kernel
theorem dX1_worked_46 : decode cX1_worked 46 = .ok (.iconst 1, 1) := by decide +kernel
theorem dX1_worked_47 : decode cX1_worked 47 = .ok (.isub, 1) := by decide +kernel
theorem dX1_worked_48 : decode cX1_worked 48 = .ok (.iaload, 1) := by decide +kernel
theorem dX1_worked_49 : decode cX1_worked 49 = .ok (.aload_n 0, 1) := by decide +kernel
theorem dX1_worked_50 : decode cX1_worked 50 = .ok (.getfield 15, 3) := by decide +kernel
theorem dX1_worked_53 : decode cX1_worked 53 = .ok (.iload_n 1, 1) := by decide +kernel
theorem dX1_worked_54 : decode cX1_worked 54 = .ok (.iaload, 1) := by decide +kernel
theorem dX1_worked_55 : decode cX1_worked 55 = .ok (.invokestatic 50, 3) := by decide +kernel
theorem dX1_worked_58 : decode cX1_worked 58 = .ok (.iastore, 1) := by decide +kernel
theorem dX1_worked_59 : decode cX1_worked 59 = .ok (.goto 40, 3) := by decide +kernel
theorem dX1_worked_62 : decode cX1_worked 62 = .ok (.iload_n 3, 1) := by decide +kernel
theorem dX1_worked_63 : decode cX1_worked 63 = .ok (.bipush (-7), 2) := by decide +kernel
theorem dX1_worked_65 : decode cX1_worked 65 = .ok (.if_icmp .lt 34, 3) := by decide +kernel
theorem dX1_worked_68 : decode cX1_worked 68 = .ok (.iload_n 1, 1) := by decide +kernel
theorem dX1_worked_69 : decode cX1_worked 69 = .ok (.bipush 22, 2) := by decide +kernel
theorem dX1_worked_71 : decode cX1_worked 71 = .ok (.if_icmp .ge 28, 3) := by decide +kernel
theorem dX1_worked_74 : decode cX1_worked 74 = .ok (.aload_n 0, 1) := by decide +kernel
theorem dX1_worked_75 : decode cX1_worked 75 = .ok (.getfield 15, 3) := by decide +kernel
theorem dX1_worked_78 : decode cX1_worked 78 = .ok (.iload_n 1, 1) := by decide +kernel
theorem dX1_worked_79 : decode cX1_worked 79 = .ok (.iload_n 3, 1) := by decide +kernel
theorem dX1_worked_80 : decode cX1_worked 80 = .ok (.ifCond .lt 7, 3) := by decide +kernel
theorem dX1_worked_83 : decode cX1_worked 83 = .ok (.iload_n 3, 1) := by decide +kernel
theorem dX1_worked_84 : decode cX1_worked 84 = .ok (.goto 11, 3) := by decide +kernel
theorem dX1_worked_87 : decode cX1_worked 87 = .ok (.aload_n 0, 1) := by decide +kernel
theorem dX1_worked_88 : decode cX1_worked 88 = .ok (.getfield 18, 3) := by decide +kernel
theorem dX1_worked_91 : decode cX1_worked 91 = .ok (.iconst (-1), 1) := by decide +kernel
theorem dX1_worked_92 : decode cX1_worked 92 = .ok (.iload_n 3, 1) := by decide +kernel
theorem dX1_worked_93 : decode cX1_worked 93 = .ok (.isub, 1) := by decide +kernel
theorem dX1_worked_94 : decode cX1_worked 94 = .ok (.iaload, 1) := by decide +kernel
theorem dX1_worked_95 : decode cX1_worked 95 = .ok (.iastore, 1) := by decide +kernel
theorem dX1_worked_96 : decode cX1_worked 96 = .ok (.iinc 1 1, 3) := by decide +kernel
theorem dX1_worked_99 : decode cX1_worked 99 = .ok (.iinc 2 1, 3) := by decide +kernel
theorem dX1_worked_102 : decode cX1_worked 102 = .ok (.goto (-98), 3) := by decide +kernel
theorem dX1_worked_105 : decode cX1_worked 105 = .ok (.aload_n 0, 1) := by decide +kernel
theorem dX1_worked_106 : decode cX1_worked 106 = .ok (.getfield 15, 3) := by decide +kernel
theorem dX1_worked_109 : decode cX1_worked 109 = .ok (.iconst 0, 1) := by decide +kernel
theorem dX1_worked_110 : decode cX1_worked 110 = .ok (.iaload, 1) := by decide +kernel
theorem dX1_worked_111 : decode cX1_worked 111 = .ok (.ireturn, 1) := by decide +kernel
theorem dX1_priceFor_0 : decode cX1_priceFor 0 = .ok (.aload_n 0, 1) := by decide +kernel
theorem dX1_priceFor_1 : decode cX1_priceFor 1 = .ok (.getfield 18, 3) := by decide +kernel
theorem dX1_priceFor_4 : decode cX1_priceFor 4 = .ok (.iconst 0, 1) := by decide +kernel
theorem dX1_priceFor_5 : decode cX1_priceFor 5 = .ok (.iload_n 1, 1) := by decide +kernel
theorem dX1_priceFor_6 : decode cX1_priceFor 6 = .ok (.iastore, 1) := by decide +kernel
theorem dX1_priceFor_7 : decode cX1_priceFor 7 = .ok (.aload_n 0, 1) := by decide +kernel
theorem dX1_priceFor_8 : decode cX1_priceFor 8 = .ok (.getfield 18, 3) := by decide +kernel
theorem dX1_priceFor_11 : decode cX1_priceFor 11 = .ok (.iconst 1, 1) := by decide +kernel
theorem dX1_priceFor_12 : decode cX1_priceFor 12 = .ok (.iload_n 2, 1) := by decide +kernel
theorem dX1_priceFor_13 : decode cX1_priceFor 13 = .ok (.iastore, 1) := by decide +kernel
theorem dX1_priceFor_14 : decode cX1_priceFor 14 = .ok (.aload_n 0, 1) := by decide +kernel
theorem dX1_priceFor_15 : decode cX1_priceFor 15 = .ok (.getfield 18, 3) := by decide +kernel
theorem dX1_priceFor_18 : decode cX1_priceFor 18 = .ok (.iconst 2, 1) := by decide +kernel
theorem dX1_priceFor_19 : decode cX1_priceFor 19 = .ok (.iload_n 3, 1) := by decide +kernel
theorem dX1_priceFor_20 : decode cX1_priceFor 20 = .ok (.iastore, 1) := by decide +kernel
theorem dX1_priceFor_21 : decode cX1_priceFor 21 = .ok (.aload_n 0, 1) := by decide +kernel
theorem dX1_priceFor_22 : decode cX1_priceFor 22 = .ok (.getfield 18, 3) := by decide +kernel
theorem dX1_priceFor_25 : decode cX1_priceFor 25 = .ok (.iconst 3, 1) := by decide +kernel
theorem dX1_priceFor_26 : decode cX1_priceFor 26 = .ok (.iload 4, 2) := by decide +kernel
theorem dX1_priceFor_28 : decode cX1_priceFor 28 = .ok (.iastore, 1) := by decide +kernel
theorem dX1_priceFor_29 : decode cX1_priceFor 29 = .ok (.aload_n 0, 1) := by decide +kernel
theorem dX1_priceFor_30 : decode cX1_priceFor 30 = .ok (.getfield 18, 3) := by decide +kernel
theorem dX1_priceFor_33 : decode cX1_priceFor 33 = .ok (.iconst 4, 1) := by decide +kernel
theorem dX1_priceFor_34 : decode cX1_priceFor 34 = .ok (.iload 5, 2) := by decide +kernel
theorem dX1_priceFor_36 : decode cX1_priceFor 36 = .ok (.iastore, 1) := by decide +kernel
theorem dX1_priceFor_37 : decode cX1_priceFor 37 = .ok (.aload_n 0, 1) := by decide +kernel
theorem dX1_priceFor_38 : decode cX1_priceFor 38 = .ok (.getfield 18, 3) := by decide +kernel
theorem dX1_priceFor_41 : decode cX1_priceFor 41 = .ok (.iconst 5, 1) := by decide +kernel
theorem dX1_priceFor_42 : decode cX1_priceFor 42 = .ok (.iload 6, 2) := by decide +kernel
theorem dX1_priceFor_44 : decode cX1_priceFor 44 = .ok (.iastore, 1) := by decide +kernel
theorem dX1_priceFor_45 : decode cX1_priceFor 45 = .ok (.aload_n 0, 1) := by decide +kernel
theorem dX1_priceFor_46 : decode cX1_priceFor 46 = .ok (.getfield 18, 3) := by decide +kernel
theorem dX1_priceFor_49 : decode cX1_priceFor 49 = .ok (.bipush 6, 2) := by decide +kernel
theorem dX1_priceFor_51 : decode cX1_priceFor 51 = .ok (.iload 7, 2) := by decide +kernel
theorem dX1_priceFor_53 : decode cX1_priceFor 53 = .ok (.iastore, 1) := by decide +kernel
theorem dX1_priceFor_54 : decode cX1_priceFor 54 = .ok (.iconst 0, 1) := by decide +kernel
theorem dX1_priceFor_55 : decode cX1_priceFor 55 = .ok (.bipush 60, 2) := by decide +kernel
theorem dX1_priceFor_57 : decode cX1_priceFor 57 = .ok (.aload_n 0, 1) := by decide +kernel
theorem dX1_priceFor_58 : decode cX1_priceFor 58 = .ok (.invokevirtual 37, 3) := by decide +kernel
theorem dX1_priceFor_61 : decode cX1_priceFor 61 = .ok (.invokestatic 41, 3) := by decide +kernel
theorem dX1_priceFor_64 : decode cX1_priceFor 64 = .ok (.invokestatic 47, 3) := by decide +kernel
theorem dX1_priceFor_67 : decode cX1_priceFor 67 = .ok (.ireturn, 1) := by decide +kernel
theorem dX0_priceOf_0 : decode cX0_priceOf 0 = .ok (.aload_n 0, 1) := by decide +kernel
theorem dX0_priceOf_1 : decode cX0_priceOf 1 = .ok (.getfield 9, 3) := by decide +kernel
theorem dX0_priceOf_4 : decode cX0_priceOf 4 = .ok (.iload_n 1, 1) := by decide +kernel
theorem dX0_priceOf_5 : decode cX0_priceOf 5 = .ok (.iaload, 1) := by decide +kernel
theorem dX0_priceOf_6 : decode cX0_priceOf 6 = .ok (.iload_n 2, 1) := by decide +kernel
theorem dX0_priceOf_7 : decode cX0_priceOf 7 = .ok (.iload_n 3, 1) := by decide +kernel
theorem dX0_priceOf_8 : decode cX0_priceOf 8 = .ok (.invokestatic 102, 3) := by decide +kernel
theorem dX0_priceOf_11 : decode cX0_priceOf 11 = .ok (.iand, 1) := by decide +kernel
theorem dX0_priceOf_12 : decode cX0_priceOf 12 = .ok (.invokestatic 64, 3) := by decide +kernel
theorem dX0_priceOf_15 : decode cX0_priceOf 15 = .ok (.istore 4, 2) := by decide +kernel
theorem dX0_priceOf_17 : decode cX0_priceOf 17 = .ok (.aload_n 0, 1) := by decide +kernel
theorem dX0_priceOf_18 : decode cX0_priceOf 18 = .ok (.getfield 28, 3) := by decide +kernel
theorem dX0_priceOf_21 : decode cX0_priceOf 21 = .ok (.iload_n 3, 1) := by decide +kernel
theorem dX0_priceOf_22 : decode cX0_priceOf 22 = .ok (.iload_n 2, 1) := by decide +kernel
theorem dX0_priceOf_23 : decode cX0_priceOf 23 = .ok (.isub, 1) := by decide +kernel
theorem dX0_priceOf_24 : decode cX0_priceOf 24 = .ok (.iconst 1, 1) := by decide +kernel
theorem dX0_priceOf_25 : decode cX0_priceOf 25 = .ok (.iadd, 1) := by decide +kernel
theorem dX0_priceOf_26 : decode cX0_priceOf 26 = .ok (.iload 4, 2) := by decide +kernel
theorem dX0_priceOf_28 : decode cX0_priceOf 28 = .ok (.iload_n 2, 1) := by decide +kernel
theorem dX0_priceOf_29 : decode cX0_priceOf 29 = .ok (.iload_n 1, 1) := by decide +kernel
theorem dX0_priceOf_30 : decode cX0_priceOf 30 = .ok (.aload_n 0, 1) := by decide +kernel
theorem dX0_priceOf_31 : decode cX0_priceOf 31 = .ok (.invokevirtual 86, 3) := by decide +kernel
theorem dX0_priceOf_34 : decode cX0_priceOf 34 = .ok (.aload_n 0, 1) := by decide +kernel
theorem dX0_priceOf_35 : decode cX0_priceOf 35 = .ok (.getfield 20, 3) := by decide +kernel
theorem dX0_priceOf_38 : decode cX0_priceOf 38 = .ok (.aload_n 0, 1) := by decide +kernel
theorem dX0_priceOf_39 : decode cX0_priceOf 39 = .ok (.getfield 15, 3) := by decide +kernel
theorem dX0_priceOf_42 : decode cX0_priceOf 42 = .ok (.iconst 0, 1) := by decide +kernel
theorem dX0_priceOf_43 : decode cX0_priceOf 43 = .ok (.iaload, 1) := by decide +kernel
theorem dX0_priceOf_44 : decode cX0_priceOf 44 = .ok (.invokevirtual 105, 3) := by decide +kernel
theorem dX0_priceOf_47 : decode cX0_priceOf 47 = .ok (.ireturn, 1) := by decide +kernel
theorem dX0_strike_0 : decode cX0_strike 0 = .ok (.iload_n 2, 1) := by decide +kernel
theorem dX0_strike_1 : decode cX0_strike 1 = .ok (.ifCond .lt 20, 3) := by decide +kernel
theorem dX0_strike_4 : decode cX0_strike 4 = .ok (.iload_n 2, 1) := by decide +kernel
theorem dX0_strike_5 : decode cX0_strike 5 = .ok (.iload_n 3, 1) := by decide +kernel
theorem dX0_strike_6 : decode cX0_strike 6 = .ok (.if_icmp .gt 15, 3) := by decide +kernel
theorem dX0_strike_9 : decode cX0_strike 9 = .ok (.aload_n 0, 1) := by decide +kernel
theorem dX0_strike_10 : decode cX0_strike 10 = .ok (.getfield 24, 3) := by decide +kernel
theorem dX0_strike_13 : decode cX0_strike 13 = .ok (.iload_n 1, 1) := by decide +kernel
theorem dX0_strike_14 : decode cX0_strike 14 = .ok (.iload_n 3, 1) := by decide +kernel
theorem dX0_strike_15 : decode cX0_strike 15 = .ok (.invokevirtual 53, 3) := by decide +kernel
theorem dX0_strike_18 : decode cX0_strike 18 = .ok (.ifCond .ne 5, 3) := by decide +kernel
theorem dX0_strike_21 : decode cX0_strike 21 = .ok (.iconst 0, 1) := by decide +kernel
theorem dX0_strike_22 : decode cX0_strike 22 = .ok (.ireturn, 1) := by decide +kernel
theorem dX0_strike_23 : decode cX0_strike 23 = .ok (.aload_n 0, 1) := by decide +kernel
theorem dX0_strike_24 : decode cX0_strike 24 = .ok (.iload_n 1, 1) := by decide +kernel
theorem dX0_strike_25 : decode cX0_strike 25 = .ok (.iload_n 2, 1) := by decide +kernel
theorem dX0_strike_26 : decode cX0_strike 26 = .ok (.iload_n 3, 1) := by decide +kernel
theorem dX0_strike_27 : decode cX0_strike 27 = .ok (.invokevirtual 111, 3) := by decide +kernel
theorem dX0_strike_30 : decode cX0_strike 30 = .ok (.istore 4, 2) := by decide +kernel
theorem dX0_strike_32 : decode cX0_strike 32 = .ok (.iload 4, 2) := by decide +kernel
theorem dX0_strike_34 : decode cX0_strike 34 = .ok (.aload_n 0, 1) := by decide +kernel
theorem dX0_strike_35 : decode cX0_strike 35 = .ok (.getfield 20, 3) := by decide +kernel
theorem dX0_strike_38 : decode cX0_strike 38 = .ok (.if_icmp .le 5, 3) := by decide +kernel
theorem dX0_strike_41 : decode cX0_strike 41 = .ok (.iconst 0, 1) := by decide +kernel
theorem dX0_strike_42 : decode cX0_strike 42 = .ok (.ireturn, 1) := by decide +kernel
theorem dX0_strike_43 : decode cX0_strike 43 = .ok (.aload_n 0, 1) := by decide +kernel
theorem dX0_strike_44 : decode cX0_strike 44 = .ok (.getfield 9, 3) := by decide +kernel
theorem dX0_strike_47 : decode cX0_strike 47 = .ok (.iload_n 1, 1) := by decide +kernel
theorem dX0_strike_48 : decode cX0_strike 48 = .ok (.dup2, 1) := by decide +kernel
theorem dX0_strike_49 : decode cX0_strike 49 = .ok (.iaload, 1) := by decide +kernel
theorem dX0_strike_50 : decode cX0_strike 50 = .ok (.iload_n 2, 1) := by decide +kernel
theorem dX0_strike_51 : decode cX0_strike 51 = .ok (.iload_n 3, 1) := by decide +kernel
theorem dX0_strike_52 : decode cX0_strike 52 = .ok (.invokestatic 102, 3) := by decide +kernel
theorem dX0_strike_55 : decode cX0_strike 55 = .ok (.ixor, 1) := by decide +kernel
theorem dX0_strike_56 : decode cX0_strike 56 = .ok (.iastore, 1) := by decide +kernel
theorem dX0_strike_57 : decode cX0_strike 57 = .ok (.aload_n 0, 1) := by decide +kernel
theorem dX0_strike_58 : decode cX0_strike 58 = .ok (.dup, 1) := by decide +kernel
theorem dX0_strike_59 : decode cX0_strike 59 = .ok (.getfield 20, 3) := by decide +kernel
theorem dX0_strike_62 : decode cX0_strike 62 = .ok (.iload 4, 2) := by decide +kernel
theorem dX0_strike_64 : decode cX0_strike 64 = .ok (.isub, 1) := by decide +kernel
theorem dX0_strike_65 : decode cX0_strike 65 = .ok (.putfield 20, 3) := by decide +kernel
theorem dX0_strike_68 : decode cX0_strike 68 = .ok (.aload_n 0, 1) := by decide +kernel
theorem dX0_strike_69 : decode cX0_strike 69 = .ok (.dup, 1) := by decide +kernel
theorem dX0_strike_70 : decode cX0_strike 70 = .ok (.getfield 47, 3) := by decide +kernel
theorem dX0_strike_73 : decode cX0_strike 73 = .ok (.iconst 1, 1) := by decide +kernel
theorem dX0_strike_74 : decode cX0_strike 74 = .ok (.iadd, 1) := by decide +kernel
theorem dX0_strike_75 : decode cX0_strike 75 = .ok (.putfield 47, 3) := by decide +kernel
theorem dX0_strike_78 : decode cX0_strike 78 = .ok (.iconst 1, 1) := by decide +kernel
theorem dX0_strike_79 : decode cX0_strike 79 = .ok (.ireturn, 1) := by decide +kernel
theorem dX0_addTo_0 : decode cX0_addTo 0 = .ok (.iload_n 1, 1) := by decide +kernel
theorem dX0_addTo_1 : decode cX0_addTo 1 = .ok (.iconst 4, 1) := by decide +kernel
theorem dX0_addTo_2 : decode cX0_addTo 2 = .ok (.irem, 1) := by decide +kernel
theorem dX0_addTo_3 : decode cX0_addTo 3 = .ok (.istore_n 3, 1) := by decide +kernel
theorem dX0_addTo_4 : decode cX0_addTo 4 = .ok (.aload_n 0, 1) := by decide +kernel
theorem dX0_addTo_5 : decode cX0_addTo 5 = .ok (.getfield 15, 3) := by decide +kernel
theorem dX0_addTo_8 : decode cX0_addTo 8 = .ok (.iload_n 3, 1) := by decide +kernel
theorem dX0_addTo_9 : decode cX0_addTo 9 = .ok (.sipush 999, 3) := by decide +kernel
theorem dX0_addTo_12 : decode cX0_addTo 12 = .ok (.aload_n 0, 1) := by decide +kernel
theorem dX0_addTo_13 : decode cX0_addTo 13 = .ok (.getfield 15, 3) := by decide +kernel
theorem dX0_addTo_16 : decode cX0_addTo 16 = .ok (.iload_n 3, 1) := by decide +kernel
theorem dX0_addTo_17 : decode cX0_addTo 17 = .ok (.iaload, 1) := by decide +kernel
theorem dX0_addTo_18 : decode cX0_addTo 18 = .ok (.iload_n 2, 1) := by decide +kernel
theorem dX0_addTo_19 : decode cX0_addTo 19 = .ok (.iadd, 1) := by decide +kernel
theorem dX0_addTo_20 : decode cX0_addTo 20 = .ok (.invokestatic 119, 3) := by decide +kernel
theorem dX0_addTo_23 : decode cX0_addTo 23 = .ok (.iastore, 1) := by decide +kernel
theorem dX0_addTo_24 : decode cX0_addTo 24 = .ok (.return_, 1) := by decide +kernel
theorem dX0_goTo_0 : decode cX0_goTo 0 = .ok (.aload_n 0, 1) := by decide +kernel
theorem dX0_goTo_1 : decode cX0_goTo 1 = .ok (.iload_n 1, 1) := by decide +kernel
theorem dX0_goTo_2 : decode cX0_goTo 2 = .ok (.aload_n 0, 1) := by decide +kernel
theorem dX0_goTo_3 : decode cX0_goTo 3 = .ok (.getfield 24, 3) := by decide +kernel
theorem dX0_goTo_6 : decode cX0_goTo 6 = .ok (.getfield 73, 3) := by decide +kernel
theorem dX0_goTo_9 : decode cX0_goTo 9 = .ok (.invokestatic 119, 3) := by decide +kernel
theorem dX0_goTo_12 : decode cX0_goTo 12 = .ok (.putfield 41, 3) := by decide +kernel
theorem dX0_goTo_15 : decode cX0_goTo 15 = .ok (.return_, 1) := by decide +kernel
