theorem dX0_init_0 : decode cX0_init 0 = .ok (.aload_n 0, 1) := by decide +kernel
theorem dX0_init_1 : decode cX0_init 1 = .ok (.invokespecial 3, 3) := by decide +kernel
theorem dX0_init_4 : decode cX0_init 4 = .ok (.aload_n 0, 1) := by decide +kernel
theorem dX0_init_5 : decode cX0_init 5 = .ok (.bipush 6, 2) := by decide +kernel
theorem dX0_init_7 : decode cX0_init 7 = .ok (.newarray .int, 2) := by decide +kernel
theorem dX0_init_9 : decode cX0_init 9 = .ok (.putfield 9, 3) := by decide +kernel
theorem dX0_init_12 : decode cX0_init 12 = .ok (.aload_n 0, 1) := by decide +kernel
theorem dX0_init_13 : decode cX0_init 13 = .ok (.iconst 4, 1) := by decide +kernel
theorem dX0_init_14 : decode cX0_init 14 = .ok (.newarray .int, 2) := by decide +kernel
theorem dX0_init_16 : decode cX0_init 16 = .ok (.putfield 15, 3) := by decide +kernel
theorem dX0_init_19 : decode cX0_init 19 = .ok (.aload_n 0, 1) := by decide +kernel
theorem dX0_init_20 : decode cX0_init 20 = .ok (.bipush 60, 2) := by decide +kernel
theorem dX0_init_22 : decode cX0_init 22 = .ok (.putfield 20, 3) := by decide +kernel
theorem dX0_init_25 : decode cX0_init 25 = .ok (.aload_n 0, 1) := by decide +kernel
theorem dX0_init_26 : decode cX0_init 26 = .ok (.aload_n 1, 1) := by decide +kernel
theorem dX0_init_27 : decode cX0_init 27 = .ok (.putfield 24, 3) := by decide +kernel
theorem dX0_init_30 : decode cX0_init 30 = .ok (.aload_n 0, 1) := by decide +kernel
theorem dX0_init_31 : decode cX0_init 31 = .ok (.aload_n 2, 1) := by decide +kernel
theorem dX0_init_32 : decode cX0_init 32 = .ok (.putfield 28, 3) := by decide +kernel
theorem dX0_init_35 : decode cX0_init 35 = .ok (.return_, 1) := by decide +kernel
theorem dX0_startAnew_0 : decode cX0_startAnew 0 = .ok (.iconst 0, 1) := by decide +kernel
theorem dX0_startAnew_1 : decode cX0_startAnew 1 = .ok (.istore_n 1, 1) := by decide +kernel
theorem dX0_startAnew_2 : decode cX0_startAnew 2 = .ok (.iload_n 1, 1) := by decide +kernel
theorem dX0_startAnew_3 : decode cX0_startAnew 3 = .ok (.bipush 6, 2) := by decide +kernel
theorem dX0_startAnew_5 : decode cX0_startAnew 5 = .ok (.if_icmp .ge 16, 3) := by decide +kernel
theorem dX0_startAnew_8 : decode cX0_startAnew 8 = .ok (.aload_n 0, 1) := by decide +kernel
theorem dX0_startAnew_9 : decode cX0_startAnew 9 = .ok (.getfield 9, 3) := by decide +kernel
theorem dX0_startAnew_12 : decode cX0_startAnew 12 = .ok (.iload_n 1, 1) := by decide +kernel
theorem dX0_startAnew_13 : decode cX0_startAnew 13 = .ok (.iconst 0, 1) := by decide +kernel
theorem dX0_startAnew_14 : decode cX0_startAnew 14 = .ok (.iastore, 1) := by decide +kernel
theorem dX0_startAnew_15 : decode cX0_startAnew 15 = .ok (.iinc 1 1, 3) := by decide +kernel
theorem dX0_startAnew_18 : decode cX0_startAnew 18 = .ok (.goto (-16), 3) := by decide +kernel
theorem dX0_startAnew_21 : decode cX0_startAnew 21 = .ok (.aload_n 0, 1) := by decide +kernel
theorem dX0_startAnew_22 : decode cX0_startAnew 22 = .ok (.getfield 24, 3) := by decide +kernel
theorem dX0_startAnew_25 : decode cX0_startAnew 25 = .ok (.getfield 32, 3) := by decide +kernel
theorem dX0_startAnew_28 : decode cX0_startAnew 28 = .ok (.iconst 0, 1) := by decide +kernel
theorem dX0_startAnew_29 : decode cX0_startAnew 29 = .ok (.aload_n 0, 1) := by decide +kernel
theorem dX0_startAnew_30 : decode cX0_startAnew 30 = .ok (.getfield 15, 3) := by decide +kernel
theorem dX0_startAnew_33 : decode cX0_startAnew 33 = .ok (.iconst 0, 1) := by decide +kernel
theorem dX0_startAnew_34 : decode cX0_startAnew 34 = .ok (.iconst 4, 1) := by decide +kernel
theorem dX0_startAnew_35 : decode cX0_startAnew 35 = .ok (.invokestatic 35, 3) := by decide +kernel
theorem dX0_startAnew_38 : decode cX0_startAnew 38 = .ok (.aload_n 0, 1) := by decide +kernel
theorem dX0_startAnew_39 : decode cX0_startAnew 39 = .ok (.iconst 0, 1) := by decide +kernel
theorem dX0_startAnew_40 : decode cX0_startAnew 40 = .ok (.putfield 41, 3) := by decide +kernel
theorem dX0_startAnew_43 : decode cX0_startAnew 43 = .ok (.aload_n 0, 1) := by decide +kernel
theorem dX0_startAnew_44 : decode cX0_startAnew 44 = .ok (.aload_n 0, 1) := by decide +kernel
theorem dX0_startAnew_45 : decode cX0_startAnew 45 = .ok (.getfield 24, 3) := by decide +kernel
theorem dX0_startAnew_48 : decode cX0_startAnew 48 = .ok (.getfield 44, 3) := by decide +kernel
theorem dX0_startAnew_51 : decode cX0_startAnew 51 = .ok (.putfield 20, 3) := by decide +kernel
theorem dX0_startAnew_54 : decode cX0_startAnew 54 = .ok (.aload_n 0, 1) := by decide +kernel
theorem dX0_startAnew_55 : decode cX0_startAnew 55 = .ok (.iconst 0, 1) := by decide +kernel
theorem dX0_startAnew_56 : decode cX0_startAnew 56 = .ok (.putfield 47, 3) := by decide +kernel
theorem dX0_startAnew_59 : decode cX0_startAnew 59 = .ok (.aload_n 0, 1) := by decide +kernel
theorem dX0_startAnew_60 : decode cX0_startAnew 60 = .ok (.iconst 0, 1) := by decide +kernel
theorem dX0_startAnew_61 : decode cX0_startAnew 61 = .ok (.putfield 50, 3) := by decide +kernel
theorem dX0_startAnew_64 : decode cX0_startAnew 64 = .ok (.return_, 1) := by decide +kernel
theorem dX0_takeOver_0 : decode cX0_takeOver 0 = .ok (.aload_n 1, 1) := by decide +kernel
theorem dX0_takeOver_1 : decode cX0_takeOver 1 = .ok (.getfield 9, 3) := by decide +kernel
theorem dX0_takeOver_4 : decode cX0_takeOver 4 = .ok (.iconst 0, 1) := by decide +kernel
theorem dX0_takeOver_5 : decode cX0_takeOver 5 = .ok (.aload_n 0, 1) := by decide +kernel
theorem dX0_takeOver_6 : decode cX0_takeOver 6 = .ok (.getfield 9, 3) := by decide +kernel
theorem dX0_takeOver_9 : decode cX0_takeOver 9 = .ok (.iconst 0, 1) := by decide +kernel
theorem dX0_takeOver_10 : decode cX0_takeOver 10 = .ok (.bipush 6, 2) := by decide +kernel
theorem dX0_takeOver_12 : decode cX0_takeOver 12 = .ok (.invokestatic 35, 3) := by decide +kernel
theorem dX0_takeOver_15 : decode cX0_takeOver 15 = .ok (.aload_n 1, 1) := by decide +kernel
theorem dX0_takeOver_16 : decode cX0_takeOver 16 = .ok (.getfield 15, 3) := by decide +kernel
theorem dX0_takeOver_19 : decode cX0_takeOver 19 = .ok (.iconst 0, 1) := by decide +kernel
theorem dX0_takeOver_20 : decode cX0_takeOver 20 = .ok (.aload_n 0, 1) := by decide +kernel
theorem dX0_takeOver_21 : decode cX0_takeOver 21 = .ok (.getfield 15, 3) := by decide +kernel
theorem dX0_takeOver_24 : decode cX0_takeOver 24 = .ok (.iconst 0, 1) := by decide +kernel
theorem dX0_takeOver_25 : decode cX0_takeOver 25 = .ok (.iconst 4, 1) := by decide +kernel
theorem dX0_takeOver_26 : decode cX0_takeOver 26 = .ok (.invokestatic 35, 3) := by decide +kernel
theorem dX0_takeOver_29 : decode cX0_takeOver 29 = .ok (.aload_n 0, 1) := by decide +kernel
theorem dX0_takeOver_30 : decode cX0_takeOver 30 = .ok (.aload_n 1, 1) := by decide +kernel
theorem dX0_takeOver_31 : decode cX0_takeOver 31 = .ok (.getfield 41, 3) := by decide +kernel
theorem dX0_takeOver_34 : decode cX0_takeOver 34 = .ok (.putfield 41, 3) := by decide +kernel
theorem dX0_takeOver_37 : decode cX0_takeOver 37 = .ok (.aload_n 0, 1) := by decide +kernel
theorem dX0_takeOver_38 : decode cX0_takeOver 38 = .ok (.aload_n 1, 1) := by decide +kernel
theorem dX0_takeOver_39 : decode cX0_takeOver 39 = .ok (.getfield 20, 3) := by decide +kernel
theorem dX0_takeOver_42 : decode cX0_takeOver 42 = .ok (.putfield 20, 3) := by decide +kernel
theorem dX0_takeOver_45 : decode cX0_takeOver 45 = .ok (.aload_n 0, 1) := by decide +kernel
theorem dX0_takeOver_46 : decode cX0_takeOver 46 = .ok (.aload_n 1, 1) := by decide +kernel
theorem dX0_takeOver_47 : decode cX0_takeOver 47 = .ok (.getfield 47, 3) := by decide +kernel
theorem dX0_takeOver_50 : decode cX0_takeOver 50 = .ok (.putfield 47, 3) := by decide +kernel
theorem dX0_takeOver_53 : decode cX0_takeOver 53 = .ok (.aload_n 0, 1) := by decide +kernel
theorem dX0_takeOver_54 : decode cX0_takeOver 54 = .ok (.aload_n 1, 1) := by decide +kernel
theorem dX0_takeOver_55 : decode cX0_takeOver 55 = .ok (.getfield 50, 3) := by decide +kernel
theorem dX0_takeOver_58 : decode cX0_takeOver 58 = .ok (.putfield 50, 3) := by decide +kernel
theorem dX0_takeOver_61 : decode cX0_takeOver 61 = .ok (.return_, 1) := by decide +kernel
theorem dX0_writeTo_0 : decode cX0_writeTo 0 = .ok (.aload_n 0, 1) := by decide +kernel
theorem dX0_writeTo_1 : decode cX0_writeTo 1 = .ok (.getfield 9, 3) := by decide +kernel
theorem dX0_writeTo_4 : decode cX0_writeTo 4 = .ok (.iconst 0, 1) := by decide +kernel
theorem dX0_writeTo_5 : decode cX0_writeTo 5 = .ok (.aload_n 1, 1) := by decide +kernel
theorem dX0_writeTo_6 : decode cX0_writeTo 6 = .ok (.iload_n 2, 1) := by decide +kernel
theorem dX0_writeTo_7 : decode cX0_writeTo 7 = .ok (.bipush 6, 2) := by decide +kernel
theorem dX0_writeTo_9 : decode cX0_writeTo 9 = .ok (.invokestatic 35, 3) := by decide +kernel
theorem dX0_writeTo_12 : decode cX0_writeTo 12 = .ok (.aload_n 0, 1) := by decide +kernel
theorem dX0_writeTo_13 : decode cX0_writeTo 13 = .ok (.getfield 15, 3) := by decide +kernel
theorem dX0_writeTo_16 : decode cX0_writeTo 16 = .ok (.iconst 0, 1) := by decide +kernel
theorem dX0_writeTo_17 : decode cX0_writeTo 17 = .ok (.aload_n 1, 1) := by decide +kernel
theorem dX0_writeTo_18 : decode cX0_writeTo 18 = .ok (.iload_n 2, 1) := by decide +kernel
theorem dX0_writeTo_19 : decode cX0_writeTo 19 = .ok (.bipush 6, 2) := by decide +kernel
theorem dX0_writeTo_21 : decode cX0_writeTo 21 = .ok (.iadd, 1) := by decide +kernel
theorem dX0_writeTo_22 : decode cX0_writeTo 22 = .ok (.iconst 4, 1) := by decide +kernel
theorem dX0_writeTo_23 : decode cX0_writeTo 23 = .ok (.invokestatic 35, 3) := by decide +kernel
theorem dX0_writeTo_26 : decode cX0_writeTo 26 = .ok (.iload_n 2, 1) := by decide +kernel
theorem dX0_writeTo_27 : decode cX0_writeTo 27 = .ok (.bipush 6, 2) := by decide +kernel
theorem dX0_writeTo_29 : decode cX0_writeTo 29 = .ok (.iadd, 1) := by decide +kernel
theorem dX0_writeTo_30 : decode cX0_writeTo 30 = .ok (.iconst 4, 1) := by decide +kernel
theorem dX0_writeTo_31 : decode cX0_writeTo 31 = .ok (.iadd, 1) := by decide +kernel
theorem dX0_writeTo_32 : decode cX0_writeTo 32 = .ok (.istore_n 3, 1) := by decide +kernel
theorem dX0_writeTo_33 : decode cX0_writeTo 33 = .ok (.aload_n 1, 1) := by decide +kernel
theorem dX0_writeTo_34 : decode cX0_writeTo 34 = .ok (.iload_n 3, 1) := by decide +kernel
theorem dX0_writeTo_35 : decode cX0_writeTo 35 = .ok (.aload_n 0, 1) := by decide +kernel
theorem dX0_writeTo_36 : decode cX0_writeTo 36 = .ok (.getfield 41, 3) := by decide +kernel
theorem dX0_writeTo_39 : decode cX0_writeTo 39 = .ok (.iastore, 1) := by decide +kernel
theorem dX0_writeTo_40 : decode cX0_writeTo 40 = .ok (.aload_n 1, 1) := by decide +kernel
theorem dX0_writeTo_41 : decode cX0_writeTo 41 = .ok (.iload_n 3, 1) := by decide +kernel
theorem dX0_writeTo_42 : decode cX0_writeTo 42 = .ok (.iconst 1, 1) := by decide +kernel
theorem dX0_writeTo_43 : decode cX0_writeTo 43 = .ok (.iadd, 1) := by decide +kernel
theorem dX0_writeTo_44 : decode cX0_writeTo 44 = .ok (.aload_n 0, 1) := by decide +kernel
theorem dX0_writeTo_45 : decode cX0_writeTo 45 = .ok (.getfield 20, 3) := by decide +kernel
theorem dX0_writeTo_48 : decode cX0_writeTo 48 = .ok (.iastore, 1) := by decide +kernel
theorem dX0_writeTo_49 : decode cX0_writeTo 49 = .ok (.aload_n 1, 1) := by decide +kernel
theorem dX0_writeTo_50 : decode cX0_writeTo 50 = .ok (.iload_n 3, 1) := by decide +kernel
theorem dX0_writeTo_51 : decode cX0_writeTo 51 = .ok (.iconst 2, 1) := by decide +kernel
theorem dX0_writeTo_52 : decode cX0_writeTo 52 = .ok (.iadd, 1) := by decide +kernel
theorem dX0_writeTo_53 : decode cX0_writeTo 53 = .ok (.aload_n 0, 1) := by decide +kernel
theorem dX0_writeTo_54 : decode cX0_writeTo 54 = .ok (.getfield 47, 3) := by decide +kernel
theorem dX0_writeTo_57 : decode cX0_writeTo 57 = .ok (.iastore, 1) := by decide +kernel
theorem dX0_writeTo_58 : decode cX0_writeTo 58 = .ok (.aload_n 1, 1) := by decide +kernel
theorem dX0_writeTo_59 : decode cX0_writeTo 59 = .ok (.iload_n 3, 1) := by decide +kernel
theorem dX0_writeTo_60 : decode cX0_writeTo 60 = .ok (.iconst 3, 1) := by decide +kernel
theorem dX0_writeTo_61 : decode cX0_writeTo 61 = .ok (.iadd, 1) := by decide +kernel
theorem dX0_writeTo_62 : decode cX0_writeTo 62 = .ok (.aload_n 0, 1) := by decide +kernel
theorem dX0_writeTo_63 : decode cX0_writeTo 63 = .ok (.getfield 50, 3) := by decide +kernel
theorem dX0_writeTo_66 : decode cX0_writeTo 66 = .ok (.iastore, 1) := by decide +kernel
theorem dX0_writeTo_67 : decode cX0_writeTo 67 = .ok (.return_, 1) := by decide +kernel
theorem dX0_readBack_0 : decode cX0_readBack 0 = .ok (.aload_n 1, 1) := by decide +kernel
theorem dX0_readBack_1 : decode cX0_readBack 1 = .ok (.iload_n 2, 1) := by decide +kernel
theorem dX0_readBack_2 : decode cX0_readBack 2 = .ok (.aload_n 0, 1) := by decide +kernel
theorem dX0_readBack_3 : decode cX0_readBack 3 = .ok (.getfield 9, 3) := by decide +kernel
theorem dX0_readBack_6 : decode cX0_readBack 6 = .ok (.iconst 0, 1) := by decide +kernel
theorem dX0_readBack_7 : decode cX0_readBack 7 = .ok (.bipush 6, 2) := by decide +kernel
theorem dX0_readBack_9 : decode cX0_readBack 9 = .ok (.invokestatic 35, 3) := by decide +kernel
theorem dX0_readBack_12 : decode cX0_readBack 12 = .ok (.aload_n 1, 1) := by decide +kernel
theorem dX0_readBack_13 : decode cX0_readBack 13 = .ok (.iload_n 2, 1) := by decide +kernel
theorem dX0_readBack_14 : decode cX0_readBack 14 = .ok (.bipush 6, 2) := by decide +kernel
theorem dX0_readBack_16 : decode cX0_readBack 16 = .ok (.iadd, 1) := by decide +kernel
theorem dX0_readBack_17 : decode cX0_readBack 17 = .ok (.aload_n 0, 1) := by decide +kernel
theorem dX0_readBack_18 : decode cX0_readBack 18 = .ok (.getfield 15, 3) := by decide +kernel
theorem dX0_readBack_21 : decode cX0_readBack 21 = .ok (.iconst 0, 1) := by decide +kernel
theorem dX0_readBack_22 : decode cX0_readBack 22 = .ok (.iconst 4, 1) := by decide +kernel
theorem dX0_readBack_23 : decode cX0_readBack 23 = .ok (.invokestatic 35, 3) := by decide +kernel
theorem dX0_readBack_26 : decode cX0_readBack 26 = .ok (.iload_n 2, 1) := by decide +kernel
theorem dX0_readBack_27 : decode cX0_readBack 27 = .ok (.bipush 6, 2) := by decide +kernel
theorem dX0_readBack_29 : decode cX0_readBack 29 = .ok (.iadd, 1) := by decide +kernel
theorem dX0_readBack_30 : decode cX0_readBack 30 = .ok (.iconst 4, 1) := by decide +kernel
theorem dX0_readBack_31 : decode cX0_readBack 31 = .ok (.iadd, 1) := by decide +kernel
theorem dX0_readBack_32 : decode cX0_readBack 32 = .ok (.istore_n 3, 1) := by decide +kernel
theorem dX0_readBack_33 : decode cX0_readBack 33 = .ok (.aload_n 0, 1) := by decide +kernel
theorem dX0_readBack_34 : decode cX0_readBack 34 = .ok (.aload_n 1, 1) := by decide +kernel
theorem dX0_readBack_35 : decode cX0_readBack 35 = .ok (.iload_n 3, 1) := by decide +kernel
theorem dX0_readBack_36 : decode cX0_readBack 36 = .ok (.iaload, 1) := by decide +kernel
theorem dX0_readBack_37 : decode cX0_readBack 37 = .ok (.putfield 41, 3) := by decide +kernel
theorem dX0_readBack_40 : decode cX0_readBack 40 = .ok (.aload_n 0, 1) := by decide +kernel
theorem dX0_readBack_41 : decode cX0_readBack 41 = .ok (.aload_n 1, 1) := by decide +kernel
theorem dX0_readBack_42 : decode cX0_readBack 42 = .ok (.iload_n 3, 1) := by decide +kernel
theorem dX0_readBack_43 : decode cX0_readBack 43 = .ok (.iconst 1, 1) := by decide +kernel
theorem dX0_readBack_44 : decode cX0_readBack 44 = .ok (.iadd, 1) := by decide +kernel
theorem dX0_readBack_45 : decode cX0_readBack 45 = .ok (.iaload, 1) := by decide +kernel
theorem dX0_readBack_46 : decode cX0_readBack 46 = .ok (.putfield 20, 3) := by decide +kernel
theorem dX0_readBack_49 : decode cX0_readBack 49 = .ok (.aload_n 0, 1) := by decide +kernel
theorem dX0_readBack_50 : decode cX0_readBack 50 = .ok (.aload_n 1, 1) := by decide +kernel
theorem dX0_readBack_51 : decode cX0_readBack 51 = .ok (.iload_n 3, 1) := by decide +kernel
theorem dX0_readBack_52 : decode cX0_readBack 52 = .ok (.iconst 2, 1) := by decide +kernel
theorem dX0_readBack_53 : decode cX0_readBack 53 = .ok (.iadd, 1) := by decide +kernel
theorem dX0_readBack_54 : decode cX0_readBack 54 = .ok (.iaload, 1) := by decide +kernel
theorem dX0_readBack_55 : decode cX0_readBack 55 = .ok (.putfield 47, 3) := by decide +kernel
theorem dX0_readBack_58 : decode cX0_readBack 58 = .ok (.aload_n 0, 1) := by decide +kernel
theorem dX0_readBack_59 : decode cX0_readBack 59 = .ok (.aload_n 1, 1) := by decide +kernel
theorem dX0_readBack_60 : decode cX0_readBack 60 = .ok (.iload_n 3, 1) := by decide +kernel
theorem dX0_readBack_61 : decode cX0_readBack 61 = .ok (.iconst 3, 1) := by decide +kernel
theorem dX0_readBack_62 : decode cX0_readBack 62 = .ok (.iadd, 1) := by decide +kernel
theorem dX0_readBack_63 : decode cX0_readBack 63 = .ok (.iaload, 1) := by decide +kernel
theorem dX0_readBack_64 : decode cX0_readBack 64 = .ok (.putfield 50, 3) := by decide +kernel
theorem dX0_readBack_67 : decode cX0_readBack 67 = .ok (.return_, 1) := by decide +kernel
theorem dX0_isLeft_0 : decode cX0_isLeft 0 = .ok (.aload_n 0, 1) := by decide +kernel
theorem dX0_isLeft_1 : decode cX0_isLeft 1 = .ok (.getfield 24, 3) := by decide +kernel
theorem dX0_isLeft_4 : decode cX0_isLeft 4 = .ok (.iload_n 1, 1) := by decide +kernel
theorem dX0_isLeft_5 : decode cX0_isLeft 5 = .ok (.iload_n 2, 1) := by decide +kernel
theorem dX0_isLeft_6 : decode cX0_isLeft 6 = .ok (.invokevirtual 53, 3) := by decide +kernel
theorem dX0_isLeft_9 : decode cX0_isLeft 9 = .ok (.ifCond .eq 20, 3) := by decide +kernel
theorem dX0_isLeft_12 : decode cX0_isLeft 12 = .ok (.aload_n 0, 1) := by decide +kernel
theorem dX0_isLeft_13 : decode cX0_isLeft 13 = .ok (.getfield 9, 3) := by decide +kernel
theorem dX0_isLeft_16 : decode cX0_isLeft 16 = .ok (.iload_n 1, 1) := by decide +kernel
theorem dX0_isLeft_17 : decode cX0_isLeft 17 = .ok (.iaload, 1) := by decide +kernel
theorem dX0_isLeft_18 : decode cX0_isLeft 18 = .ok (.iload_n 2, 1) := by decide +kernel
theorem dX0_isLeft_19 : decode cX0_isLeft 19 = .ok (.ishr, 1) := by decide +kernel
theorem dX0_isLeft_20 : decode cX0_isLeft 20 = .ok (.iconst 1, 1) := by decide +kernel
theorem dX0_isLeft_21 : decode cX0_isLeft 21 = .ok (.iand, 1) := by decide +kernel
theorem dX0_isLeft_22 : decode cX0_isLeft 22 = .ok (.ifCond .ne 7, 3) := by decide +kernel
theorem dX0_isLeft_25 : decode cX0_isLeft 25 = .ok (.iconst 1, 1) := by decide +kernel
theorem dX0_isLeft_26 : decode cX0_isLeft 26 = .ok (.goto 4, 3) := by decide +kernel
theorem dX0_isLeft_29 : decode cX0_isLeft 29 = .ok (.iconst 0, 1) := by decide +kernel
theorem dX0_isLeft_30 : decode cX0_isLeft 30 = .ok (.ireturn, 1) := by decide +kernel
theorem dX0_leftIn_0 : decode cX0_leftIn 0 = .ok (.aload_n 0, 1) := by decide +kernel
theorem dX0_leftIn_1 : decode cX0_leftIn 1 = .ok (.getfield 24, 3) := by decide +kernel
theorem dX0_leftIn_4 : decode cX0_leftIn 4 = .ok (.iload_n 1, 1) := by decide +kernel
theorem dX0_leftIn_5 : decode cX0_leftIn 5 = .ok (.invokevirtual 57, 3) := by decide +kernel
theorem dX0_leftIn_8 : decode cX0_leftIn 8 = .ok (.ifCond .eq 25, 3) := by decide +kernel
theorem dX0_leftIn_11 : decode cX0_leftIn 11 = .ok (.aload_n 0, 1) := by decide +kernel
theorem dX0_leftIn_12 : decode cX0_leftIn 12 = .ok (.getfield 24, 3) := by decide +kernel
theorem dX0_leftIn_15 : decode cX0_leftIn 15 = .ok (.getfield 61, 3) := by decide +kernel
theorem dX0_leftIn_18 : decode cX0_leftIn 18 = .ok (.iload_n 1, 1) := by decide +kernel
theorem dX0_leftIn_19 : decode cX0_leftIn 19 = .ok (.iaload, 1) := by decide +kernel
theorem dX0_leftIn_20 : decode cX0_leftIn 20 = .ok (.aload_n 0, 1) := by decide +kernel
theorem dX0_leftIn_21 : decode cX0_leftIn 21 = .ok (.getfield 9, 3) := by decide +kernel
theorem dX0_leftIn_24 : decode cX0_leftIn 24 = .ok (.iload_n 1, 1) := by decide +kernel
theorem dX0_leftIn_25 : decode cX0_leftIn 25 = .ok (.iaload, 1) := by decide +kernel
theorem dX0_leftIn_26 : decode cX0_leftIn 26 = .ok (.invokestatic 64, 3) := by decide +kernel
theorem dX0_leftIn_29 : decode cX0_leftIn 29 = .ok (.isub, 1) := by decide +kernel
theorem dX0_leftIn_30 : decode cX0_leftIn 30 = .ok (.goto 4, 3) := by decide +kernel
theorem dX0_leftIn_33 : decode cX0_leftIn 33 = .ok (.iconst 0, 1) := by decide +kernel
theorem dX0_leftIn_34 : decode cX0_leftIn 34 = .ok (.ireturn, 1) := by decide +kernel
theorem dX0_leftInAll_0 : decode cX0_leftInAll 0 = .ok (.aload_n 0, 1) := by decide +kernel
theorem dX0_leftInAll_1 : decode cX0_leftInAll 1 = .ok (.getfield 24, 3) := by decide +kernel
theorem dX0_leftInAll_4 : decode cX0_leftInAll 4 = .ok (.getfield 70, 3) := by decide +kernel
theorem dX0_leftInAll_7 : decode cX0_leftInAll 7 = .ok (.istore_n 1, 1) := by decide +kernel
theorem dX0_leftInAll_8 : decode cX0_leftInAll 8 = .ok (.iconst 0, 1) := by decide +kernel
theorem dX0_leftInAll_9 : decode cX0_leftInAll 9 = .ok (.istore_n 2, 1) := by decide +kernel
theorem dX0_leftInAll_10 : decode cX0_leftInAll 10 = .ok (.iload_n 2, 1) := by decide +kernel
theorem dX0_leftInAll_11 : decode cX0_leftInAll 11 = .ok (.aload_n 0, 1) := by decide +kernel
theorem dX0_leftInAll_12 : decode cX0_leftInAll 12 = .ok (.getfield 24, 3) := by decide +kernel
theorem dX0_leftInAll_15 : decode cX0_leftInAll 15 = .ok (.getfield 73, 3) := by decide +kernel
theorem dX0_leftInAll_18 : decode cX0_leftInAll 18 = .ok (.if_icmp .ge 21, 3) := by decide +kernel
theorem dX0_leftInAll_21 : decode cX0_leftInAll 21 = .ok (.iload_n 1, 1) := by decide +kernel
theorem dX0_leftInAll_22 : decode cX0_leftInAll 22 = .ok (.aload_n 0, 1) := by decide +kernel
theorem dX0_leftInAll_23 : decode cX0_leftInAll 23 = .ok (.getfield 9, 3) := by decide +kernel
theorem dX0_leftInAll_26 : decode cX0_leftInAll 26 = .ok (.iload_n 2, 1) := by decide +kernel
theorem dX0_leftInAll_27 : decode cX0_leftInAll 27 = .ok (.iaload, 1) := by decide +kernel
theorem dX0_leftInAll_28 : decode cX0_leftInAll 28 = .ok (.invokestatic 64, 3) := by decide +kernel
theorem dX0_leftInAll_31 : decode cX0_leftInAll 31 = .ok (.isub, 1) := by decide +kernel
theorem dX0_leftInAll_32 : decode cX0_leftInAll 32 = .ok (.istore_n 1, 1) := by decide +kernel
theorem dX0_leftInAll_33 : decode cX0_leftInAll 33 = .ok (.iinc 2 1, 3) := by decide +kernel
theorem dX0_leftInAll_36 : decode cX0_leftInAll 36 = .ok (.goto (-26), 3) := by decide +kernel
theorem dX0_leftInAll_39 : decode cX0_leftInAll 39 = .ok (.iload_n 1, 1) := by decide +kernel
theorem dX0_leftInAll_40 : decode cX0_leftInAll 40 = .ok (.ireturn, 1) := by decide +kernel
theorem dX0_leftBits_0 : decode cX0_leftBits 0 = .ok (.aload_n 0, 1) := by decide +kernel
theorem dX0_leftBits_1 : decode cX0_leftBits 1 = .ok (.getfield 24, 3) := by decide +kernel
theorem dX0_leftBits_4 : decode cX0_leftBits 4 = .ok (.iload_n 1, 1) := by decide +kernel
theorem dX0_leftBits_5 : decode cX0_leftBits 5 = .ok (.invokevirtual 57, 3) := by decide +kernel
theorem dX0_leftBits_8 : decode cX0_leftBits 8 = .ok (.ifCond .eq 28, 3) := by decide +kernel
theorem dX0_leftBits_11 : decode cX0_leftBits 11 = .ok (.iconst 1, 1) := by decide +kernel
theorem dX0_leftBits_12 : decode cX0_leftBits 12 = .ok (.aload_n 0, 1) := by decide +kernel
theorem dX0_leftBits_13 : decode cX0_leftBits 13 = .ok (.getfield 24, 3) := by decide +kernel
theorem dX0_leftBits_16 : decode cX0_leftBits 16 = .ok (.getfield 61, 3) := by decide +kernel
theorem dX0_leftBits_19 : decode cX0_leftBits 19 = .ok (.iload_n 1, 1) := by decide +kernel
theorem dX0_leftBits_20 : decode cX0_leftBits 20 = .ok (.iaload, 1) := by decide +kernel
theorem dX0_leftBits_21 : decode cX0_leftBits 21 = .ok (.ishl, 1) := by decide +kernel
theorem dX0_leftBits_22 : decode cX0_leftBits 22 = .ok (.iconst 1, 1) := by decide +kernel
theorem dX0_leftBits_23 : decode cX0_leftBits 23 = .ok (.isub, 1) := by decide +kernel
theorem dX0_leftBits_24 : decode cX0_leftBits 24 = .ok (.aload_n 0, 1) := by decide +kernel
theorem dX0_leftBits_25 : decode cX0_leftBits 25 = .ok (.getfield 9, 3) := by decide +kernel
theorem dX0_leftBits_28 : decode cX0_leftBits 28 = .ok (.iload_n 1, 1) := by decide +kernel
theorem dX0_leftBits_29 : decode cX0_leftBits 29 = .ok (.iaload, 1) := by decide +kernel
theorem dX0_leftBits_30 : decode cX0_leftBits 30 = .ok (.iconst (-1), 1) := by decide +kernel
theorem dX0_leftBits_31 : decode cX0_leftBits 31 = .ok (.ixor, 1) := by decide +kernel
theorem dX0_leftBits_32 : decode cX0_leftBits 32 = .ok (.iand, 1) := by decide +kernel
theorem dX0_leftBits_33 : decode cX0_leftBits 33 = .ok (.goto 4, 3) := by decide +kernel
theorem dX0_leftBits_36 : decode cX0_leftBits 36 = .ok (.iconst 0, 1) := by decide +kernel
theorem dX0_leftBits_37 : decode cX0_leftBits 37 = .ok (.ireturn, 1) := by decide +kernel
theorem dX0_firstLeft_0 : decode cX0_firstLeft 0 = .ok (.aload_n 0, 1) := by decide +kernel
theorem dX0_firstLeft_1 : decode cX0_firstLeft 1 = .ok (.iload_n 1, 1) := by decide +kernel
theorem dX0_firstLeft_2 : decode cX0_firstLeft 2 = .ok (.invokevirtual 76, 3) := by decide +kernel
theorem dX0_firstLeft_5 : decode cX0_firstLeft 5 = .ok (.istore_n 2, 1) := by decide +kernel
theorem dX0_firstLeft_6 : decode cX0_firstLeft 6 = .ok (.iload_n 2, 1) := by decide +kernel
theorem dX0_firstLeft_7 : decode cX0_firstLeft 7 = .ok (.ifCond .ne 7, 3) := by decide +kernel
theorem dX0_firstLeft_10 : decode cX0_firstLeft 10 = .ok (.iconst (-1), 1) := by decide +kernel
theorem dX0_firstLeft_11 : decode cX0_firstLeft 11 = .ok (.goto 9, 3) := by decide +kernel
theorem dX0_firstLeft_14 : decode cX0_firstLeft 14 = .ok (.aload_n 0, 1) := by decide +kernel
theorem dX0_firstLeft_15 : decode cX0_firstLeft 15 = .ok (.iload_n 1, 1) := by decide +kernel
theorem dX0_firstLeft_16 : decode cX0_firstLeft 16 = .ok (.iload_n 2, 1) := by decide +kernel
theorem dX0_firstLeft_17 : decode cX0_firstLeft 17 = .ok (.invokevirtual 79, 3) := by decide +kernel
theorem dX0_firstLeft_20 : decode cX0_firstLeft 20 = .ok (.ireturn, 1) := by decide +kernel
theorem dX0_lowestWord_0 : decode cX0_lowestWord 0 = .ok (.iload_n 2, 1) := by decide +kernel
theorem dX0_lowestWord_1 : decode cX0_lowestWord 1 = .ok (.ifCond .ne 7, 3) := by decide +kernel
theorem dX0_lowestWord_4 : decode cX0_lowestWord 4 = .ok (.iconst 0, 1) := by decide +kernel
theorem dX0_lowestWord_5 : decode cX0_lowestWord 5 = .ok (.goto 20, 3) := by decide +kernel
theorem dX0_lowestWord_8 : decode cX0_lowestWord 8 = .ok (.aload_n 0, 1) := by decide +kernel
theorem dX0_lowestWord_9 : decode cX0_lowestWord 9 = .ok (.getfield 24, 3) := by decide +kernel
theorem dX0_lowestWord_12 : decode cX0_lowestWord 12 = .ok (.iload_n 1, 1) := by decide +kernel
theorem dX0_lowestWord_13 : decode cX0_lowestWord 13 = .ok (.iload_n 2, 1) := by decide +kernel
theorem dX0_lowestWord_14 : decode cX0_lowestWord 14 = .ok (.iload_n 2, 1) := by decide +kernel
theorem dX0_lowestWord_15 : decode cX0_lowestWord 15 = .ok (.ineg, 1) := by decide +kernel
theorem dX0_lowestWord_16 : decode cX0_lowestWord 16 = .ok (.iand, 1) := by decide +kernel
theorem dX0_lowestWord_17 : decode cX0_lowestWord 17 = .ok (.iconst 1, 1) := by decide +kernel
theorem dX0_lowestWord_18 : decode cX0_lowestWord 18 = .ok (.isub, 1) := by decide +kernel
theorem dX0_lowestWord_19 : decode cX0_lowestWord 19 = .ok (.invokestatic 64, 3) := by decide +kernel
theorem dX0_lowestWord_22 : decode cX0_lowestWord 22 = .ok (.invokevirtual 83, 3) := by decide +kernel
theorem dX0_lowestWord_25 : decode cX0_lowestWord 25 = .ok (.ireturn, 1) := by decide +kernel
theorem dX0_sumOfLeft_0 : decode cX0_sumOfLeft 0 = .ok (.aload_n 0, 1) := by decide +kernel
theorem dX0_sumOfLeft_1 : decode cX0_sumOfLeft 1 = .ok (.iload_n 1, 1) := by decide +kernel
theorem dX0_sumOfLeft_2 : decode cX0_sumOfLeft 2 = .ok (.invokevirtual 76, 3) := by decide +kernel
theorem dX0_sumOfLeft_5 : decode cX0_sumOfLeft 5 = .ok (.istore_n 2, 1) := by decide +kernel
theorem dX0_sumOfLeft_6 : decode cX0_sumOfLeft 6 = .ok (.iconst 0, 1) := by decide +kernel
theorem dX0_sumOfLeft_7 : decode cX0_sumOfLeft 7 = .ok (.istore_n 3, 1) := by decide +kernel
theorem dX0_sumOfLeft_8 : decode cX0_sumOfLeft 8 = .ok (.iconst 0, 1) := by decide +kernel
theorem dX0_sumOfLeft_9 : decode cX0_sumOfLeft 9 = .ok (.istore 4, 2) := by decide +kernel
theorem dX0_sumOfLeft_11 : decode cX0_sumOfLeft 11 = .ok (.iload 4, 2) := by decide +kernel
theorem dX0_sumOfLeft_13 : decode cX0_sumOfLeft 13 = .ok (.bipush 8, 2) := by decide +kernel
theorem dX0_sumOfLeft_15 : decode cX0_sumOfLeft 15 = .ok (.if_icmp .ge 32, 3) := by decide +kernel
theorem dX0_sumOfLeft_18 : decode cX0_sumOfLeft 18 = .ok (.iload_n 2, 1) := by decide +kernel
theorem dX0_sumOfLeft_19 : decode cX0_sumOfLeft 19 = .ok (.iload 4, 2) := by decide +kernel
theorem dX0_sumOfLeft_21 : decode cX0_sumOfLeft 21 = .ok (.ishr, 1) := by decide +kernel
theorem dX0_sumOfLeft_22 : decode cX0_sumOfLeft 22 = .ok (.iconst 1, 1) := by decide +kernel
theorem dX0_sumOfLeft_23 : decode cX0_sumOfLeft 23 = .ok (.iand, 1) := by decide +kernel
theorem dX0_sumOfLeft_24 : decode cX0_sumOfLeft 24 = .ok (.iconst 1, 1) := by decide +kernel
theorem dX0_sumOfLeft_25 : decode cX0_sumOfLeft 25 = .ok (.if_icmp .ne 16, 3) := by decide +kernel
theorem dX0_sumOfLeft_28 : decode cX0_sumOfLeft 28 = .ok (.iload_n 3, 1) := by decide +kernel
theorem dX0_sumOfLeft_29 : decode cX0_sumOfLeft 29 = .ok (.aload_n 0, 1) := by decide +kernel
theorem dX0_sumOfLeft_30 : decode cX0_sumOfLeft 30 = .ok (.getfield 24, 3) := by decide +kernel
theorem dX0_sumOfLeft_33 : decode cX0_sumOfLeft 33 = .ok (.iload_n 1, 1) := by decide +kernel
theorem dX0_sumOfLeft_34 : decode cX0_sumOfLeft 34 = .ok (.iload 4, 2) := by decide +kernel
theorem dX0_sumOfLeft_36 : decode cX0_sumOfLeft 36 = .ok (.invokevirtual 83, 3) := by decide +kernel
theorem dX0_sumOfLeft_39 : decode cX0_sumOfLeft 39 = .ok (.iadd, 1) := by decide +kernel
theorem dX0_sumOfLeft_40 : decode cX0_sumOfLeft 40 = .ok (.istore_n 3, 1) := by decide +kernel
theorem dX0_sumOfLeft_41 : decode cX0_sumOfLeft 41 = .ok (.iinc 4 1, 3) := by decide +kernel
theorem dX0_sumOfLeft_44 : decode cX0_sumOfLeft 44 = .ok (.goto (-33), 3) := by decide +kernel
theorem dX0_sumOfLeft_47 : decode cX0_sumOfLeft 47 = .ok (.iload_n 3, 1) := by decide +kernel
theorem dX0_sumOfLeft_48 : decode cX0_sumOfLeft 48 = .ok (.ireturn, 1) := by decide +kernel
theorem dX0_timesSaid_0 : decode cX0_timesSaid 0 = .ok (.iconst 0, 1) := by decide +kernel
theorem dX0_timesSaid_1 : decode cX0_timesSaid 1 = .ok (.istore_n 2, 1) := by decide +kernel
theorem dX0_timesSaid_2 : decode cX0_timesSaid 2 = .ok (.iconst 0, 1) := by decide +kernel
theorem dX0_timesSaid_3 : decode cX0_timesSaid 3 = .ok (.istore_n 3, 1) := by decide +kernel
theorem dX0_timesSaid_4 : decode cX0_timesSaid 4 = .ok (.iload_n 3, 1) := by decide +kernel
theorem dX0_timesSaid_5 : decode cX0_timesSaid 5 = .ok (.aload_n 0, 1) := by decide +kernel
theorem dX0_timesSaid_6 : decode cX0_timesSaid 6 = .ok (.getfield 24, 3) := by decide +kernel
theorem dX0_timesSaid_9 : decode cX0_timesSaid 9 = .ok (.getfield 73, 3) := by decide +kernel
theorem dX0_timesSaid_12 : decode cX0_timesSaid 12 = .ok (.if_icmp .ge 67, 3) := by decide +kernel
theorem dX0_timesSaid_15 : decode cX0_timesSaid 15 = .ok (.aload_n 0, 1) := by decide +kernel
theorem dX0_timesSaid_16 : decode cX0_timesSaid 16 = .ok (.iload_n 3, 1) := by decide +kernel
theorem dX0_timesSaid_17 : decode cX0_timesSaid 17 = .ok (.invokevirtual 76, 3) := by decide +kernel
theorem dX0_timesSaid_20 : decode cX0_timesSaid 20 = .ok (.istore 4, 2) := by decide +kernel
theorem dX0_timesSaid_22 : decode cX0_timesSaid 22 = .ok (.iconst 0, 1) := by decide +kernel
theorem dX0_timesSaid_23 : decode cX0_timesSaid 23 = .ok (.istore 5, 2) := by decide +kernel
theorem dX0_timesSaid_25 : decode cX0_timesSaid 25 = .ok (.iload 5, 2) := by decide +kernel
theorem dX0_timesSaid_27 : decode cX0_timesSaid 27 = .ok (.aload_n 0, 1) := by decide +kernel
theorem dX0_timesSaid_28 : decode cX0_timesSaid 28 = .ok (.getfield 24, 3) := by decide +kernel
theorem dX0_timesSaid_31 : decode cX0_timesSaid 31 = .ok (.getfield 61, 3) := by decide +kernel
theorem dX0_timesSaid_34 : decode cX0_timesSaid 34 = .ok (.iload_n 3, 1) := by decide +kernel
theorem dX0_timesSaid_35 : decode cX0_timesSaid 35 = .ok (.iaload, 1) := by decide +kernel
theorem dX0_timesSaid_36 : decode cX0_timesSaid 36 = .ok (.if_icmp .ge 37, 3) := by decide +kernel
theorem dX0_timesSaid_39 : decode cX0_timesSaid 39 = .ok (.iload 4, 2) := by decide +kernel
theorem dX0_timesSaid_41 : decode cX0_timesSaid 41 = .ok (.iload 5, 2) := by decide +kernel
theorem dX0_timesSaid_43 : decode cX0_timesSaid 43 = .ok (.ishr, 1) := by decide +kernel
theorem dX0_timesSaid_44 : decode cX0_timesSaid 44 = .ok (.iconst 1, 1) := by decide +kernel
theorem dX0_timesSaid_45 : decode cX0_timesSaid 45 = .ok (.iand, 1) := by decide +kernel
theorem dX0_timesSaid_46 : decode cX0_timesSaid 46 = .ok (.iconst 1, 1) := by decide +kernel
theorem dX0_timesSaid_47 : decode cX0_timesSaid 47 = .ok (.if_icmp .ne 20, 3) := by decide +kernel
theorem dX0_timesSaid_50 : decode cX0_timesSaid 50 = .ok (.aload_n 0, 1) := by decide +kernel
theorem dX0_timesSaid_51 : decode cX0_timesSaid 51 = .ok (.getfield 24, 3) := by decide +kernel
theorem dX0_timesSaid_54 : decode cX0_timesSaid 54 = .ok (.iload_n 3, 1) := by decide +kernel
theorem dX0_timesSaid_55 : decode cX0_timesSaid 55 = .ok (.iload 5, 2) := by decide +kernel
theorem dX0_timesSaid_57 : decode cX0_timesSaid 57 = .ok (.invokevirtual 83, 3) := by decide +kernel
theorem dX0_timesSaid_60 : decode cX0_timesSaid 60 = .ok (.iload_n 1, 1) := by decide +kernel
theorem dX0_timesSaid_61 : decode cX0_timesSaid 61 = .ok (.if_icmp .ne 6, 3) := by decide +kernel
theorem dX0_timesSaid_64 : decode cX0_timesSaid 64 = .ok (.iinc 2 1, 3) := by decide +kernel
theorem dX0_timesSaid_67 : decode cX0_timesSaid 67 = .ok (.iinc 5 1, 3) := by decide +kernel
theorem dX0_timesSaid_70 : decode cX0_timesSaid 70 = .ok (.goto (-45), 3) := by decide +kernel
theorem dX0_timesSaid_73 : decode cX0_timesSaid 73 = .ok (.iinc 3 1, 3) := by decide +kernel
theorem dX0_timesSaid_76 : decode cX0_timesSaid 76 = .ok (.goto (-72), 3) := by decide +kernel
theorem dX0_timesSaid_79 : decode cX0_timesSaid 79 = .ok (.iload_n 2, 1) := by decide +kernel
theorem dX0_timesSaid_80 : decode cX0_timesSaid 80 = .ok (.ireturn, 1) := by decide +kernel
theorem dX0_inAllCells_0 : decode cX0_inAllCells 0 = .ok (.iconst 0, 1) := by decide +kernel
theorem dX0_inAllCells_1 : decode cX0_inAllCells 1 = .ok (.istore_n 1, 1) := by decide +kernel
theorem dX0_inAllCells_2 : decode cX0_inAllCells 2 = .ok (.iconst 0, 1) := by decide +kernel
theorem dX0_inAllCells_3 : decode cX0_inAllCells 3 = .ok (.istore_n 2, 1) := by decide +kernel
theorem dX0_inAllCells_4 : decode cX0_inAllCells 4 = .ok (.iload_n 2, 1) := by decide +kernel
theorem dX0_inAllCells_5 : decode cX0_inAllCells 5 = .ok (.iconst 4, 1) := by decide +kernel
theorem dX0_inAllCells_6 : decode cX0_inAllCells 6 = .ok (.if_icmp .ge 18, 3) := by decide +kernel
theorem dX0_inAllCells_9 : decode cX0_inAllCells 9 = .ok (.iload_n 1, 1) := by decide +kernel
theorem dX0_inAllCells_10 : decode cX0_inAllCells 10 = .ok (.aload_n 0, 1) := by decide +kernel
theorem dX0_inAllCells_11 : decode cX0_inAllCells 11 = .ok (.getfield 15, 3) := by decide +kernel
theorem dX0_inAllCells_14 : decode cX0_inAllCells 14 = .ok (.iload_n 2, 1) := by decide +kernel
theorem dX0_inAllCells_15 : decode cX0_inAllCells 15 = .ok (.iaload, 1) := by decide +kernel
theorem dX0_inAllCells_16 : decode cX0_inAllCells 16 = .ok (.iadd, 1) := by decide +kernel
theorem dX0_inAllCells_17 : decode cX0_inAllCells 17 = .ok (.istore_n 1, 1) := by decide +kernel
theorem dX0_inAllCells_18 : decode cX0_inAllCells 18 = .ok (.iinc 2 1, 3) := by decide +kernel
theorem dX0_inAllCells_21 : decode cX0_inAllCells 21 = .ok (.goto (-17), 3) := by decide +kernel
theorem dX0_inAllCells_24 : decode cX0_inAllCells 24 = .ok (.iload_n 1, 1) := by decide +kernel
theorem dX0_inAllCells_25 : decode cX0_inAllCells 25 = .ok (.ireturn, 1) := by decide +kernel
theorem dX0_speaks_0 : decode cX0_speaks 0 = .ok (.aload_n 0, 1) := by decide +kernel
theorem dX0_speaks_1 : decode cX0_speaks 1 = .ok (.invokevirtual 86, 3) := by decide +kernel
theorem dX0_speaks_4 : decode cX0_speaks 4 = .ok (.aload_n 1, 1) := by decide +kernel
theorem dX0_speaks_5 : decode cX0_speaks 5 = .ok (.getfield 90, 3) := by decide +kernel
theorem dX0_speaks_8 : decode cX0_speaks 8 = .ok (.if_icmp .eq 5, 3) := by decide +kernel
theorem dX0_speaks_11 : decode cX0_speaks 11 = .ok (.iconst 0, 1) := by decide +kernel
theorem dX0_speaks_12 : decode cX0_speaks 12 = .ok (.ireturn, 1) := by decide +kernel
theorem dX0_speaks_13 : decode cX0_speaks 13 = .ok (.iconst 0, 1) := by decide +kernel
theorem dX0_speaks_14 : decode cX0_speaks 14 = .ok (.istore_n 2, 1) := by decide +kernel
theorem dX0_speaks_15 : decode cX0_speaks 15 = .ok (.iconst 0, 1) := by decide +kernel
theorem dX0_speaks_16 : decode cX0_speaks 16 = .ok (.istore_n 3, 1) := by decide +kernel
theorem dX0_speaks_17 : decode cX0_speaks 17 = .ok (.iload_n 3, 1) := by decide +kernel
theorem dX0_speaks_18 : decode cX0_speaks 18 = .ok (.aload_n 0, 1) := by decide +kernel
theorem dX0_speaks_19 : decode cX0_speaks 19 = .ok (.getfield 24, 3) := by decide +kernel
theorem dX0_speaks_22 : decode cX0_speaks 22 = .ok (.getfield 73, 3) := by decide +kernel
theorem dX0_speaks_25 : decode cX0_speaks 25 = .ok (.if_icmp .ge 82, 3) := by decide +kernel
theorem dX0_speaks_28 : decode cX0_speaks 28 = .ok (.aload_n 0, 1) := by decide +kernel
theorem dX0_speaks_29 : decode cX0_speaks 29 = .ok (.iload_n 3, 1) := by decide +kernel
theorem dX0_speaks_30 : decode cX0_speaks 30 = .ok (.invokevirtual 76, 3) := by decide +kernel
theorem dX0_speaks_33 : decode cX0_speaks 33 = .ok (.istore 4, 2) := by decide +kernel
theorem dX0_speaks_35 : decode cX0_speaks 35 = .ok (.iconst 0, 1) := by decide +kernel
theorem dX0_speaks_36 : decode cX0_speaks 36 = .ok (.istore 5, 2) := by decide +kernel
theorem dX0_speaks_38 : decode cX0_speaks 38 = .ok (.iload 5, 2) := by decide +kernel
theorem dX0_speaks_40 : decode cX0_speaks 40 = .ok (.aload_n 0, 1) := by decide +kernel
theorem dX0_speaks_41 : decode cX0_speaks 41 = .ok (.getfield 24, 3) := by decide +kernel
theorem dX0_speaks_44 : decode cX0_speaks 44 = .ok (.getfield 61, 3) := by decide +kernel
theorem dX0_speaks_47 : decode cX0_speaks 47 = .ok (.iload_n 3, 1) := by decide +kernel
theorem dX0_speaks_48 : decode cX0_speaks 48 = .ok (.iaload, 1) := by decide +kernel
theorem dX0_speaks_49 : decode cX0_speaks 49 = .ok (.if_icmp .ge 52, 3) := by decide +kernel
theorem dX0_speaks_52 : decode cX0_speaks 52 = .ok (.iload_n 2, 1) := by decide +kernel
theorem dX0_speaks_53 : decode cX0_speaks 53 = .ok (.aload_n 1, 1) := by decide +kernel
theorem dX0_speaks_54 : decode cX0_speaks 54 = .ok (.getfield 90, 3) := by decide +kernel
theorem dX0_speaks_57 : decode cX0_speaks 57 = .ok (.if_icmp .ge 44, 3) := by decide +kernel
theorem dX0_speaks_60 : decode cX0_speaks 60 = .ok (.iload 4, 2) := by decide +kernel
theorem dX0_speaks_62 : decode cX0_speaks 62 = .ok (.iload 5, 2) := by decide +kernel
theorem dX0_speaks_64 : decode cX0_speaks 64 = .ok (.ishr, 1) := by decide +kernel
theorem dX0_speaks_65 : decode cX0_speaks 65 = .ok (.iconst 1, 1) := by decide +kernel
theorem dX0_speaks_66 : decode cX0_speaks 66 = .ok (.iand, 1) := by decide +kernel
theorem dX0_speaks_67 : decode cX0_speaks 67 = .ok (.iconst 1, 1) := by decide +kernel
theorem dX0_speaks_68 : decode cX0_speaks 68 = .ok (.if_icmp .ne 27, 3) := by decide +kernel
theorem dX0_speaks_71 : decode cX0_speaks 71 = .ok (.aload_n 1, 1) := by decide +kernel
theorem dX0_speaks_72 : decode cX0_speaks 72 = .ok (.getfield 95, 3) := by decide +kernel
theorem dX0_speaks_75 : decode cX0_speaks 75 = .ok (.iload_n 2, 1) := by decide +kernel
theorem dX0_speaks_76 : decode cX0_speaks 76 = .ok (.iaload, 1) := by decide +kernel
theorem dX0_speaks_77 : decode cX0_speaks 77 = .ok (.aload_n 0, 1) := by decide +kernel
theorem dX0_speaks_78 : decode cX0_speaks 78 = .ok (.getfield 24, 3) := by decide +kernel
theorem dX0_speaks_81 : decode cX0_speaks 81 = .ok (.iload_n 3, 1) := by decide +kernel
theorem dX0_speaks_82 : decode cX0_speaks 82 = .ok (.iload 5, 2) := by decide +kernel
theorem dX0_speaks_84 : decode cX0_speaks 84 = .ok (.invokevirtual 83, 3) := by decide +kernel
theorem dX0_speaks_87 : decode cX0_speaks 87 = .ok (.if_icmp .eq 5, 3) := by decide +kernel
theorem dX0_speaks_90 : decode cX0_speaks 90 = .ok (.iconst 0, 1) := by decide +kernel
theorem dX0_speaks_91 : decode cX0_speaks 91 = .ok (.ireturn, 1) := by decide +kernel
theorem dX0_speaks_92 : decode cX0_speaks 92 = .ok (.iinc 2 1, 3) := by decide +kernel
theorem dX0_speaks_95 : decode cX0_speaks 95 = .ok (.iinc 5 1, 3) := by decide +kernel
theorem dX0_speaks_98 : decode cX0_speaks 98 = .ok (.goto (-60), 3) := by decide +kernel
theorem dX0_speaks_101 : decode cX0_speaks 101 = .ok (.iinc 3 1, 3) := by decide +kernel
theorem dX0_speaks_104 : decode cX0_speaks 104 = .ok (.goto (-87), 3) := by decide +kernel
theorem dX0_speaks_107 : decode cX0_speaks 107 = .ok (.iconst 1, 1) := by decide +kernel
theorem dX0_speaks_108 : decode cX0_speaks 108 = .ok (.ireturn, 1) := by decide +kernel
theorem dX0_speaksBehind_0 : decode cX0_speaksBehind 0 = .ok (.aload_n 0, 1) := by decide +kernel
theorem dX0_speaksBehind_1 : decode cX0_speaksBehind 1 = .ok (.getfield 9, 3) := by decide +kernel
theorem dX0_speaksBehind_4 : decode cX0_speaksBehind 4 = .ok (.iload_n 2, 1) := by decide +kernel
theorem dX0_speaksBehind_5 : decode cX0_speaksBehind 5 = .ok (.dup2, 1) := by decide +kernel
theorem dX0_speaksBehind_6 : decode cX0_speaksBehind 6 = .ok (.iaload, 1) := by decide +kernel
theorem dX0_speaksBehind_7 : decode cX0_speaksBehind 7 = .ok (.iload_n 3, 1) := by decide +kernel
theorem dX0_speaksBehind_8 : decode cX0_speaksBehind 8 = .ok (.ixor, 1) := by decide +kernel
theorem dX0_speaksBehind_9 : decode cX0_speaksBehind 9 = .ok (.iastore, 1) := by decide +kernel
theorem dX0_speaksBehind_10 : decode cX0_speaksBehind 10 = .ok (.aload_n 0, 1) := by decide +kernel
theorem dX0_speaksBehind_11 : decode cX0_speaksBehind 11 = .ok (.aload_n 1, 1) := by decide +kernel
theorem dX0_speaksBehind_12 : decode cX0_speaksBehind 12 = .ok (.invokevirtual 98, 3) := by decide +kernel
theorem dX0_speaksBehind_15 : decode cX0_speaksBehind 15 = .ok (.istore 4, 2) := by decide +kernel
theorem dX0_speaksBehind_17 : decode cX0_speaksBehind 17 = .ok (.aload_n 0, 1) := by decide +kernel
theorem dX0_speaksBehind_18 : decode cX0_speaksBehind 18 = .ok (.getfield 9, 3) := by decide +kernel
theorem dX0_speaksBehind_21 : decode cX0_speaksBehind 21 = .ok (.iload_n 2, 1) := by decide +kernel
theorem dX0_speaksBehind_22 : decode cX0_speaksBehind 22 = .ok (.dup2, 1) := by decide +kernel
theorem dX0_speaksBehind_23 : decode cX0_speaksBehind 23 = .ok (.iaload, 1) := by decide +kernel
theorem dX0_speaksBehind_24 : decode cX0_speaksBehind 24 = .ok (.iload_n 3, 1) := by decide +kernel
theorem dX0_speaksBehind_25 : decode cX0_speaksBehind 25 = .ok (.ixor, 1) := by decide +kernel
theorem dX0_speaksBehind_26 : decode cX0_speaksBehind 26 = .ok (.iastore, 1) := by decide +kernel
theorem dX0_speaksBehind_27 : decode cX0_speaksBehind 27 = .ok (.iload 4, 2) := by decide +kernel
theorem dX0_speaksBehind_29 : decode cX0_speaksBehind 29 = .ok (.ireturn, 1) := by decide +kernel
theorem dX0_priceOf_0 : decode cX0_priceOf 0 = .ok (.aload_n 0, 1) := by decide +kernel
theorem dX0_priceOf_1 : decode cX0_priceOf 1 = .ok (.getfield 9, 3) := by decide +kernel
theorem dX0_priceOf_4 : decode cX0_priceOf 4 = .ok (.iload_n 1, 1) := by decide +kernel
theorem dX0_priceOf_5 : decode cX0_priceOf 5 = .ok (.iaload, 1) := by decide +kernel
theorem dX0_priceOf_6 : decode cX0_priceOf 6 = .ok (.iload_n 2, 1) := by decide +kernel
theorem dX0_priceOf_7 : decode cX0_priceOf 7 = .ok (.iload_n 3, 1) := by decide +kernel
theorem dX0_priceOf_8 : decode cX0_priceOf 8 = .ok (.invokestatic 102, 3) := by decide +kernel
theorem dX0_priceOf_11 : decode cX0_priceOf 11 = .ok (.iand, 1) := by decide +kernel
theorem dX0_priceOf_12 : decode cX0_priceOf 12 = .ok (.invokestatic 64, 3) := by decide +kernel
theorem dX0_priceOf_15 : decode cX0_priceOf 15 = .ok (.istore 4, 2) := by decide +kernel
theorem dX0_priceOf_17 : decode cX0_priceOf 17 = .ok (.aload_n 0, 1) := by decide +kernel
theorem dX0_priceOf_18 : decode cX0_priceOf 18 = .ok (.getfield 28, 3) := by decide +kernel
theorem dX0_priceOf_21 : decode cX0_priceOf 21 = .ok (.iload_n 3, 1) := by decide +kernel
theorem dX0_priceOf_22 : decode cX0_priceOf 22 = .ok (.iload_n 2, 1) := by decide +kernel
theorem dX0_priceOf_23 : decode cX0_priceOf 23 = .ok (.isub, 1) := by decide +kernel
theorem dX0_priceOf_24 : decode cX0_priceOf 24 = .ok (.iconst 1, 1) := by decide +kernel
theorem dX0_priceOf_25 : decode cX0_priceOf 25 = .ok (.iadd, 1) := by decide +kernel
theorem dX0_priceOf_26 : decode cX0_priceOf 26 = .ok (.iload 4, 2) := by decide +kernel
theorem dX0_priceOf_28 : decode cX0_priceOf 28 = .ok (.iload_n 2, 1) := by decide +kernel
theorem dX0_priceOf_29 : decode cX0_priceOf 29 = .ok (.iload_n 1, 1) := by decide +kernel
theorem dX0_priceOf_30 : decode cX0_priceOf 30 = .ok (.aload_n 0, 1) := by decide +kernel
theorem dX0_priceOf_31 : decode cX0_priceOf 31 = .ok (.invokevirtual 86, 3) := by decide +kernel
theorem dX0_priceOf_34 : decode cX0_priceOf 34 = .ok (.aload_n 0, 1) := by decide +kernel
theorem dX0_priceOf_35 : decode cX0_priceOf 35 = .ok (.getfield 20, 3) := by decide +kernel
theorem dX0_priceOf_38 : decode cX0_priceOf 38 = .ok (.aload_n 0, 1) := by decide +kernel
theorem dX0_priceOf_39 : decode cX0_priceOf 39 = .ok (.getfield 15, 3) := by decide +kernel
theorem dX0_priceOf_42 : decode cX0_priceOf 42 = .ok (.iconst 0, 1) := by decide +kernel
theorem dX0_priceOf_43 : decode cX0_priceOf 43 = .ok (.iaload, 1) := by decide +kernel
theorem dX0_priceOf_44 : decode cX0_priceOf 44 = .ok (.invokevirtual 105, 3) := by decide +kernel
theorem dX0_priceOf_47 : decode cX0_priceOf 47 = .ok (.ireturn, 1) := by decide +kernel
theorem dX0_strike_0 : decode cX0_strike 0 = .ok (.iload_n 2, 1) := by decide +kernel
theorem dX0_strike_1 : decode cX0_strike 1 = .ok (.ifCond .lt 20, 3) := by decide +kernel
theorem dX0_strike_4 : decode cX0_strike 4 = .ok (.iload_n 2, 1) := by decide +kernel
theorem dX0_strike_5 : decode cX0_strike 5 = .ok (.iload_n 3, 1) := by decide +kernel
theorem dX0_strike_6 : decode cX0_strike 6 = .ok (.if_icmp .gt 15, 3) := by decide +kernel
theorem dX0_strike_9 : decode cX0_strike 9 = .ok (.aload_n 0, 1) := by decide +kernel
theorem dX0_strike_10 : decode cX0_strike 10 = .ok (.getfield 24, 3) := by decide +kernel
theorem dX0_strike_13 : decode cX0_strike 13 = .ok (.iload_n 1, 1) := by decide +kernel
theorem dX0_strike_14 : decode cX0_strike 14 = .ok (.iload_n 3, 1) := by decide +kernel
theorem dX0_strike_15 : decode cX0_strike 15 = .ok (.invokevirtual 53, 3) := by decide +kernel
theorem dX0_strike_18 : decode cX0_strike 18 = .ok (.ifCond .ne 5, 3) := by decide +kernel
theorem dX0_strike_21 : decode cX0_strike 21 = .ok (.iconst 0, 1) := by decide +kernel
theorem dX0_strike_22 : decode cX0_strike 22 = .ok (.ireturn, 1) := by decide +kernel
theorem dX0_strike_23 : decode cX0_strike 23 = .ok (.aload_n 0, 1) := by decide +kernel
theorem dX0_strike_24 : decode cX0_strike 24 = .ok (.iload_n 1, 1) := by decide +kernel
theorem dX0_strike_25 : decode cX0_strike 25 = .ok (.iload_n 2, 1) := by decide +kernel
theorem dX0_strike_26 : decode cX0_strike 26 = .ok (.iload_n 3, 1) := by decide +kernel
theorem dX0_strike_27 : decode cX0_strike 27 = .ok (.invokevirtual 111, 3) := by decide +kernel
theorem dX0_strike_30 : decode cX0_strike 30 = .ok (.istore 4, 2) := by decide +kernel
theorem dX0_strike_32 : decode cX0_strike 32 = .ok (.iload 4, 2) := by decide +kernel
theorem dX0_strike_34 : decode cX0_strike 34 = .ok (.aload_n 0, 1) := by decide +kernel
theorem dX0_strike_35 : decode cX0_strike 35 = .ok (.getfield 20, 3) := by decide +kernel
theorem dX0_strike_38 : decode cX0_strike 38 = .ok (.if_icmp .le 5, 3) := by decide +kernel
theorem dX0_strike_41 : decode cX0_strike 41 = .ok (.iconst 0, 1) := by decide +kernel
theorem dX0_strike_42 : decode cX0_strike 42 = .ok (.ireturn, 1) := by decide +kernel
theorem dX0_strike_43 : decode cX0_strike 43 = .ok (.aload_n 0, 1) := by decide +kernel
theorem dX0_strike_44 : decode cX0_strike 44 = .ok (.getfield 9, 3) := by decide +kernel
theorem dX0_strike_47 : decode cX0_strike 47 = .ok (.iload_n 1, 1) := by decide +kernel
theorem dX0_strike_48 : decode cX0_strike 48 = .ok (.dup2, 1) := by decide +kernel
theorem dX0_strike_49 : decode cX0_strike 49 = .ok (.iaload, 1) := by decide +kernel
theorem dX0_strike_50 : decode cX0_strike 50 = .ok (.iload_n 2, 1) := by decide +kernel
theorem dX0_strike_51 : decode cX0_strike 51 = .ok (.iload_n 3, 1) := by decide +kernel
theorem dX0_strike_52 : decode cX0_strike 52 = .ok (.invokestatic 102, 3) := by decide +kernel
theorem dX0_strike_55 : decode cX0_strike 55 = .ok (.ixor, 1) := by decide +kernel
theorem dX0_strike_56 : decode cX0_strike 56 = .ok (.iastore, 1) := by decide +kernel
theorem dX0_strike_57 : decode cX0_strike 57 = .ok (.aload_n 0, 1) := by decide +kernel
theorem dX0_strike_58 : decode cX0_strike 58 = .ok (.dup, 1) := by decide +kernel
theorem dX0_strike_59 : decode cX0_strike 59 = .ok (.getfield 20, 3) := by decide +kernel
theorem dX0_strike_62 : decode cX0_strike 62 = .ok (.iload 4, 2) := by decide +kernel
theorem dX0_strike_64 : decode cX0_strike 64 = .ok (.isub, 1) := by decide +kernel
theorem dX0_strike_65 : decode cX0_strike 65 = .ok (.putfield 20, 3) := by decide +kernel
theorem dX0_strike_68 : decode cX0_strike 68 = .ok (.aload_n 0, 1) := by decide +kernel
theorem dX0_strike_69 : decode cX0_strike 69 = .ok (.dup, 1) := by decide +kernel
theorem dX0_strike_70 : decode cX0_strike 70 = .ok (.getfield 47, 3) := by decide +kernel
theorem dX0_strike_73 : decode cX0_strike 73 = .ok (.iconst 1, 1) := by decide +kernel
theorem dX0_strike_74 : decode cX0_strike 74 = .ok (.iadd, 1) := by decide +kernel
theorem dX0_strike_75 : decode cX0_strike 75 = .ok (.putfield 47, 3) := by decide +kernel
theorem dX0_strike_78 : decode cX0_strike 78 = .ok (.iconst 1, 1) := by decide +kernel
theorem dX0_strike_79 : decode cX0_strike 79 = .ok (.ireturn, 1) := by decide +kernel
theorem dX0_runOn_0 : decode cX0_runOn 0 = .ok (.aload_n 0, 1) := by decide +kernel
theorem dX0_runOn_1 : decode cX0_runOn 1 = .ok (.getfield 41, 3) := by decide +kernel
theorem dX0_runOn_4 : decode cX0_runOn 4 = .ok (.aload_n 0, 1) := by decide +kernel
theorem dX0_runOn_5 : decode cX0_runOn 5 = .ok (.getfield 24, 3) := by decide +kernel
theorem dX0_runOn_8 : decode cX0_runOn 8 = .ok (.getfield 73, 3) := by decide +kernel
theorem dX0_runOn_11 : decode cX0_runOn 11 = .ok (.if_icmp .lt 5, 3) := by decide +kernel
theorem dX0_runOn_14 : decode cX0_runOn 14 = .ok (.iconst 0, 1) := by decide +kernel
theorem dX0_runOn_15 : decode cX0_runOn 15 = .ok (.ireturn, 1) := by decide +kernel
theorem dX0_runOn_16 : decode cX0_runOn 16 = .ok (.iconst 0, 1) := by decide +kernel
theorem dX0_runOn_17 : decode cX0_runOn 17 = .ok (.istore_n 2, 1) := by decide +kernel
theorem dX0_runOn_18 : decode cX0_runOn 18 = .ok (.iload_n 2, 1) := by decide +kernel
theorem dX0_runOn_19 : decode cX0_runOn 19 = .ok (.iload_n 1, 1) := by decide +kernel
theorem dX0_runOn_20 : decode cX0_runOn 20 = .ok (.if_icmp .ge 28, 3) := by decide +kernel
theorem dX0_runOn_23 : decode cX0_runOn 23 = .ok (.aload_n 0, 1) := by decide +kernel
theorem dX0_runOn_24 : decode cX0_runOn 24 = .ok (.getfield 41, 3) := by decide +kernel
theorem dX0_runOn_27 : decode cX0_runOn 27 = .ok (.aload_n 0, 1) := by decide +kernel
theorem dX0_runOn_28 : decode cX0_runOn 28 = .ok (.getfield 24, 3) := by decide +kernel
theorem dX0_runOn_31 : decode cX0_runOn 31 = .ok (.getfield 73, 3) := by decide +kernel
theorem dX0_runOn_34 : decode cX0_runOn 34 = .ok (.if_icmp .ge 14, 3) := by decide +kernel
theorem dX0_runOn_37 : decode cX0_runOn 37 = .ok (.aload_n 0, 1) := by decide +kernel
theorem dX0_runOn_38 : decode cX0_runOn 38 = .ok (.invokevirtual 115, 3) := by decide +kernel
theorem dX0_runOn_41 : decode cX0_runOn 41 = .ok (.pop, 1) := by decide +kernel
theorem dX0_runOn_42 : decode cX0_runOn 42 = .ok (.iinc 2 1, 3) := by decide +kernel
theorem dX0_runOn_45 : decode cX0_runOn 45 = .ok (.goto (-27), 3) := by decide +kernel
theorem dX0_runOn_48 : decode cX0_runOn 48 = .ok (.iconst 1, 1) := by decide +kernel
theorem dX0_runOn_49 : decode cX0_runOn 49 = .ok (.ireturn, 1) := by decide +kernel
theorem dX0_beginAgain_0 : decode cX0_beginAgain 0 = .ok (.aload_n 0, 1) := by decide +kernel
theorem dX0_beginAgain_1 : decode cX0_beginAgain 1 = .ok (.getfield 41, 3) := by decide +kernel
theorem dX0_beginAgain_4 : decode cX0_beginAgain 4 = .ok (.ifCond .eq 13, 3) := by decide +kernel
theorem dX0_beginAgain_7 : decode cX0_beginAgain 7 = .ok (.aload_n 0, 1) := by decide +kernel
theorem dX0_beginAgain_8 : decode cX0_beginAgain 8 = .ok (.getfield 24, 3) := by decide +kernel
theorem dX0_beginAgain_11 : decode cX0_beginAgain 11 = .ok (.getfield 73, 3) := by decide +kernel
theorem dX0_beginAgain_14 : decode cX0_beginAgain 14 = .ok (.ifCond .ne 5, 3) := by decide +kernel
theorem dX0_beginAgain_17 : decode cX0_beginAgain 17 = .ok (.iconst 0, 1) := by decide +kernel
theorem dX0_beginAgain_18 : decode cX0_beginAgain 18 = .ok (.ireturn, 1) := by decide +kernel
theorem dX0_beginAgain_19 : decode cX0_beginAgain 19 = .ok (.aload_n 0, 1) := by decide +kernel
theorem dX0_beginAgain_20 : decode cX0_beginAgain 20 = .ok (.iconst 0, 1) := by decide +kernel
theorem dX0_beginAgain_21 : decode cX0_beginAgain 21 = .ok (.putfield 41, 3) := by decide +kernel
theorem dX0_beginAgain_24 : decode cX0_beginAgain 24 = .ok (.iconst 1, 1) := by decide +kernel
theorem dX0_beginAgain_25 : decode cX0_beginAgain 25 = .ok (.ireturn, 1) := by decide +kernel
theorem dX0_fillUp_0 : decode cX0_fillUp 0 = .ok (.aload_n 0, 1) := by decide +kernel
theorem dX0_fillUp_1 : decode cX0_fillUp 1 = .ok (.getfield 20, 3) := by decide +kernel
theorem dX0_fillUp_4 : decode cX0_fillUp 4 = .ok (.sipush 200, 3) := by decide +kernel
theorem dX0_fillUp_7 : decode cX0_fillUp 7 = .ok (.if_icmp .lt 5, 3) := by decide +kernel
theorem dX0_fillUp_10 : decode cX0_fillUp 10 = .ok (.iconst 0, 1) := by decide +kernel
theorem dX0_fillUp_11 : decode cX0_fillUp 11 = .ok (.ireturn, 1) := by decide +kernel
theorem dX0_fillUp_12 : decode cX0_fillUp 12 = .ok (.aload_n 0, 1) := by decide +kernel
theorem dX0_fillUp_13 : decode cX0_fillUp 13 = .ok (.sipush 200, 3) := by decide +kernel
theorem dX0_fillUp_16 : decode cX0_fillUp 16 = .ok (.aload_n 0, 1) := by decide +kernel
theorem dX0_fillUp_17 : decode cX0_fillUp 17 = .ok (.getfield 20, 3) := by decide +kernel
theorem dX0_fillUp_20 : decode cX0_fillUp 20 = .ok (.iload_n 1, 1) := by decide +kernel
theorem dX0_fillUp_21 : decode cX0_fillUp 21 = .ok (.iadd, 1) := by decide +kernel
theorem dX0_fillUp_22 : decode cX0_fillUp 22 = .ok (.invokestatic 119, 3) := by decide +kernel
theorem dX0_fillUp_25 : decode cX0_fillUp 25 = .ok (.putfield 20, 3) := by decide +kernel
theorem dX0_fillUp_28 : decode cX0_fillUp 28 = .ok (.iconst 1, 1) := by decide +kernel
theorem dX0_fillUp_29 : decode cX0_fillUp 29 = .ok (.ireturn, 1) := by decide +kernel
theorem dX0_wipeAll_0 : decode cX0_wipeAll 0 = .ok (.iconst 0, 1) := by decide +kernel
theorem dX0_wipeAll_1 : decode cX0_wipeAll 1 = .ok (.istore_n 1, 1) := by decide +kernel
theorem dX0_wipeAll_2 : decode cX0_wipeAll 2 = .ok (.iconst 0, 1) := by decide +kernel
theorem dX0_wipeAll_3 : decode cX0_wipeAll 3 = .ok (.istore_n 2, 1) := by decide +kernel
theorem dX0_wipeAll_4 : decode cX0_wipeAll 4 = .ok (.iload_n 2, 1) := by decide +kernel
theorem dX0_wipeAll_5 : decode cX0_wipeAll 5 = .ok (.bipush 6, 2) := by decide +kernel
theorem dX0_wipeAll_7 : decode cX0_wipeAll 7 = .ok (.if_icmp .ge 33, 3) := by decide +kernel
theorem dX0_wipeAll_10 : decode cX0_wipeAll 10 = .ok (.iload_n 1, 1) := by decide +kernel
theorem dX0_wipeAll_11 : decode cX0_wipeAll 11 = .ok (.aload_n 0, 1) := by decide +kernel
theorem dX0_wipeAll_12 : decode cX0_wipeAll 12 = .ok (.getfield 9, 3) := by decide +kernel
theorem dX0_wipeAll_15 : decode cX0_wipeAll 15 = .ok (.iload_n 2, 1) := by decide +kernel
theorem dX0_wipeAll_16 : decode cX0_wipeAll 16 = .ok (.iaload, 1) := by decide +kernel
theorem dX0_wipeAll_17 : decode cX0_wipeAll 17 = .ok (.ifCond .eq 7, 3) := by decide +kernel
theorem dX0_wipeAll_20 : decode cX0_wipeAll 20 = .ok (.iconst 1, 1) := by decide +kernel
theorem dX0_wipeAll_21 : decode cX0_wipeAll 21 = .ok (.goto 4, 3) := by decide +kernel
theorem dX0_wipeAll_24 : decode cX0_wipeAll 24 = .ok (.iconst 0, 1) := by decide +kernel
theorem dX0_wipeAll_25 : decode cX0_wipeAll 25 = .ok (.ior, 1) := by decide +kernel
theorem dX0_wipeAll_26 : decode cX0_wipeAll 26 = .ok (.istore_n 1, 1) := by decide +kernel
theorem dX0_wipeAll_27 : decode cX0_wipeAll 27 = .ok (.aload_n 0, 1) := by decide +kernel
theorem dX0_wipeAll_28 : decode cX0_wipeAll 28 = .ok (.getfield 9, 3) := by decide +kernel
theorem dX0_wipeAll_31 : decode cX0_wipeAll 31 = .ok (.iload_n 2, 1) := by decide +kernel
theorem dX0_wipeAll_32 : decode cX0_wipeAll 32 = .ok (.iconst 0, 1) := by decide +kernel
theorem dX0_wipeAll_33 : decode cX0_wipeAll 33 = .ok (.iastore, 1) := by decide +kernel
theorem dX0_wipeAll_34 : decode cX0_wipeAll 34 = .ok (.iinc 2 1, 3) := by decide +kernel
theorem dX0_wipeAll_37 : decode cX0_wipeAll 37 = .ok (.goto (-33), 3) := by decide +kernel
theorem dX0_wipeAll_40 : decode cX0_wipeAll 40 = .ok (.iload_n 1, 1) := by decide +kernel
theorem dX0_wipeAll_41 : decode cX0_wipeAll 41 = .ok (.ireturn, 1) := by decide +kernel
theorem dX0_setCell_0 : decode cX0_setCell 0 = .ok (.iload_n 1, 1) := by decide +kernel
theorem dX0_setCell_1 : decode cX0_setCell 1 = .ok (.ifCond .lt 18, 3) := by decide +kernel
theorem dX0_setCell_4 : decode cX0_setCell 4 = .ok (.iload_n 1, 1) := by decide +kernel
theorem dX0_setCell_5 : decode cX0_setCell 5 = .ok (.iconst 4, 1) := by decide +kernel
theorem dX0_setCell_6 : decode cX0_setCell 6 = .ok (.if_icmp .ge 13, 3) := by decide +kernel
theorem dX0_setCell_9 : decode cX0_setCell 9 = .ok (.aload_n 0, 1) := by decide +kernel
theorem dX0_setCell_10 : decode cX0_setCell 10 = .ok (.getfield 15, 3) := by decide +kernel
theorem dX0_setCell_13 : decode cX0_setCell 13 = .ok (.iload_n 1, 1) := by decide +kernel
theorem dX0_setCell_14 : decode cX0_setCell 14 = .ok (.iaload, 1) := by decide +kernel
theorem dX0_setCell_15 : decode cX0_setCell 15 = .ok (.iload_n 2, 1) := by decide +kernel
theorem dX0_setCell_16 : decode cX0_setCell 16 = .ok (.if_icmp .ne 5, 3) := by decide +kernel
theorem dX0_setCell_19 : decode cX0_setCell 19 = .ok (.iconst 0, 1) := by decide +kernel
theorem dX0_setCell_20 : decode cX0_setCell 20 = .ok (.ireturn, 1) := by decide +kernel
theorem dX0_setCell_21 : decode cX0_setCell 21 = .ok (.aload_n 0, 1) := by decide +kernel
theorem dX0_setCell_22 : decode cX0_setCell 22 = .ok (.getfield 15, 3) := by decide +kernel
theorem dX0_setCell_25 : decode cX0_setCell 25 = .ok (.iload_n 1, 1) := by decide +kernel
theorem dX0_setCell_26 : decode cX0_setCell 26 = .ok (.iload_n 2, 1) := by decide +kernel
theorem dX0_setCell_27 : decode cX0_setCell 27 = .ok (.iastore, 1) := by decide +kernel
theorem dX0_setCell_28 : decode cX0_setCell 28 = .ok (.iconst 1, 1) := by decide +kernel
theorem dX0_setCell_29 : decode cX0_setCell 29 = .ok (.ireturn, 1) := by decide +kernel
theorem dX0_doDeed_0 : decode cX0_doDeed 0 = .ok (.aload_n 0, 1) := by decide +kernel
theorem dX0_doDeed_1 : decode cX0_doDeed 1 = .ok (.getfield 41, 3) := by decide +kernel
theorem dX0_doDeed_4 : decode cX0_doDeed 4 = .ok (.aload_n 0, 1) := by decide +kernel
theorem dX0_doDeed_5 : decode cX0_doDeed 5 = .ok (.getfield 24, 3) := by decide +kernel
theorem dX0_doDeed_8 : decode cX0_doDeed 8 = .ok (.getfield 73, 3) := by decide +kernel
theorem dX0_doDeed_11 : decode cX0_doDeed 11 = .ok (.if_icmp .ge 27, 3) := by decide +kernel
theorem dX0_doDeed_14 : decode cX0_doDeed 14 = .ok (.aload_n 0, 1) := by decide +kernel
theorem dX0_doDeed_15 : decode cX0_doDeed 15 = .ok (.aload_n 0, 1) := by decide +kernel
theorem dX0_doDeed_16 : decode cX0_doDeed 16 = .ok (.getfield 41, 3) := by decide +kernel
theorem dX0_doDeed_19 : decode cX0_doDeed 19 = .ok (.invokevirtual 76, 3) := by decide +kernel
theorem dX0_doDeed_22 : decode cX0_doDeed 22 = .ok (.ifCond .ne 16, 3) := by decide +kernel
theorem dX0_doDeed_25 : decode cX0_doDeed 25 = .ok (.aload_n 0, 1) := by decide +kernel
theorem dX0_doDeed_26 : decode cX0_doDeed 26 = .ok (.dup, 1) := by decide +kernel
theorem dX0_doDeed_27 : decode cX0_doDeed 27 = .ok (.getfield 41, 3) := by decide +kernel
theorem dX0_doDeed_30 : decode cX0_doDeed 30 = .ok (.iconst 1, 1) := by decide +kernel
theorem dX0_doDeed_31 : decode cX0_doDeed 31 = .ok (.iadd, 1) := by decide +kernel
theorem dX0_doDeed_32 : decode cX0_doDeed 32 = .ok (.putfield 41, 3) := by decide +kernel
theorem dX0_doDeed_35 : decode cX0_doDeed 35 = .ok (.goto (-35), 3) := by decide +kernel
theorem dX0_doDeed_38 : decode cX0_doDeed 38 = .ok (.aload_n 0, 1) := by decide +kernel
theorem dX0_doDeed_39 : decode cX0_doDeed 39 = .ok (.getfield 41, 3) := by decide +kernel
theorem dX0_doDeed_42 : decode cX0_doDeed 42 = .ok (.aload_n 0, 1) := by decide +kernel
theorem dX0_doDeed_43 : decode cX0_doDeed 43 = .ok (.getfield 24, 3) := by decide +kernel
theorem dX0_doDeed_46 : decode cX0_doDeed 46 = .ok (.getfield 73, 3) := by decide +kernel
theorem dX0_doDeed_49 : decode cX0_doDeed 49 = .ok (.if_icmp .lt 5, 3) := by decide +kernel
theorem dX0_doDeed_52 : decode cX0_doDeed 52 = .ok (.iconst 0, 1) := by decide +kernel
theorem dX0_doDeed_53 : decode cX0_doDeed 53 = .ok (.ireturn, 1) := by decide +kernel
theorem dX0_doDeed_54 : decode cX0_doDeed 54 = .ok (.aload_n 0, 1) := by decide +kernel
theorem dX0_doDeed_55 : decode cX0_doDeed 55 = .ok (.getfield 41, 3) := by decide +kernel
theorem dX0_doDeed_58 : decode cX0_doDeed 58 = .ok (.istore_n 1, 1) := by decide +kernel
theorem dX0_doDeed_59 : decode cX0_doDeed 59 = .ok (.aload_n 0, 1) := by decide +kernel
theorem dX0_doDeed_60 : decode cX0_doDeed 60 = .ok (.dup, 1) := by decide +kernel
theorem dX0_doDeed_61 : decode cX0_doDeed 61 = .ok (.getfield 41, 3) := by decide +kernel
theorem dX0_doDeed_64 : decode cX0_doDeed 64 = .ok (.iconst 1, 1) := by decide +kernel
theorem dX0_doDeed_65 : decode cX0_doDeed 65 = .ok (.iadd, 1) := by decide +kernel
theorem dX0_doDeed_66 : decode cX0_doDeed 66 = .ok (.putfield 41, 3) := by decide +kernel
theorem dX0_doDeed_69 : decode cX0_doDeed 69 = .ok (.aload_n 0, 1) := by decide +kernel
theorem dX0_doDeed_70 : decode cX0_doDeed 70 = .ok (.dup, 1) := by decide +kernel
theorem dX0_doDeed_71 : decode cX0_doDeed 71 = .ok (.getfield 50, 3) := by decide +kernel
theorem dX0_doDeed_74 : decode cX0_doDeed 74 = .ok (.iconst 1, 1) := by decide +kernel
theorem dX0_doDeed_75 : decode cX0_doDeed 75 = .ok (.iadd, 1) := by decide +kernel
theorem dX0_doDeed_76 : decode cX0_doDeed 76 = .ok (.putfield 50, 3) := by decide +kernel
theorem dX0_doDeed_79 : decode cX0_doDeed 79 = .ok (.aload_n 0, 1) := by decide +kernel
theorem dX0_doDeed_80 : decode cX0_doDeed 80 = .ok (.iload_n 1, 1) := by decide +kernel
theorem dX0_doDeed_81 : decode cX0_doDeed 81 = .ok (.invokevirtual 76, 3) := by decide +kernel
theorem dX0_doDeed_84 : decode cX0_doDeed 84 = .ok (.istore_n 2, 1) := by decide +kernel
theorem dX0_doDeed_85 : decode cX0_doDeed 85 = .ok (.iload_n 2, 1) := by decide +kernel
theorem dX0_doDeed_86 : decode cX0_doDeed 86 = .ok (.iload_n 2, 1) := by decide +kernel
theorem dX0_doDeed_87 : decode cX0_doDeed 87 = .ok (.iconst 1, 1) := by decide +kernel
theorem dX0_doDeed_88 : decode cX0_doDeed 88 = .ok (.isub, 1) := by decide +kernel
theorem dX0_doDeed_89 : decode cX0_doDeed 89 = .ok (.iand, 1) := by decide +kernel
theorem dX0_doDeed_90 : decode cX0_doDeed 90 = .ok (.istore_n 3, 1) := by decide +kernel
theorem dX0_doDeed_91 : decode cX0_doDeed 91 = .ok (.iload_n 3, 1) := by decide +kernel
theorem dX0_doDeed_92 : decode cX0_doDeed 92 = .ok (.iload_n 3, 1) := by decide +kernel
theorem dX0_doDeed_93 : decode cX0_doDeed 93 = .ok (.iconst 1, 1) := by decide +kernel
theorem dX0_doDeed_94 : decode cX0_doDeed 94 = .ok (.isub, 1) := by decide +kernel
theorem dX0_doDeed_95 : decode cX0_doDeed 95 = .ok (.iand, 1) := by decide +kernel
theorem dX0_doDeed_96 : decode cX0_doDeed 96 = .ok (.istore 4, 2) := by decide +kernel
theorem dX0_doDeed_98 : decode cX0_doDeed 98 = .ok (.aload_n 0, 1) := by decide +kernel
theorem dX0_doDeed_99 : decode cX0_doDeed 99 = .ok (.aload_n 0, 1) := by decide +kernel
theorem dX0_doDeed_100 : decode cX0_doDeed 100 = .ok (.iload_n 1, 1) := by decide +kernel
theorem dX0_doDeed_101 : decode cX0_doDeed 101 = .ok (.iload_n 2, 1) := by decide +kernel
theorem dX0_doDeed_102 : decode cX0_doDeed 102 = .ok (.invokevirtual 79, 3) := by decide +kernel
theorem dX0_doDeed_105 : decode cX0_doDeed 105 = .ok (.aload_n 0, 1) := by decide +kernel
theorem dX0_doDeed_106 : decode cX0_doDeed 106 = .ok (.iload_n 1, 1) := by decide +kernel
theorem dX0_doDeed_107 : decode cX0_doDeed 107 = .ok (.iload_n 3, 1) := by decide +kernel
theorem dX0_doDeed_108 : decode cX0_doDeed 108 = .ok (.invokevirtual 79, 3) := by decide +kernel
theorem dX0_doDeed_111 : decode cX0_doDeed 111 = .ok (.aload_n 0, 1) := by decide +kernel
theorem dX0_doDeed_112 : decode cX0_doDeed 112 = .ok (.iload_n 1, 1) := by decide +kernel
theorem dX0_doDeed_113 : decode cX0_doDeed 113 = .ok (.iload 4, 2) := by decide +kernel
theorem dX0_doDeed_115 : decode cX0_doDeed 115 = .ok (.invokevirtual 79, 3) := by decide +kernel
theorem dX0_doDeed_118 : decode cX0_doDeed 118 = .ok (.invokevirtual 124, 3) := by decide +kernel
theorem dX0_doDeed_121 : decode cX0_doDeed 121 = .ok (.iconst 1, 1) := by decide +kernel
theorem dX0_doDeed_122 : decode cX0_doDeed 122 = .ok (.ireturn, 1) := by decide +kernel
theorem dX0_doWords_0 : decode cX0_doWords 0 = .ok (.iload_n 1, 1) := by decide +kernel
theorem dX0_doWords_1 : decode cX0_doWords 1 = .ok (.tableswitch 155 0 7 #[47, 48, 55, 78, 95, 112, 118, 143], 47) := by decide +kernel
theorem dX0_doWords_48 : decode cX0_doWords 48 = .ok (.return_, 1) := by decide +kernel
theorem dX0_doWords_49 : decode cX0_doWords 49 = .ok (.aload_n 0, 1) := by decide +kernel
theorem dX0_doWords_50 : decode cX0_doWords 50 = .ok (.iload_n 2, 1) := by decide +kernel
theorem dX0_doWords_51 : decode cX0_doWords 51 = .ok (.iload_n 3, 1) := by decide +kernel
theorem dX0_doWords_52 : decode cX0_doWords 52 = .ok (.invokevirtual 128, 3) := by decide +kernel
theorem dX0_doWords_55 : decode cX0_doWords 55 = .ok (.return_, 1) := by decide +kernel
theorem dX0_doWords_56 : decode cX0_doWords 56 = .ok (.aload_n 0, 1) := by decide +kernel
theorem dX0_doWords_57 : decode cX0_doWords 57 = .ok (.getfield 15, 3) := by decide +kernel
theorem dX0_doWords_60 : decode cX0_doWords 60 = .ok (.iload_n 2, 1) := by decide +kernel
theorem dX0_doWords_61 : decode cX0_doWords 61 = .ok (.iconst 4, 1) := by decide +kernel
theorem dX0_doWords_62 : decode cX0_doWords 62 = .ok (.irem, 1) := by decide +kernel
theorem dX0_doWords_63 : decode cX0_doWords 63 = .ok (.iconst 0, 1) := by decide +kernel
theorem dX0_doWords_64 : decode cX0_doWords 64 = .ok (.aload_n 0, 1) := by decide +kernel
theorem dX0_doWords_65 : decode cX0_doWords 65 = .ok (.getfield 15, 3) := by decide +kernel
theorem dX0_doWords_68 : decode cX0_doWords 68 = .ok (.iload_n 2, 1) := by decide +kernel
theorem dX0_doWords_69 : decode cX0_doWords 69 = .ok (.iconst 4, 1) := by decide +kernel
theorem dX0_doWords_70 : decode cX0_doWords 70 = .ok (.irem, 1) := by decide +kernel
theorem dX0_doWords_71 : decode cX0_doWords 71 = .ok (.iaload, 1) := by decide +kernel
theorem dX0_doWords_72 : decode cX0_doWords 72 = .ok (.iload_n 3, 1) := by decide +kernel
theorem dX0_doWords_73 : decode cX0_doWords 73 = .ok (.isub, 1) := by decide +kernel
theorem dX0_doWords_74 : decode cX0_doWords 74 = .ok (.invokestatic 132, 3) := by decide +kernel
theorem dX0_doWords_77 : decode cX0_doWords 77 = .ok (.iastore, 1) := by decide +kernel
theorem dX0_doWords_78 : decode cX0_doWords 78 = .ok (.return_, 1) := by decide +kernel
theorem dX0_doWords_79 : decode cX0_doWords 79 = .ok (.aload_n 0, 1) := by decide +kernel
theorem dX0_doWords_80 : decode cX0_doWords 80 = .ok (.getfield 15, 3) := by decide +kernel
theorem dX0_doWords_83 : decode cX0_doWords 83 = .ok (.iload_n 2, 1) := by decide +kernel
theorem dX0_doWords_84 : decode cX0_doWords 84 = .ok (.iconst 4, 1) := by decide +kernel
theorem dX0_doWords_85 : decode cX0_doWords 85 = .ok (.irem, 1) := by decide +kernel
theorem dX0_doWords_86 : decode cX0_doWords 86 = .ok (.aload_n 0, 1) := by decide +kernel
theorem dX0_doWords_87 : decode cX0_doWords 87 = .ok (.getfield 15, 3) := by decide +kernel
theorem dX0_doWords_90 : decode cX0_doWords 90 = .ok (.iload_n 3, 1) := by decide +kernel
theorem dX0_doWords_91 : decode cX0_doWords 91 = .ok (.iconst 4, 1) := by decide +kernel
theorem dX0_doWords_92 : decode cX0_doWords 92 = .ok (.irem, 1) := by decide +kernel
theorem dX0_doWords_93 : decode cX0_doWords 93 = .ok (.iaload, 1) := by decide +kernel
theorem dX0_doWords_94 : decode cX0_doWords 94 = .ok (.iastore, 1) := by decide +kernel
theorem dX0_doWords_95 : decode cX0_doWords 95 = .ok (.return_, 1) := by decide +kernel
theorem dX0_doWords_96 : decode cX0_doWords 96 = .ok (.aload_n 0, 1) := by decide +kernel
theorem dX0_doWords_97 : decode cX0_doWords 97 = .ok (.getfield 15, 3) := by decide +kernel
theorem dX0_doWords_100 : decode cX0_doWords 100 = .ok (.iload_n 2, 1) := by decide +kernel
theorem dX0_doWords_101 : decode cX0_doWords 101 = .ok (.iconst 4, 1) := by decide +kernel
theorem dX0_doWords_102 : decode cX0_doWords 102 = .ok (.irem, 1) := by decide +kernel
theorem dX0_doWords_103 : decode cX0_doWords 103 = .ok (.iaload, 1) := by decide +kernel
theorem dX0_doWords_104 : decode cX0_doWords 104 = .ok (.ifCond .ne 8, 3) := by decide +kernel
theorem dX0_doWords_107 : decode cX0_doWords 107 = .ok (.aload_n 0, 1) := by decide +kernel
theorem dX0_doWords_108 : decode cX0_doWords 108 = .ok (.iload_n 3, 1) := by decide +kernel
theorem dX0_doWords_109 : decode cX0_doWords 109 = .ok (.invokevirtual 135, 3) := by decide +kernel
theorem dX0_doWords_112 : decode cX0_doWords 112 = .ok (.return_, 1) := by decide +kernel
theorem dX0_doWords_113 : decode cX0_doWords 113 = .ok (.aload_n 0, 1) := by decide +kernel
theorem dX0_doWords_114 : decode cX0_doWords 114 = .ok (.iload_n 2, 1) := by decide +kernel
theorem dX0_doWords_115 : decode cX0_doWords 115 = .ok (.invokevirtual 135, 3) := by decide +kernel
theorem dX0_doWords_118 : decode cX0_doWords 118 = .ok (.return_, 1) := by decide +kernel
theorem dX0_doWords_119 : decode cX0_doWords 119 = .ok (.aload_n 0, 1) := by decide +kernel
theorem dX0_doWords_120 : decode cX0_doWords 120 = .ok (.getfield 24, 3) := by decide +kernel
theorem dX0_doWords_123 : decode cX0_doWords 123 = .ok (.iload_n 2, 1) := by decide +kernel
theorem dX0_doWords_124 : decode cX0_doWords 124 = .ok (.iload_n 3, 1) := by decide +kernel
theorem dX0_doWords_125 : decode cX0_doWords 125 = .ok (.invokevirtual 53, 3) := by decide +kernel
theorem dX0_doWords_128 : decode cX0_doWords 128 = .ok (.ifCond .eq 15, 3) := by decide +kernel
theorem dX0_doWords_131 : decode cX0_doWords 131 = .ok (.aload_n 0, 1) := by decide +kernel
theorem dX0_doWords_132 : decode cX0_doWords 132 = .ok (.getfield 9, 3) := by decide +kernel
theorem dX0_doWords_135 : decode cX0_doWords 135 = .ok (.iload_n 2, 1) := by decide +kernel
theorem dX0_doWords_136 : decode cX0_doWords 136 = .ok (.dup2, 1) := by decide +kernel
theorem dX0_doWords_137 : decode cX0_doWords 137 = .ok (.iaload, 1) := by decide +kernel
theorem dX0_doWords_138 : decode cX0_doWords 138 = .ok (.iconst 1, 1) := by decide +kernel
theorem dX0_doWords_139 : decode cX0_doWords 139 = .ok (.iload_n 3, 1) := by decide +kernel
theorem dX0_doWords_140 : decode cX0_doWords 140 = .ok (.ishl, 1) := by decide +kernel
theorem dX0_doWords_141 : decode cX0_doWords 141 = .ok (.ixor, 1) := by decide +kernel
theorem dX0_doWords_142 : decode cX0_doWords 142 = .ok (.iastore, 1) := by decide +kernel
theorem dX0_doWords_143 : decode cX0_doWords 143 = .ok (.return_, 1) := by decide +kernel
theorem dX0_doWords_144 : decode cX0_doWords 144 = .ok (.aload_n 0, 1) := by decide +kernel
theorem dX0_doWords_145 : decode cX0_doWords 145 = .ok (.aload_n 0, 1) := by decide +kernel
theorem dX0_doWords_146 : decode cX0_doWords 146 = .ok (.getfield 24, 3) := by decide +kernel
theorem dX0_doWords_149 : decode cX0_doWords 149 = .ok (.getfield 73, 3) := by decide +kernel
theorem dX0_doWords_152 : decode cX0_doWords 152 = .ok (.putfield 41, 3) := by decide +kernel
theorem dX0_doWords_155 : decode cX0_doWords 155 = .ok (.return_, 1) := by decide +kernel
theorem dX0_doWords_156 : decode cX0_doWords 156 = .ok (.aload_n 0, 1) := by decide +kernel
theorem dX0_doWords_157 : decode cX0_doWords 157 = .ok (.iload_n 1, 1) := by decide +kernel
theorem dX0_doWords_158 : decode cX0_doWords 158 = .ok (.iconst 1, 1) := by decide +kernel
theorem dX0_doWords_159 : decode cX0_doWords 159 = .ok (.invokevirtual 128, 3) := by decide +kernel
theorem dX0_doWords_162 : decode cX0_doWords 162 = .ok (.return_, 1) := by decide +kernel
theorem dX0_addTo_0 : decode cX0_addTo 0 = .ok (.iload_n 1, 1) := by decide +kernel
theorem dX0_addTo_1 : decode cX0_addTo 1 = .ok (.iconst 4, 1) := by decide +kernel
theorem dX0_addTo_2 : decode cX0_addTo 2 = .ok (.irem, 1) := by decide +kernel
theorem dX0_addTo_3 : decode cX0_addTo 3 = .ok (.istore_n 3, 1) := by decide +kernel
theorem dX0_addTo_4 : decode cX0_addTo 4 = .ok (.aload_n 0, 1) := by decide +kernel
theorem dX0_addTo_5 : decode cX0_addTo 5 = .ok (.getfield 15, 3) := by decide +kernel
theorem dX0_addTo_8 : decode cX0_addTo 8 = .ok (.iload_n 3, 1) := by decide +kernel
theorem dX0_addTo_9 : decode cX0_addTo 9 = .ok (.sipush 999, 3) := by decide +kernel
theorem dX0_addTo_12 : decode cX0_addTo 12 = .ok (.aload_n 0, 1) := by decide +kernel
theorem dX0_addTo_13 : decode cX0_addTo 13 = .ok (.getfield 15, 3) := by decide +kernel
theorem dX0_addTo_16 : decode cX0_addTo 16 = .ok (.iload_n 3, 1) := by decide +kernel
theorem dX0_addTo_17 : decode cX0_addTo 17 = .ok (.iaload, 1) := by decide +kernel
theorem dX0_addTo_18 : decode cX0_addTo 18 = .ok (.iload_n 2, 1) := by decide +kernel
theorem dX0_addTo_19 : decode cX0_addTo 19 = .ok (.iadd, 1) := by decide +kernel
theorem dX0_addTo_20 : decode cX0_addTo 20 = .ok (.invokestatic 119, 3) := by decide +kernel
theorem dX0_addTo_23 : decode cX0_addTo 23 = .ok (.iastore, 1) := by decide +kernel
theorem dX0_addTo_24 : decode cX0_addTo 24 = .ok (.return_, 1) := by decide +kernel
theorem dX0_goTo_0 : decode cX0_goTo 0 = .ok (.aload_n 0, 1) := by decide +kernel
theorem dX0_goTo_1 : decode cX0_goTo 1 = .ok (.iload_n 1, 1) := by decide +kernel
theorem dX0_goTo_2 : decode cX0_goTo 2 = .ok (.aload_n 0, 1) := by decide +kernel
theorem dX0_goTo_3 : decode cX0_goTo 3 = .ok (.getfield 24, 3) := by decide +kernel
theorem dX0_goTo_6 : decode cX0_goTo 6 = .ok (.getfield 73, 3) := by decide +kernel
theorem dX0_goTo_9 : decode cX0_goTo 9 = .ok (.invokestatic 119, 3) := by decide +kernel
theorem dX0_goTo_12 : decode cX0_goTo 12 = .ok (.putfield 41, 3) := by decide +kernel
theorem dX0_goTo_15 : decode cX0_goTo 15 = .ok (.return_, 1) := by decide +kernel
theorem dX0_playHand_0 : decode cX0_playHand 0 = .ok (.aload_n 0, 1) := by decide +kernel
theorem dX0_playHand_1 : decode cX0_playHand 1 = .ok (.iload_n 1, 1) := by decide +kernel
theorem dX0_playHand_2 : decode cX0_playHand 2 = .ok (.putfield 139, 3) := by decide +kernel
theorem dX0_playHand_5 : decode cX0_playHand 5 = .ok (.iconst 0, 1) := by decide +kernel
theorem dX0_playHand_6 : decode cX0_playHand 6 = .ok (.istore 4, 2) := by decide +kernel
theorem dX0_playHand_8 : decode cX0_playHand 8 = .ok (.iload 4, 2) := by decide +kernel
theorem dX0_playHand_10 : decode cX0_playHand 10 = .ok (.iload_n 2, 1) := by decide +kernel
theorem dX0_playHand_11 : decode cX0_playHand 11 = .ok (.if_icmp .ge 108, 3) := by decide +kernel
theorem dX0_playHand_14 : decode cX0_playHand 14 = .ok (.aload_n 0, 1) := by decide +kernel
theorem dX0_playHand_15 : decode cX0_playHand 15 = .ok (.getfield 24, 3) := by decide +kernel
theorem dX0_playHand_18 : decode cX0_playHand 18 = .ok (.getfield 73, 3) := by decide +kernel
theorem dX0_playHand_21 : decode cX0_playHand 21 = .ok (.ifCond .le 98, 3) := by decide +kernel
theorem dX0_playHand_24 : decode cX0_playHand 24 = .ok (.aload_n 0, 1) := by decide +kernel
theorem dX0_playHand_25 : decode cX0_playHand 25 = .ok (.aload_n 0, 1) := by decide +kernel
theorem dX0_playHand_26 : decode cX0_playHand 26 = .ok (.getfield 24, 3) := by decide +kernel
theorem dX0_playHand_29 : decode cX0_playHand 29 = .ok (.getfield 73, 3) := by decide +kernel
theorem dX0_playHand_32 : decode cX0_playHand 32 = .ok (.invokevirtual 142, 3) := by decide +kernel
theorem dX0_playHand_35 : decode cX0_playHand 35 = .ok (.istore 5, 2) := by decide +kernel
theorem dX0_playHand_37 : decode cX0_playHand 37 = .ok (.aload_n 0, 1) := by decide +kernel
theorem dX0_playHand_38 : decode cX0_playHand 38 = .ok (.aload_n 0, 1) := by decide +kernel
theorem dX0_playHand_39 : decode cX0_playHand 39 = .ok (.getfield 24, 3) := by decide +kernel
theorem dX0_playHand_42 : decode cX0_playHand 42 = .ok (.getfield 61, 3) := by decide +kernel
theorem dX0_playHand_45 : decode cX0_playHand 45 = .ok (.iload 5, 2) := by decide +kernel
theorem dX0_playHand_47 : decode cX0_playHand 47 = .ok (.iaload, 1) := by decide +kernel
theorem dX0_playHand_48 : decode cX0_playHand 48 = .ok (.invokevirtual 142, 3) := by decide +kernel
theorem dX0_playHand_51 : decode cX0_playHand 51 = .ok (.istore 6, 2) := by decide +kernel
theorem dX0_playHand_53 : decode cX0_playHand 53 = .ok (.aload_n 0, 1) := by decide +kernel
theorem dX0_playHand_54 : decode cX0_playHand 54 = .ok (.aload_n 0, 1) := by decide +kernel
theorem dX0_playHand_55 : decode cX0_playHand 55 = .ok (.getfield 24, 3) := by decide +kernel
theorem dX0_playHand_58 : decode cX0_playHand 58 = .ok (.getfield 61, 3) := by decide +kernel
theorem dX0_playHand_61 : decode cX0_playHand 61 = .ok (.iload 5, 2) := by decide +kernel
theorem dX0_playHand_63 : decode cX0_playHand 63 = .ok (.iaload, 1) := by decide +kernel
theorem dX0_playHand_64 : decode cX0_playHand 64 = .ok (.invokevirtual 142, 3) := by decide +kernel
theorem dX0_playHand_67 : decode cX0_playHand 67 = .ok (.istore 7, 2) := by decide +kernel
theorem dX0_playHand_69 : decode cX0_playHand 69 = .ok (.aload_n 0, 1) := by decide +kernel
theorem dX0_playHand_70 : decode cX0_playHand 70 = .ok (.iload 5, 2) := by decide +kernel
theorem dX0_playHand_72 : decode cX0_playHand 72 = .ok (.iload 6, 2) := by decide +kernel
theorem dX0_playHand_74 : decode cX0_playHand 74 = .ok (.iload 7, 2) := by decide +kernel
theorem dX0_playHand_76 : decode cX0_playHand 76 = .ok (.invokestatic 119, 3) := by decide +kernel
theorem dX0_playHand_79 : decode cX0_playHand 79 = .ok (.iload 6, 2) := by decide +kernel
theorem dX0_playHand_81 : decode cX0_playHand 81 = .ok (.iload 7, 2) := by decide +kernel
theorem dX0_playHand_83 : decode cX0_playHand 83 = .ok (.invokestatic 132, 3) := by decide +kernel
theorem dX0_playHand_86 : decode cX0_playHand 86 = .ok (.invokevirtual 145, 3) := by decide +kernel
theorem dX0_playHand_89 : decode cX0_playHand 89 = .ok (.pop, 1) := by decide +kernel
theorem dX0_playHand_90 : decode cX0_playHand 90 = .ok (.aload_n 0, 1) := by decide +kernel
theorem dX0_playHand_91 : decode cX0_playHand 91 = .ok (.bipush 16, 2) := by decide +kernel
theorem dX0_playHand_93 : decode cX0_playHand 93 = .ok (.invokevirtual 142, 3) := by decide +kernel
theorem dX0_playHand_96 : decode cX0_playHand 96 = .ok (.iload_n 3, 1) := by decide +kernel
theorem dX0_playHand_97 : decode cX0_playHand 97 = .ok (.if_icmp .ge 16, 3) := by decide +kernel
theorem dX0_playHand_100 : decode cX0_playHand 100 = .ok (.aload_n 0, 1) := by decide +kernel
theorem dX0_playHand_101 : decode cX0_playHand 101 = .ok (.iconst 3, 1) := by decide +kernel
theorem dX0_playHand_102 : decode cX0_playHand 102 = .ok (.invokevirtual 149, 3) := by decide +kernel
theorem dX0_playHand_105 : decode cX0_playHand 105 = .ok (.ifCond .ne 8, 3) := by decide +kernel
theorem dX0_playHand_108 : decode cX0_playHand 108 = .ok (.aload_n 0, 1) := by decide +kernel
theorem dX0_playHand_109 : decode cX0_playHand 109 = .ok (.invokevirtual 152, 3) := by decide +kernel
theorem dX0_playHand_112 : decode cX0_playHand 112 = .ok (.pop, 1) := by decide +kernel
theorem dX0_playHand_113 : decode cX0_playHand 113 = .ok (.iinc 4 1, 3) := by decide +kernel
theorem dX0_playHand_116 : decode cX0_playHand 116 = .ok (.goto (-108), 3) := by decide +kernel
theorem dX0_playHand_119 : decode cX0_playHand 119 = .ok (.return_, 1) := by decide +kernel
theorem dX0_drawnBy_0 : decode cX0_drawnBy 0 = .ok (.aload_n 0, 1) := by decide +kernel
theorem dX0_drawnBy_1 : decode cX0_drawnBy 1 = .ok (.aload_n 0, 1) := by decide +kernel
theorem dX0_drawnBy_2 : decode cX0_drawnBy 2 = .ok (.getfield 139, 3) := by decide +kernel
theorem dX0_drawnBy_5 : decode cX0_drawnBy 5 = .ok (.ldc 155, 2) := by decide +kernel
theorem dX0_drawnBy_7 : decode cX0_drawnBy 7 = .ok (.imul, 1) := by decide +kernel
theorem dX0_drawnBy_8 : decode cX0_drawnBy 8 = .ok (.sipush 12345, 3) := by decide +kernel
theorem dX0_drawnBy_11 : decode cX0_drawnBy 11 = .ok (.iadd, 1) := by decide +kernel
