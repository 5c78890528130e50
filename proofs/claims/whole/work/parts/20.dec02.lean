theorem dX1_readProduct_0 : decode cX1_readProduct 0 = .ok (.aload_n 0, 1) := by decide +kernel
theorem dX1_readProduct_1 : decode cX1_readProduct 1 = .ok (.aload_n 1, 1) := by decide +kernel
theorem dX1_readProduct_2 : decode cX1_readProduct 2 = .ok (.iload_n 2, 1) := by decide +kernel
theorem dX1_readProduct_3 : decode cX1_readProduct 3 = .ok (.invokevirtual 77, 3) := by decide +kernel
theorem dX1_readProduct_6 : decode cX1_readProduct 6 = .ok (.ifCond .ne 5, 3) := by decide +kernel
theorem dX1_readProduct_9 : decode cX1_readProduct 9 = .ok (.iconst 0, 1) := by decide +kernel
theorem dX1_readProduct_10 : decode cX1_readProduct 10 = .ok (.ireturn, 1) := by decide +kernel
theorem dX1_readProduct_11 : decode cX1_readProduct 11 = .ok (.iconst 0, 1) := by decide +kernel
theorem dX1_readProduct_12 : decode cX1_readProduct 12 = .ok (.istore_n 3, 1) := by decide +kernel
theorem dX1_readProduct_13 : decode cX1_readProduct 13 = .ok (.iload_n 3, 1) := by decide +kernel
theorem dX1_readProduct_14 : decode cX1_readProduct 14 = .ok (.sipush 150, 3) := by decide +kernel
theorem dX1_readProduct_17 : decode cX1_readProduct 17 = .ok (.if_icmp .ge 90, 3) := by decide +kernel
theorem dX1_readProduct_20 : decode cX1_readProduct 20 = .ok (.aload_n 1, 1) := by decide +kernel
theorem dX1_readProduct_21 : decode cX1_readProduct 21 = .ok (.invokevirtual 58, 3) := by decide +kernel
theorem dX1_readProduct_24 : decode cX1_readProduct 24 = .ok (.istore 4, 2) := by decide +kernel
theorem dX1_readProduct_26 : decode cX1_readProduct 26 = .ok (.iload 4, 2) := by decide +kernel
theorem dX1_readProduct_28 : decode cX1_readProduct 28 = .ok (.bipush 42, 2) := by decide +kernel
theorem dX1_readProduct_30 : decode cX1_readProduct 30 = .ok (.if_icmp .eq 19, 3) := by decide +kernel
theorem dX1_readProduct_33 : decode cX1_readProduct 33 = .ok (.iload 4, 2) := by decide +kernel
theorem dX1_readProduct_35 : decode cX1_readProduct 35 = .ok (.bipush 47, 2) := by decide +kernel
theorem dX1_readProduct_37 : decode cX1_readProduct 37 = .ok (.if_icmp .eq 12, 3) := by decide +kernel
theorem dX1_readProduct_40 : decode cX1_readProduct 40 = .ok (.iload 4, 2) := by decide +kernel
theorem dX1_readProduct_42 : decode cX1_readProduct 42 = .ok (.bipush 37, 2) := by decide +kernel
theorem dX1_readProduct_44 : decode cX1_readProduct 44 = .ok (.if_icmp .eq 5, 3) := by decide +kernel
theorem dX1_readProduct_47 : decode cX1_readProduct 47 = .ok (.iconst 1, 1) := by decide +kernel
theorem dX1_readProduct_48 : decode cX1_readProduct 48 = .ok (.ireturn, 1) := by decide +kernel
theorem dX1_readProduct_49 : decode cX1_readProduct 49 = .ok (.aload_n 1, 1) := by decide +kernel
theorem dX1_readProduct_50 : decode cX1_readProduct 50 = .ok (.dup, 1) := by decide +kernel
theorem dX1_readProduct_51 : decode cX1_readProduct 51 = .ok (.getfield 63, 3) := by decide +kernel
theorem dX1_readProduct_54 : decode cX1_readProduct 54 = .ok (.iconst 1, 1) := by decide +kernel
theorem dX1_readProduct_55 : decode cX1_readProduct 55 = .ok (.iadd, 1) := by decide +kernel
theorem dX1_readProduct_56 : decode cX1_readProduct 56 = .ok (.putfield 63, 3) := by decide +kernel
theorem dX1_readProduct_59 : decode cX1_readProduct 59 = .ok (.aload_n 0, 1) := by decide +kernel
theorem dX1_readProduct_60 : decode cX1_readProduct 60 = .ok (.aload_n 1, 1) := by decide +kernel
theorem dX1_readProduct_61 : decode cX1_readProduct 61 = .ok (.iload_n 2, 1) := by decide +kernel
theorem dX1_readProduct_62 : decode cX1_readProduct 62 = .ok (.invokevirtual 77, 3) := by decide +kernel
theorem dX1_readProduct_65 : decode cX1_readProduct 65 = .ok (.ifCond .ne 5, 3) := by decide +kernel
theorem dX1_readProduct_68 : decode cX1_readProduct 68 = .ok (.iconst 0, 1) := by decide +kernel
theorem dX1_readProduct_69 : decode cX1_readProduct 69 = .ok (.ireturn, 1) := by decide +kernel
theorem dX1_readProduct_70 : decode cX1_readProduct 70 = .ok (.aload_n 0, 1) := by decide +kernel
theorem dX1_readProduct_71 : decode cX1_readProduct 71 = .ok (.iload 4, 2) := by decide +kernel
theorem dX1_readProduct_73 : decode cX1_readProduct 73 = .ok (.bipush 42, 2) := by decide +kernel
theorem dX1_readProduct_75 : decode cX1_readProduct 75 = .ok (.if_icmp .ne 8, 3) := by decide +kernel
theorem dX1_readProduct_78 : decode cX1_readProduct 78 = .ok (.bipush (-10), 2) := by decide +kernel
theorem dX1_readProduct_80 : decode cX1_readProduct 80 = .ok (.goto 17, 3) := by decide +kernel
theorem dX1_readProduct_83 : decode cX1_readProduct 83 = .ok (.iload 4, 2) := by decide +kernel
theorem dX1_readProduct_85 : decode cX1_readProduct 85 = .ok (.bipush 47, 2) := by decide +kernel
theorem dX1_readProduct_87 : decode cX1_readProduct 87 = .ok (.if_icmp .ne 8, 3) := by decide +kernel
theorem dX1_readProduct_90 : decode cX1_readProduct 90 = .ok (.bipush (-11), 2) := by decide +kernel
theorem dX1_readProduct_92 : decode cX1_readProduct 92 = .ok (.goto 5, 3) := by decide +kernel
theorem dX1_readProduct_95 : decode cX1_readProduct 95 = .ok (.bipush (-12), 2) := by decide +kernel
theorem dX1_readProduct_97 : decode cX1_readProduct 97 = .ok (.invokevirtual 73, 3) := by decide +kernel
theorem dX1_readProduct_100 : decode cX1_readProduct 100 = .ok (.pop, 1) := by decide +kernel
theorem dX1_readProduct_101 : decode cX1_readProduct 101 = .ok (.iinc 3 1, 3) := by decide +kernel
theorem dX1_readProduct_104 : decode cX1_readProduct 104 = .ok (.goto (-91), 3) := by decide +kernel
theorem dX1_readProduct_107 : decode cX1_readProduct 107 = .ok (.iconst 1, 1) := by decide +kernel
theorem dX1_readProduct_108 : decode cX1_readProduct 108 = .ok (.ireturn, 1) := by decide +kernel
theorem dX1_readSum_0 : decode cX1_readSum 0 = .ok (.aload_n 0, 1) := by decide +kernel
theorem dX1_readSum_1 : decode cX1_readSum 1 = .ok (.aload_n 1, 1) := by decide +kernel
theorem dX1_readSum_2 : decode cX1_readSum 2 = .ok (.iload_n 2, 1) := by decide +kernel
theorem dX1_readSum_3 : decode cX1_readSum 3 = .ok (.invokevirtual 70, 3) := by decide +kernel
theorem dX1_readSum_6 : decode cX1_readSum 6 = .ok (.ifCond .ne 5, 3) := by decide +kernel
theorem dX1_readSum_9 : decode cX1_readSum 9 = .ok (.iconst 0, 1) := by decide +kernel
theorem dX1_readSum_10 : decode cX1_readSum 10 = .ok (.ireturn, 1) := by decide +kernel
theorem dX1_readSum_11 : decode cX1_readSum 11 = .ok (.iconst 0, 1) := by decide +kernel
theorem dX1_readSum_12 : decode cX1_readSum 12 = .ok (.istore_n 3, 1) := by decide +kernel
theorem dX1_readSum_13 : decode cX1_readSum 13 = .ok (.iload_n 3, 1) := by decide +kernel
theorem dX1_readSum_14 : decode cX1_readSum 14 = .ok (.sipush 150, 3) := by decide +kernel
theorem dX1_readSum_17 : decode cX1_readSum 17 = .ok (.if_icmp .ge 71, 3) := by decide +kernel
theorem dX1_readSum_20 : decode cX1_readSum 20 = .ok (.aload_n 1, 1) := by decide +kernel
theorem dX1_readSum_21 : decode cX1_readSum 21 = .ok (.invokevirtual 58, 3) := by decide +kernel
theorem dX1_readSum_24 : decode cX1_readSum 24 = .ok (.istore 4, 2) := by decide +kernel
theorem dX1_readSum_26 : decode cX1_readSum 26 = .ok (.iload 4, 2) := by decide +kernel
theorem dX1_readSum_28 : decode cX1_readSum 28 = .ok (.bipush 43, 2) := by decide +kernel
theorem dX1_readSum_30 : decode cX1_readSum 30 = .ok (.if_icmp .eq 12, 3) := by decide +kernel
theorem dX1_readSum_33 : decode cX1_readSum 33 = .ok (.iload 4, 2) := by decide +kernel
theorem dX1_readSum_35 : decode cX1_readSum 35 = .ok (.bipush 45, 2) := by decide +kernel
theorem dX1_readSum_37 : decode cX1_readSum 37 = .ok (.if_icmp .eq 5, 3) := by decide +kernel
theorem dX1_readSum_40 : decode cX1_readSum 40 = .ok (.iconst 1, 1) := by decide +kernel
theorem dX1_readSum_41 : decode cX1_readSum 41 = .ok (.ireturn, 1) := by decide +kernel
theorem dX1_readSum_42 : decode cX1_readSum 42 = .ok (.aload_n 1, 1) := by decide +kernel
theorem dX1_readSum_43 : decode cX1_readSum 43 = .ok (.dup, 1) := by decide +kernel
theorem dX1_readSum_44 : decode cX1_readSum 44 = .ok (.getfield 63, 3) := by decide +kernel
theorem dX1_readSum_47 : decode cX1_readSum 47 = .ok (.iconst 1, 1) := by decide +kernel
theorem dX1_readSum_48 : decode cX1_readSum 48 = .ok (.iadd, 1) := by decide +kernel
theorem dX1_readSum_49 : decode cX1_readSum 49 = .ok (.putfield 63, 3) := by decide +kernel
theorem dX1_readSum_52 : decode cX1_readSum 52 = .ok (.aload_n 0, 1) := by decide +kernel
theorem dX1_readSum_53 : decode cX1_readSum 53 = .ok (.aload_n 1, 1) := by decide +kernel
theorem dX1_readSum_54 : decode cX1_readSum 54 = .ok (.iload_n 2, 1) := by decide +kernel
theorem dX1_readSum_55 : decode cX1_readSum 55 = .ok (.invokevirtual 70, 3) := by decide +kernel
theorem dX1_readSum_58 : decode cX1_readSum 58 = .ok (.ifCond .ne 5, 3) := by decide +kernel
theorem dX1_readSum_61 : decode cX1_readSum 61 = .ok (.iconst 0, 1) := by decide +kernel
theorem dX1_readSum_62 : decode cX1_readSum 62 = .ok (.ireturn, 1) := by decide +kernel
theorem dX1_readSum_63 : decode cX1_readSum 63 = .ok (.aload_n 0, 1) := by decide +kernel
theorem dX1_readSum_64 : decode cX1_readSum 64 = .ok (.iload 4, 2) := by decide +kernel
theorem dX1_readSum_66 : decode cX1_readSum 66 = .ok (.bipush 43, 2) := by decide +kernel
theorem dX1_readSum_68 : decode cX1_readSum 68 = .ok (.if_icmp .ne 8, 3) := by decide +kernel
theorem dX1_readSum_71 : decode cX1_readSum 71 = .ok (.bipush (-8), 2) := by decide +kernel
theorem dX1_readSum_73 : decode cX1_readSum 73 = .ok (.goto 5, 3) := by decide +kernel
theorem dX1_readSum_76 : decode cX1_readSum 76 = .ok (.bipush (-9), 2) := by decide +kernel
theorem dX1_readSum_78 : decode cX1_readSum 78 = .ok (.invokevirtual 73, 3) := by decide +kernel
theorem dX1_readSum_81 : decode cX1_readSum 81 = .ok (.pop, 1) := by decide +kernel
theorem dX1_readSum_82 : decode cX1_readSum 82 = .ok (.iinc 3 1, 3) := by decide +kernel
theorem dX1_readSum_85 : decode cX1_readSum 85 = .ok (.goto (-72), 3) := by decide +kernel
theorem dX1_readSum_88 : decode cX1_readSum 88 = .ok (.iconst 1, 1) := by decide +kernel
theorem dX1_readSum_89 : decode cX1_readSum 89 = .ok (.ireturn, 1) := by decide +kernel
theorem dX1_readFrom_0 : decode cX1_readFrom 0 = .ok (.aload_n 0, 1) := by decide +kernel
theorem dX1_readFrom_1 : decode cX1_readFrom 1 = .ok (.iconst 0, 1) := by decide +kernel
theorem dX1_readFrom_2 : decode cX1_readFrom 2 = .ok (.putfield 33, 3) := by decide +kernel
theorem dX1_readFrom_5 : decode cX1_readFrom 5 = .ok (.aload_n 0, 1) := by decide +kernel
theorem dX1_readFrom_6 : decode cX1_readFrom 6 = .ok (.aload_n 1, 1) := by decide +kernel
theorem dX1_readFrom_7 : decode cX1_readFrom 7 = .ok (.iconst 0, 1) := by decide +kernel
theorem dX1_readFrom_8 : decode cX1_readFrom 8 = .ok (.invokevirtual 54, 3) := by decide +kernel
theorem dX1_readFrom_11 : decode cX1_readFrom 11 = .ok (.ifCond .ne 5, 3) := by decide +kernel
theorem dX1_readFrom_14 : decode cX1_readFrom 14 = .ok (.iconst 0, 1) := by decide +kernel
theorem dX1_readFrom_15 : decode cX1_readFrom 15 = .ok (.ireturn, 1) := by decide +kernel
theorem dX1_readFrom_16 : decode cX1_readFrom 16 = .ok (.aload_n 1, 1) := by decide +kernel
theorem dX1_readFrom_17 : decode cX1_readFrom 17 = .ok (.invokevirtual 58, 3) := by decide +kernel
theorem dX1_readFrom_20 : decode cX1_readFrom 20 = .ok (.iconst (-1), 1) := by decide +kernel
theorem dX1_readFrom_21 : decode cX1_readFrom 21 = .ok (.if_icmp .eq 15, 3) := by decide +kernel
theorem dX1_readFrom_24 : decode cX1_readFrom 24 = .ok (.aload_n 1, 1) := by decide +kernel
theorem dX1_readFrom_25 : decode cX1_readFrom 25 = .ok (.iconst 1, 1) := by decide +kernel
theorem dX1_readFrom_26 : decode cX1_readFrom 26 = .ok (.aload_n 1, 1) := by decide +kernel
theorem dX1_readFrom_27 : decode cX1_readFrom 27 = .ok (.getfield 63, 3) := by decide +kernel
theorem dX1_readFrom_30 : decode cX1_readFrom 30 = .ok (.invokevirtual 66, 3) := by decide +kernel
theorem dX1_readFrom_33 : decode cX1_readFrom 33 = .ok (.ifCond .eq 7, 3) := by decide +kernel
theorem dX1_readFrom_36 : decode cX1_readFrom 36 = .ok (.iconst 1, 1) := by decide +kernel
theorem dX1_readFrom_37 : decode cX1_readFrom 37 = .ok (.goto 4, 3) := by decide +kernel
theorem dX1_readFrom_40 : decode cX1_readFrom 40 = .ok (.iconst 0, 1) := by decide +kernel
theorem dX1_readFrom_41 : decode cX1_readFrom 41 = .ok (.ireturn, 1) := by decide +kernel
theorem dX2_init_0 : decode cX2_init 0 = .ok (.aload_n 0, 1) := by decide +kernel
theorem dX2_init_1 : decode cX2_init 1 = .ok (.invokespecial 3, 3) := by decide +kernel
theorem dX2_init_4 : decode cX2_init 4 = .ok (.aload_n 0, 1) := by decide +kernel
theorem dX2_init_5 : decode cX2_init 5 = .ok (.bipush 6, 2) := by decide +kernel
theorem dX2_init_7 : decode cX2_init 7 = .ok (.newarray .int, 2) := by decide +kernel
theorem dX2_init_9 : decode cX2_init 9 = .ok (.putfield 9, 3) := by decide +kernel
theorem dX2_init_12 : decode cX2_init 12 = .ok (.aload_n 0, 1) := by decide +kernel
theorem dX2_init_13 : decode cX2_init 13 = .ok (.bipush 48, 2) := by decide +kernel
theorem dX2_init_15 : decode cX2_init 15 = .ok (.newarray .int, 2) := by decide +kernel
theorem dX2_init_17 : decode cX2_init 17 = .ok (.putfield 15, 3) := by decide +kernel
theorem dX2_init_20 : decode cX2_init 20 = .ok (.aload_n 0, 1) := by decide +kernel
theorem dX2_init_21 : decode cX2_init 21 = .ok (.iconst 4, 1) := by decide +kernel
theorem dX2_init_22 : decode cX2_init 22 = .ok (.newarray .int, 2) := by decide +kernel
theorem dX2_init_24 : decode cX2_init 24 = .ok (.putfield 18, 3) := by decide +kernel
theorem dX2_init_27 : decode cX2_init 27 = .ok (.aload_n 0, 1) := by decide +kernel
theorem dX2_init_28 : decode cX2_init 28 = .ok (.bipush 60, 2) := by decide +kernel
theorem dX2_init_30 : decode cX2_init 30 = .ok (.putfield 21, 3) := by decide +kernel
theorem dX2_init_33 : decode cX2_init 33 = .ok (.return_, 1) := by decide +kernel
theorem dX2_takeOver_0 : decode cX2_takeOver 0 = .ok (.aload_n 1, 1) := by decide +kernel
theorem dX2_takeOver_1 : decode cX2_takeOver 1 = .ok (.getfield 9, 3) := by decide +kernel
theorem dX2_takeOver_4 : decode cX2_takeOver 4 = .ok (.iconst 0, 1) := by decide +kernel
theorem dX2_takeOver_5 : decode cX2_takeOver 5 = .ok (.aload_n 0, 1) := by decide +kernel
theorem dX2_takeOver_6 : decode cX2_takeOver 6 = .ok (.getfield 9, 3) := by decide +kernel
theorem dX2_takeOver_9 : decode cX2_takeOver 9 = .ok (.iconst 0, 1) := by decide +kernel
theorem dX2_takeOver_10 : decode cX2_takeOver 10 = .ok (.bipush 6, 2) := by decide +kernel
theorem dX2_takeOver_12 : decode cX2_takeOver 12 = .ok (.invokestatic 36, 3) := by decide +kernel
theorem dX2_takeOver_15 : decode cX2_takeOver 15 = .ok (.aload_n 1, 1) := by decide +kernel
theorem dX2_takeOver_16 : decode cX2_takeOver 16 = .ok (.getfield 15, 3) := by decide +kernel
theorem dX2_takeOver_19 : decode cX2_takeOver 19 = .ok (.iconst 0, 1) := by decide +kernel
theorem dX2_takeOver_20 : decode cX2_takeOver 20 = .ok (.aload_n 0, 1) := by decide +kernel
theorem dX2_takeOver_21 : decode cX2_takeOver 21 = .ok (.getfield 15, 3) := by decide +kernel
theorem dX2_takeOver_24 : decode cX2_takeOver 24 = .ok (.iconst 0, 1) := by decide +kernel
theorem dX2_takeOver_25 : decode cX2_takeOver 25 = .ok (.bipush 48, 2) := by decide +kernel
theorem dX2_takeOver_27 : decode cX2_takeOver 27 = .ok (.invokestatic 36, 3) := by decide +kernel
theorem dX2_takeOver_30 : decode cX2_takeOver 30 = .ok (.aload_n 1, 1) := by decide +kernel
theorem dX2_takeOver_31 : decode cX2_takeOver 31 = .ok (.getfield 18, 3) := by decide +kernel
theorem dX2_takeOver_34 : decode cX2_takeOver 34 = .ok (.iconst 0, 1) := by decide +kernel
theorem dX2_takeOver_35 : decode cX2_takeOver 35 = .ok (.aload_n 0, 1) := by decide +kernel
theorem dX2_takeOver_36 : decode cX2_takeOver 36 = .ok (.getfield 18, 3) := by decide +kernel
theorem dX2_takeOver_39 : decode cX2_takeOver 39 = .ok (.iconst 0, 1) := by decide +kernel
theorem dX2_takeOver_40 : decode cX2_takeOver 40 = .ok (.iconst 4, 1) := by decide +kernel
theorem dX2_takeOver_41 : decode cX2_takeOver 41 = .ok (.invokestatic 36, 3) := by decide +kernel
theorem dX2_takeOver_44 : decode cX2_takeOver 44 = .ok (.aload_n 0, 1) := by decide +kernel
theorem dX2_takeOver_45 : decode cX2_takeOver 45 = .ok (.aload_n 1, 1) := by decide +kernel
theorem dX2_takeOver_46 : decode cX2_takeOver 46 = .ok (.getfield 25, 3) := by decide +kernel
theorem dX2_takeOver_49 : decode cX2_takeOver 49 = .ok (.putfield 25, 3) := by decide +kernel
theorem dX2_takeOver_52 : decode cX2_takeOver 52 = .ok (.aload_n 0, 1) := by decide +kernel
theorem dX2_takeOver_53 : decode cX2_takeOver 53 = .ok (.aload_n 1, 1) := by decide +kernel
theorem dX2_takeOver_54 : decode cX2_takeOver 54 = .ok (.getfield 42, 3) := by decide +kernel
theorem dX2_takeOver_57 : decode cX2_takeOver 57 = .ok (.putfield 42, 3) := by decide +kernel
theorem dX2_takeOver_60 : decode cX2_takeOver 60 = .ok (.aload_n 0, 1) := by decide +kernel
theorem dX2_takeOver_61 : decode cX2_takeOver 61 = .ok (.aload_n 1, 1) := by decide +kernel
theorem dX2_takeOver_62 : decode cX2_takeOver 62 = .ok (.getfield 21, 3) := by decide +kernel
theorem dX2_takeOver_65 : decode cX2_takeOver 65 = .ok (.putfield 21, 3) := by decide +kernel
theorem dX2_takeOver_68 : decode cX2_takeOver 68 = .ok (.return_, 1) := by decide +kernel
theorem dX2_readLine_0 : decode cX2_readLine 0 = .ok (.iconst 0, 1) := by decide +kernel
theorem dX2_readLine_1 : decode cX2_readLine 1 = .ok (.istore_n 2, 1) := by decide +kernel
theorem dX2_readLine_2 : decode cX2_readLine 2 = .ok (.aload_n 1, 1) := by decide +kernel
theorem dX2_readLine_3 : decode cX2_readLine 3 = .ok (.iconst 0, 1) := by decide +kernel
theorem dX2_readLine_4 : decode cX2_readLine 4 = .ok (.bipush 15, 2) := by decide +kernel
theorem dX2_readLine_6 : decode cX2_readLine 6 = .ok (.invokevirtual 89, 3) := by decide +kernel
theorem dX2_readLine_9 : decode cX2_readLine 9 = .ok (.ifCond .ne 5, 3) := by decide +kernel
theorem dX2_readLine_12 : decode cX2_readLine 12 = .ok (.iconst 0, 1) := by decide +kernel
theorem dX2_readLine_13 : decode cX2_readLine 13 = .ok (.ireturn, 1) := by decide +kernel
theorem dX2_readLine_14 : decode cX2_readLine 14 = .ok (.iload_n 2, 1) := by decide +kernel
theorem dX2_readLine_15 : decode cX2_readLine 15 = .ok (.bipush 8, 2) := by decide +kernel
theorem dX2_readLine_17 : decode cX2_readLine 17 = .ok (.if_icmp .lt 13, 3) := by decide +kernel
theorem dX2_readLine_20 : decode cX2_readLine 20 = .ok (.aload_n 1, 1) := by decide +kernel
theorem dX2_readLine_21 : decode cX2_readLine 21 = .ok (.iconst 3, 1) := by decide +kernel
theorem dX2_readLine_22 : decode cX2_readLine 22 = .ok (.aload_n 1, 1) := by decide +kernel
theorem dX2_readLine_23 : decode cX2_readLine 23 = .ok (.getfield 69, 3) := by decide +kernel
theorem dX2_readLine_26 : decode cX2_readLine 26 = .ok (.invokevirtual 72, 3) := by decide +kernel
theorem dX2_readLine_29 : decode cX2_readLine 29 = .ok (.ireturn, 1) := by decide +kernel
theorem dX2_readLine_30 : decode cX2_readLine 30 = .ok (.aload_n 0, 1) := by decide +kernel
theorem dX2_readLine_31 : decode cX2_readLine 31 = .ok (.getfield 15, 3) := by decide +kernel
theorem dX2_readLine_34 : decode cX2_readLine 34 = .ok (.aload_n 0, 1) := by decide +kernel
theorem dX2_readLine_35 : decode cX2_readLine 35 = .ok (.getfield 25, 3) := by decide +kernel
theorem dX2_readLine_38 : decode cX2_readLine 38 = .ok (.bipush 8, 2) := by decide +kernel
theorem dX2_readLine_40 : decode cX2_readLine 40 = .ok (.imul, 1) := by decide +kernel
theorem dX2_readLine_41 : decode cX2_readLine 41 = .ok (.iload_n 2, 1) := by decide +kernel
theorem dX2_readLine_42 : decode cX2_readLine 42 = .ok (.iadd, 1) := by decide +kernel
theorem dX2_readLine_43 : decode cX2_readLine 43 = .ok (.aload_n 1, 1) := by decide +kernel
theorem dX2_readLine_44 : decode cX2_readLine 44 = .ok (.getfield 92, 3) := by decide +kernel
theorem dX2_readLine_47 : decode cX2_readLine 47 = .ok (.iastore, 1) := by decide +kernel
theorem dX2_readLine_48 : decode cX2_readLine 48 = .ok (.iinc 2 1, 3) := by decide +kernel
theorem dX2_readLine_51 : decode cX2_readLine 51 = .ok (.iload_n 2, 1) := by decide +kernel
theorem dX2_readLine_52 : decode cX2_readLine 52 = .ok (.bipush 8, 2) := by decide +kernel
theorem dX2_readLine_54 : decode cX2_readLine 54 = .ok (.if_icmp .gt 10, 3) := by decide +kernel
theorem dX2_readLine_57 : decode cX2_readLine 57 = .ok (.aload_n 1, 1) := by decide +kernel
theorem dX2_readLine_58 : decode cX2_readLine 58 = .ok (.invokevirtual 95, 3) := by decide +kernel
theorem dX2_readLine_61 : decode cX2_readLine 61 = .ok (.ifCond .ne (-59), 3) := by decide +kernel
theorem dX2_readLine_64 : decode cX2_readLine 64 = .ok (.aload_n 0, 1) := by decide +kernel
theorem dX2_readLine_65 : decode cX2_readLine 65 = .ok (.getfield 9, 3) := by decide +kernel
theorem dX2_readLine_68 : decode cX2_readLine 68 = .ok (.aload_n 0, 1) := by decide +kernel
theorem dX2_readLine_69 : decode cX2_readLine 69 = .ok (.getfield 25, 3) := by decide +kernel
theorem dX2_readLine_72 : decode cX2_readLine 72 = .ok (.iload_n 2, 1) := by decide +kernel
theorem dX2_readLine_73 : decode cX2_readLine 73 = .ok (.iastore, 1) := by decide +kernel
theorem dX2_readLine_74 : decode cX2_readLine 74 = .ok (.aload_n 0, 1) := by decide +kernel
theorem dX2_readLine_75 : decode cX2_readLine 75 = .ok (.dup, 1) := by decide +kernel
theorem dX2_readLine_76 : decode cX2_readLine 76 = .ok (.getfield 25, 3) := by decide +kernel
theorem dX2_readLine_79 : decode cX2_readLine 79 = .ok (.iconst 1, 1) := by decide +kernel
theorem dX2_readLine_80 : decode cX2_readLine 80 = .ok (.iadd, 1) := by decide +kernel
theorem dX2_readLine_81 : decode cX2_readLine 81 = .ok (.putfield 25, 3) := by decide +kernel
theorem dX2_readLine_84 : decode cX2_readLine 84 = .ok (.aload_n 0, 1) := by decide +kernel
theorem dX2_readLine_85 : decode cX2_readLine 85 = .ok (.dup, 1) := by decide +kernel
theorem dX2_readLine_86 : decode cX2_readLine 86 = .ok (.getfield 42, 3) := by decide +kernel
theorem dX2_readLine_89 : decode cX2_readLine 89 = .ok (.iload_n 2, 1) := by decide +kernel
theorem dX2_readLine_90 : decode cX2_readLine 90 = .ok (.iadd, 1) := by decide +kernel
theorem dX2_readLine_91 : decode cX2_readLine 91 = .ok (.putfield 42, 3) := by decide +kernel
theorem dX2_readLine_94 : decode cX2_readLine 94 = .ok (.iconst 1, 1) := by decide +kernel
theorem dX2_readLine_95 : decode cX2_readLine 95 = .ok (.ireturn, 1) := by decide +kernel
theorem dX2_readCell_0 : decode cX2_readCell 0 = .ok (.aload_n 1, 1) := by decide +kernel
theorem dX2_readCell_1 : decode cX2_readCell 1 = .ok (.iconst 0, 1) := by decide +kernel
theorem dX2_readCell_2 : decode cX2_readCell 2 = .ok (.iconst 3, 1) := by decide +kernel
theorem dX2_readCell_3 : decode cX2_readCell 3 = .ok (.invokevirtual 89, 3) := by decide +kernel
theorem dX2_readCell_6 : decode cX2_readCell 6 = .ok (.ifCond .ne 5, 3) := by decide +kernel
theorem dX2_readCell_9 : decode cX2_readCell 9 = .ok (.iconst 0, 1) := by decide +kernel
theorem dX2_readCell_10 : decode cX2_readCell 10 = .ok (.ireturn, 1) := by decide +kernel
theorem dX2_readCell_11 : decode cX2_readCell 11 = .ok (.aload_n 1, 1) := by decide +kernel
theorem dX2_readCell_12 : decode cX2_readCell 12 = .ok (.getfield 92, 3) := by decide +kernel
theorem dX2_readCell_15 : decode cX2_readCell 15 = .ok (.istore_n 2, 1) := by decide +kernel
theorem dX2_readCell_16 : decode cX2_readCell 16 = .ok (.aload_n 1, 1) := by decide +kernel
theorem dX2_readCell_17 : decode cX2_readCell 17 = .ok (.iconst 0, 1) := by decide +kernel
theorem dX2_readCell_18 : decode cX2_readCell 18 = .ok (.bipush 99, 2) := by decide +kernel
theorem dX2_readCell_20 : decode cX2_readCell 20 = .ok (.invokevirtual 89, 3) := by decide +kernel
theorem dX2_readCell_23 : decode cX2_readCell 23 = .ok (.ifCond .ne 5, 3) := by decide +kernel
theorem dX2_readCell_26 : decode cX2_readCell 26 = .ok (.iconst 0, 1) := by decide +kernel
theorem dX2_readCell_27 : decode cX2_readCell 27 = .ok (.ireturn, 1) := by decide +kernel
theorem dX2_readCell_28 : decode cX2_readCell 28 = .ok (.aload_n 0, 1) := by decide +kernel
theorem dX2_readCell_29 : decode cX2_readCell 29 = .ok (.getfield 18, 3) := by decide +kernel
theorem dX2_readCell_32 : decode cX2_readCell 32 = .ok (.iload_n 2, 1) := by decide +kernel
theorem dX2_readCell_33 : decode cX2_readCell 33 = .ok (.aload_n 1, 1) := by decide +kernel
theorem dX2_readCell_34 : decode cX2_readCell 34 = .ok (.getfield 92, 3) := by decide +kernel
theorem dX2_readCell_37 : decode cX2_readCell 37 = .ok (.iastore, 1) := by decide +kernel
theorem dX2_readCell_38 : decode cX2_readCell 38 = .ok (.iconst 1, 1) := by decide +kernel
theorem dX2_readCell_39 : decode cX2_readCell 39 = .ok (.ireturn, 1) := by decide +kernel
theorem dX2_readInk_0 : decode cX2_readInk 0 = .ok (.aload_n 1, 1) := by decide +kernel
theorem dX2_readInk_1 : decode cX2_readInk 1 = .ok (.iconst 0, 1) := by decide +kernel
theorem dX2_readInk_2 : decode cX2_readInk 2 = .ok (.sipush 200, 3) := by decide +kernel
theorem dX2_readInk_5 : decode cX2_readInk 5 = .ok (.invokevirtual 89, 3) := by decide +kernel
theorem dX2_readInk_8 : decode cX2_readInk 8 = .ok (.ifCond .ne 5, 3) := by decide +kernel
theorem dX2_readInk_11 : decode cX2_readInk 11 = .ok (.iconst 0, 1) := by decide +kernel
theorem dX2_readInk_12 : decode cX2_readInk 12 = .ok (.ireturn, 1) := by decide +kernel
theorem dX2_readInk_13 : decode cX2_readInk 13 = .ok (.aload_n 0, 1) := by decide +kernel
theorem dX2_readInk_14 : decode cX2_readInk 14 = .ok (.aload_n 1, 1) := by decide +kernel
theorem dX2_readInk_15 : decode cX2_readInk 15 = .ok (.getfield 92, 3) := by decide +kernel
theorem dX2_readInk_18 : decode cX2_readInk 18 = .ok (.putfield 21, 3) := by decide +kernel
theorem dX2_readInk_21 : decode cX2_readInk 21 = .ok (.iconst 1, 1) := by decide +kernel
theorem dX2_readInk_22 : decode cX2_readInk 22 = .ok (.ireturn, 1) := by decide +kernel
theorem dX2_readClause_0 : decode cX2_readClause 0 = .ok (.aload_n 1, 1) := by decide +kernel
theorem dX2_readClause_1 : decode cX2_readClause 1 = .ok (.invokevirtual 55, 3) := by decide +kernel
theorem dX2_readClause_4 : decode cX2_readClause 4 = .ok (.ifCond .ne 5, 3) := by decide +kernel
theorem dX2_readClause_7 : decode cX2_readClause 7 = .ok (.iconst 0, 1) := by decide +kernel
theorem dX2_readClause_8 : decode cX2_readClause 8 = .ok (.ireturn, 1) := by decide +kernel
theorem dX2_readClause_9 : decode cX2_readClause 9 = .ok (.aload_n 1, 1) := by decide +kernel
theorem dX2_readClause_10 : decode cX2_readClause 10 = .ok (.ldc 59, 2) := by decide +kernel
theorem dX2_readClause_12 : decode cX2_readClause 12 = .ok (.invokevirtual 61, 3) := by decide +kernel
theorem dX2_readClause_15 : decode cX2_readClause 15 = .ok (.istore_n 3, 1) := by decide +kernel
theorem dX2_readClause_16 : decode cX2_readClause 16 = .ok (.aload_n 1, 1) := by decide +kernel
theorem dX2_readClause_17 : decode cX2_readClause 17 = .ok (.ldc 65, 2) := by decide +kernel
theorem dX2_readClause_19 : decode cX2_readClause 19 = .ok (.invokevirtual 61, 3) := by decide +kernel
theorem dX2_readClause_22 : decode cX2_readClause 22 = .ok (.istore 4, 2) := by decide +kernel
theorem dX2_readClause_24 : decode cX2_readClause 24 = .ok (.iload_n 3, 1) := by decide +kernel
theorem dX2_readClause_25 : decode cX2_readClause 25 = .ok (.ifCond .ne 27, 3) := by decide +kernel
theorem dX2_readClause_28 : decode cX2_readClause 28 = .ok (.iload 4, 2) := by decide +kernel
theorem dX2_readClause_30 : decode cX2_readClause 30 = .ok (.ifCond .ne 22, 3) := by decide +kernel
theorem dX2_readClause_33 : decode cX2_readClause 33 = .ok (.aload_n 1, 1) := by decide +kernel
theorem dX2_readClause_34 : decode cX2_readClause 34 = .ok (.ldc 67, 2) := by decide +kernel
theorem dX2_readClause_36 : decode cX2_readClause 36 = .ok (.invokevirtual 61, 3) := by decide +kernel
theorem dX2_readClause_39 : decode cX2_readClause 39 = .ok (.ifCond .ne 13, 3) := by decide +kernel
theorem dX2_readClause_42 : decode cX2_readClause 42 = .ok (.aload_n 1, 1) := by decide +kernel
theorem dX2_readClause_43 : decode cX2_readClause 43 = .ok (.iconst 1, 1) := by decide +kernel
theorem dX2_readClause_44 : decode cX2_readClause 44 = .ok (.aload_n 1, 1) := by decide +kernel
theorem dX2_readClause_45 : decode cX2_readClause 45 = .ok (.getfield 69, 3) := by decide +kernel
theorem dX2_readClause_48 : decode cX2_readClause 48 = .ok (.invokevirtual 72, 3) := by decide +kernel
theorem dX2_readClause_51 : decode cX2_readClause 51 = .ok (.ireturn, 1) := by decide +kernel
theorem dX2_readClause_52 : decode cX2_readClause 52 = .ok (.iload_n 2, 1) := by decide +kernel
theorem dX2_readClause_53 : decode cX2_readClause 53 = .ok (.bipush 60, 2) := by decide +kernel
theorem dX2_readClause_55 : decode cX2_readClause 55 = .ok (.if_icmp .ge 16, 3) := by decide +kernel
theorem dX2_readClause_58 : decode cX2_readClause 58 = .ok (.iload_n 3, 1) := by decide +kernel
theorem dX2_readClause_59 : decode cX2_readClause 59 = .ok (.ifCond .eq 22, 3) := by decide +kernel
theorem dX2_readClause_62 : decode cX2_readClause 62 = .ok (.aload_n 0, 1) := by decide +kernel
theorem dX2_readClause_63 : decode cX2_readClause 63 = .ok (.getfield 25, 3) := by decide +kernel
theorem dX2_readClause_66 : decode cX2_readClause 66 = .ok (.bipush 6, 2) := by decide +kernel
theorem dX2_readClause_68 : decode cX2_readClause 68 = .ok (.if_icmp .lt 13, 3) := by decide +kernel
theorem dX2_readClause_71 : decode cX2_readClause 71 = .ok (.aload_n 1, 1) := by decide +kernel
theorem dX2_readClause_72 : decode cX2_readClause 72 = .ok (.iconst 3, 1) := by decide +kernel
theorem dX2_readClause_73 : decode cX2_readClause 73 = .ok (.aload_n 1, 1) := by decide +kernel
theorem dX2_readClause_74 : decode cX2_readClause 74 = .ok (.getfield 69, 3) := by decide +kernel
theorem dX2_readClause_77 : decode cX2_readClause 77 = .ok (.invokevirtual 72, 3) := by decide +kernel
theorem dX2_readClause_80 : decode cX2_readClause 80 = .ok (.ireturn, 1) := by decide +kernel
theorem dX2_readClause_81 : decode cX2_readClause 81 = .ok (.iload_n 3, 1) := by decide +kernel
theorem dX2_readClause_82 : decode cX2_readClause 82 = .ok (.ifCond .eq 11, 3) := by decide +kernel
theorem dX2_readClause_85 : decode cX2_readClause 85 = .ok (.aload_n 0, 1) := by decide +kernel
theorem dX2_readClause_86 : decode cX2_readClause 86 = .ok (.aload_n 1, 1) := by decide +kernel
theorem dX2_readClause_87 : decode cX2_readClause 87 = .ok (.invokevirtual 75, 3) := by decide +kernel
theorem dX2_readClause_90 : decode cX2_readClause 90 = .ok (.goto 21, 3) := by decide +kernel
theorem dX2_readClause_93 : decode cX2_readClause 93 = .ok (.iload 4, 2) := by decide +kernel
theorem dX2_readClause_95 : decode cX2_readClause 95 = .ok (.ifCond .eq 11, 3) := by decide +kernel
theorem dX2_readClause_98 : decode cX2_readClause 98 = .ok (.aload_n 0, 1) := by decide +kernel
theorem dX2_readClause_99 : decode cX2_readClause 99 = .ok (.aload_n 1, 1) := by decide +kernel
theorem dX2_readClause_100 : decode cX2_readClause 100 = .ok (.invokevirtual 79, 3) := by decide +kernel
theorem dX2_readClause_103 : decode cX2_readClause 103 = .ok (.goto 8, 3) := by decide +kernel
theorem dX2_readClause_106 : decode cX2_readClause 106 = .ok (.aload_n 0, 1) := by decide +kernel
theorem dX2_readClause_107 : decode cX2_readClause 107 = .ok (.aload_n 1, 1) := by decide +kernel
theorem dX2_readClause_108 : decode cX2_readClause 108 = .ok (.invokevirtual 82, 3) := by decide +kernel
theorem dX2_readClause_111 : decode cX2_readClause 111 = .ok (.istore 5, 2) := by decide +kernel
theorem dX2_readClause_113 : decode cX2_readClause 113 = .ok (.iload 5, 2) := by decide +kernel
theorem dX2_readClause_115 : decode cX2_readClause 115 = .ok (.ifCond .eq 16, 3) := by decide +kernel
theorem dX2_readClause_118 : decode cX2_readClause 118 = .ok (.aload_n 1, 1) := by decide +kernel
theorem dX2_readClause_119 : decode cX2_readClause 119 = .ok (.bipush 59, 2) := by decide +kernel
theorem dX2_readClause_121 : decode cX2_readClause 121 = .ok (.invokevirtual 85, 3) := by decide +kernel
theorem dX2_readClause_124 : decode cX2_readClause 124 = .ok (.ifCond .eq 7, 3) := by decide +kernel
theorem dX2_readClause_127 : decode cX2_readClause 127 = .ok (.iconst 1, 1) := by decide +kernel
theorem dX2_readClause_128 : decode cX2_readClause 128 = .ok (.goto 4, 3) := by decide +kernel
theorem dX2_readClause_131 : decode cX2_readClause 131 = .ok (.iconst 0, 1) := by decide +kernel
theorem dX2_readClause_132 : decode cX2_readClause 132 = .ok (.ireturn, 1) := by decide +kernel
theorem dX2_readFrom_0 : decode cX2_readFrom 0 = .ok (.aload_n 0, 1) := by decide +kernel
theorem dX2_readFrom_1 : decode cX2_readFrom 1 = .ok (.iconst 0, 1) := by decide +kernel
theorem dX2_readFrom_2 : decode cX2_readFrom 2 = .ok (.putfield 25, 3) := by decide +kernel
theorem dX2_readFrom_5 : decode cX2_readFrom 5 = .ok (.aload_n 0, 1) := by decide +kernel
theorem dX2_readFrom_6 : decode cX2_readFrom 6 = .ok (.iconst 0, 1) := by decide +kernel
theorem dX2_readFrom_7 : decode cX2_readFrom 7 = .ok (.putfield 42, 3) := by decide +kernel
theorem dX2_readFrom_10 : decode cX2_readFrom 10 = .ok (.aload_n 0, 1) := by decide +kernel
theorem dX2_readFrom_11 : decode cX2_readFrom 11 = .ok (.bipush 60, 2) := by decide +kernel
theorem dX2_readFrom_13 : decode cX2_readFrom 13 = .ok (.putfield 21, 3) := by decide +kernel
theorem dX2_readFrom_16 : decode cX2_readFrom 16 = .ok (.iconst 0, 1) := by decide +kernel
theorem dX2_readFrom_17 : decode cX2_readFrom 17 = .ok (.istore_n 2, 1) := by decide +kernel
theorem dX2_readFrom_18 : decode cX2_readFrom 18 = .ok (.iload_n 2, 1) := by decide +kernel
theorem dX2_readFrom_19 : decode cX2_readFrom 19 = .ok (.iconst 4, 1) := by decide +kernel
theorem dX2_readFrom_20 : decode cX2_readFrom 20 = .ok (.if_icmp .ge 16, 3) := by decide +kernel
theorem dX2_readFrom_23 : decode cX2_readFrom 23 = .ok (.aload_n 0, 1) := by decide +kernel
theorem dX2_readFrom_24 : decode cX2_readFrom 24 = .ok (.getfield 18, 3) := by decide +kernel
theorem dX2_readFrom_27 : decode cX2_readFrom 27 = .ok (.iload_n 2, 1) := by decide +kernel
theorem dX2_readFrom_28 : decode cX2_readFrom 28 = .ok (.iconst 0, 1) := by decide +kernel
theorem dX2_readFrom_29 : decode cX2_readFrom 29 = .ok (.iastore, 1) := by decide +kernel
theorem dX2_readFrom_30 : decode cX2_readFrom 30 = .ok (.iinc 2 1, 3) := by decide +kernel
theorem dX2_readFrom_33 : decode cX2_readFrom 33 = .ok (.goto (-15), 3) := by decide +kernel
theorem dX2_readFrom_36 : decode cX2_readFrom 36 = .ok (.iconst 0, 1) := by decide +kernel
theorem dX2_readFrom_37 : decode cX2_readFrom 37 = .ok (.istore_n 2, 1) := by decide +kernel
theorem dX2_readFrom_38 : decode cX2_readFrom 38 = .ok (.iload_n 2, 1) := by decide +kernel
theorem dX2_readFrom_39 : decode cX2_readFrom 39 = .ok (.bipush 60, 2) := by decide +kernel
theorem dX2_readFrom_41 : decode cX2_readFrom 41 = .ok (.if_icmp .gt 30, 3) := by decide +kernel
theorem dX2_readFrom_44 : decode cX2_readFrom 44 = .ok (.aload_n 1, 1) := by decide +kernel
theorem dX2_readFrom_45 : decode cX2_readFrom 45 = .ok (.invokevirtual 45, 3) := by decide +kernel
theorem dX2_readFrom_48 : decode cX2_readFrom 48 = .ok (.iconst (-1), 1) := by decide +kernel
theorem dX2_readFrom_49 : decode cX2_readFrom 49 = .ok (.if_icmp .ne 5, 3) := by decide +kernel
theorem dX2_readFrom_52 : decode cX2_readFrom 52 = .ok (.iconst 1, 1) := by decide +kernel
theorem dX2_readFrom_53 : decode cX2_readFrom 53 = .ok (.ireturn, 1) := by decide +kernel
theorem dX2_readFrom_54 : decode cX2_readFrom 54 = .ok (.aload_n 0, 1) := by decide +kernel
theorem dX2_readFrom_55 : decode cX2_readFrom 55 = .ok (.aload_n 1, 1) := by decide +kernel
theorem dX2_readFrom_56 : decode cX2_readFrom 56 = .ok (.iload_n 2, 1) := by decide +kernel
theorem dX2_readFrom_57 : decode cX2_readFrom 57 = .ok (.invokevirtual 51, 3) := by decide +kernel
theorem dX2_readFrom_60 : decode cX2_readFrom 60 = .ok (.ifCond .ne 5, 3) := by decide +kernel
theorem dX2_readFrom_63 : decode cX2_readFrom 63 = .ok (.iconst 0, 1) := by decide +kernel
theorem dX2_readFrom_64 : decode cX2_readFrom 64 = .ok (.ireturn, 1) := by decide +kernel
theorem dX2_readFrom_65 : decode cX2_readFrom 65 = .ok (.iinc 2 1, 3) := by decide +kernel
theorem dX2_readFrom_68 : decode cX2_readFrom 68 = .ok (.goto (-30), 3) := by decide +kernel
theorem dX2_readFrom_71 : decode cX2_readFrom 71 = .ok (.iconst 0, 1) := by decide +kernel
theorem dX2_readFrom_72 : decode cX2_readFrom 72 = .ok (.ireturn, 1) := by decide +kernel
theorem dX3_init_0 : decode cX3_init 0 = .ok (.aload_n 0, 1) := by decide +kernel
theorem dX3_init_1 : decode cX3_init 1 = .ok (.invokespecial 3, 3) := by decide +kernel
theorem dX3_init_4 : decode cX3_init 4 = .ok (.aload_n 0, 1) := by decide +kernel
theorem dX3_init_5 : decode cX3_init 5 = .ok (.bipush 12, 2) := by decide +kernel
theorem dX3_init_7 : decode cX3_init 7 = .ok (.newarray .int, 2) := by decide +kernel
theorem dX3_init_9 : decode cX3_init 9 = .ok (.putfield 9, 3) := by decide +kernel
theorem dX3_init_12 : decode cX3_init 12 = .ok (.return_, 1) := by decide +kernel
theorem dX3_takeOver_0 : decode cX3_takeOver 0 = .ok (.aload_n 1, 1) := by decide +kernel
theorem dX3_takeOver_1 : decode cX3_takeOver 1 = .ok (.getfield 9, 3) := by decide +kernel
theorem dX3_takeOver_4 : decode cX3_takeOver 4 = .ok (.iconst 0, 1) := by decide +kernel
theorem dX3_takeOver_5 : decode cX3_takeOver 5 = .ok (.aload_n 0, 1) := by decide +kernel
theorem dX3_takeOver_6 : decode cX3_takeOver 6 = .ok (.getfield 9, 3) := by decide +kernel
theorem dX3_takeOver_9 : decode cX3_takeOver 9 = .ok (.iconst 0, 1) := by decide +kernel
theorem dX3_takeOver_10 : decode cX3_takeOver 10 = .ok (.bipush 12, 2) := by decide +kernel
theorem dX3_takeOver_12 : decode cX3_takeOver 12 = .ok (.invokestatic 15, 3) := by decide +kernel
theorem dX3_takeOver_15 : decode cX3_takeOver 15 = .ok (.aload_n 0, 1) := by decide +kernel
theorem dX3_takeOver_16 : decode cX3_takeOver 16 = .ok (.aload_n 1, 1) := by decide +kernel
theorem dX3_takeOver_17 : decode cX3_takeOver 17 = .ok (.getfield 21, 3) := by decide +kernel
theorem dX3_takeOver_20 : decode cX3_takeOver 20 = .ok (.putfield 21, 3) := by decide +kernel
theorem dX3_takeOver_23 : decode cX3_takeOver 23 = .ok (.return_, 1) := by decide +kernel
theorem dX3_readFrom_0 : decode cX3_readFrom 0 = .ok (.aload_n 0, 1) := by decide +kernel
theorem dX3_readFrom_1 : decode cX3_readFrom 1 = .ok (.iconst 0, 1) := by decide +kernel
theorem dX3_readFrom_2 : decode cX3_readFrom 2 = .ok (.putfield 21, 3) := by decide +kernel
theorem dX3_readFrom_5 : decode cX3_readFrom 5 = .ok (.iconst 0, 1) := by decide +kernel
theorem dX3_readFrom_6 : decode cX3_readFrom 6 = .ok (.istore_n 2, 1) := by decide +kernel
theorem dX3_readFrom_7 : decode cX3_readFrom 7 = .ok (.iload_n 2, 1) := by decide +kernel
theorem dX3_readFrom_8 : decode cX3_readFrom 8 = .ok (.bipush 12, 2) := by decide +kernel
theorem dX3_readFrom_10 : decode cX3_readFrom 10 = .ok (.if_icmp .gt 75, 3) := by decide +kernel
theorem dX3_readFrom_13 : decode cX3_readFrom 13 = .ok (.aload_n 1, 1) := by decide +kernel
theorem dX3_readFrom_14 : decode cX3_readFrom 14 = .ok (.invokevirtual 25, 3) := by decide +kernel
theorem dX3_readFrom_17 : decode cX3_readFrom 17 = .ok (.iconst (-1), 1) := by decide +kernel
theorem dX3_readFrom_18 : decode cX3_readFrom 18 = .ok (.if_icmp .ne 5, 3) := by decide +kernel
theorem dX3_readFrom_21 : decode cX3_readFrom 21 = .ok (.iconst 1, 1) := by decide +kernel
theorem dX3_readFrom_22 : decode cX3_readFrom 22 = .ok (.ireturn, 1) := by decide +kernel
theorem dX3_readFrom_23 : decode cX3_readFrom 23 = .ok (.aload_n 1, 1) := by decide +kernel
theorem dX3_readFrom_24 : decode cX3_readFrom 24 = .ok (.iconst 0, 1) := by decide +kernel
theorem dX3_readFrom_25 : decode cX3_readFrom 25 = .ok (.bipush 15, 2) := by decide +kernel
theorem dX3_readFrom_27 : decode cX3_readFrom 27 = .ok (.invokevirtual 31, 3) := by decide +kernel
theorem dX3_readFrom_30 : decode cX3_readFrom 30 = .ok (.ifCond .ne 5, 3) := by decide +kernel
theorem dX3_readFrom_33 : decode cX3_readFrom 33 = .ok (.iconst 0, 1) := by decide +kernel
theorem dX3_readFrom_34 : decode cX3_readFrom 34 = .ok (.ireturn, 1) := by decide +kernel
theorem dX3_readFrom_35 : decode cX3_readFrom 35 = .ok (.iload_n 2, 1) := by decide +kernel
theorem dX3_readFrom_36 : decode cX3_readFrom 36 = .ok (.bipush 12, 2) := by decide +kernel
theorem dX3_readFrom_38 : decode cX3_readFrom 38 = .ok (.if_icmp .lt 13, 3) := by decide +kernel
theorem dX3_readFrom_41 : decode cX3_readFrom 41 = .ok (.aload_n 1, 1) := by decide +kernel
theorem dX3_readFrom_42 : decode cX3_readFrom 42 = .ok (.iconst 3, 1) := by decide +kernel
theorem dX3_readFrom_43 : decode cX3_readFrom 43 = .ok (.aload_n 1, 1) := by decide +kernel
theorem dX3_readFrom_44 : decode cX3_readFrom 44 = .ok (.getfield 35, 3) := by decide +kernel
theorem dX3_readFrom_47 : decode cX3_readFrom 47 = .ok (.invokevirtual 38, 3) := by decide +kernel
theorem dX3_readFrom_50 : decode cX3_readFrom 50 = .ok (.ireturn, 1) := by decide +kernel
theorem dX3_readFrom_51 : decode cX3_readFrom 51 = .ok (.aload_n 0, 1) := by decide +kernel
theorem dX3_readFrom_52 : decode cX3_readFrom 52 = .ok (.getfield 9, 3) := by decide +kernel
theorem dX3_readFrom_55 : decode cX3_readFrom 55 = .ok (.iload_n 2, 1) := by decide +kernel
theorem dX3_readFrom_56 : decode cX3_readFrom 56 = .ok (.aload_n 1, 1) := by decide +kernel
theorem dX3_readFrom_57 : decode cX3_readFrom 57 = .ok (.getfield 41, 3) := by decide +kernel
theorem dX3_readFrom_60 : decode cX3_readFrom 60 = .ok (.iastore, 1) := by decide +kernel
theorem dX3_readFrom_61 : decode cX3_readFrom 61 = .ok (.aload_n 0, 1) := by decide +kernel
theorem dX3_readFrom_62 : decode cX3_readFrom 62 = .ok (.iload_n 2, 1) := by decide +kernel
theorem dX3_readFrom_63 : decode cX3_readFrom 63 = .ok (.iconst 1, 1) := by decide +kernel
theorem dX3_readFrom_64 : decode cX3_readFrom 64 = .ok (.iadd, 1) := by decide +kernel
theorem dX3_readFrom_65 : decode cX3_readFrom 65 = .ok (.putfield 21, 3) := by decide +kernel
theorem dX3_readFrom_68 : decode cX3_readFrom 68 = .ok (.aload_n 1, 1) := by decide +kernel
theorem dX3_readFrom_69 : decode cX3_readFrom 69 = .ok (.bipush 59, 2) := by decide +kernel
theorem dX3_readFrom_71 : decode cX3_readFrom 71 = .ok (.invokevirtual 44, 3) := by decide +kernel
theorem dX3_readFrom_74 : decode cX3_readFrom 74 = .ok (.ifCond .ne 5, 3) := by decide +kernel
theorem dX3_readFrom_77 : decode cX3_readFrom 77 = .ok (.iconst 0, 1) := by decide +kernel
theorem dX3_readFrom_78 : decode cX3_readFrom 78 = .ok (.ireturn, 1) := by decide +kernel
theorem dX3_readFrom_79 : decode cX3_readFrom 79 = .ok (.iinc 2 1, 3) := by decide +kernel
theorem dX3_readFrom_82 : decode cX3_readFrom 82 = .ok (.goto (-75), 3) := by decide +kernel
theorem dX3_readFrom_85 : decode cX3_readFrom 85 = .ok (.iconst 0, 1) := by decide +kernel
theorem dX3_readFrom_86 : decode cX3_readFrom 86 = .ok (.ireturn, 1) := by decide +kernel
theorem dX4_init_0 : decode cX4_init 0 = .ok (.aload_n 0, 1) := by decide +kernel
theorem dX4_init_1 : decode cX4_init 1 = .ok (.invokespecial 3, 3) := by decide +kernel
theorem dX4_init_4 : decode cX4_init 4 = .ok (.aload_n 0, 1) := by decide +kernel
theorem dX4_init_5 : decode cX4_init 5 = .ok (.bipush 13, 2) := by decide +kernel
theorem dX4_init_7 : decode cX4_init 7 = .ok (.newarray .long, 2) := by decide +kernel
theorem dX4_init_9 : decode cX4_init 9 = .ok (.putfield 11, 3) := by decide +kernel
theorem dX4_init_12 : decode cX4_init 12 = .ok (.aload_n 0, 1) := by decide +kernel
theorem dX4_init_13 : decode cX4_init 13 = .ok (.sipush 208, 3) := by decide +kernel
theorem dX4_init_16 : decode cX4_init 16 = .ok (.newarray .long, 2) := by decide +kernel
theorem dX4_init_18 : decode cX4_init 18 = .ok (.putfield 15, 3) := by decide +kernel
theorem dX4_init_21 : decode cX4_init 21 = .ok (.aload_n 0, 1) := by decide +kernel
theorem dX4_init_22 : decode cX4_init 22 = .ok (.bipush 26, 2) := by decide +kernel
theorem dX4_init_24 : decode cX4_init 24 = .ok (.newarray .int, 2) := by decide +kernel
theorem dX4_init_26 : decode cX4_init 26 = .ok (.putfield 18, 3) := by decide +kernel
theorem dX4_init_29 : decode cX4_init 29 = .ok (.aload_n 0, 1) := by decide +kernel
theorem dX4_init_30 : decode cX4_init 30 = .ok (.bipush 26, 2) := by decide +kernel
theorem dX4_init_32 : decode cX4_init 32 = .ok (.newarray .long, 2) := by decide +kernel
theorem dX4_init_34 : decode cX4_init 34 = .ok (.putfield 22, 3) := by decide +kernel
theorem dX4_init_37 : decode cX4_init 37 = .ok (.aload_n 0, 1) := by decide +kernel
theorem dX4_init_38 : decode cX4_init 38 = .ok (.bipush 9, 2) := by decide +kernel
theorem dX4_init_40 : decode cX4_init 40 = .ok (.newarray .int, 2) := by decide +kernel
theorem dX4_init_42 : decode cX4_init 42 = .ok (.putfield 25, 3) := by decide +kernel
theorem dX4_init_45 : decode cX4_init 45 = .ok (.aload_n 0, 1) := by decide +kernel
theorem dX4_init_46 : decode cX4_init 46 = .ok (.aload_n 1, 1) := by decide +kernel
theorem dX4_init_47 : decode cX4_init 47 = .ok (.putfield 28, 3) := by decide +kernel
theorem dX4_init_50 : decode cX4_init 50 = .ok (.return_, 1) := by decide +kernel
theorem dX4_startWays_0 : decode cX4_startWays 0 = .ok (.iconst 0, 1) := by decide +kernel
theorem dX4_startWays_1 : decode cX4_startWays 1 = .ok (.istore_n 1, 1) := by decide +kernel
theorem dX4_startWays_2 : decode cX4_startWays 2 = .ok (.iload_n 1, 1) := by decide +kernel
theorem dX4_startWays_3 : decode cX4_startWays 3 = .ok (.bipush 13, 2) := by decide +kernel
theorem dX4_startWays_5 : decode cX4_startWays 5 = .ok (.if_icmp .ge 16, 3) := by decide +kernel
theorem dX4_startWays_8 : decode cX4_startWays 8 = .ok (.aload_n 0, 1) := by decide +kernel
theorem dX4_startWays_9 : decode cX4_startWays 9 = .ok (.getfield 11, 3) := by decide +kernel
theorem dX4_startWays_12 : decode cX4_startWays 12 = .ok (.iload_n 1, 1) := by decide +kernel
theorem dX4_startWays_13 : decode cX4_startWays 13 = .ok (.lconst 0, 1) := by decide +kernel
theorem dX4_startWays_14 : decode cX4_startWays 14 = .ok (.lastore, 1) := by decide +kernel
theorem dX4_startWays_15 : decode cX4_startWays 15 = .ok (.iinc 1 1, 3) := by decide +kernel
theorem dX4_startWays_18 : decode cX4_startWays 18 = .ok (.goto (-16), 3) := by decide +kernel
theorem dX4_startWays_21 : decode cX4_startWays 21 = .ok (.aload_n 0, 1) := by decide +kernel
theorem dX4_startWays_22 : decode cX4_startWays 22 = .ok (.getfield 11, 3) := by decide +kernel
theorem dX4_startWays_25 : decode cX4_startWays 25 = .ok (.iconst 0, 1) := by decide +kernel
theorem dX4_startWays_26 : decode cX4_startWays 26 = .ok (.lconst 1, 1) := by decide +kernel
theorem dX4_startWays_27 : decode cX4_startWays 27 = .ok (.lastore, 1) := by decide +kernel
theorem dX4_startWays_28 : decode cX4_startWays 28 = .ok (.return_, 1) := by decide +kernel
theorem dX4_waysTo_0 : decode cX4_waysTo 0 = .ok (.aload_n 0, 1) := by decide +kernel
theorem dX4_waysTo_1 : decode cX4_waysTo 1 = .ok (.invokevirtual 32, 3) := by decide +kernel
theorem dX4_waysTo_4 : decode cX4_waysTo 4 = .ok (.iconst 0, 1) := by decide +kernel
theorem dX4_waysTo_5 : decode cX4_waysTo 5 = .ok (.istore_n 2, 1) := by decide +kernel
theorem dX4_waysTo_6 : decode cX4_waysTo 6 = .ok (.iload_n 2, 1) := by decide +kernel
theorem dX4_waysTo_7 : decode cX4_waysTo 7 = .ok (.aload_n 0, 1) := by decide +kernel
theorem dX4_waysTo_8 : decode cX4_waysTo 8 = .ok (.getfield 28, 3) := by decide +kernel
theorem dX4_waysTo_11 : decode cX4_waysTo 11 = .ok (.getfield 35, 3) := by decide +kernel
theorem dX4_waysTo_14 : decode cX4_waysTo 14 = .ok (.if_icmp .ge 87, 3) := by decide +kernel
theorem dX4_waysTo_17 : decode cX4_waysTo 17 = .ok (.iconst 0, 1) := by decide +kernel
theorem dX4_waysTo_18 : decode cX4_waysTo 18 = .ok (.istore_n 3, 1) := by decide +kernel
theorem dX4_waysTo_19 : decode cX4_waysTo 19 = .ok (.iload_n 3, 1) := by decide +kernel
theorem dX4_waysTo_20 : decode cX4_waysTo 20 = .ok (.aload_n 0, 1) := by decide +kernel
theorem dX4_waysTo_21 : decode cX4_waysTo 21 = .ok (.getfield 28, 3) := by decide +kernel
theorem dX4_waysTo_24 : decode cX4_waysTo 24 = .ok (.getfield 41, 3) := by decide +kernel
theorem dX4_waysTo_27 : decode cX4_waysTo 27 = .ok (.iload_n 2, 1) := by decide +kernel
theorem dX4_waysTo_28 : decode cX4_waysTo 28 = .ok (.iaload, 1) := by decide +kernel
theorem dX4_waysTo_29 : decode cX4_waysTo 29 = .ok (.if_icmp .ge 66, 3) := by decide +kernel
theorem dX4_waysTo_32 : decode cX4_waysTo 32 = .ok (.aload_n 1, 1) := by decide +kernel
theorem dX4_waysTo_33 : decode cX4_waysTo 33 = .ok (.getfield 44, 3) := by decide +kernel
theorem dX4_waysTo_36 : decode cX4_waysTo 36 = .ok (.istore 4, 2) := by decide +kernel
theorem dX4_waysTo_38 : decode cX4_waysTo 38 = .ok (.iload 4, 2) := by decide +kernel
theorem dX4_waysTo_40 : decode cX4_waysTo 40 = .ok (.ifCond .le 49, 3) := by decide +kernel
theorem dX4_waysTo_43 : decode cX4_waysTo 43 = .ok (.aload_n 1, 1) := by decide +kernel
theorem dX4_waysTo_44 : decode cX4_waysTo 44 = .ok (.getfield 49, 3) := by decide +kernel
theorem dX4_waysTo_47 : decode cX4_waysTo 47 = .ok (.iload 4, 2) := by decide +kernel
theorem dX4_waysTo_49 : decode cX4_waysTo 49 = .ok (.iconst 1, 1) := by decide +kernel
theorem dX4_waysTo_50 : decode cX4_waysTo 50 = .ok (.isub, 1) := by decide +kernel
theorem dX4_waysTo_51 : decode cX4_waysTo 51 = .ok (.iaload, 1) := by decide +kernel
theorem dX4_waysTo_52 : decode cX4_waysTo 52 = .ok (.aload_n 0, 1) := by decide +kernel
theorem dX4_waysTo_53 : decode cX4_waysTo 53 = .ok (.getfield 28, 3) := by decide +kernel
theorem dX4_waysTo_56 : decode cX4_waysTo 56 = .ok (.iload_n 2, 1) := by decide +kernel
theorem dX4_waysTo_57 : decode cX4_waysTo 57 = .ok (.iload_n 3, 1) := by decide +kernel
theorem dX4_waysTo_58 : decode cX4_waysTo 58 = .ok (.invokevirtual 52, 3) := by decide +kernel
theorem dX4_waysTo_61 : decode cX4_waysTo 61 = .ok (.if_icmp .ne 22, 3) := by decide +kernel
theorem dX4_waysTo_64 : decode cX4_waysTo 64 = .ok (.aload_n 0, 1) := by decide +kernel
theorem dX4_waysTo_65 : decode cX4_waysTo 65 = .ok (.getfield 11, 3) := by decide +kernel
theorem dX4_waysTo_68 : decode cX4_waysTo 68 = .ok (.iload 4, 2) := by decide +kernel
theorem dX4_waysTo_70 : decode cX4_waysTo 70 = .ok (.dup2, 1) := by decide +kernel
theorem dX4_waysTo_71 : decode cX4_waysTo 71 = .ok (.laload, 1) := by decide +kernel
theorem dX4_waysTo_72 : decode cX4_waysTo 72 = .ok (.aload_n 0, 1) := by decide +kernel
theorem dX4_waysTo_73 : decode cX4_waysTo 73 = .ok (.getfield 11, 3) := by decide +kernel
theorem dX4_waysTo_76 : decode cX4_waysTo 76 = .ok (.iload 4, 2) := by decide +kernel
theorem dX4_waysTo_78 : decode cX4_waysTo 78 = .ok (.iconst 1, 1) := by decide +kernel
theorem dX4_waysTo_79 : decode cX4_waysTo 79 = .ok (.isub, 1) := by decide +kernel
theorem dX4_waysTo_80 : decode cX4_waysTo 80 = .ok (.laload, 1) := by decide +kernel
theorem dX4_waysTo_81 : decode cX4_waysTo 81 = .ok (.ladd, 1) := by decide +kernel
theorem dX4_waysTo_82 : decode cX4_waysTo 82 = .ok (.lastore, 1) := by decide +kernel
theorem dX4_waysTo_83 : decode cX4_waysTo 83 = .ok (.iinc 4 (-1), 3) := by decide +kernel
theorem dX4_waysTo_86 : decode cX4_waysTo 86 = .ok (.goto (-48), 3) := by decide +kernel
theorem dX4_waysTo_89 : decode cX4_waysTo 89 = .ok (.iinc 3 1, 3) := by decide +kernel
theorem dX4_waysTo_92 : decode cX4_waysTo 92 = .ok (.goto (-73), 3) := by decide +kernel
theorem dX4_waysTo_95 : decode cX4_waysTo 95 = .ok (.iinc 2 1, 3) := by decide +kernel
theorem dX4_waysTo_98 : decode cX4_waysTo 98 = .ok (.goto (-92), 3) := by decide +kernel
theorem dX4_waysTo_101 : decode cX4_waysTo 101 = .ok (.aload_n 0, 1) := by decide +kernel
theorem dX4_waysTo_102 : decode cX4_waysTo 102 = .ok (.getfield 11, 3) := by decide +kernel
theorem dX4_waysTo_105 : decode cX4_waysTo 105 = .ok (.aload_n 1, 1) := by decide +kernel
theorem dX4_waysTo_106 : decode cX4_waysTo 106 = .ok (.getfield 44, 3) := by decide +kernel
theorem dX4_waysTo_109 : decode cX4_waysTo 109 = .ok (.laload, 1) := by decide +kernel
theorem dX4_waysTo_110 : decode cX4_waysTo 110 = .ok (.lreturn, 1) := by decide +kernel
theorem dX4_addRowsWith_0 : decode cX4_addRowsWith 0 = .ok (.iload_n 1, 1) := by decide +kernel
theorem dX4_addRowsWith_1 : decode cX4_addRowsWith 1 = .ok (.bipush 13, 2) := by decide +kernel
theorem dX4_addRowsWith_3 : decode cX4_addRowsWith 3 = .ok (.imul, 1) := by decide +kernel
theorem dX4_addRowsWith_4 : decode cX4_addRowsWith 4 = .ok (.istore_n 2, 1) := by decide +kernel
theorem dX4_addRowsWith_5 : decode cX4_addRowsWith 5 = .ok (.bipush 12, 2) := by decide +kernel
theorem dX4_addRowsWith_7 : decode cX4_addRowsWith 7 = .ok (.istore_n 3, 1) := by decide +kernel
theorem dX4_addRowsWith_8 : decode cX4_addRowsWith 8 = .ok (.iload_n 3, 1) := by decide +kernel
theorem dX4_addRowsWith_9 : decode cX4_addRowsWith 9 = .ok (.ifCond .le 53, 3) := by decide +kernel
theorem dX4_addRowsWith_12 : decode cX4_addRowsWith 12 = .ok (.aload_n 0, 1) := by decide +kernel
theorem dX4_addRowsWith_13 : decode cX4_addRowsWith 13 = .ok (.getfield 11, 3) := by decide +kernel
theorem dX4_addRowsWith_16 : decode cX4_addRowsWith 16 = .ok (.iload_n 3, 1) := by decide +kernel
theorem dX4_addRowsWith_17 : decode cX4_addRowsWith 17 = .ok (.iconst 1, 1) := by decide +kernel
theorem dX4_addRowsWith_18 : decode cX4_addRowsWith 18 = .ok (.isub, 1) := by decide +kernel
theorem dX4_addRowsWith_19 : decode cX4_addRowsWith 19 = .ok (.laload, 1) := by decide +kernel
theorem dX4_addRowsWith_20 : decode cX4_addRowsWith 20 = .ok (.lstore 4, 2) := by decide +kernel
theorem dX4_addRowsWith_22 : decode cX4_addRowsWith 22 = .ok (.aload_n 0, 1) := by decide +kernel
theorem dX4_addRowsWith_23 : decode cX4_addRowsWith 23 = .ok (.getfield 11, 3) := by decide +kernel
theorem dX4_addRowsWith_26 : decode cX4_addRowsWith 26 = .ok (.iload_n 3, 1) := by decide +kernel
theorem dX4_addRowsWith_27 : decode cX4_addRowsWith 27 = .ok (.dup2, 1) := by decide +kernel
theorem dX4_addRowsWith_28 : decode cX4_addRowsWith 28 = .ok (.laload, 1) := by decide +kernel
theorem dX4_addRowsWith_29 : decode cX4_addRowsWith 29 = .ok (.lload 4, 2) := by decide +kernel
theorem dX4_addRowsWith_31 : decode cX4_addRowsWith 31 = .ok (.aload_n 0, 1) := by decide +kernel
theorem dX4_addRowsWith_32 : decode cX4_addRowsWith 32 = .ok (.getfield 15, 3) := by decide +kernel
theorem dX4_addRowsWith_35 : decode cX4_addRowsWith 35 = .ok (.iload_n 2, 1) := by decide +kernel
theorem dX4_addRowsWith_36 : decode cX4_addRowsWith 36 = .ok (.iload_n 3, 1) := by decide +kernel
theorem dX4_addRowsWith_37 : decode cX4_addRowsWith 37 = .ok (.iadd, 1) := by decide +kernel
theorem dX4_addRowsWith_38 : decode cX4_addRowsWith 38 = .ok (.iconst 1, 1) := by decide +kernel
theorem dX4_addRowsWith_39 : decode cX4_addRowsWith 39 = .ok (.isub, 1) := by decide +kernel
theorem dX4_addRowsWith_40 : decode cX4_addRowsWith 40 = .ok (.laload, 1) := by decide +kernel
theorem dX4_addRowsWith_41 : decode cX4_addRowsWith 41 = .ok (.lsub, 1) := by decide +kernel
theorem dX4_addRowsWith_42 : decode cX4_addRowsWith 42 = .ok (.ladd, 1) := by decide +kernel
theorem dX4_addRowsWith_43 : decode cX4_addRowsWith 43 = .ok (.lastore, 1) := by decide +kernel
theorem dX4_addRowsWith_44 : decode cX4_addRowsWith 44 = .ok (.aload_n 0, 1) := by decide +kernel
theorem dX4_addRowsWith_45 : decode cX4_addRowsWith 45 = .ok (.getfield 15, 3) := by decide +kernel
theorem dX4_addRowsWith_48 : decode cX4_addRowsWith 48 = .ok (.iload_n 2, 1) := by decide +kernel
theorem dX4_addRowsWith_49 : decode cX4_addRowsWith 49 = .ok (.iload_n 3, 1) := by decide +kernel
theorem dX4_addRowsWith_50 : decode cX4_addRowsWith 50 = .ok (.iadd, 1) := by decide +kernel
theorem dX4_addRowsWith_51 : decode cX4_addRowsWith 51 = .ok (.iconst 1, 1) := by decide +kernel
theorem dX4_addRowsWith_52 : decode cX4_addRowsWith 52 = .ok (.isub, 1) := by decide +kernel
theorem dX4_addRowsWith_53 : decode cX4_addRowsWith 53 = .ok (.lload 4, 2) := by decide +kernel
theorem dX4_addRowsWith_55 : decode cX4_addRowsWith 55 = .ok (.lastore, 1) := by decide +kernel
theorem dX4_addRowsWith_56 : decode cX4_addRowsWith 56 = .ok (.iinc 3 (-1), 3) := by decide +kernel
theorem dX4_addRowsWith_59 : decode cX4_addRowsWith 59 = .ok (.goto (-51), 3) := by decide +kernel
theorem dX4_addRowsWith_62 : decode cX4_addRowsWith 62 = .ok (.return_, 1) := by decide +kernel
theorem dX4_unlikeRows_0 : decode cX4_unlikeRows 0 = .ok (.aload_n 0, 1) := by decide +kernel
theorem dX4_unlikeRows_1 : decode cX4_unlikeRows 1 = .ok (.invokevirtual 32, 3) := by decide +kernel
theorem dX4_unlikeRows_4 : decode cX4_unlikeRows 4 = .ok (.iconst 0, 1) := by decide +kernel
theorem dX4_unlikeRows_5 : decode cX4_unlikeRows 5 = .ok (.istore_n 2, 1) := by decide +kernel
theorem dX4_unlikeRows_6 : decode cX4_unlikeRows 6 = .ok (.iload_n 2, 1) := by decide +kernel
theorem dX4_unlikeRows_7 : decode cX4_unlikeRows 7 = .ok (.aload_n 0, 1) := by decide +kernel
theorem dX4_unlikeRows_8 : decode cX4_unlikeRows 8 = .ok (.getfield 15, 3) := by decide +kernel
theorem dX4_unlikeRows_11 : decode cX4_unlikeRows 11 = .ok (.arraylength, 1) := by decide +kernel
theorem dX4_unlikeRows_12 : decode cX4_unlikeRows 12 = .ok (.if_icmp .ge 16, 3) := by decide +kernel
theorem dX4_unlikeRows_15 : decode cX4_unlikeRows 15 = .ok (.aload_n 0, 1) := by decide +kernel
theorem dX4_unlikeRows_16 : decode cX4_unlikeRows 16 = .ok (.getfield 15, 3) := by decide +kernel
theorem dX4_unlikeRows_19 : decode cX4_unlikeRows 19 = .ok (.iload_n 2, 1) := by decide +kernel
theorem dX4_unlikeRows_20 : decode cX4_unlikeRows 20 = .ok (.lconst 0, 1) := by decide +kernel
theorem dX4_unlikeRows_21 : decode cX4_unlikeRows 21 = .ok (.lastore, 1) := by decide +kernel
theorem dX4_unlikeRows_22 : decode cX4_unlikeRows 22 = .ok (.iinc 2 1, 3) := by decide +kernel
theorem dX4_unlikeRows_25 : decode cX4_unlikeRows 25 = .ok (.goto (-19), 3) := by decide +kernel
theorem dX4_unlikeRows_28 : decode cX4_unlikeRows 28 = .ok (.iconst 0, 1) := by decide +kernel
theorem dX4_unlikeRows_29 : decode cX4_unlikeRows 29 = .ok (.istore_n 2, 1) := by decide +kernel
theorem dX4_unlikeRows_30 : decode cX4_unlikeRows 30 = .ok (.iload_n 2, 1) := by decide +kernel
theorem dX4_unlikeRows_31 : decode cX4_unlikeRows 31 = .ok (.aload_n 0, 1) := by decide +kernel
theorem dX4_unlikeRows_32 : decode cX4_unlikeRows 32 = .ok (.getfield 28, 3) := by decide +kernel
theorem dX4_unlikeRows_35 : decode cX4_unlikeRows 35 = .ok (.getfield 35, 3) := by decide +kernel
theorem dX4_unlikeRows_38 : decode cX4_unlikeRows 38 = .ok (.if_icmp .ge 43, 3) := by decide +kernel
theorem dX4_unlikeRows_41 : decode cX4_unlikeRows 41 = .ok (.iconst 0, 1) := by decide +kernel
theorem dX4_unlikeRows_42 : decode cX4_unlikeRows 42 = .ok (.istore_n 3, 1) := by decide +kernel
theorem dX4_unlikeRows_43 : decode cX4_unlikeRows 43 = .ok (.iload_n 3, 1) := by decide +kernel
theorem dX4_unlikeRows_44 : decode cX4_unlikeRows 44 = .ok (.aload_n 0, 1) := by decide +kernel
theorem dX4_unlikeRows_45 : decode cX4_unlikeRows 45 = .ok (.getfield 28, 3) := by decide +kernel
theorem dX4_unlikeRows_48 : decode cX4_unlikeRows 48 = .ok (.getfield 41, 3) := by decide +kernel
theorem dX4_unlikeRows_51 : decode cX4_unlikeRows 51 = .ok (.iload_n 2, 1) := by decide +kernel
theorem dX4_unlikeRows_52 : decode cX4_unlikeRows 52 = .ok (.iaload, 1) := by decide +kernel
theorem dX4_unlikeRows_53 : decode cX4_unlikeRows 53 = .ok (.if_icmp .ge 22, 3) := by decide +kernel
theorem dX4_unlikeRows_56 : decode cX4_unlikeRows 56 = .ok (.aload_n 0, 1) := by decide +kernel
theorem dX4_unlikeRows_57 : decode cX4_unlikeRows 57 = .ok (.aload_n 0, 1) := by decide +kernel
theorem dX4_unlikeRows_58 : decode cX4_unlikeRows 58 = .ok (.getfield 28, 3) := by decide +kernel
theorem dX4_unlikeRows_61 : decode cX4_unlikeRows 61 = .ok (.iload_n 2, 1) := by decide +kernel
theorem dX4_unlikeRows_62 : decode cX4_unlikeRows 62 = .ok (.iload_n 3, 1) := by decide +kernel
theorem dX4_unlikeRows_63 : decode cX4_unlikeRows 63 = .ok (.invokevirtual 52, 3) := by decide +kernel
theorem dX4_unlikeRows_66 : decode cX4_unlikeRows 66 = .ok (.invokevirtual 56, 3) := by decide +kernel
theorem dX4_unlikeRows_69 : decode cX4_unlikeRows 69 = .ok (.iinc 3 1, 3) := by decide +kernel
theorem dX4_unlikeRows_72 : decode cX4_unlikeRows 72 = .ok (.goto (-29), 3) := by decide +kernel
theorem dX4_unlikeRows_75 : decode cX4_unlikeRows 75 = .ok (.iinc 2 1, 3) := by decide +kernel
theorem dX4_unlikeRows_78 : decode cX4_unlikeRows 78 = .ok (.goto (-48), 3) := by decide +kernel
theorem dX4_unlikeRows_81 : decode cX4_unlikeRows 81 = .ok (.iload_n 1, 1) := by decide +kernel
theorem dX4_unlikeRows_82 : decode cX4_unlikeRows 82 = .ok (.ifCond .lt 18, 3) := by decide +kernel
theorem dX4_unlikeRows_85 : decode cX4_unlikeRows 85 = .ok (.iload_n 1, 1) := by decide +kernel
theorem dX4_unlikeRows_86 : decode cX4_unlikeRows 86 = .ok (.bipush 13, 2) := by decide +kernel
theorem dX4_unlikeRows_88 : decode cX4_unlikeRows 88 = .ok (.if_icmp .ge 12, 3) := by decide +kernel
theorem dX4_unlikeRows_91 : decode cX4_unlikeRows 91 = .ok (.aload_n 0, 1) := by decide +kernel
theorem dX4_unlikeRows_92 : decode cX4_unlikeRows 92 = .ok (.getfield 11, 3) := by decide +kernel
theorem dX4_unlikeRows_95 : decode cX4_unlikeRows 95 = .ok (.iload_n 1, 1) := by decide +kernel
theorem dX4_unlikeRows_96 : decode cX4_unlikeRows 96 = .ok (.laload, 1) := by decide +kernel
theorem dX4_unlikeRows_97 : decode cX4_unlikeRows 97 = .ok (.goto 4, 3) := by decide +kernel
theorem dX4_unlikeRows_100 : decode cX4_unlikeRows 100 = .ok (.lconst 0, 1) := by decide +kernel
theorem dX4_unlikeRows_101 : decode cX4_unlikeRows 101 = .ok (.lreturn, 1) := by decide +kernel
theorem dX4_join_0 : decode cX4_join 0 = .ok (.iload_n 2, 1) := by decide +kernel
theorem dX4_join_1 : decode cX4_join 1 = .ok (.aload_n 0, 1) := by decide +kernel
theorem dX4_join_2 : decode cX4_join 2 = .ok (.getfield 18, 3) := by decide +kernel
theorem dX4_join_5 : decode cX4_join 5 = .ok (.iload_n 1, 1) := by decide +kernel
theorem dX4_join_6 : decode cX4_join 6 = .ok (.iaload, 1) := by decide +kernel
theorem dX4_join_7 : decode cX4_join 7 = .ok (.if_icmp .ge 20, 3) := by decide +kernel
theorem dX4_join_10 : decode cX4_join 10 = .ok (.aload_n 0, 1) := by decide +kernel
theorem dX4_join_11 : decode cX4_join 11 = .ok (.getfield 18, 3) := by decide +kernel
theorem dX4_join_14 : decode cX4_join 14 = .ok (.iload_n 1, 1) := by decide +kernel
theorem dX4_join_15 : decode cX4_join 15 = .ok (.iload_n 2, 1) := by decide +kernel
theorem dX4_join_16 : decode cX4_join 16 = .ok (.iastore, 1) := by decide +kernel
theorem dX4_join_17 : decode cX4_join 17 = .ok (.aload_n 0, 1) := by decide +kernel
theorem dX4_join_18 : decode cX4_join 18 = .ok (.getfield 22, 3) := by decide +kernel
theorem dX4_join_21 : decode cX4_join 21 = .ok (.iload_n 1, 1) := by decide +kernel
theorem dX4_join_22 : decode cX4_join 22 = .ok (.lload_n 3, 1) := by decide +kernel
theorem dX4_join_23 : decode cX4_join 23 = .ok (.lastore, 1) := by decide +kernel
theorem dX4_join_24 : decode cX4_join 24 = .ok (.goto 30, 3) := by decide +kernel
theorem dX4_join_27 : decode cX4_join 27 = .ok (.iload_n 2, 1) := by decide +kernel
theorem dX4_join_28 : decode cX4_join 28 = .ok (.aload_n 0, 1) := by decide +kernel
theorem dX4_join_29 : decode cX4_join 29 = .ok (.getfield 18, 3) := by decide +kernel
theorem dX4_join_32 : decode cX4_join 32 = .ok (.iload_n 1, 1) := by decide +kernel
theorem dX4_join_33 : decode cX4_join 33 = .ok (.iaload, 1) := by decide +kernel
theorem dX4_join_34 : decode cX4_join 34 = .ok (.if_icmp .ne 20, 3) := by decide +kernel
theorem dX4_join_37 : decode cX4_join 37 = .ok (.iload_n 2, 1) := by decide +kernel
theorem dX4_join_38 : decode cX4_join 38 = .ok (.sipush 1000, 3) := by decide +kernel
theorem dX4_join_41 : decode cX4_join 41 = .ok (.if_icmp .ge 13, 3) := by decide +kernel
theorem dX4_join_44 : decode cX4_join 44 = .ok (.aload_n 0, 1) := by decide +kernel
theorem dX4_join_45 : decode cX4_join 45 = .ok (.getfield 22, 3) := by decide +kernel
theorem dX4_join_48 : decode cX4_join 48 = .ok (.iload_n 1, 1) := by decide +kernel
theorem dX4_join_49 : decode cX4_join 49 = .ok (.dup2, 1) := by decide +kernel
theorem dX4_join_50 : decode cX4_join 50 = .ok (.laload, 1) := by decide +kernel
theorem dX4_join_51 : decode cX4_join 51 = .ok (.lload_n 3, 1) := by decide +kernel
theorem dX4_join_52 : decode cX4_join 52 = .ok (.ladd, 1) := by decide +kernel
theorem dX4_join_53 : decode cX4_join 53 = .ok (.lastore, 1) := by decide +kernel
theorem dX4_join_54 : decode cX4_join 54 = .ok (.return_, 1) := by decide +kernel
theorem dX4_passWord_0 : decode cX4_passWord 0 = .ok (.iload_n 3, 1) := by decide +kernel
theorem dX4_passWord_1 : decode cX4_passWord 1 = .ok (.ifCond .eq 7, 3) := by decide +kernel
theorem dX4_passWord_4 : decode cX4_passWord 4 = .ok (.iconst 1, 1) := by decide +kernel
theorem dX4_passWord_5 : decode cX4_passWord 5 = .ok (.goto 4, 3) := by decide +kernel
theorem dX4_passWord_8 : decode cX4_passWord 8 = .ok (.iconst 0, 1) := by decide +kernel
theorem dX4_passWord_9 : decode cX4_passWord 9 = .ok (.istore 4, 2) := by decide +kernel
theorem dX4_passWord_11 : decode cX4_passWord 11 = .ok (.aload_n 1, 1) := by decide +kernel
theorem dX4_passWord_12 : decode cX4_passWord 12 = .ok (.getfield 44, 3) := by decide +kernel
theorem dX4_passWord_15 : decode cX4_passWord 15 = .ok (.istore 5, 2) := by decide +kernel
theorem dX4_passWord_17 : decode cX4_passWord 17 = .ok (.iload 5, 2) := by decide +kernel
theorem dX4_passWord_19 : decode cX4_passWord 19 = .ok (.ifCond .lt 205, 3) := by decide +kernel
theorem dX4_passWord_22 : decode cX4_passWord 22 = .ok (.iconst 2, 1) := by decide +kernel
theorem dX4_passWord_23 : decode cX4_passWord 23 = .ok (.iload 5, 2) := by decide +kernel
theorem dX4_passWord_25 : decode cX4_passWord 25 = .ok (.imul, 1) := by decide +kernel
theorem dX4_passWord_26 : decode cX4_passWord 26 = .ok (.istore 6, 2) := by decide +kernel
theorem dX4_passWord_28 : decode cX4_passWord 28 = .ok (.aload_n 0, 1) := by decide +kernel
theorem dX4_passWord_29 : decode cX4_passWord 29 = .ok (.getfield 18, 3) := by decide +kernel
theorem dX4_passWord_32 : decode cX4_passWord 32 = .ok (.iload 6, 2) := by decide +kernel
theorem dX4_passWord_34 : decode cX4_passWord 34 = .ok (.iaload, 1) := by decide +kernel
theorem dX4_passWord_35 : decode cX4_passWord 35 = .ok (.istore 7, 2) := by decide +kernel
theorem dX4_passWord_37 : decode cX4_passWord 37 = .ok (.aload_n 0, 1) := by decide +kernel
theorem dX4_passWord_38 : decode cX4_passWord 38 = .ok (.getfield 22, 3) := by decide +kernel
theorem dX4_passWord_41 : decode cX4_passWord 41 = .ok (.iload 6, 2) := by decide +kernel
theorem dX4_passWord_43 : decode cX4_passWord 43 = .ok (.laload, 1) := by decide +kernel
theorem dX4_passWord_44 : decode cX4_passWord 44 = .ok (.lstore 8, 2) := by decide +kernel
theorem dX4_passWord_46 : decode cX4_passWord 46 = .ok (.aload_n 0, 1) := by decide +kernel
theorem dX4_passWord_47 : decode cX4_passWord 47 = .ok (.getfield 18, 3) := by decide +kernel
theorem dX4_passWord_50 : decode cX4_passWord 50 = .ok (.iload 6, 2) := by decide +kernel
theorem dX4_passWord_52 : decode cX4_passWord 52 = .ok (.iconst 1, 1) := by decide +kernel
theorem dX4_passWord_53 : decode cX4_passWord 53 = .ok (.iadd, 1) := by decide +kernel
theorem dX4_passWord_54 : decode cX4_passWord 54 = .ok (.iaload, 1) := by decide +kernel
theorem dX4_passWord_55 : decode cX4_passWord 55 = .ok (.istore 10, 2) := by decide +kernel
theorem dX4_passWord_57 : decode cX4_passWord 57 = .ok (.aload_n 0, 1) := by decide +kernel
theorem dX4_passWord_58 : decode cX4_passWord 58 = .ok (.getfield 22, 3) := by decide +kernel
theorem dX4_passWord_61 : decode cX4_passWord 61 = .ok (.iload 6, 2) := by decide +kernel
theorem dX4_passWord_63 : decode cX4_passWord 63 = .ok (.iconst 1, 1) := by decide +kernel
theorem dX4_passWord_64 : decode cX4_passWord 64 = .ok (.iadd, 1) := by decide +kernel
theorem dX4_passWord_65 : decode cX4_passWord 65 = .ok (.laload, 1) := by decide +kernel
theorem dX4_passWord_66 : decode cX4_passWord 66 = .ok (.lstore 11, 2) := by decide +kernel
theorem dX4_passWord_68 : decode cX4_passWord 68 = .ok (.aload_n 0, 1) := by decide +kernel
theorem dX4_passWord_69 : decode cX4_passWord 69 = .ok (.getfield 18, 3) := by decide +kernel
theorem dX4_passWord_72 : decode cX4_passWord 72 = .ok (.iload 6, 2) := by decide +kernel
theorem dX4_passWord_74 : decode cX4_passWord 74 = .ok (.sipush 1000, 3) := by decide +kernel
theorem dX4_passWord_77 : decode cX4_passWord 77 = .ok (.iastore, 1) := by decide +kernel
theorem dX4_passWord_78 : decode cX4_passWord 78 = .ok (.aload_n 0, 1) := by decide +kernel
theorem dX4_passWord_79 : decode cX4_passWord 79 = .ok (.getfield 22, 3) := by decide +kernel
theorem dX4_passWord_82 : decode cX4_passWord 82 = .ok (.iload 6, 2) := by decide +kernel
theorem dX4_passWord_84 : decode cX4_passWord 84 = .ok (.lconst 0, 1) := by decide +kernel
theorem dX4_passWord_85 : decode cX4_passWord 85 = .ok (.lastore, 1) := by decide +kernel
theorem dX4_passWord_86 : decode cX4_passWord 86 = .ok (.aload_n 0, 1) := by decide +kernel
theorem dX4_passWord_87 : decode cX4_passWord 87 = .ok (.getfield 18, 3) := by decide +kernel
theorem dX4_passWord_90 : decode cX4_passWord 90 = .ok (.iload 6, 2) := by decide +kernel
theorem dX4_passWord_92 : decode cX4_passWord 92 = .ok (.iconst 1, 1) := by decide +kernel
theorem dX4_passWord_93 : decode cX4_passWord 93 = .ok (.iadd, 1) := by decide +kernel
theorem dX4_passWord_94 : decode cX4_passWord 94 = .ok (.sipush 1000, 3) := by decide +kernel
theorem dX4_passWord_97 : decode cX4_passWord 97 = .ok (.iastore, 1) := by decide +kernel
theorem dX4_passWord_98 : decode cX4_passWord 98 = .ok (.aload_n 0, 1) := by decide +kernel
theorem dX4_passWord_99 : decode cX4_passWord 99 = .ok (.getfield 22, 3) := by decide +kernel
theorem dX4_passWord_102 : decode cX4_passWord 102 = .ok (.iload 6, 2) := by decide +kernel
theorem dX4_passWord_104 : decode cX4_passWord 104 = .ok (.iconst 1, 1) := by decide +kernel
theorem dX4_passWord_105 : decode cX4_passWord 105 = .ok (.iadd, 1) := by decide +kernel
theorem dX4_passWord_106 : decode cX4_passWord 106 = .ok (.lconst 0, 1) := by decide +kernel
theorem dX4_passWord_107 : decode cX4_passWord 107 = .ok (.lastore, 1) := by decide +kernel
theorem dX4_passWord_108 : decode cX4_passWord 108 = .ok (.aload_n 0, 1) := by decide +kernel
theorem dX4_passWord_109 : decode cX4_passWord 109 = .ok (.iload 6, 2) := by decide +kernel
theorem dX4_passWord_111 : decode cX4_passWord 111 = .ok (.iload 4, 2) := by decide +kernel
theorem dX4_passWord_113 : decode cX4_passWord 113 = .ok (.iadd, 1) := by decide +kernel
theorem dX4_passWord_114 : decode cX4_passWord 114 = .ok (.iload 7, 2) := by decide +kernel
theorem dX4_passWord_116 : decode cX4_passWord 116 = .ok (.iload 4, 2) := by decide +kernel
theorem dX4_passWord_118 : decode cX4_passWord 118 = .ok (.iadd, 1) := by decide +kernel
theorem dX4_passWord_119 : decode cX4_passWord 119 = .ok (.lload 8, 2) := by decide +kernel
theorem dX4_passWord_121 : decode cX4_passWord 121 = .ok (.invokevirtual 73, 3) := by decide +kernel
theorem dX4_passWord_124 : decode cX4_passWord 124 = .ok (.aload_n 0, 1) := by decide +kernel
theorem dX4_passWord_125 : decode cX4_passWord 125 = .ok (.iload 6, 2) := by decide +kernel
theorem dX4_passWord_127 : decode cX4_passWord 127 = .ok (.iload 4, 2) := by decide +kernel
theorem dX4_passWord_129 : decode cX4_passWord 129 = .ok (.iadd, 1) := by decide +kernel
theorem dX4_passWord_130 : decode cX4_passWord 130 = .ok (.iload 10, 2) := by decide +kernel
theorem dX4_passWord_132 : decode cX4_passWord 132 = .ok (.lload 11, 2) := by decide +kernel
theorem dX4_passWord_134 : decode cX4_passWord 134 = .ok (.invokevirtual 73, 3) := by decide +kernel
theorem dX4_passWord_137 : decode cX4_passWord 137 = .ok (.iload 5, 2) := by decide +kernel
theorem dX4_passWord_139 : decode cX4_passWord 139 = .ok (.ifCond .le 79, 3) := by decide +kernel
theorem dX4_passWord_142 : decode cX4_passWord 142 = .ok (.aload_n 1, 1) := by decide +kernel
theorem dX4_passWord_143 : decode cX4_passWord 143 = .ok (.getfield 49, 3) := by decide +kernel
theorem dX4_passWord_146 : decode cX4_passWord 146 = .ok (.iload 5, 2) := by decide +kernel
theorem dX4_passWord_148 : decode cX4_passWord 148 = .ok (.iconst 1, 1) := by decide +kernel
theorem dX4_passWord_149 : decode cX4_passWord 149 = .ok (.isub, 1) := by decide +kernel
theorem dX4_passWord_150 : decode cX4_passWord 150 = .ok (.iaload, 1) := by decide +kernel
theorem dX4_passWord_151 : decode cX4_passWord 151 = .ok (.iload_n 2, 1) := by decide +kernel
theorem dX4_passWord_152 : decode cX4_passWord 152 = .ok (.if_icmp .ne 66, 3) := by decide +kernel
theorem dX4_passWord_155 : decode cX4_passWord 155 = .ok (.iconst 1, 1) := by decide +kernel
theorem dX4_passWord_156 : decode cX4_passWord 156 = .ok (.iload 4, 2) := by decide +kernel
theorem dX4_passWord_158 : decode cX4_passWord 158 = .ok (.isub, 1) := by decide +kernel
theorem dX4_passWord_159 : decode cX4_passWord 159 = .ok (.istore 13, 2) := by decide +kernel
theorem dX4_passWord_161 : decode cX4_passWord 161 = .ok (.aload_n 0, 1) := by decide +kernel
theorem dX4_passWord_162 : decode cX4_passWord 162 = .ok (.iload 6, 2) := by decide +kernel
theorem dX4_passWord_164 : decode cX4_passWord 164 = .ok (.iload 13, 2) := by decide +kernel
theorem dX4_passWord_166 : decode cX4_passWord 166 = .ok (.iadd, 1) := by decide +kernel
theorem dX4_passWord_167 : decode cX4_passWord 167 = .ok (.aload_n 0, 1) := by decide +kernel
theorem dX4_passWord_168 : decode cX4_passWord 168 = .ok (.getfield 18, 3) := by decide +kernel
theorem dX4_passWord_171 : decode cX4_passWord 171 = .ok (.iload 6, 2) := by decide +kernel
theorem dX4_passWord_173 : decode cX4_passWord 173 = .ok (.iconst 2, 1) := by decide +kernel
theorem dX4_passWord_174 : decode cX4_passWord 174 = .ok (.isub, 1) := by decide +kernel
theorem dX4_passWord_175 : decode cX4_passWord 175 = .ok (.iaload, 1) := by decide +kernel
theorem dX4_passWord_176 : decode cX4_passWord 176 = .ok (.iload 13, 2) := by decide +kernel
theorem dX4_passWord_178 : decode cX4_passWord 178 = .ok (.iadd, 1) := by decide +kernel
theorem dX4_passWord_179 : decode cX4_passWord 179 = .ok (.aload_n 0, 1) := by decide +kernel
theorem dX4_passWord_180 : decode cX4_passWord 180 = .ok (.getfield 22, 3) := by decide +kernel
theorem dX4_passWord_183 : decode cX4_passWord 183 = .ok (.iload 6, 2) := by decide +kernel
theorem dX4_passWord_185 : decode cX4_passWord 185 = .ok (.iconst 2, 1) := by decide +kernel
theorem dX4_passWord_186 : decode cX4_passWord 186 = .ok (.isub, 1) := by decide +kernel
theorem dX4_passWord_187 : decode cX4_passWord 187 = .ok (.laload, 1) := by decide +kernel
theorem dX4_passWord_188 : decode cX4_passWord 188 = .ok (.invokevirtual 73, 3) := by decide +kernel
theorem dX4_passWord_191 : decode cX4_passWord 191 = .ok (.aload_n 0, 1) := by decide +kernel
theorem dX4_passWord_192 : decode cX4_passWord 192 = .ok (.iload 6, 2) := by decide +kernel
theorem dX4_passWord_194 : decode cX4_passWord 194 = .ok (.iload 13, 2) := by decide +kernel
theorem dX4_passWord_196 : decode cX4_passWord 196 = .ok (.iadd, 1) := by decide +kernel
theorem dX4_passWord_197 : decode cX4_passWord 197 = .ok (.aload_n 0, 1) := by decide +kernel
theorem dX4_passWord_198 : decode cX4_passWord 198 = .ok (.getfield 18, 3) := by decide +kernel
theorem dX4_passWord_201 : decode cX4_passWord 201 = .ok (.iload 6, 2) := by decide +kernel
theorem dX4_passWord_203 : decode cX4_passWord 203 = .ok (.iconst 1, 1) := by decide +kernel
theorem dX4_passWord_204 : decode cX4_passWord 204 = .ok (.isub, 1) := by decide +kernel
theorem dX4_passWord_205 : decode cX4_passWord 205 = .ok (.iaload, 1) := by decide +kernel
theorem dX4_passWord_206 : decode cX4_passWord 206 = .ok (.aload_n 0, 1) := by decide +kernel
theorem dX4_passWord_207 : decode cX4_passWord 207 = .ok (.getfield 22, 3) := by decide +kernel
theorem dX4_passWord_210 : decode cX4_passWord 210 = .ok (.iload 6, 2) := by decide +kernel
theorem dX4_passWord_212 : decode cX4_passWord 212 = .ok (.iconst 1, 1) := by decide +kernel
theorem dX4_passWord_213 : decode cX4_passWord 213 = .ok (.isub, 1) := by decide +kernel
theorem dX4_passWord_214 : decode cX4_passWord 214 = .ok (.laload, 1) := by decide +kernel
theorem dX4_passWord_215 : decode cX4_passWord 215 = .ok (.invokevirtual 73, 3) := by decide +kernel
theorem dX4_passWord_218 : decode cX4_passWord 218 = .ok (.iinc 5 (-1), 3) := by decide +kernel
theorem dX4_passWord_221 : decode cX4_passWord 221 = .ok (.goto (-204), 3) := by decide +kernel
theorem dX4_passWord_224 : decode cX4_passWord 224 = .ok (.return_, 1) := by decide +kernel
theorem dX4_endStrokes_0 : decode cX4_endStrokes 0 = .ok (.iconst 0, 1) := by decide +kernel
theorem dX4_endStrokes_1 : decode cX4_endStrokes 1 = .ok (.istore_n 2, 1) := by decide +kernel
theorem dX4_endStrokes_2 : decode cX4_endStrokes 2 = .ok (.iload_n 2, 1) := by decide +kernel
theorem dX4_endStrokes_3 : decode cX4_endStrokes 3 = .ok (.iload_n 1, 1) := by decide +kernel
theorem dX4_endStrokes_4 : decode cX4_endStrokes 4 = .ok (.if_icmp .gt 60, 3) := by decide +kernel
theorem dX4_endStrokes_7 : decode cX4_endStrokes 7 = .ok (.aload_n 0, 1) := by decide +kernel
theorem dX4_endStrokes_8 : decode cX4_endStrokes 8 = .ok (.iconst 2, 1) := by decide +kernel
theorem dX4_endStrokes_9 : decode cX4_endStrokes 9 = .ok (.iload_n 2, 1) := by decide +kernel
theorem dX4_endStrokes_10 : decode cX4_endStrokes 10 = .ok (.imul, 1) := by decide +kernel
theorem dX4_endStrokes_11 : decode cX4_endStrokes 11 = .ok (.aload_n 0, 1) := by decide +kernel
theorem dX4_endStrokes_12 : decode cX4_endStrokes 12 = .ok (.getfield 18, 3) := by decide +kernel
theorem dX4_endStrokes_15 : decode cX4_endStrokes 15 = .ok (.iconst 2, 1) := by decide +kernel
theorem dX4_endStrokes_16 : decode cX4_endStrokes 16 = .ok (.iload_n 2, 1) := by decide +kernel
theorem dX4_endStrokes_17 : decode cX4_endStrokes 17 = .ok (.imul, 1) := by decide +kernel
theorem dX4_endStrokes_18 : decode cX4_endStrokes 18 = .ok (.iconst 1, 1) := by decide +kernel
theorem dX4_endStrokes_19 : decode cX4_endStrokes 19 = .ok (.iadd, 1) := by decide +kernel
theorem dX4_endStrokes_20 : decode cX4_endStrokes 20 = .ok (.iaload, 1) := by decide +kernel
theorem dX4_endStrokes_21 : decode cX4_endStrokes 21 = .ok (.aload_n 0, 1) := by decide +kernel
theorem dX4_endStrokes_22 : decode cX4_endStrokes 22 = .ok (.getfield 22, 3) := by decide +kernel
theorem dX4_endStrokes_25 : decode cX4_endStrokes 25 = .ok (.iconst 2, 1) := by decide +kernel
theorem dX4_endStrokes_26 : decode cX4_endStrokes 26 = .ok (.iload_n 2, 1) := by decide +kernel
theorem dX4_endStrokes_27 : decode cX4_endStrokes 27 = .ok (.imul, 1) := by decide +kernel
theorem dX4_endStrokes_28 : decode cX4_endStrokes 28 = .ok (.iconst 1, 1) := by decide +kernel
theorem dX4_endStrokes_29 : decode cX4_endStrokes 29 = .ok (.iadd, 1) := by decide +kernel
theorem dX4_endStrokes_30 : decode cX4_endStrokes 30 = .ok (.laload, 1) := by decide +kernel
theorem dX4_endStrokes_31 : decode cX4_endStrokes 31 = .ok (.invokevirtual 73, 3) := by decide +kernel
theorem dX4_endStrokes_34 : decode cX4_endStrokes 34 = .ok (.aload_n 0, 1) := by decide +kernel
theorem dX4_endStrokes_35 : decode cX4_endStrokes 35 = .ok (.getfield 18, 3) := by decide +kernel
theorem dX4_endStrokes_38 : decode cX4_endStrokes 38 = .ok (.iconst 2, 1) := by decide +kernel
theorem dX4_endStrokes_39 : decode cX4_endStrokes 39 = .ok (.iload_n 2, 1) := by decide +kernel
theorem dX4_endStrokes_40 : decode cX4_endStrokes 40 = .ok (.imul, 1) := by decide +kernel
theorem dX4_endStrokes_41 : decode cX4_endStrokes 41 = .ok (.iconst 1, 1) := by decide +kernel
theorem dX4_endStrokes_42 : decode cX4_endStrokes 42 = .ok (.iadd, 1) := by decide +kernel
theorem dX4_endStrokes_43 : decode cX4_endStrokes 43 = .ok (.sipush 1000, 3) := by decide +kernel
theorem dX4_endStrokes_46 : decode cX4_endStrokes 46 = .ok (.iastore, 1) := by decide +kernel
theorem dX4_endStrokes_47 : decode cX4_endStrokes 47 = .ok (.aload_n 0, 1) := by decide +kernel
theorem dX4_endStrokes_48 : decode cX4_endStrokes 48 = .ok (.getfield 22, 3) := by decide +kernel
theorem dX4_endStrokes_51 : decode cX4_endStrokes 51 = .ok (.iconst 2, 1) := by decide +kernel
theorem dX4_endStrokes_52 : decode cX4_endStrokes 52 = .ok (.iload_n 2, 1) := by decide +kernel
theorem dX4_endStrokes_53 : decode cX4_endStrokes 53 = .ok (.imul, 1) := by decide +kernel
theorem dX4_endStrokes_54 : decode cX4_endStrokes 54 = .ok (.iconst 1, 1) := by decide +kernel
theorem dX4_endStrokes_55 : decode cX4_endStrokes 55 = .ok (.iadd, 1) := by decide +kernel
theorem dX4_endStrokes_56 : decode cX4_endStrokes 56 = .ok (.lconst 0, 1) := by decide +kernel
theorem dX4_endStrokes_57 : decode cX4_endStrokes 57 = .ok (.lastore, 1) := by decide +kernel
theorem dX4_endStrokes_58 : decode cX4_endStrokes 58 = .ok (.iinc 2 1, 3) := by decide +kernel
theorem dX4_endStrokes_61 : decode cX4_endStrokes 61 = .ok (.goto (-59), 3) := by decide +kernel
theorem dX4_endStrokes_64 : decode cX4_endStrokes 64 = .ok (.return_, 1) := by decide +kernel
