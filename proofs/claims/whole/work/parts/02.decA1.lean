theorem dX5_bestFrom_10 : decode cX5_bestFrom 10 = .ok (.bipush 10, 2) := by decide +kernel
theorem dX5_bestFrom_12 : decode cX5_bestFrom 12 = .ok (.imul, 1) := by decide +kernel
theorem dX5_bestFrom_13 : decode cX5_bestFrom 13 = .ok (.iadd, 1) := by decide +kernel
theorem dX5_bestFrom_14 : decode cX5_bestFrom 14 = .ok (.iload 4, 2) := by decide +kernel
theorem dX5_bestFrom_16 : decode cX5_bestFrom 16 = .ok (.iadd, 1) := by decide +kernel
theorem dX5_bestFrom_17 : decode cX5_bestFrom 17 = .ok (.istore 5, 2) := by decide +kernel
theorem dX5_bestFrom_19 : decode cX5_bestFrom 19 = .ok (.iload_n 1, 1) := by decide +kernel
theorem dX5_bestFrom_20 : decode cX5_bestFrom 20 = .ok (.iconst 1, 1) := by decide +kernel
theorem dX5_bestFrom_21 : decode cX5_bestFrom 21 = .ok (.if_icmp .lt 18, 3) := by decide +kernel
theorem dX5_bestFrom_24 : decode cX5_bestFrom 24 = .ok (.iload 5, 2) := by decide +kernel
theorem dX5_bestFrom_26 : decode cX5_bestFrom 26 = .ok (.ifCond .lt 13, 3) := by decide +kernel
theorem dX5_bestFrom_29 : decode cX5_bestFrom 29 = .ok (.iload 5, 2) := by decide +kernel
theorem dX5_bestFrom_31 : decode cX5_bestFrom 31 = .ok (.aload_n 0, 1) := by decide +kernel
theorem dX5_bestFrom_32 : decode cX5_bestFrom 32 = .ok (.getfield 11, 3) := by decide +kernel
theorem dX5_bestFrom_35 : decode cX5_bestFrom 35 = .ok (.arraylength, 1) := by decide +kernel
theorem dX5_bestFrom_36 : decode cX5_bestFrom 36 = .ok (.if_icmp .lt 5, 3) := by decide +kernel
theorem dX5_bestFrom_39 : decode cX5_bestFrom 39 = .ok (.iconst 0, 1) := by decide +kernel
theorem dX5_bestFrom_40 : decode cX5_bestFrom 40 = .ok (.ireturn, 1) := by decide +kernel
theorem dX5_bestFrom_41 : decode cX5_bestFrom 41 = .ok (.aload_n 0, 1) := by decide +kernel
theorem dX5_bestFrom_42 : decode cX5_bestFrom 42 = .ok (.getfield 15, 3) := by decide +kernel
theorem dX5_bestFrom_45 : decode cX5_bestFrom 45 = .ok (.iload 5, 2) := by decide +kernel
theorem dX5_bestFrom_47 : decode cX5_bestFrom 47 = .ok (.iaload, 1) := by decide +kernel
theorem dX5_bestFrom_48 : decode cX5_bestFrom 48 = .ok (.aload_n 0, 1) := by decide +kernel
theorem dX5_bestFrom_49 : decode cX5_bestFrom 49 = .ok (.getfield 24, 3) := by decide +kernel
theorem dX5_bestFrom_52 : decode cX5_bestFrom 52 = .ok (.if_icmp .eq 33, 3) := by decide +kernel
theorem dX5_bestFrom_55 : decode cX5_bestFrom 55 = .ok (.aload_n 0, 1) := by decide +kernel
theorem dX5_bestFrom_56 : decode cX5_bestFrom 56 = .ok (.getfield 11, 3) := by decide +kernel
theorem dX5_bestFrom_59 : decode cX5_bestFrom 59 = .ok (.iload 5, 2) := by decide +kernel
theorem dX5_bestFrom_61 : decode cX5_bestFrom 61 = .ok (.aload_n 0, 1) := by decide +kernel
theorem dX5_bestFrom_62 : decode cX5_bestFrom 62 = .ok (.iload_n 1, 1) := by decide +kernel
theorem dX5_bestFrom_63 : decode cX5_bestFrom 63 = .ok (.iload_n 2, 1) := by decide +kernel
theorem dX5_bestFrom_64 : decode cX5_bestFrom 64 = .ok (.iload_n 3, 1) := by decide +kernel
theorem dX5_bestFrom_65 : decode cX5_bestFrom 65 = .ok (.iload 4, 2) := by decide +kernel
theorem dX5_bestFrom_67 : decode cX5_bestFrom 67 = .ok (.sipush 255, 3) := by decide +kernel
theorem dX5_bestFrom_70 : decode cX5_bestFrom 70 = .ok (.invokevirtual 76, 3) := by decide +kernel
theorem dX5_bestFrom_73 : decode cX5_bestFrom 73 = .ok (.iastore, 1) := by decide +kernel
theorem dX5_bestFrom_74 : decode cX5_bestFrom 74 = .ok (.aload_n 0, 1) := by decide +kernel
theorem dX5_bestFrom_75 : decode cX5_bestFrom 75 = .ok (.getfield 15, 3) := by decide +kernel
theorem dX5_bestFrom_78 : decode cX5_bestFrom 78 = .ok (.iload 5, 2) := by decide +kernel
theorem dX5_bestFrom_80 : decode cX5_bestFrom 80 = .ok (.aload_n 0, 1) := by decide +kernel
theorem dX5_bestFrom_81 : decode cX5_bestFrom 81 = .ok (.getfield 24, 3) := by decide +kernel
theorem dX5_bestFrom_84 : decode cX5_bestFrom 84 = .ok (.iastore, 1) := by decide +kernel
theorem dX5_bestFrom_85 : decode cX5_bestFrom 85 = .ok (.aload_n 0, 1) := by decide +kernel
theorem dX5_bestFrom_86 : decode cX5_bestFrom 86 = .ok (.getfield 11, 3) := by decide +kernel
theorem dX5_bestFrom_89 : decode cX5_bestFrom 89 = .ok (.iload 5, 2) := by decide +kernel
theorem dX5_bestFrom_91 : decode cX5_bestFrom 91 = .ok (.iaload, 1) := by decide +kernel
theorem dX5_bestFrom_92 : decode cX5_bestFrom 92 = .ok (.ireturn, 1) := by decide +kernel
theorem dX5_greatest_0 : decode cX5_greatest 0 = .ok (.iconst (-1), 1) := by decide +kernel
theorem dX5_greatest_1 : decode cX5_greatest 1 = .ok (.istore 6, 2) := by decide +kernel
theorem dX5_greatest_3 : decode cX5_greatest 3 = .ok (.iconst 0, 1) := by decide +kernel
theorem dX5_greatest_4 : decode cX5_greatest 4 = .ok (.istore 7, 2) := by decide +kernel
theorem dX5_greatest_6 : decode cX5_greatest 6 = .ok (.iconst 0, 1) := by decide +kernel
theorem dX5_greatest_7 : decode cX5_greatest 7 = .ok (.istore 8, 2) := by decide +kernel
theorem dX5_greatest_9 : decode cX5_greatest 9 = .ok (.iload 8, 2) := by decide +kernel
theorem dX5_greatest_11 : decode cX5_greatest 11 = .ok (.bipush 8, 2) := by decide +kernel
theorem dX5_greatest_13 : decode cX5_greatest 13 = .ok (.if_icmp .ge 52, 3) := by decide +kernel
theorem dX5_greatest_16 : decode cX5_greatest 16 = .ok (.iload 5, 2) := by decide +kernel
theorem dX5_greatest_18 : decode cX5_greatest 18 = .ok (.iload 8, 2) := by decide +kernel
theorem dX5_greatest_20 : decode cX5_greatest 20 = .ok (.ishr, 1) := by decide +kernel
theorem dX5_greatest_21 : decode cX5_greatest 21 = .ok (.iconst 1, 1) := by decide +kernel
theorem dX5_greatest_22 : decode cX5_greatest 22 = .ok (.iand, 1) := by decide +kernel
theorem dX5_greatest_23 : decode cX5_greatest 23 = .ok (.iconst 1, 1) := by decide +kernel
theorem dX5_greatest_24 : decode cX5_greatest 24 = .ok (.if_icmp .ne 17, 3) := by decide +kernel
theorem dX5_greatest_27 : decode cX5_greatest 27 = .ok (.aload_n 0, 1) := by decide +kernel
theorem dX5_greatest_28 : decode cX5_greatest 28 = .ok (.iload_n 1, 1) := by decide +kernel
theorem dX5_greatest_29 : decode cX5_greatest 29 = .ok (.iload_n 2, 1) := by decide +kernel
theorem dX5_greatest_30 : decode cX5_greatest 30 = .ok (.iload 8, 2) := by decide +kernel
theorem dX5_greatest_32 : decode cX5_greatest 32 = .ok (.iload_n 3, 1) := by decide +kernel
theorem dX5_greatest_33 : decode cX5_greatest 33 = .ok (.iload 4, 2) := by decide +kernel
theorem dX5_greatest_35 : decode cX5_greatest 35 = .ok (.invokevirtual 113, 3) := by decide +kernel
theorem dX5_greatest_38 : decode cX5_greatest 38 = .ok (.goto 4, 3) := by decide +kernel
theorem dX5_greatest_41 : decode cX5_greatest 41 = .ok (.iconst (-1), 1) := by decide +kernel
theorem dX5_greatest_42 : decode cX5_greatest 42 = .ok (.istore 9, 2) := by decide +kernel
theorem dX5_greatest_44 : decode cX5_greatest 44 = .ok (.iload 9, 2) := by decide +kernel
theorem dX5_greatest_46 : decode cX5_greatest 46 = .ok (.iload 6, 2) := by decide +kernel
theorem dX5_greatest_48 : decode cX5_greatest 48 = .ok (.if_icmp .le 11, 3) := by decide +kernel
theorem dX5_greatest_51 : decode cX5_greatest 51 = .ok (.iload 9, 2) := by decide +kernel
theorem dX5_greatest_53 : decode cX5_greatest 53 = .ok (.istore 6, 2) := by decide +kernel
theorem dX5_greatest_55 : decode cX5_greatest 55 = .ok (.iload 8, 2) := by decide +kernel
theorem dX5_greatest_57 : decode cX5_greatest 57 = .ok (.istore 7, 2) := by decide +kernel
theorem dX5_greatest_59 : decode cX5_greatest 59 = .ok (.iinc 8 1, 3) := by decide +kernel
theorem dX5_greatest_62 : decode cX5_greatest 62 = .ok (.goto (-53), 3) := by decide +kernel
theorem dX5_greatest_65 : decode cX5_greatest 65 = .ok (.iload 6, 2) := by decide +kernel
theorem dX5_greatest_67 : decode cX5_greatest 67 = .ok (.ifCond .ge 7, 3) := by decide +kernel
theorem dX5_greatest_70 : decode cX5_greatest 70 = .ok (.iconst 0, 1) := by decide +kernel
theorem dX5_greatest_71 : decode cX5_greatest 71 = .ok (.goto 11, 3) := by decide +kernel
theorem dX5_greatest_74 : decode cX5_greatest 74 = .ok (.iload 6, 2) := by decide +kernel
theorem dX5_greatest_76 : decode cX5_greatest 76 = .ok (.bipush 8, 2) := by decide +kernel
theorem dX5_greatest_78 : decode cX5_greatest 78 = .ok (.imul, 1) := by decide +kernel
theorem dX5_greatest_79 : decode cX5_greatest 79 = .ok (.iload 7, 2) := by decide +kernel
theorem dX5_greatest_81 : decode cX5_greatest 81 = .ok (.iadd, 1) := by decide +kernel
theorem dX5_greatest_82 : decode cX5_greatest 82 = .ok (.ireturn, 1) := by decide +kernel
theorem dX5_worthOf_0 : decode cX5_worthOf 0 = .ok (.aload_n 0, 1) := by decide +kernel
theorem dX5_worthOf_1 : decode cX5_worthOf 1 = .ok (.getfield 31, 3) := by decide +kernel
theorem dX5_worthOf_4 : decode cX5_worthOf 4 = .ok (.iload_n 2, 1) := by decide +kernel
theorem dX5_worthOf_5 : decode cX5_worthOf 5 = .ok (.iload_n 3, 1) := by decide +kernel
theorem dX5_worthOf_6 : decode cX5_worthOf 6 = .ok (.iload 4, 2) := by decide +kernel
theorem dX5_worthOf_8 : decode cX5_worthOf 8 = .ok (.iload 5, 2) := by decide +kernel
theorem dX5_worthOf_10 : decode cX5_worthOf 10 = .ok (.invokevirtual 83, 3) := by decide +kernel
theorem dX5_worthOf_13 : decode cX5_worthOf 13 = .ok (.istore 6, 2) := by decide +kernel
theorem dX5_worthOf_15 : decode cX5_worthOf 15 = .ok (.iload 6, 2) := by decide +kernel
theorem dX5_worthOf_17 : decode cX5_worthOf 17 = .ok (.invokestatic 92, 3) := by decide +kernel
theorem dX5_worthOf_20 : decode cX5_worthOf 20 = .ok (.ifCond .eq 5, 3) := by decide +kernel
theorem dX5_worthOf_23 : decode cX5_worthOf 23 = .ok (.iconst 0, 1) := by decide +kernel
theorem dX5_worthOf_24 : decode cX5_worthOf 24 = .ok (.ireturn, 1) := by decide +kernel
theorem dX5_worthOf_25 : decode cX5_worthOf 25 = .ok (.lconst 0, 1) := by decide +kernel
theorem dX5_worthOf_26 : decode cX5_worthOf 26 = .ok (.lstore 7, 2) := by decide +kernel
theorem dX5_worthOf_28 : decode cX5_worthOf 28 = .ok (.iconst 0, 1) := by decide +kernel
theorem dX5_worthOf_29 : decode cX5_worthOf 29 = .ok (.istore 9, 2) := by decide +kernel
theorem dX5_worthOf_31 : decode cX5_worthOf 31 = .ok (.iload 9, 2) := by decide +kernel
theorem dX5_worthOf_33 : decode cX5_worthOf 33 = .ok (.bipush 6, 2) := by decide +kernel
theorem dX5_worthOf_35 : decode cX5_worthOf 35 = .ok (.if_icmp .ge 67, 3) := by decide +kernel
theorem dX5_worthOf_38 : decode cX5_worthOf 38 = .ok (.iload_n 1, 1) := by decide +kernel
theorem dX5_worthOf_39 : decode cX5_worthOf 39 = .ok (.iconst 1, 1) := by decide +kernel
theorem dX5_worthOf_40 : decode cX5_worthOf 40 = .ok (.if_icmp .le 62, 3) := by decide +kernel
theorem dX5_worthOf_43 : decode cX5_worthOf 43 = .ok (.aload_n 0, 1) := by decide +kernel
theorem dX5_worthOf_44 : decode cX5_worthOf 44 = .ok (.getfield 35, 3) := by decide +kernel
theorem dX5_worthOf_47 : decode cX5_worthOf 47 = .ok (.iload_n 2, 1) := by decide +kernel
theorem dX5_worthOf_48 : decode cX5_worthOf 48 = .ok (.iload 9, 2) := by decide +kernel
theorem dX5_worthOf_50 : decode cX5_worthOf 50 = .ok (.invokevirtual 116, 3) := by decide +kernel
theorem dX5_worthOf_53 : decode cX5_worthOf 53 = .ok (.istore 10, 2) := by decide +kernel
theorem dX5_worthOf_55 : decode cX5_worthOf 55 = .ok (.iload 10, 2) := by decide +kernel
theorem dX5_worthOf_57 : decode cX5_worthOf 57 = .ok (.ifCond .le 39, 3) := by decide +kernel
theorem dX5_worthOf_60 : decode cX5_worthOf 60 = .ok (.aload_n 0, 1) := by decide +kernel
theorem dX5_worthOf_61 : decode cX5_worthOf 61 = .ok (.iload_n 1, 1) := by decide +kernel
theorem dX5_worthOf_62 : decode cX5_worthOf 62 = .ok (.iconst 1, 1) := by decide +kernel
theorem dX5_worthOf_63 : decode cX5_worthOf 63 = .ok (.isub, 1) := by decide +kernel
theorem dX5_worthOf_64 : decode cX5_worthOf 64 = .ok (.iload 9, 2) := by decide +kernel
theorem dX5_worthOf_66 : decode cX5_worthOf 66 = .ok (.iload 6, 2) := by decide +kernel
theorem dX5_worthOf_68 : decode cX5_worthOf 68 = .ok (.invokestatic 121, 3) := by decide +kernel
theorem dX5_worthOf_71 : decode cX5_worthOf 71 = .ok (.iload 6, 2) := by decide +kernel
theorem dX5_worthOf_73 : decode cX5_worthOf 73 = .ok (.invokestatic 124, 3) := by decide +kernel
theorem dX5_worthOf_76 : decode cX5_worthOf 76 = .ok (.invokevirtual 70, 3) := by decide +kernel
theorem dX5_worthOf_79 : decode cX5_worthOf 79 = .ok (.istore 11, 2) := by decide +kernel
theorem dX5_worthOf_81 : decode cX5_worthOf 81 = .ok (.lload 7, 2) := by decide +kernel
theorem dX5_worthOf_83 : decode cX5_worthOf 83 = .ok (.iload 10, 2) := by decide +kernel
theorem dX5_worthOf_85 : decode cX5_worthOf 85 = .ok (.i2l, 1) := by decide +kernel
theorem dX5_worthOf_86 : decode cX5_worthOf 86 = .ok (.iload 11, 2) := by decide +kernel
theorem dX5_worthOf_88 : decode cX5_worthOf 88 = .ok (.bipush 8, 2) := by decide +kernel
theorem dX5_worthOf_90 : decode cX5_worthOf 90 = .ok (.idiv, 1) := by decide +kernel
theorem dX5_worthOf_91 : decode cX5_worthOf 91 = .ok (.i2l, 1) := by decide +kernel
theorem dX5_worthOf_92 : decode cX5_worthOf 92 = .ok (.lmul, 1) := by decide +kernel
theorem dX5_worthOf_93 : decode cX5_worthOf 93 = .ok (.ladd, 1) := by decide +kernel
theorem dX5_worthOf_94 : decode cX5_worthOf 94 = .ok (.lstore 7, 2) := by decide +kernel
theorem dX5_worthOf_96 : decode cX5_worthOf 96 = .ok (.iinc 9 1, 3) := by decide +kernel
theorem dX5_worthOf_99 : decode cX5_worthOf 99 = .ok (.goto (-68), 3) := by decide +kernel
theorem dX5_worthOf_102 : decode cX5_worthOf 102 = .ok (.iload 6, 2) := by decide +kernel
theorem dX5_worthOf_104 : decode cX5_worthOf 104 = .ok (.invokestatic 95, 3) := by decide +kernel
theorem dX5_worthOf_107 : decode cX5_worthOf 107 = .ok (.sipush 1000, 3) := by decide +kernel
theorem dX5_worthOf_110 : decode cX5_worthOf 110 = .ok (.imul, 1) := by decide +kernel
theorem dX5_worthOf_111 : decode cX5_worthOf 111 = .ok (.lload 7, 2) := by decide +kernel
theorem dX5_worthOf_113 : decode cX5_worthOf 113 = .ok (.ldc2_w 127, 3) := by decide +kernel
theorem dX5_worthOf_116 : decode cX5_worthOf 116 = .ok (.ldiv, 1) := by decide +kernel
theorem dX5_worthOf_117 : decode cX5_worthOf 117 = .ok (.l2i, 1) := by decide +kernel
theorem dX5_worthOf_118 : decode cX5_worthOf 118 = .ok (.iadd, 1) := by decide +kernel
theorem dX5_worthOf_119 : decode cX5_worthOf 119 = .ok (.ireturn, 1) := by decide +kernel
theorem dX5_meanFor_0 : decode cX5_meanFor 0 = .ok (.aload_n 0, 1) := by decide +kernel
theorem dX5_meanFor_1 : decode cX5_meanFor 1 = .ok (.iload_n 1, 1) := by decide +kernel
theorem dX5_meanFor_2 : decode cX5_meanFor 2 = .ok (.iconst (-1), 1) := by decide +kernel
theorem dX5_meanFor_3 : decode cX5_meanFor 3 = .ok (.iconst 0, 1) := by decide +kernel
theorem dX5_meanFor_4 : decode cX5_meanFor 4 = .ok (.invokevirtual 103, 3) := by decide +kernel
theorem dX5_meanFor_7 : decode cX5_meanFor 7 = .ok (.aload_n 0, 1) := by decide +kernel
theorem dX5_meanFor_8 : decode cX5_meanFor 8 = .ok (.iconst 0, 1) := by decide +kernel
theorem dX5_meanFor_9 : decode cX5_meanFor 9 = .ok (.iload_n 2, 1) := by decide +kernel
theorem dX5_meanFor_10 : decode cX5_meanFor 10 = .ok (.iload_n 2, 1) := by decide +kernel
theorem dX5_meanFor_11 : decode cX5_meanFor 11 = .ok (.iload_n 3, 1) := by decide +kernel
theorem dX5_meanFor_12 : decode cX5_meanFor 12 = .ok (.iload 4, 2) := by decide +kernel
theorem dX5_meanFor_14 : decode cX5_meanFor 14 = .ok (.invokevirtual 107, 3) := by decide +kernel
theorem dX5_meanFor_17 : decode cX5_meanFor 17 = .ok (.ireturn, 1) := by decide +kernel
theorem dX5_awayFor_0 : decode cX5_awayFor 0 = .ok (.aload_n 0, 1) := by decide +kernel
theorem dX5_awayFor_1 : decode cX5_awayFor 1 = .ok (.iload_n 1, 1) := by decide +kernel
theorem dX5_awayFor_2 : decode cX5_awayFor 2 = .ok (.iconst (-1), 1) := by decide +kernel
theorem dX5_awayFor_3 : decode cX5_awayFor 3 = .ok (.iconst 1, 1) := by decide +kernel
theorem dX5_awayFor_4 : decode cX5_awayFor 4 = .ok (.invokevirtual 103, 3) := by decide +kernel
theorem dX5_awayFor_7 : decode cX5_awayFor 7 = .ok (.aload_n 0, 1) := by decide +kernel
theorem dX5_awayFor_8 : decode cX5_awayFor 8 = .ok (.iconst 0, 1) := by decide +kernel
theorem dX5_awayFor_9 : decode cX5_awayFor 9 = .ok (.iload_n 2, 1) := by decide +kernel
theorem dX5_awayFor_10 : decode cX5_awayFor 10 = .ok (.iload_n 2, 1) := by decide +kernel
theorem dX5_awayFor_11 : decode cX5_awayFor 11 = .ok (.iload_n 3, 1) := by decide +kernel
theorem dX5_awayFor_12 : decode cX5_awayFor 12 = .ok (.iload 4, 2) := by decide +kernel
theorem dX5_awayFor_14 : decode cX5_awayFor 14 = .ok (.invokevirtual 107, 3) := by decide +kernel
theorem dX5_awayFor_17 : decode cX5_awayFor 17 = .ok (.ireturn, 1) := by decide +kernel
theorem dX5_startMean_0 : decode cX5_startMean 0 = .ok (.aload_n 0, 1) := by decide +kernel
theorem dX5_startMean_1 : decode cX5_startMean 1 = .ok (.iload_n 1, 1) := by decide +kernel
theorem dX5_startMean_2 : decode cX5_startMean 2 = .ok (.putfield 129, 3) := by decide +kernel
theorem dX5_startMean_5 : decode cX5_startMean 5 = .ok (.aload_n 0, 1) := by decide +kernel
theorem dX5_startMean_6 : decode cX5_startMean 6 = .ok (.iload_n 2, 1) := by decide +kernel
theorem dX5_startMean_7 : decode cX5_startMean 7 = .ok (.putfield 132, 3) := by decide +kernel
theorem dX5_startMean_10 : decode cX5_startMean 10 = .ok (.aload_n 0, 1) := by decide +kernel
theorem dX5_startMean_11 : decode cX5_startMean 11 = .ok (.iload_n 3, 1) := by decide +kernel
theorem dX5_startMean_12 : decode cX5_startMean 12 = .ok (.putfield 135, 3) := by decide +kernel
theorem dX5_startMean_15 : decode cX5_startMean 15 = .ok (.aload_n 0, 1) := by decide +kernel
theorem dX5_startMean_16 : decode cX5_startMean 16 = .ok (.dup, 1) := by decide +kernel
theorem dX5_startMean_17 : decode cX5_startMean 17 = .ok (.getfield 28, 3) := by decide +kernel
theorem dX5_startMean_20 : decode cX5_startMean 20 = .ok (.iconst 1, 1) := by decide +kernel
theorem dX5_startMean_21 : decode cX5_startMean 21 = .ok (.iadd, 1) := by decide +kernel
theorem dX5_startMean_22 : decode cX5_startMean 22 = .ok (.putfield 28, 3) := by decide +kernel
theorem dX5_startMean_25 : decode cX5_startMean 25 = .ok (.return_, 1) := by decide +kernel
theorem dX5_meanFrom_0 : decode cX5_meanFrom 0 = .ok (.aload_n 0, 1) := by decide +kernel
theorem dX5_meanFrom_1 : decode cX5_meanFrom 1 = .ok (.getfield 51, 3) := by decide +kernel
theorem dX5_meanFrom_4 : decode cX5_meanFrom 4 = .ok (.iconst 2, 1) := by decide +kernel
theorem dX5_meanFrom_5 : decode cX5_meanFrom 5 = .ok (.if_icmp .ne 7, 3) := by decide +kernel
theorem dX5_meanFrom_8 : decode cX5_meanFrom 8 = .ok (.iload_n 3, 1) := by decide +kernel
theorem dX5_meanFrom_9 : decode cX5_meanFrom 9 = .ok (.goto 4, 3) := by decide +kernel
theorem dX5_meanFrom_12 : decode cX5_meanFrom 12 = .ok (.iconst 0, 1) := by decide +kernel
theorem dX5_meanFrom_13 : decode cX5_meanFrom 13 = .ok (.istore 6, 2) := by decide +kernel
theorem dX5_meanFrom_15 : decode cX5_meanFrom 15 = .ok (.iload_n 1, 1) := by decide +kernel
theorem dX5_meanFrom_16 : decode cX5_meanFrom 16 = .ok (.bipush 6, 2) := by decide +kernel
theorem dX5_meanFrom_18 : decode cX5_meanFrom 18 = .ok (.imul, 1) := by decide +kernel
theorem dX5_meanFrom_19 : decode cX5_meanFrom 19 = .ok (.iload 6, 2) := by decide +kernel
theorem dX5_meanFrom_21 : decode cX5_meanFrom 21 = .ok (.iadd, 1) := by decide +kernel
theorem dX5_meanFrom_22 : decode cX5_meanFrom 22 = .ok (.bipush 6, 2) := by decide +kernel
theorem dX5_meanFrom_24 : decode cX5_meanFrom 24 = .ok (.imul, 1) := by decide +kernel
theorem dX5_meanFrom_25 : decode cX5_meanFrom 25 = .ok (.iload_n 2, 1) := by decide +kernel
theorem dX5_meanFrom_26 : decode cX5_meanFrom 26 = .ok (.iadd, 1) := by decide +kernel
theorem dX5_meanFrom_27 : decode cX5_meanFrom 27 = .ok (.bipush 100, 2) := by decide +kernel
theorem dX5_meanFrom_29 : decode cX5_meanFrom 29 = .ok (.imul, 1) := by decide +kernel
theorem dX5_meanFrom_30 : decode cX5_meanFrom 30 = .ok (.iload 4, 2) := by decide +kernel
theorem dX5_meanFrom_32 : decode cX5_meanFrom 32 = .ok (.bipush 10, 2) := by decide +kernel
theorem dX5_meanFrom_34 : decode cX5_meanFrom 34 = .ok (.imul, 1) := by decide +kernel
theorem dX5_meanFrom_35 : decode cX5_meanFrom 35 = .ok (.iadd, 1) := by decide +kernel
theorem dX5_meanFrom_36 : decode cX5_meanFrom 36 = .ok (.iload 5, 2) := by decide +kernel
theorem dX5_meanFrom_38 : decode cX5_meanFrom 38 = .ok (.iadd, 1) := by decide +kernel
theorem dX5_meanFrom_39 : decode cX5_meanFrom 39 = .ok (.istore 7, 2) := by decide +kernel
theorem dX5_meanFrom_41 : decode cX5_meanFrom 41 = .ok (.iload_n 1, 1) := by decide +kernel
theorem dX5_meanFrom_42 : decode cX5_meanFrom 42 = .ok (.aload_n 0, 1) := by decide +kernel
theorem dX5_meanFrom_43 : decode cX5_meanFrom 43 = .ok (.getfield 129, 3) := by decide +kernel
theorem dX5_meanFrom_46 : decode cX5_meanFrom 46 = .ok (.if_icmp .ge 18, 3) := by decide +kernel
theorem dX5_meanFrom_49 : decode cX5_meanFrom 49 = .ok (.iload 7, 2) := by decide +kernel
theorem dX5_meanFrom_51 : decode cX5_meanFrom 51 = .ok (.ifCond .lt 13, 3) := by decide +kernel
theorem dX5_meanFrom_54 : decode cX5_meanFrom 54 = .ok (.iload 7, 2) := by decide +kernel
theorem dX5_meanFrom_56 : decode cX5_meanFrom 56 = .ok (.aload_n 0, 1) := by decide +kernel
theorem dX5_meanFrom_57 : decode cX5_meanFrom 57 = .ok (.getfield 18, 3) := by decide +kernel
theorem dX5_meanFrom_60 : decode cX5_meanFrom 60 = .ok (.arraylength, 1) := by decide +kernel
theorem dX5_meanFrom_61 : decode cX5_meanFrom 61 = .ok (.if_icmp .lt 5, 3) := by decide +kernel
theorem dX5_meanFrom_64 : decode cX5_meanFrom 64 = .ok (.iconst 0, 1) := by decide +kernel
theorem dX5_meanFrom_65 : decode cX5_meanFrom 65 = .ok (.ireturn, 1) := by decide +kernel
theorem dX5_meanFrom_66 : decode cX5_meanFrom 66 = .ok (.aload_n 0, 1) := by decide +kernel
theorem dX5_meanFrom_67 : decode cX5_meanFrom 67 = .ok (.getfield 21, 3) := by decide +kernel
theorem dX5_meanFrom_70 : decode cX5_meanFrom 70 = .ok (.iload 7, 2) := by decide +kernel
theorem dX5_meanFrom_72 : decode cX5_meanFrom 72 = .ok (.iaload, 1) := by decide +kernel
theorem dX5_meanFrom_73 : decode cX5_meanFrom 73 = .ok (.aload_n 0, 1) := by decide +kernel
theorem dX5_meanFrom_74 : decode cX5_meanFrom 74 = .ok (.getfield 28, 3) := by decide +kernel
theorem dX5_meanFrom_77 : decode cX5_meanFrom 77 = .ok (.if_icmp .eq 32, 3) := by decide +kernel
theorem dX5_meanFrom_80 : decode cX5_meanFrom 80 = .ok (.aload_n 0, 1) := by decide +kernel
theorem dX5_meanFrom_81 : decode cX5_meanFrom 81 = .ok (.getfield 18, 3) := by decide +kernel
theorem dX5_meanFrom_84 : decode cX5_meanFrom 84 = .ok (.iload 7, 2) := by decide +kernel
theorem dX5_meanFrom_86 : decode cX5_meanFrom 86 = .ok (.aload_n 0, 1) := by decide +kernel
theorem dX5_meanFrom_87 : decode cX5_meanFrom 87 = .ok (.iload_n 1, 1) := by decide +kernel
theorem dX5_meanFrom_88 : decode cX5_meanFrom 88 = .ok (.iload_n 2, 1) := by decide +kernel
theorem dX5_meanFrom_89 : decode cX5_meanFrom 89 = .ok (.iload_n 3, 1) := by decide +kernel
theorem dX5_meanFrom_90 : decode cX5_meanFrom 90 = .ok (.iload 4, 2) := by decide +kernel
theorem dX5_meanFrom_92 : decode cX5_meanFrom 92 = .ok (.iload 5, 2) := by decide +kernel
theorem dX5_meanFrom_94 : decode cX5_meanFrom 94 = .ok (.invokevirtual 139, 3) := by decide +kernel
theorem dX5_meanFrom_97 : decode cX5_meanFrom 97 = .ok (.iastore, 1) := by decide +kernel
theorem dX5_meanFrom_98 : decode cX5_meanFrom 98 = .ok (.aload_n 0, 1) := by decide +kernel
theorem dX5_meanFrom_99 : decode cX5_meanFrom 99 = .ok (.getfield 21, 3) := by decide +kernel
theorem dX5_meanFrom_102 : decode cX5_meanFrom 102 = .ok (.iload 7, 2) := by decide +kernel
theorem dX5_meanFrom_104 : decode cX5_meanFrom 104 = .ok (.aload_n 0, 1) := by decide +kernel
theorem dX5_meanFrom_105 : decode cX5_meanFrom 105 = .ok (.getfield 28, 3) := by decide +kernel
theorem dX5_meanFrom_108 : decode cX5_meanFrom 108 = .ok (.iastore, 1) := by decide +kernel
theorem dX5_meanFrom_109 : decode cX5_meanFrom 109 = .ok (.aload_n 0, 1) := by decide +kernel
theorem dX5_meanFrom_110 : decode cX5_meanFrom 110 = .ok (.getfield 18, 3) := by decide +kernel
theorem dX5_meanFrom_113 : decode cX5_meanFrom 113 = .ok (.iload 7, 2) := by decide +kernel
theorem dX5_meanFrom_115 : decode cX5_meanFrom 115 = .ok (.iaload, 1) := by decide +kernel
theorem dX5_meanFrom_116 : decode cX5_meanFrom 116 = .ok (.ireturn, 1) := by decide +kernel
theorem dX5_meanOf_0 : decode cX5_meanOf 0 = .ok (.iconst 0, 1) := by decide +kernel
theorem dX5_meanOf_1 : decode cX5_meanOf 1 = .ok (.istore 6, 2) := by decide +kernel
theorem dX5_meanOf_3 : decode cX5_meanOf 3 = .ok (.iload_n 1, 1) := by decide +kernel
theorem dX5_meanOf_4 : decode cX5_meanOf 4 = .ok (.aload_n 0, 1) := by decide +kernel
theorem dX5_meanOf_5 : decode cX5_meanOf 5 = .ok (.getfield 132, 3) := by decide +kernel
theorem dX5_meanOf_8 : decode cX5_meanOf 8 = .ok (.if_icmp .eq 38, 3) := by decide +kernel
theorem dX5_meanOf_11 : decode cX5_meanOf 11 = .ok (.aload_n 0, 1) := by decide +kernel
theorem dX5_meanOf_12 : decode cX5_meanOf 12 = .ok (.iload_n 1, 1) := by decide +kernel
theorem dX5_meanOf_13 : decode cX5_meanOf 13 = .ok (.aload_n 0, 1) := by decide +kernel
theorem dX5_meanOf_14 : decode cX5_meanOf 14 = .ok (.getfield 129, 3) := by decide +kernel
theorem dX5_meanOf_17 : decode cX5_meanOf 17 = .ok (.iload_n 1, 1) := by decide +kernel
theorem dX5_meanOf_18 : decode cX5_meanOf 18 = .ok (.isub, 1) := by decide +kernel
theorem dX5_meanOf_19 : decode cX5_meanOf 19 = .ok (.iload_n 2, 1) := by decide +kernel
theorem dX5_meanOf_20 : decode cX5_meanOf 20 = .ok (.iload_n 3, 1) := by decide +kernel
theorem dX5_meanOf_21 : decode cX5_meanOf 21 = .ok (.iload 4, 2) := by decide +kernel
theorem dX5_meanOf_23 : decode cX5_meanOf 23 = .ok (.iload 5, 2) := by decide +kernel
theorem dX5_meanOf_25 : decode cX5_meanOf 25 = .ok (.invokevirtual 142, 3) := by decide +kernel
theorem dX5_meanOf_28 : decode cX5_meanOf 28 = .ok (.istore 7, 2) := by decide +kernel
theorem dX5_meanOf_30 : decode cX5_meanOf 30 = .ok (.aload_n 0, 1) := by decide +kernel
theorem dX5_meanOf_31 : decode cX5_meanOf 31 = .ok (.getfield 31, 3) := by decide +kernel
theorem dX5_meanOf_34 : decode cX5_meanOf 34 = .ok (.iload_n 2, 1) := by decide +kernel
theorem dX5_meanOf_35 : decode cX5_meanOf 35 = .ok (.iload 7, 2) := by decide +kernel
theorem dX5_meanOf_37 : decode cX5_meanOf 37 = .ok (.iload 4, 2) := by decide +kernel
theorem dX5_meanOf_39 : decode cX5_meanOf 39 = .ok (.iload 5, 2) := by decide +kernel
theorem dX5_meanOf_41 : decode cX5_meanOf 41 = .ok (.invokevirtual 83, 3) := by decide +kernel
theorem dX5_meanOf_44 : decode cX5_meanOf 44 = .ok (.istore 6, 2) := by decide +kernel
theorem dX5_meanOf_46 : decode cX5_meanOf 46 = .ok (.iload 6, 2) := by decide +kernel
theorem dX5_meanOf_48 : decode cX5_meanOf 48 = .ok (.invokestatic 92, 3) := by decide +kernel
theorem dX5_meanOf_51 : decode cX5_meanOf 51 = .ok (.ifCond .eq 17, 3) := by decide +kernel
theorem dX5_meanOf_54 : decode cX5_meanOf 54 = .ok (.aload_n 0, 1) := by decide +kernel
theorem dX5_meanOf_55 : decode cX5_meanOf 55 = .ok (.getfield 135, 3) := by decide +kernel
theorem dX5_meanOf_58 : decode cX5_meanOf 58 = .ok (.ifCond .eq 8, 3) := by decide +kernel
theorem dX5_meanOf_61 : decode cX5_meanOf 61 = .ok (.ldc 146, 2) := by decide +kernel
theorem dX5_meanOf_63 : decode cX5_meanOf 63 = .ok (.goto 4, 3) := by decide +kernel
theorem dX5_meanOf_66 : decode cX5_meanOf 66 = .ok (.iconst 0, 1) := by decide +kernel
theorem dX5_meanOf_67 : decode cX5_meanOf 67 = .ok (.ireturn, 1) := by decide +kernel
theorem dX5_meanOf_68 : decode cX5_meanOf 68 = .ok (.lconst 0, 1) := by decide +kernel
theorem dX5_meanOf_69 : decode cX5_meanOf 69 = .ok (.lstore 7, 2) := by decide +kernel
theorem dX5_meanOf_71 : decode cX5_meanOf 71 = .ok (.iconst 0, 1) := by decide +kernel
theorem dX5_meanOf_72 : decode cX5_meanOf 72 = .ok (.istore 9, 2) := by decide +kernel
theorem dX5_meanOf_74 : decode cX5_meanOf 74 = .ok (.iload 9, 2) := by decide +kernel
theorem dX5_meanOf_76 : decode cX5_meanOf 76 = .ok (.bipush 6, 2) := by decide +kernel
theorem dX5_meanOf_78 : decode cX5_meanOf 78 = .ok (.if_icmp .ge 66, 3) := by decide +kernel
theorem dX5_meanOf_81 : decode cX5_meanOf 81 = .ok (.iload_n 1, 1) := by decide +kernel
theorem dX5_meanOf_82 : decode cX5_meanOf 82 = .ok (.iconst 1, 1) := by decide +kernel
theorem dX5_meanOf_83 : decode cX5_meanOf 83 = .ok (.iadd, 1) := by decide +kernel
theorem dX5_meanOf_84 : decode cX5_meanOf 84 = .ok (.aload_n 0, 1) := by decide +kernel
theorem dX5_meanOf_85 : decode cX5_meanOf 85 = .ok (.getfield 129, 3) := by decide +kernel
theorem dX5_meanOf_88 : decode cX5_meanOf 88 = .ok (.if_icmp .ge 56, 3) := by decide +kernel
theorem dX5_meanOf_91 : decode cX5_meanOf 91 = .ok (.aload_n 0, 1) := by decide +kernel
theorem dX5_meanOf_92 : decode cX5_meanOf 92 = .ok (.getfield 35, 3) := by decide +kernel
theorem dX5_meanOf_95 : decode cX5_meanOf 95 = .ok (.iload_n 2, 1) := by decide +kernel
theorem dX5_meanOf_96 : decode cX5_meanOf 96 = .ok (.iload 9, 2) := by decide +kernel
theorem dX5_meanOf_98 : decode cX5_meanOf 98 = .ok (.invokevirtual 116, 3) := by decide +kernel
theorem dX5_meanOf_101 : decode cX5_meanOf 101 = .ok (.istore 10, 2) := by decide +kernel
theorem dX5_meanOf_103 : decode cX5_meanOf 103 = .ok (.iload 10, 2) := by decide +kernel
theorem dX5_meanOf_105 : decode cX5_meanOf 105 = .ok (.ifCond .le 33, 3) := by decide +kernel
theorem dX5_meanOf_108 : decode cX5_meanOf 108 = .ok (.lload 7, 2) := by decide +kernel
theorem dX5_meanOf_110 : decode cX5_meanOf 110 = .ok (.iload 10, 2) := by decide +kernel
theorem dX5_meanOf_112 : decode cX5_meanOf 112 = .ok (.i2l, 1) := by decide +kernel
theorem dX5_meanOf_113 : decode cX5_meanOf 113 = .ok (.aload_n 0, 1) := by decide +kernel
theorem dX5_meanOf_114 : decode cX5_meanOf 114 = .ok (.iload_n 1, 1) := by decide +kernel
theorem dX5_meanOf_115 : decode cX5_meanOf 115 = .ok (.iconst 1, 1) := by decide +kernel
theorem dX5_meanOf_116 : decode cX5_meanOf 116 = .ok (.iadd, 1) := by decide +kernel
theorem dX5_meanOf_117 : decode cX5_meanOf 117 = .ok (.iload 9, 2) := by decide +kernel
theorem dX5_meanOf_119 : decode cX5_meanOf 119 = .ok (.iload_n 2, 1) := by decide +kernel
theorem dX5_meanOf_120 : decode cX5_meanOf 120 = .ok (.iload 6, 2) := by decide +kernel
theorem dX5_meanOf_122 : decode cX5_meanOf 122 = .ok (.invokestatic 121, 3) := by decide +kernel
theorem dX5_meanOf_125 : decode cX5_meanOf 125 = .ok (.iload 6, 2) := by decide +kernel
theorem dX5_meanOf_127 : decode cX5_meanOf 127 = .ok (.invokestatic 124, 3) := by decide +kernel
theorem dX5_meanOf_130 : decode cX5_meanOf 130 = .ok (.invokevirtual 107, 3) := by decide +kernel
theorem dX5_meanOf_133 : decode cX5_meanOf 133 = .ok (.i2l, 1) := by decide +kernel
theorem dX5_meanOf_134 : decode cX5_meanOf 134 = .ok (.lmul, 1) := by decide +kernel
theorem dX5_meanOf_135 : decode cX5_meanOf 135 = .ok (.ladd, 1) := by decide +kernel
theorem dX5_meanOf_136 : decode cX5_meanOf 136 = .ok (.lstore 7, 2) := by decide +kernel
theorem dX5_meanOf_138 : decode cX5_meanOf 138 = .ok (.iinc 9 1, 3) := by decide +kernel
theorem dX5_meanOf_141 : decode cX5_meanOf 141 = .ok (.goto (-67), 3) := by decide +kernel
theorem dX5_meanOf_144 : decode cX5_meanOf 144 = .ok (.aload_n 0, 1) := by decide +kernel
theorem dX5_meanOf_145 : decode cX5_meanOf 145 = .ok (.getfield 135, 3) := by decide +kernel
theorem dX5_meanOf_148 : decode cX5_meanOf 148 = .ok (.ifCond .eq 7, 3) := by decide +kernel
theorem dX5_meanOf_151 : decode cX5_meanOf 151 = .ok (.iconst 0, 1) := by decide +kernel
theorem dX5_meanOf_152 : decode cX5_meanOf 152 = .ok (.goto 12, 3) := by decide +kernel
theorem dX5_meanOf_155 : decode cX5_meanOf 155 = .ok (.iload 6, 2) := by decide +kernel
theorem dX5_meanOf_157 : decode cX5_meanOf 157 = .ok (.invokestatic 95, 3) := by decide +kernel
theorem dX5_meanOf_160 : decode cX5_meanOf 160 = .ok (.sipush 1000, 3) := by decide +kernel
theorem dX5_meanOf_163 : decode cX5_meanOf 163 = .ok (.imul, 1) := by decide +kernel
theorem dX5_meanOf_164 : decode cX5_meanOf 164 = .ok (.istore 9, 2) := by decide +kernel
theorem dX5_meanOf_166 : decode cX5_meanOf 166 = .ok (.iload 9, 2) := by decide +kernel
theorem dX5_meanOf_168 : decode cX5_meanOf 168 = .ok (.lload 7, 2) := by decide +kernel
theorem dX5_meanOf_170 : decode cX5_meanOf 170 = .ok (.ldc2_w 127, 3) := by decide +kernel
theorem dX5_meanOf_173 : decode cX5_meanOf 173 = .ok (.ldiv, 1) := by decide +kernel
theorem dX5_meanOf_174 : decode cX5_meanOf 174 = .ok (.l2i, 1) := by decide +kernel
theorem dX5_meanOf_175 : decode cX5_meanOf 175 = .ok (.iadd, 1) := by decide +kernel
theorem dX5_meanOf_176 : decode cX5_meanOf 176 = .ok (.ireturn, 1) := by decide +kernel
theorem dX6_init_0 : decode cX6_init 0 = .ok (.aload_n 0, 1) := by decide +kernel
theorem dX6_init_1 : decode cX6_init 1 = .ok (.invokespecial 1, 3) := by decide +kernel
theorem dX6_init_4 : decode cX6_init 4 = .ok (.return_, 1) := by decide +kernel
theorem dX6_read_0 : decode cX6_read 0 = .ok (.aload_n 0, 1) := by decide +kernel
theorem dX6_read_1 : decode cX6_read 1 = .ok (.aload_n 1, 1) := by decide +kernel
theorem dX6_read_2 : decode cX6_read 2 = .ok (.putfield 7, 3) := by decide +kernel
theorem dX6_read_5 : decode cX6_read 5 = .ok (.aload_n 0, 1) := by decide +kernel
theorem dX6_read_6 : decode cX6_read 6 = .ok (.aload_n 2, 1) := by decide +kernel
theorem dX6_read_7 : decode cX6_read 7 = .ok (.putfield 13, 3) := by decide +kernel
theorem dX6_read_10 : decode cX6_read 10 = .ok (.aload_n 0, 1) := by decide +kernel
theorem dX6_read_11 : decode cX6_read 11 = .ok (.iconst 0, 1) := by decide +kernel
theorem dX6_read_12 : decode cX6_read 12 = .ok (.putfield 17, 3) := by decide +kernel
theorem dX6_read_15 : decode cX6_read 15 = .ok (.aload_n 0, 1) := by decide +kernel
theorem dX6_read_16 : decode cX6_read 16 = .ok (.getfield 13, 3) := by decide +kernel
theorem dX6_read_19 : decode cX6_read 19 = .ok (.invokevirtual 21, 3) := by decide +kernel
theorem dX6_read_22 : decode cX6_read 22 = .ok (.aload_n 0, 1) := by decide +kernel
theorem dX6_read_23 : decode cX6_read 23 = .ok (.invokevirtual 26, 3) := by decide +kernel
theorem dX6_read_26 : decode cX6_read 26 = .ok (.istore_n 3, 1) := by decide +kernel
theorem dX6_read_27 : decode cX6_read 27 = .ok (.iconst 1, 1) := by decide +kernel
theorem dX6_read_28 : decode cX6_read 28 = .ok (.istore 4, 2) := by decide +kernel
theorem dX6_read_30 : decode cX6_read 30 = .ok (.iload 4, 2) := by decide +kernel
theorem dX6_read_32 : decode cX6_read 32 = .ok (.bipush 10, 2) := by decide +kernel
theorem dX6_read_34 : decode cX6_read 34 = .ok (.if_icmp .ge 44, 3) := by decide +kernel
theorem dX6_read_37 : decode cX6_read 37 = .ok (.iload_n 3, 1) := by decide +kernel
theorem dX6_read_38 : decode cX6_read 38 = .ok (.ifCond .eq 40, 3) := by decide +kernel
theorem dX6_read_41 : decode cX6_read 41 = .ok (.aload_n 0, 1) := by decide +kernel
theorem dX6_read_42 : decode cX6_read 42 = .ok (.getfield 7, 3) := by decide +kernel
theorem dX6_read_45 : decode cX6_read 45 = .ok (.aload_n 0, 1) := by decide +kernel
theorem dX6_read_46 : decode cX6_read 46 = .ok (.getfield 17, 3) := by decide +kernel
theorem dX6_read_49 : decode cX6_read 49 = .ok (.invokevirtual 30, 3) := by decide +kernel
theorem dX6_read_52 : decode cX6_read 52 = .ok (.bipush 59, 2) := by decide +kernel
theorem dX6_read_54 : decode cX6_read 54 = .ok (.if_icmp .ne 24, 3) := by decide +kernel
theorem dX6_read_57 : decode cX6_read 57 = .ok (.aload_n 0, 1) := by decide +kernel
theorem dX6_read_58 : decode cX6_read 58 = .ok (.dup, 1) := by decide +kernel
theorem dX6_read_59 : decode cX6_read 59 = .ok (.getfield 17, 3) := by decide +kernel
theorem dX6_read_62 : decode cX6_read 62 = .ok (.iconst 1, 1) := by decide +kernel
theorem dX6_read_63 : decode cX6_read 63 = .ok (.iadd, 1) := by decide +kernel
theorem dX6_read_64 : decode cX6_read 64 = .ok (.putfield 17, 3) := by decide +kernel
theorem dX6_read_67 : decode cX6_read 67 = .ok (.aload_n 0, 1) := by decide +kernel
theorem dX6_read_68 : decode cX6_read 68 = .ok (.invokevirtual 26, 3) := by decide +kernel
theorem dX6_read_71 : decode cX6_read 71 = .ok (.istore_n 3, 1) := by decide +kernel
theorem dX6_read_72 : decode cX6_read 72 = .ok (.iinc 4 1, 3) := by decide +kernel
theorem dX6_read_75 : decode cX6_read 75 = .ok (.goto (-45), 3) := by decide +kernel
theorem dX6_read_78 : decode cX6_read 78 = .ok (.iload_n 3, 1) := by decide +kernel
theorem dX6_read_79 : decode cX6_read 79 = .ok (.ifCond .eq 21, 3) := by decide +kernel
theorem dX6_read_82 : decode cX6_read 82 = .ok (.aload_n 0, 1) := by decide +kernel
theorem dX6_read_83 : decode cX6_read 83 = .ok (.getfield 17, 3) := by decide +kernel
theorem dX6_read_86 : decode cX6_read 86 = .ok (.aload_n 0, 1) := by decide +kernel
theorem dX6_read_87 : decode cX6_read 87 = .ok (.getfield 7, 3) := by decide +kernel
theorem dX6_read_90 : decode cX6_read 90 = .ok (.getfield 36, 3) := by decide +kernel
theorem dX6_read_93 : decode cX6_read 93 = .ok (.if_icmp .ne 7, 3) := by decide +kernel
theorem dX6_read_96 : decode cX6_read 96 = .ok (.iconst (-1), 1) := by decide +kernel
theorem dX6_read_97 : decode cX6_read 97 = .ok (.goto 7, 3) := by decide +kernel
theorem dX6_read_100 : decode cX6_read 100 = .ok (.aload_n 0, 1) := by decide +kernel
theorem dX6_read_101 : decode cX6_read 101 = .ok (.getfield 17, 3) := by decide +kernel
theorem dX6_read_104 : decode cX6_read 104 = .ok (.ireturn, 1) := by decide +kernel
theorem dX6_readClause_0 : decode cX6_readClause 0 = .ok (.aload_n 0, 1) := by decide +kernel
theorem dX6_readClause_1 : decode cX6_readClause 1 = .ok (.ldc 39, 2) := by decide +kernel
theorem dX6_readClause_3 : decode cX6_readClause 3 = .ok (.invokevirtual 41, 3) := by decide +kernel
theorem dX6_readClause_6 : decode cX6_readClause 6 = .ok (.istore_n 1, 1) := by decide +kernel
theorem dX6_readClause_7 : decode cX6_readClause 7 = .ok (.iload_n 1, 1) := by decide +kernel
theorem dX6_readClause_8 : decode cX6_readClause 8 = .ok (.ifCond .ge 5, 3) := by decide +kernel
theorem dX6_readClause_11 : decode cX6_readClause 11 = .ok (.iconst 0, 1) := by decide +kernel
theorem dX6_readClause_12 : decode cX6_readClause 12 = .ok (.ireturn, 1) := by decide +kernel
theorem dX6_readClause_13 : decode cX6_readClause 13 = .ok (.iconst 0, 1) := by decide +kernel
theorem dX6_readClause_14 : decode cX6_readClause 14 = .ok (.istore_n 2, 1) := by decide +kernel
theorem dX6_readClause_15 : decode cX6_readClause 15 = .ok (.iload_n 2, 1) := by decide +kernel
theorem dX6_readClause_16 : decode cX6_readClause 16 = .ok (.iconst 4, 1) := by decide +kernel
theorem dX6_readClause_17 : decode cX6_readClause 17 = .ok (.if_icmp .ge 28, 3) := by decide +kernel
theorem dX6_readClause_20 : decode cX6_readClause 20 = .ok (.aload_n 0, 1) := by decide +kernel
theorem dX6_readClause_21 : decode cX6_readClause 21 = .ok (.ldc 45, 2) := by decide +kernel
theorem dX6_readClause_23 : decode cX6_readClause 23 = .ok (.iload_n 1, 1) := by decide +kernel
theorem dX6_readClause_24 : decode cX6_readClause 24 = .ok (.iconst 4, 1) := by decide +kernel
theorem dX6_readClause_25 : decode cX6_readClause 25 = .ok (.imul, 1) := by decide +kernel
theorem dX6_readClause_26 : decode cX6_readClause 26 = .ok (.iload_n 2, 1) := by decide +kernel
theorem dX6_readClause_27 : decode cX6_readClause 27 = .ok (.iadd, 1) := by decide +kernel
theorem dX6_readClause_28 : decode cX6_readClause 28 = .ok (.invokevirtual 47, 3) := by decide +kernel
theorem dX6_readClause_31 : decode cX6_readClause 31 = .ok (.invokevirtual 53, 3) := by decide +kernel
theorem dX6_readClause_34 : decode cX6_readClause 34 = .ok (.ifCond .ne 5, 3) := by decide +kernel
theorem dX6_readClause_37 : decode cX6_readClause 37 = .ok (.iconst 0, 1) := by decide +kernel
theorem dX6_readClause_38 : decode cX6_readClause 38 = .ok (.ireturn, 1) := by decide +kernel
theorem dX6_readClause_39 : decode cX6_readClause 39 = .ok (.iinc 2 1, 3) := by decide +kernel
theorem dX6_readClause_42 : decode cX6_readClause 42 = .ok (.goto (-27), 3) := by decide +kernel
theorem dX6_readClause_45 : decode cX6_readClause 45 = .ok (.aload_n 0, 1) := by decide +kernel
theorem dX6_readClause_46 : decode cX6_readClause 46 = .ok (.bipush 32, 2) := by decide +kernel
theorem dX6_readClause_48 : decode cX6_readClause 48 = .ok (.invokevirtual 53, 3) := by decide +kernel
theorem dX6_readClause_51 : decode cX6_readClause 51 = .ok (.ifCond .eq 10, 3) := by decide +kernel
theorem dX6_readClause_54 : decode cX6_readClause 54 = .ok (.aload_n 0, 1) := by decide +kernel
theorem dX6_readClause_55 : decode cX6_readClause 55 = .ok (.invokevirtual 57, 3) := by decide +kernel
theorem dX6_readClause_58 : decode cX6_readClause 58 = .ok (.goto 4, 3) := by decide +kernel
theorem dX6_readClause_61 : decode cX6_readClause 61 = .ok (.iconst (-1), 1) := by decide +kernel
theorem dX6_readClause_62 : decode cX6_readClause 62 = .ok (.istore_n 2, 1) := by decide +kernel
theorem dX6_readClause_63 : decode cX6_readClause 63 = .ok (.iload_n 2, 1) := by decide +kernel
theorem dX6_readClause_64 : decode cX6_readClause 64 = .ok (.ifCond .ge 5, 3) := by decide +kernel
theorem dX6_readClause_67 : decode cX6_readClause 67 = .ok (.iconst 0, 1) := by decide +kernel
theorem dX6_readClause_68 : decode cX6_readClause 68 = .ok (.ireturn, 1) := by decide +kernel
theorem dX6_readClause_69 : decode cX6_readClause 69 = .ok (.iload_n 1, 1) := by decide +kernel
theorem dX6_readClause_70 : decode cX6_readClause 70 = .ok (.iconst 3, 1) := by decide +kernel
theorem dX6_readClause_71 : decode cX6_readClause 71 = .ok (.if_icmp .gt 22, 3) := by decide +kernel
theorem dX6_readClause_74 : decode cX6_readClause 74 = .ok (.aload_n 0, 1) := by decide +kernel
theorem dX6_readClause_75 : decode cX6_readClause 75 = .ok (.bipush 32, 2) := by decide +kernel
theorem dX6_readClause_77 : decode cX6_readClause 77 = .ok (.invokevirtual 53, 3) := by decide +kernel
theorem dX6_readClause_80 : decode cX6_readClause 80 = .ok (.ifCond .eq 11, 3) := by decide +kernel
theorem dX6_readClause_83 : decode cX6_readClause 83 = .ok (.aload_n 0, 1) := by decide +kernel
theorem dX6_readClause_84 : decode cX6_readClause 84 = .ok (.iconst 0, 1) := by decide +kernel
theorem dX6_readClause_85 : decode cX6_readClause 85 = .ok (.invokevirtual 61, 3) := by decide +kernel
theorem dX6_readClause_88 : decode cX6_readClause 88 = .ok (.ifCond .ne 5, 3) := by decide +kernel
theorem dX6_readClause_91 : decode cX6_readClause 91 = .ok (.iconst 0, 1) := by decide +kernel
theorem dX6_readClause_92 : decode cX6_readClause 92 = .ok (.ireturn, 1) := by decide +kernel
theorem dX6_readClause_93 : decode cX6_readClause 93 = .ok (.aload_n 0, 1) := by decide +kernel
theorem dX6_readClause_94 : decode cX6_readClause 94 = .ok (.getfield 13, 3) := by decide +kernel
theorem dX6_readClause_97 : decode cX6_readClause 97 = .ok (.iload_n 1, 1) := by decide +kernel
theorem dX6_readClause_98 : decode cX6_readClause 98 = .ok (.iload_n 2, 1) := by decide +kernel
theorem dX6_readClause_99 : decode cX6_readClause 99 = .ok (.invokevirtual 65, 3) := by decide +kernel
theorem dX6_readClause_102 : decode cX6_readClause 102 = .ok (.iconst 1, 1) := by decide +kernel
theorem dX6_readClause_103 : decode cX6_readClause 103 = .ok (.ireturn, 1) := by decide +kernel
theorem dX6_readAny_0 : decode cX6_readAny 0 = .ok (.aload_n 0, 1) := by decide +kernel
theorem dX6_readAny_1 : decode cX6_readAny 1 = .ok (.iload_n 1, 1) := by decide +kernel
theorem dX6_readAny_2 : decode cX6_readAny 2 = .ok (.invokevirtual 69, 3) := by decide +kernel
theorem dX6_readAny_5 : decode cX6_readAny 5 = .ok (.istore_n 2, 1) := by decide +kernel
theorem dX6_readAny_6 : decode cX6_readAny 6 = .ok (.iconst 0, 1) := by decide +kernel
theorem dX6_readAny_7 : decode cX6_readAny 7 = .ok (.istore_n 3, 1) := by decide +kernel
theorem dX6_readAny_8 : decode cX6_readAny 8 = .ok (.iload_n 3, 1) := by decide +kernel
theorem dX6_readAny_9 : decode cX6_readAny 9 = .ok (.bipush 120, 2) := by decide +kernel
theorem dX6_readAny_11 : decode cX6_readAny 11 = .ok (.if_icmp .ge 37, 3) := by decide +kernel
theorem dX6_readAny_14 : decode cX6_readAny 14 = .ok (.iload_n 2, 1) := by decide +kernel
theorem dX6_readAny_15 : decode cX6_readAny 15 = .ok (.ifCond .eq 33, 3) := by decide +kernel
theorem dX6_readAny_18 : decode cX6_readAny 18 = .ok (.aload_n 0, 1) := by decide +kernel
theorem dX6_readAny_19 : decode cX6_readAny 19 = .ok (.bipush 124, 2) := by decide +kernel
theorem dX6_readAny_21 : decode cX6_readAny 21 = .ok (.invokevirtual 53, 3) := by decide +kernel
theorem dX6_readAny_24 : decode cX6_readAny 24 = .ok (.ifCond .eq 24, 3) := by decide +kernel
theorem dX6_readAny_27 : decode cX6_readAny 27 = .ok (.aload_n 0, 1) := by decide +kernel
theorem dX6_readAny_28 : decode cX6_readAny 28 = .ok (.iload_n 1, 1) := by decide +kernel
theorem dX6_readAny_29 : decode cX6_readAny 29 = .ok (.invokevirtual 69, 3) := by decide +kernel
theorem dX6_readAny_32 : decode cX6_readAny 32 = .ok (.istore_n 2, 1) := by decide +kernel
theorem dX6_readAny_33 : decode cX6_readAny 33 = .ok (.aload_n 0, 1) := by decide +kernel
theorem dX6_readAny_34 : decode cX6_readAny 34 = .ok (.getfield 13, 3) := by decide +kernel
theorem dX6_readAny_37 : decode cX6_readAny 37 = .ok (.bipush (-3), 2) := by decide +kernel
theorem dX6_readAny_39 : decode cX6_readAny 39 = .ok (.invokevirtual 72, 3) := by decide +kernel
theorem dX6_readAny_42 : decode cX6_readAny 42 = .ok (.iinc 3 1, 3) := by decide +kernel
theorem dX6_readAny_45 : decode cX6_readAny 45 = .ok (.goto (-37), 3) := by decide +kernel
theorem dX6_readAny_48 : decode cX6_readAny 48 = .ok (.iload_n 2, 1) := by decide +kernel
theorem dX6_readAny_49 : decode cX6_readAny 49 = .ok (.ireturn, 1) := by decide +kernel
theorem dX6_readAll_0 : decode cX6_readAll 0 = .ok (.aload_n 0, 1) := by decide +kernel
theorem dX6_readAll_1 : decode cX6_readAll 1 = .ok (.iload_n 1, 1) := by decide +kernel
theorem dX6_readAll_2 : decode cX6_readAll 2 = .ok (.invokevirtual 76, 3) := by decide +kernel
theorem dX6_readAll_5 : decode cX6_readAll 5 = .ok (.istore_n 2, 1) := by decide +kernel
theorem dX6_readAll_6 : decode cX6_readAll 6 = .ok (.iconst 0, 1) := by decide +kernel
theorem dX6_readAll_7 : decode cX6_readAll 7 = .ok (.istore_n 3, 1) := by decide +kernel
theorem dX6_readAll_8 : decode cX6_readAll 8 = .ok (.iload_n 3, 1) := by decide +kernel
theorem dX6_readAll_9 : decode cX6_readAll 9 = .ok (.bipush 120, 2) := by decide +kernel
theorem dX6_readAll_11 : decode cX6_readAll 11 = .ok (.if_icmp .ge 37, 3) := by decide +kernel
theorem dX6_readAll_14 : decode cX6_readAll 14 = .ok (.iload_n 2, 1) := by decide +kernel
theorem dX6_readAll_15 : decode cX6_readAll 15 = .ok (.ifCond .eq 33, 3) := by decide +kernel
theorem dX6_readAll_18 : decode cX6_readAll 18 = .ok (.aload_n 0, 1) := by decide +kernel
theorem dX6_readAll_19 : decode cX6_readAll 19 = .ok (.bipush 38, 2) := by decide +kernel
theorem dX6_readAll_21 : decode cX6_readAll 21 = .ok (.invokevirtual 53, 3) := by decide +kernel
theorem dX6_readAll_24 : decode cX6_readAll 24 = .ok (.ifCond .eq 24, 3) := by decide +kernel
theorem dX6_readAll_27 : decode cX6_readAll 27 = .ok (.aload_n 0, 1) := by decide +kernel
theorem dX6_readAll_28 : decode cX6_readAll 28 = .ok (.iload_n 1, 1) := by decide +kernel
theorem dX6_readAll_29 : decode cX6_readAll 29 = .ok (.invokevirtual 76, 3) := by decide +kernel
theorem dX6_readAll_32 : decode cX6_readAll 32 = .ok (.istore_n 2, 1) := by decide +kernel
theorem dX6_readAll_33 : decode cX6_readAll 33 = .ok (.aload_n 0, 1) := by decide +kernel
theorem dX6_readAll_34 : decode cX6_readAll 34 = .ok (.getfield 13, 3) := by decide +kernel
theorem dX6_readAll_37 : decode cX6_readAll 37 = .ok (.bipush (-2), 2) := by decide +kernel
theorem dX6_readAll_39 : decode cX6_readAll 39 = .ok (.invokevirtual 72, 3) := by decide +kernel
theorem dX6_readAll_42 : decode cX6_readAll 42 = .ok (.iinc 3 1, 3) := by decide +kernel
theorem dX6_readAll_45 : decode cX6_readAll 45 = .ok (.goto (-37), 3) := by decide +kernel
theorem dX6_readAll_48 : decode cX6_readAll 48 = .ok (.iload_n 2, 1) := by decide +kernel
theorem dX6_readAll_49 : decode cX6_readAll 49 = .ok (.ireturn, 1) := by decide +kernel
theorem dX6_readOne_0 : decode cX6_readOne 0 = .ok (.iload_n 1, 1) := by decide +kernel
theorem dX6_readOne_1 : decode cX6_readOne 1 = .ok (.istore_n 2, 1) := by decide +kernel
theorem dX6_readOne_2 : decode cX6_readOne 2 = .ok (.iload_n 2, 1) := by decide +kernel
theorem dX6_readOne_3 : decode cX6_readOne 3 = .ok (.iconst 5, 1) := by decide +kernel
theorem dX6_readOne_4 : decode cX6_readOne 4 = .ok (.if_icmp .ge 18, 3) := by decide +kernel
theorem dX6_readOne_7 : decode cX6_readOne 7 = .ok (.aload_n 0, 1) := by decide +kernel
theorem dX6_readOne_8 : decode cX6_readOne 8 = .ok (.bipush 33, 2) := by decide +kernel
theorem dX6_readOne_10 : decode cX6_readOne 10 = .ok (.invokevirtual 53, 3) := by decide +kernel
theorem dX6_readOne_13 : decode cX6_readOne 13 = .ok (.ifCond .eq 9, 3) := by decide +kernel
theorem dX6_readOne_16 : decode cX6_readOne 16 = .ok (.iinc 2 1, 3) := by decide +kernel
theorem dX6_readOne_19 : decode cX6_readOne 19 = .ok (.goto (-17), 3) := by decide +kernel
theorem dX6_readOne_22 : decode cX6_readOne 22 = .ok (.iload_n 2, 1) := by decide +kernel
theorem dX6_readOne_23 : decode cX6_readOne 23 = .ok (.iconst 5, 1) := by decide +kernel
theorem dX6_readOne_24 : decode cX6_readOne 24 = .ok (.if_icmp .ge 40, 3) := by decide +kernel
theorem dX6_readOne_27 : decode cX6_readOne 27 = .ok (.aload_n 0, 1) := by decide +kernel
theorem dX6_readOne_28 : decode cX6_readOne 28 = .ok (.bipush 40, 2) := by decide +kernel
theorem dX6_readOne_30 : decode cX6_readOne 30 = .ok (.invokevirtual 53, 3) := by decide +kernel
theorem dX6_readOne_33 : decode cX6_readOne 33 = .ok (.ifCond .eq 31, 3) := by decide +kernel
theorem dX6_readOne_36 : decode cX6_readOne 36 = .ok (.aload_n 0, 1) := by decide +kernel
theorem dX6_readOne_37 : decode cX6_readOne 37 = .ok (.iload_n 2, 1) := by decide +kernel
theorem dX6_readOne_38 : decode cX6_readOne 38 = .ok (.iconst 1, 1) := by decide +kernel
theorem dX6_readOne_39 : decode cX6_readOne 39 = .ok (.iadd, 1) := by decide +kernel
theorem dX6_readOne_40 : decode cX6_readOne 40 = .ok (.invokevirtual 61, 3) := by decide +kernel
theorem dX6_readOne_43 : decode cX6_readOne 43 = .ok (.ifCond .eq 16, 3) := by decide +kernel
theorem dX6_readOne_46 : decode cX6_readOne 46 = .ok (.aload_n 0, 1) := by decide +kernel
theorem dX6_readOne_47 : decode cX6_readOne 47 = .ok (.bipush 41, 2) := by decide +kernel
theorem dX6_readOne_49 : decode cX6_readOne 49 = .ok (.invokevirtual 53, 3) := by decide +kernel
theorem dX6_readOne_52 : decode cX6_readOne 52 = .ok (.ifCond .eq 7, 3) := by decide +kernel
theorem dX6_readOne_55 : decode cX6_readOne 55 = .ok (.iconst 1, 1) := by decide +kernel
theorem dX6_readOne_56 : decode cX6_readOne 56 = .ok (.goto 4, 3) := by decide +kernel
theorem dX6_readOne_59 : decode cX6_readOne 59 = .ok (.iconst 0, 1) := by decide +kernel
theorem dX6_readOne_60 : decode cX6_readOne 60 = .ok (.istore_n 3, 1) := by decide +kernel
theorem dX6_readOne_61 : decode cX6_readOne 61 = .ok (.goto 8, 3) := by decide +kernel
theorem dX6_readOne_64 : decode cX6_readOne 64 = .ok (.aload_n 0, 1) := by decide +kernel
theorem dX6_readOne_65 : decode cX6_readOne 65 = .ok (.invokevirtual 79, 3) := by decide +kernel
theorem dX6_readOne_68 : decode cX6_readOne 68 = .ok (.istore_n 3, 1) := by decide +kernel
theorem dX6_readOne_69 : decode cX6_readOne 69 = .ok (.iload_n 2, 1) := by decide +kernel
theorem dX6_readOne_70 : decode cX6_readOne 70 = .ok (.iload_n 1, 1) := by decide +kernel
theorem dX6_readOne_71 : decode cX6_readOne 71 = .ok (.isub, 1) := by decide +kernel
theorem dX6_readOne_72 : decode cX6_readOne 72 = .ok (.iconst 2, 1) := by decide +kernel
theorem dX6_readOne_73 : decode cX6_readOne 73 = .ok (.irem, 1) := by decide +kernel
theorem dX6_readOne_74 : decode cX6_readOne 74 = .ok (.iconst 1, 1) := by decide +kernel
theorem dX6_readOne_75 : decode cX6_readOne 75 = .ok (.if_icmp .ne 11, 3) := by decide +kernel
theorem dX6_readOne_78 : decode cX6_readOne 78 = .ok (.aload_n 0, 1) := by decide +kernel
theorem dX6_readOne_79 : decode cX6_readOne 79 = .ok (.getfield 13, 3) := by decide +kernel
theorem dX6_readOne_82 : decode cX6_readOne 82 = .ok (.iconst (-1), 1) := by decide +kernel
theorem dX6_readOne_83 : decode cX6_readOne 83 = .ok (.invokevirtual 72, 3) := by decide +kernel
theorem dX6_readOne_86 : decode cX6_readOne 86 = .ok (.iload_n 3, 1) := by decide +kernel
theorem dX6_readOne_87 : decode cX6_readOne 87 = .ok (.ireturn, 1) := by decide +kernel
theorem dX6_readTest_0 : decode cX6_readTest 0 = .ok (.aload_n 0, 1) := by decide +kernel
theorem dX6_readTest_1 : decode cX6_readTest 1 = .ok (.ldc 82, 2) := by decide +kernel
theorem dX6_readTest_3 : decode cX6_readTest 3 = .ok (.invokevirtual 41, 3) := by decide +kernel
theorem dX6_readTest_6 : decode cX6_readTest 6 = .ok (.istore_n 1, 1) := by decide +kernel
theorem dX6_readTest_7 : decode cX6_readTest 7 = .ok (.iload_n 1, 1) := by decide +kernel
theorem dX6_readTest_8 : decode cX6_readTest 8 = .ok (.ifCond .ge 5, 3) := by decide +kernel
theorem dX6_readTest_11 : decode cX6_readTest 11 = .ok (.iconst 0, 1) := by decide +kernel
theorem dX6_readTest_12 : decode cX6_readTest 12 = .ok (.ireturn, 1) := by decide +kernel
theorem dX6_readTest_13 : decode cX6_readTest 13 = .ok (.aload_n 0, 1) := by decide +kernel
theorem dX6_readTest_14 : decode cX6_readTest 14 = .ok (.dup, 1) := by decide +kernel
theorem dX6_readTest_15 : decode cX6_readTest 15 = .ok (.getfield 17, 3) := by decide +kernel
theorem dX6_readTest_18 : decode cX6_readTest 18 = .ok (.iconst 1, 1) := by decide +kernel
theorem dX6_readTest_19 : decode cX6_readTest 19 = .ok (.iadd, 1) := by decide +kernel
theorem dX6_readTest_20 : decode cX6_readTest 20 = .ok (.putfield 17, 3) := by decide +kernel
theorem dX6_readTest_23 : decode cX6_readTest 23 = .ok (.aload_n 0, 1) := by decide +kernel
theorem dX6_readTest_24 : decode cX6_readTest 24 = .ok (.ldc 84, 2) := by decide +kernel
theorem dX6_readTest_26 : decode cX6_readTest 26 = .ok (.invokevirtual 41, 3) := by decide +kernel
theorem dX6_readTest_29 : decode cX6_readTest 29 = .ok (.istore_n 2, 1) := by decide +kernel
theorem dX6_readTest_30 : decode cX6_readTest 30 = .ok (.iload_n 2, 1) := by decide +kernel
theorem dX6_readTest_31 : decode cX6_readTest 31 = .ok (.ifCond .ge 5, 3) := by decide +kernel
theorem dX6_readTest_34 : decode cX6_readTest 34 = .ok (.iconst 0, 1) := by decide +kernel
theorem dX6_readTest_35 : decode cX6_readTest 35 = .ok (.ireturn, 1) := by decide +kernel
theorem dX6_readTest_36 : decode cX6_readTest 36 = .ok (.aload_n 0, 1) := by decide +kernel
theorem dX6_readTest_37 : decode cX6_readTest 37 = .ok (.dup, 1) := by decide +kernel
theorem dX6_readTest_38 : decode cX6_readTest 38 = .ok (.getfield 17, 3) := by decide +kernel
theorem dX6_readTest_41 : decode cX6_readTest 41 = .ok (.iconst 1, 1) := by decide +kernel
theorem dX6_readTest_42 : decode cX6_readTest 42 = .ok (.iadd, 1) := by decide +kernel
theorem dX6_readTest_43 : decode cX6_readTest 43 = .ok (.putfield 17, 3) := by decide +kernel
theorem dX6_readTest_46 : decode cX6_readTest 46 = .ok (.aload_n 0, 1) := by decide +kernel
theorem dX6_readTest_47 : decode cX6_readTest 47 = .ok (.invokevirtual 57, 3) := by decide +kernel
theorem dX6_readTest_50 : decode cX6_readTest 50 = .ok (.istore_n 3, 1) := by decide +kernel
theorem dX6_readTest_51 : decode cX6_readTest 51 = .ok (.iload_n 3, 1) := by decide +kernel
theorem dX6_readTest_52 : decode cX6_readTest 52 = .ok (.ifCond .ge 5, 3) := by decide +kernel
theorem dX6_readTest_55 : decode cX6_readTest 55 = .ok (.iconst 0, 1) := by decide +kernel
theorem dX6_readTest_56 : decode cX6_readTest 56 = .ok (.ireturn, 1) := by decide +kernel
theorem dX6_readTest_57 : decode cX6_readTest 57 = .ok (.aload_n 0, 1) := by decide +kernel
theorem dX6_readTest_58 : decode cX6_readTest 58 = .ok (.getfield 13, 3) := by decide +kernel
theorem dX6_readTest_61 : decode cX6_readTest 61 = .ok (.iload_n 1, 1) := by decide +kernel
theorem dX6_readTest_62 : decode cX6_readTest 62 = .ok (.ldc 84, 2) := by decide +kernel
theorem dX6_readTest_64 : decode cX6_readTest 64 = .ok (.invokevirtual 86, 3) := by decide +kernel
theorem dX6_readTest_67 : decode cX6_readTest 67 = .ok (.imul, 1) := by decide +kernel
theorem dX6_readTest_68 : decode cX6_readTest 68 = .ok (.iload_n 2, 1) := by decide +kernel
theorem dX6_readTest_69 : decode cX6_readTest 69 = .ok (.iadd, 1) := by decide +kernel
theorem dX6_readTest_70 : decode cX6_readTest 70 = .ok (.bipush 100, 2) := by decide +kernel
theorem dX6_readTest_72 : decode cX6_readTest 72 = .ok (.imul, 1) := by decide +kernel
theorem dX6_readTest_73 : decode cX6_readTest 73 = .ok (.iload_n 3, 1) := by decide +kernel
theorem dX6_readTest_74 : decode cX6_readTest 74 = .ok (.iadd, 1) := by decide +kernel
theorem dX6_readTest_75 : decode cX6_readTest 75 = .ok (.invokevirtual 72, 3) := by decide +kernel
theorem dX6_readTest_78 : decode cX6_readTest 78 = .ok (.iconst 1, 1) := by decide +kernel
theorem dX6_readTest_79 : decode cX6_readTest 79 = .ok (.ireturn, 1) := by decide +kernel
theorem dX6_readNumber_0 : decode cX6_readNumber 0 = .ok (.aload_n 0, 1) := by decide +kernel
theorem dX6_readNumber_1 : decode cX6_readNumber 1 = .ok (.invokevirtual 89, 3) := by decide +kernel
theorem dX6_readNumber_4 : decode cX6_readNumber 4 = .ok (.istore_n 1, 1) := by decide +kernel
theorem dX6_readNumber_5 : decode cX6_readNumber 5 = .ok (.iload_n 1, 1) := by decide +kernel
theorem dX6_readNumber_6 : decode cX6_readNumber 6 = .ok (.ifCond .ge 5, 3) := by decide +kernel
theorem dX6_readNumber_9 : decode cX6_readNumber 9 = .ok (.iconst (-1), 1) := by decide +kernel
theorem dX6_readNumber_10 : decode cX6_readNumber 10 = .ok (.ireturn, 1) := by decide +kernel
theorem dX6_readNumber_11 : decode cX6_readNumber 11 = .ok (.aload_n 0, 1) := by decide +kernel
theorem dX6_readNumber_12 : decode cX6_readNumber 12 = .ok (.dup, 1) := by decide +kernel
theorem dX6_readNumber_13 : decode cX6_readNumber 13 = .ok (.getfield 17, 3) := by decide +kernel
theorem dX6_readNumber_16 : decode cX6_readNumber 16 = .ok (.iconst 1, 1) := by decide +kernel
theorem dX6_readNumber_17 : decode cX6_readNumber 17 = .ok (.iadd, 1) := by decide +kernel
theorem dX6_readNumber_18 : decode cX6_readNumber 18 = .ok (.putfield 17, 3) := by decide +kernel
theorem dX6_readNumber_21 : decode cX6_readNumber 21 = .ok (.iload_n 1, 1) := by decide +kernel
theorem dX6_readNumber_22 : decode cX6_readNumber 22 = .ok (.ifCond .ne 7, 3) := by decide +kernel
theorem dX6_readNumber_25 : decode cX6_readNumber 25 = .ok (.iconst (-1), 1) := by decide +kernel
theorem dX6_readNumber_26 : decode cX6_readNumber 26 = .ok (.goto 7, 3) := by decide +kernel
theorem dX6_readNumber_29 : decode cX6_readNumber 29 = .ok (.aload_n 0, 1) := by decide +kernel
theorem dX6_readNumber_30 : decode cX6_readNumber 30 = .ok (.invokevirtual 89, 3) := by decide +kernel
theorem dX6_readNumber_33 : decode cX6_readNumber 33 = .ok (.istore_n 2, 1) := by decide +kernel
theorem dX6_readNumber_34 : decode cX6_readNumber 34 = .ok (.iload_n 2, 1) := by decide +kernel
theorem dX6_readNumber_35 : decode cX6_readNumber 35 = .ok (.ifCond .ge 5, 3) := by decide +kernel
theorem dX6_readNumber_38 : decode cX6_readNumber 38 = .ok (.iload_n 1, 1) := by decide +kernel
theorem dX6_readNumber_39 : decode cX6_readNumber 39 = .ok (.ireturn, 1) := by decide +kernel
theorem dX6_readNumber_40 : decode cX6_readNumber 40 = .ok (.aload_n 0, 1) := by decide +kernel
theorem dX6_readNumber_41 : decode cX6_readNumber 41 = .ok (.dup, 1) := by decide +kernel
theorem dX6_readNumber_42 : decode cX6_readNumber 42 = .ok (.getfield 17, 3) := by decide +kernel
theorem dX6_readNumber_45 : decode cX6_readNumber 45 = .ok (.iconst 1, 1) := by decide +kernel
theorem dX6_readNumber_46 : decode cX6_readNumber 46 = .ok (.iadd, 1) := by decide +kernel
theorem dX6_readNumber_47 : decode cX6_readNumber 47 = .ok (.putfield 17, 3) := by decide +kernel
theorem dX6_readNumber_50 : decode cX6_readNumber 50 = .ok (.iload_n 1, 1) := by decide +kernel
theorem dX6_readNumber_51 : decode cX6_readNumber 51 = .ok (.bipush 10, 2) := by decide +kernel
theorem dX6_readNumber_53 : decode cX6_readNumber 53 = .ok (.imul, 1) := by decide +kernel
theorem dX6_readNumber_54 : decode cX6_readNumber 54 = .ok (.iload_n 2, 1) := by decide +kernel
theorem dX6_readNumber_55 : decode cX6_readNumber 55 = .ok (.iadd, 1) := by decide +kernel
theorem dX6_readNumber_56 : decode cX6_readNumber 56 = .ok (.ireturn, 1) := by decide +kernel
theorem dX6_digit_0 : decode cX6_digit 0 = .ok (.aload_n 0, 1) := by decide +kernel
theorem dX6_digit_1 : decode cX6_digit 1 = .ok (.getfield 7, 3) := by decide +kernel
theorem dX6_digit_4 : decode cX6_digit 4 = .ok (.aload_n 0, 1) := by decide +kernel
theorem dX6_digit_5 : decode cX6_digit 5 = .ok (.getfield 17, 3) := by decide +kernel
theorem dX6_digit_8 : decode cX6_digit 8 = .ok (.invokevirtual 30, 3) := by decide +kernel
theorem dX6_digit_11 : decode cX6_digit 11 = .ok (.istore_n 1, 1) := by decide +kernel
theorem dX6_digit_12 : decode cX6_digit 12 = .ok (.iload_n 1, 1) := by decide +kernel
theorem dX6_digit_13 : decode cX6_digit 13 = .ok (.bipush 48, 2) := by decide +kernel
theorem dX6_digit_15 : decode cX6_digit 15 = .ok (.if_icmp .lt 16, 3) := by decide +kernel
theorem dX6_digit_18 : decode cX6_digit 18 = .ok (.iload_n 1, 1) := by decide +kernel
theorem dX6_digit_19 : decode cX6_digit 19 = .ok (.bipush 57, 2) := by decide +kernel
theorem dX6_digit_21 : decode cX6_digit 21 = .ok (.if_icmp .gt 10, 3) := by decide +kernel
theorem dX6_digit_24 : decode cX6_digit 24 = .ok (.iload_n 1, 1) := by decide +kernel
theorem dX6_digit_25 : decode cX6_digit 25 = .ok (.bipush 48, 2) := by decide +kernel
theorem dX6_digit_27 : decode cX6_digit 27 = .ok (.isub, 1) := by decide +kernel
theorem dX6_digit_28 : decode cX6_digit 28 = .ok (.goto 4, 3) := by decide +kernel
theorem dX6_digit_31 : decode cX6_digit 31 = .ok (.iconst (-1), 1) := by decide +kernel
theorem dX6_digit_32 : decode cX6_digit 32 = .ok (.ireturn, 1) := by decide +kernel
theorem dX6_pass_0 : decode cX6_pass 0 = .ok (.aload_n 0, 1) := by decide +kernel
theorem dX6_pass_1 : decode cX6_pass 1 = .ok (.getfield 7, 3) := by decide +kernel
theorem dX6_pass_4 : decode cX6_pass 4 = .ok (.aload_n 0, 1) := by decide +kernel
theorem dX6_pass_5 : decode cX6_pass 5 = .ok (.getfield 17, 3) := by decide +kernel
theorem dX6_pass_8 : decode cX6_pass 8 = .ok (.invokevirtual 30, 3) := by decide +kernel
theorem dX6_pass_11 : decode cX6_pass 11 = .ok (.iload_n 1, 1) := by decide +kernel
theorem dX6_pass_12 : decode cX6_pass 12 = .ok (.if_icmp .ne 7, 3) := by decide +kernel
theorem dX6_pass_15 : decode cX6_pass 15 = .ok (.iconst 1, 1) := by decide +kernel
theorem dX6_pass_16 : decode cX6_pass 16 = .ok (.goto 4, 3) := by decide +kernel
theorem dX6_pass_19 : decode cX6_pass 19 = .ok (.iconst 0, 1) := by decide +kernel
theorem dX6_pass_20 : decode cX6_pass 20 = .ok (.istore_n 2, 1) := by decide +kernel
theorem dX6_pass_21 : decode cX6_pass 21 = .ok (.iload_n 2, 1) := by decide +kernel
theorem dX6_pass_22 : decode cX6_pass 22 = .ok (.ifCond .eq 13, 3) := by decide +kernel
theorem dX6_pass_25 : decode cX6_pass 25 = .ok (.aload_n 0, 1) := by decide +kernel
theorem dX6_pass_26 : decode cX6_pass 26 = .ok (.dup, 1) := by decide +kernel
theorem dX6_pass_27 : decode cX6_pass 27 = .ok (.getfield 17, 3) := by decide +kernel
theorem dX6_pass_30 : decode cX6_pass 30 = .ok (.iconst 1, 1) := by decide +kernel
theorem dX6_pass_31 : decode cX6_pass 31 = .ok (.iadd, 1) := by decide +kernel
theorem dX6_pass_32 : decode cX6_pass 32 = .ok (.putfield 17, 3) := by decide +kernel
theorem dX6_pass_35 : decode cX6_pass 35 = .ok (.iload_n 2, 1) := by decide +kernel
theorem dX6_pass_36 : decode cX6_pass 36 = .ok (.ireturn, 1) := by decide +kernel
theorem dX6_placeIn_0 : decode cX6_placeIn 0 = .ok (.aload_n 0, 1) := by decide +kernel
theorem dX6_placeIn_1 : decode cX6_placeIn 1 = .ok (.getfield 7, 3) := by decide +kernel
theorem dX6_placeIn_4 : decode cX6_placeIn 4 = .ok (.aload_n 0, 1) := by decide +kernel
theorem dX6_placeIn_5 : decode cX6_placeIn 5 = .ok (.getfield 17, 3) := by decide +kernel
theorem dX6_placeIn_8 : decode cX6_placeIn 8 = .ok (.invokevirtual 30, 3) := by decide +kernel
theorem dX6_placeIn_11 : decode cX6_placeIn 11 = .ok (.istore_n 2, 1) := by decide +kernel
theorem dX6_placeIn_12 : decode cX6_placeIn 12 = .ok (.iload_n 2, 1) := by decide +kernel
theorem dX6_placeIn_13 : decode cX6_placeIn 13 = .ok (.ifCond .ge 7, 3) := by decide +kernel
theorem dX6_placeIn_16 : decode cX6_placeIn 16 = .ok (.iconst (-1), 1) := by decide +kernel
theorem dX6_placeIn_17 : decode cX6_placeIn 17 = .ok (.goto 9, 3) := by decide +kernel
theorem dX6_placeIn_20 : decode cX6_placeIn 20 = .ok (.aload_n 1, 1) := by decide +kernel
theorem dX6_placeIn_21 : decode cX6_placeIn 21 = .ok (.iload_n 2, 1) := by decide +kernel
theorem dX6_placeIn_22 : decode cX6_placeIn 22 = .ok (.i2c, 1) := by decide +kernel
theorem dX6_placeIn_23 : decode cX6_placeIn 23 = .ok (.invokevirtual 92, 3) := by decide +kernel
theorem dX6_placeIn_26 : decode cX6_placeIn 26 = .ok (.ireturn, 1) := by decide +kernel
theorem dX7_init_0 : decode cX7_init 0 = .ok (.aload_n 0, 1) := by decide +kernel
theorem dX7_init_1 : decode cX7_init 1 = .ok (.invokespecial 3, 3) := by decide +kernel
theorem dX7_init_4 : decode cX7_init 4 = .ok (.aload_n 0, 1) := by decide +kernel
theorem dX7_init_5 : decode cX7_init 5 = .ok (.bipush 10, 2) := by decide +kernel
theorem dX7_init_7 : decode cX7_init 7 = .ok (.newarray .int, 2) := by decide +kernel
theorem dX7_init_9 : decode cX7_init 9 = .ok (.putfield 11, 3) := by decide +kernel
theorem dX7_init_12 : decode cX7_init 12 = .ok (.aload_n 0, 1) := by decide +kernel
theorem dX7_init_13 : decode cX7_init 13 = .ok (.bipush 10, 2) := by decide +kernel
theorem dX7_init_15 : decode cX7_init 15 = .ok (.newarray .int, 2) := by decide +kernel
theorem dX7_init_17 : decode cX7_init 17 = .ok (.putfield 15, 3) := by decide +kernel
theorem dX7_init_20 : decode cX7_init 20 = .ok (.aload_n 0, 1) := by decide +kernel
theorem dX7_init_21 : decode cX7_init 21 = .ok (.bipush 10, 2) := by decide +kernel
theorem dX7_init_23 : decode cX7_init 23 = .ok (.newarray .int, 2) := by decide +kernel
theorem dX7_init_25 : decode cX7_init 25 = .ok (.putfield 18, 3) := by decide +kernel
theorem dX7_init_28 : decode cX7_init 28 = .ok (.aload_n 0, 1) := by decide +kernel
theorem dX7_init_29 : decode cX7_init 29 = .ok (.bipush 100, 2) := by decide +kernel
theorem dX7_init_31 : decode cX7_init 31 = .ok (.newarray .int, 2) := by decide +kernel
theorem dX7_init_33 : decode cX7_init 33 = .ok (.putfield 21, 3) := by decide +kernel
theorem dX7_init_36 : decode cX7_init 36 = .ok (.return_, 1) := by decide +kernel
theorem dX7_append_0 : decode cX7_append 0 = .ok (.aload_n 0, 1) := by decide +kernel
theorem dX7_append_1 : decode cX7_append 1 = .ok (.getfield 24, 3) := by decide +kernel
theorem dX7_append_4 : decode cX7_append 4 = .ok (.bipush 10, 2) := by decide +kernel
theorem dX7_append_6 : decode cX7_append 6 = .ok (.if_icmp .lt 6, 3) := by decide +kernel
theorem dX7_append_9 : decode cX7_append 9 = .ok (.bipush (-4), 2) := by decide +kernel
theorem dX7_append_11 : decode cX7_append 11 = .ok (.ireturn, 1) := by decide +kernel
theorem dX7_append_12 : decode cX7_append 12 = .ok (.aload_n 0, 1) := by decide +kernel
theorem dX7_append_13 : decode cX7_append 13 = .ok (.getfield 11, 3) := by decide +kernel
theorem dX7_append_16 : decode cX7_append 16 = .ok (.aload_n 0, 1) := by decide +kernel
theorem dX7_append_17 : decode cX7_append 17 = .ok (.getfield 24, 3) := by decide +kernel
theorem dX7_append_20 : decode cX7_append 20 = .ok (.iload_n 1, 1) := by decide +kernel
theorem dX7_append_21 : decode cX7_append 21 = .ok (.iastore, 1) := by decide +kernel
theorem dX7_append_22 : decode cX7_append 22 = .ok (.aload_n 0, 1) := by decide +kernel
theorem dX7_append_23 : decode cX7_append 23 = .ok (.getfield 15, 3) := by decide +kernel
theorem dX7_append_26 : decode cX7_append 26 = .ok (.aload_n 0, 1) := by decide +kernel
theorem dX7_append_27 : decode cX7_append 27 = .ok (.getfield 24, 3) := by decide +kernel
theorem dX7_append_30 : decode cX7_append 30 = .ok (.iload_n 2, 1) := by decide +kernel
theorem dX7_append_31 : decode cX7_append 31 = .ok (.iastore, 1) := by decide +kernel
theorem dX7_append_32 : decode cX7_append 32 = .ok (.aload_n 0, 1) := by decide +kernel
theorem dX7_append_33 : decode cX7_append 33 = .ok (.getfield 18, 3) := by decide +kernel
theorem dX7_append_36 : decode cX7_append 36 = .ok (.aload_n 0, 1) := by decide +kernel
theorem dX7_append_37 : decode cX7_append 37 = .ok (.getfield 24, 3) := by decide +kernel
theorem dX7_append_40 : decode cX7_append 40 = .ok (.iconst 0, 1) := by decide +kernel
theorem dX7_append_41 : decode cX7_append 41 = .ok (.iastore, 1) := by decide +kernel
theorem dX7_append_42 : decode cX7_append 42 = .ok (.aload_n 0, 1) := by decide +kernel
theorem dX7_append_43 : decode cX7_append 43 = .ok (.dup, 1) := by decide +kernel
theorem dX7_append_44 : decode cX7_append 44 = .ok (.getfield 24, 3) := by decide +kernel
theorem dX7_append_47 : decode cX7_append 47 = .ok (.iconst 1, 1) := by decide +kernel
theorem dX7_append_48 : decode cX7_append 48 = .ok (.iadd, 1) := by decide +kernel
theorem dX7_append_49 : decode cX7_append 49 = .ok (.putfield 24, 3) := by decide +kernel
theorem dX7_append_52 : decode cX7_append 52 = .ok (.aload_n 0, 1) := by decide +kernel
theorem dX7_append_53 : decode cX7_append 53 = .ok (.getfield 24, 3) := by decide +kernel
theorem dX7_append_56 : decode cX7_append 56 = .ok (.iconst 1, 1) := by decide +kernel
theorem dX7_append_57 : decode cX7_append 57 = .ok (.isub, 1) := by decide +kernel
theorem dX7_append_58 : decode cX7_append 58 = .ok (.ireturn, 1) := by decide +kernel
theorem dX7_appendToRow_0 : decode cX7_appendToRow 0 = .ok (.aload_n 0, 1) := by decide +kernel
theorem dX7_appendToRow_1 : decode cX7_appendToRow 1 = .ok (.getfield 18, 3) := by decide +kernel
theorem dX7_appendToRow_4 : decode cX7_appendToRow 4 = .ok (.iload_n 1, 1) := by decide +kernel
theorem dX7_appendToRow_5 : decode cX7_appendToRow 5 = .ok (.iaload, 1) := by decide +kernel
theorem dX7_appendToRow_6 : decode cX7_appendToRow 6 = .ok (.istore_n 3, 1) := by decide +kernel
theorem dX7_appendToRow_7 : decode cX7_appendToRow 7 = .ok (.iload_n 3, 1) := by decide +kernel
theorem dX7_appendToRow_8 : decode cX7_appendToRow 8 = .ok (.ifCond .lt 9, 3) := by decide +kernel
theorem dX7_appendToRow_11 : decode cX7_appendToRow 11 = .ok (.iload_n 3, 1) := by decide +kernel
theorem dX7_appendToRow_12 : decode cX7_appendToRow 12 = .ok (.bipush 10, 2) := by decide +kernel
theorem dX7_appendToRow_14 : decode cX7_appendToRow 14 = .ok (.if_icmp .lt 6, 3) := by decide +kernel
theorem dX7_appendToRow_17 : decode cX7_appendToRow 17 = .ok (.bipush (-4), 2) := by decide +kernel
theorem dX7_appendToRow_19 : decode cX7_appendToRow 19 = .ok (.ireturn, 1) := by decide +kernel
theorem dX7_appendToRow_20 : decode cX7_appendToRow 20 = .ok (.aload_n 0, 1) := by decide +kernel
theorem dX7_appendToRow_21 : decode cX7_appendToRow 21 = .ok (.getfield 21, 3) := by decide +kernel
theorem dX7_appendToRow_24 : decode cX7_appendToRow 24 = .ok (.iload_n 1, 1) := by decide +kernel
theorem dX7_appendToRow_25 : decode cX7_appendToRow 25 = .ok (.bipush 10, 2) := by decide +kernel
theorem dX7_appendToRow_27 : decode cX7_appendToRow 27 = .ok (.imul, 1) := by decide +kernel
theorem dX7_appendToRow_28 : decode cX7_appendToRow 28 = .ok (.iload_n 3, 1) := by decide +kernel
theorem dX7_appendToRow_29 : decode cX7_appendToRow 29 = .ok (.iadd, 1) := by decide +kernel
theorem dX7_appendToRow_30 : decode cX7_appendToRow 30 = .ok (.iload_n 2, 1) := by decide +kernel
theorem dX7_appendToRow_31 : decode cX7_appendToRow 31 = .ok (.iastore, 1) := by decide +kernel
theorem dX7_appendToRow_32 : decode cX7_appendToRow 32 = .ok (.aload_n 0, 1) := by decide +kernel
theorem dX7_appendToRow_33 : decode cX7_appendToRow 33 = .ok (.getfield 18, 3) := by decide +kernel
theorem dX7_appendToRow_36 : decode cX7_appendToRow 36 = .ok (.iload_n 1, 1) := by decide +kernel
theorem dX7_appendToRow_37 : decode cX7_appendToRow 37 = .ok (.iload_n 3, 1) := by decide +kernel
theorem dX7_appendToRow_38 : decode cX7_appendToRow 38 = .ok (.iconst 1, 1) := by decide +kernel
theorem dX7_appendToRow_39 : decode cX7_appendToRow 39 = .ok (.iadd, 1) := by decide +kernel
theorem dX7_appendToRow_40 : decode cX7_appendToRow 40 = .ok (.iastore, 1) := by decide +kernel
theorem dX7_appendToRow_41 : decode cX7_appendToRow 41 = .ok (.iload_n 3, 1) := by decide +kernel
theorem dX7_appendToRow_42 : decode cX7_appendToRow 42 = .ok (.iconst 1, 1) := by decide +kernel
theorem dX7_appendToRow_43 : decode cX7_appendToRow 43 = .ok (.iadd, 1) := by decide +kernel
theorem dX7_appendToRow_44 : decode cX7_appendToRow 44 = .ok (.ireturn, 1) := by decide +kernel
theorem dX7_told_0 : decode cX7_told 0 = .ok (.aload_n 0, 1) := by decide +kernel
theorem dX7_told_1 : decode cX7_told 1 = .ok (.getfield 18, 3) := by decide +kernel
theorem dX7_told_4 : decode cX7_told 4 = .ok (.iload_n 1, 1) := by decide +kernel
theorem dX7_told_5 : decode cX7_told 5 = .ok (.iaload, 1) := by decide +kernel
theorem dX7_told_6 : decode cX7_told 6 = .ok (.istore_n 3, 1) := by decide +kernel
theorem dX7_told_7 : decode cX7_told 7 = .ok (.iload_n 3, 1) := by decide +kernel
theorem dX7_told_8 : decode cX7_told 8 = .ok (.ifCond .le 7, 3) := by decide +kernel
theorem dX7_told_11 : decode cX7_told 11 = .ok (.iload_n 2, 1) := by decide +kernel
theorem dX7_told_12 : decode cX7_told 12 = .ok (.ifCond .ge 12, 3) := by decide +kernel
theorem dX7_told_15 : decode cX7_told 15 = .ok (.aload_n 0, 1) := by decide +kernel
theorem dX7_told_16 : decode cX7_told 16 = .ok (.getfield 15, 3) := by decide +kernel
theorem dX7_told_19 : decode cX7_told 19 = .ok (.iload_n 1, 1) := by decide +kernel
theorem dX7_told_20 : decode cX7_told 20 = .ok (.iaload, 1) := by decide +kernel
theorem dX7_told_21 : decode cX7_told 21 = .ok (.goto 16, 3) := by decide +kernel
theorem dX7_told_24 : decode cX7_told 24 = .ok (.aload_n 0, 1) := by decide +kernel
theorem dX7_told_25 : decode cX7_told 25 = .ok (.getfield 21, 3) := by decide +kernel
theorem dX7_told_28 : decode cX7_told 28 = .ok (.iload_n 1, 1) := by decide +kernel
theorem dX7_told_29 : decode cX7_told 29 = .ok (.bipush 10, 2) := by decide +kernel
theorem dX7_told_31 : decode cX7_told 31 = .ok (.imul, 1) := by decide +kernel
theorem dX7_told_32 : decode cX7_told 32 = .ok (.iload_n 2, 1) := by decide +kernel
theorem dX7_told_33 : decode cX7_told 33 = .ok (.iload_n 3, 1) := by decide +kernel
theorem dX7_told_34 : decode cX7_told 34 = .ok (.irem, 1) := by decide +kernel
theorem dX7_told_35 : decode cX7_told 35 = .ok (.iadd, 1) := by decide +kernel
theorem dX7_told_36 : decode cX7_told 36 = .ok (.iaload, 1) := by decide +kernel
theorem dX7_told_37 : decode cX7_told 37 = .ok (.ireturn, 1) := by decide +kernel
theorem dX7_above_0 : decode cX7_above 0 = .ok (.iload_n 0, 1) := by decide +kernel
theorem dX7_above_1 : decode cX7_above 1 = .ok (.ifCond .lt 17, 3) := by decide +kernel
theorem dX7_above_4 : decode cX7_above 4 = .ok (.iload_n 0, 1) := by decide +kernel
theorem dX7_above_5 : decode cX7_above 5 = .ok (.bipush 7, 2) := by decide +kernel
theorem dX7_above_7 : decode cX7_above 7 = .ok (.if_icmp .ge 11, 3) := by decide +kernel
theorem dX7_above_10 : decode cX7_above 10 = .ok (.getstatic 28, 3) := by decide +kernel
theorem dX7_above_13 : decode cX7_above 13 = .ok (.iload_n 0, 1) := by decide +kernel
theorem dX7_above_14 : decode cX7_above 14 = .ok (.iaload, 1) := by decide +kernel
theorem dX7_above_15 : decode cX7_above 15 = .ok (.goto 4, 3) := by decide +kernel
theorem dX7_above_18 : decode cX7_above 18 = .ok (.iconst (-1), 1) := by decide +kernel
theorem dX7_above_19 : decode cX7_above 19 = .ok (.ireturn, 1) := by decide +kernel
theorem dX7_isUnder_0 : decode cX7_isUnder 0 = .ok (.iload_n 0, 1) := by decide +kernel
theorem dX7_isUnder_1 : decode cX7_isUnder 1 = .ok (.istore_n 2, 1) := by decide +kernel
theorem dX7_isUnder_2 : decode cX7_isUnder 2 = .ok (.iconst 0, 1) := by decide +kernel
theorem dX7_isUnder_3 : decode cX7_isUnder 3 = .ok (.istore_n 3, 1) := by decide +kernel
theorem dX7_isUnder_4 : decode cX7_isUnder 4 = .ok (.iload_n 3, 1) := by decide +kernel
theorem dX7_isUnder_5 : decode cX7_isUnder 5 = .ok (.bipush 7, 2) := by decide +kernel
theorem dX7_isUnder_7 : decode cX7_isUnder 7 = .ok (.if_icmp .ge 25, 3) := by decide +kernel
theorem dX7_isUnder_10 : decode cX7_isUnder 10 = .ok (.iload_n 2, 1) := by decide +kernel
theorem dX7_isUnder_11 : decode cX7_isUnder 11 = .ok (.ifCond .lt 21, 3) := by decide +kernel
theorem dX7_isUnder_14 : decode cX7_isUnder 14 = .ok (.iload_n 2, 1) := by decide +kernel
theorem dX7_isUnder_15 : decode cX7_isUnder 15 = .ok (.iload_n 1, 1) := by decide +kernel
theorem dX7_isUnder_16 : decode cX7_isUnder 16 = .ok (.if_icmp .ne 5, 3) := by decide +kernel
theorem dX7_isUnder_19 : decode cX7_isUnder 19 = .ok (.iconst 1, 1) := by decide +kernel
theorem dX7_isUnder_20 : decode cX7_isUnder 20 = .ok (.ireturn, 1) := by decide +kernel
theorem dX7_isUnder_21 : decode cX7_isUnder 21 = .ok (.iload_n 2, 1) := by decide +kernel
theorem dX7_isUnder_22 : decode cX7_isUnder 22 = .ok (.invokestatic 31, 3) := by decide +kernel
theorem dX7_isUnder_25 : decode cX7_isUnder 25 = .ok (.istore_n 2, 1) := by decide +kernel
theorem dX7_isUnder_26 : decode cX7_isUnder 26 = .ok (.iinc 3 1, 3) := by decide +kernel
theorem dX7_isUnder_29 : decode cX7_isUnder 29 = .ok (.goto (-25), 3) := by decide +kernel
theorem dX7_isUnder_32 : decode cX7_isUnder 32 = .ok (.iconst 0, 1) := by decide +kernel
theorem dX7_isUnder_33 : decode cX7_isUnder 33 = .ok (.ireturn, 1) := by decide +kernel
theorem dX7_copyFrom_0 : decode cX7_copyFrom 0 = .ok (.aload_n 1, 1) := by decide +kernel
theorem dX7_copyFrom_1 : decode cX7_copyFrom 1 = .ok (.getfield 11, 3) := by decide +kernel
theorem dX7_copyFrom_4 : decode cX7_copyFrom 4 = .ok (.iconst 0, 1) := by decide +kernel
theorem dX7_copyFrom_5 : decode cX7_copyFrom 5 = .ok (.aload_n 0, 1) := by decide +kernel
theorem dX7_copyFrom_6 : decode cX7_copyFrom 6 = .ok (.getfield 11, 3) := by decide +kernel
theorem dX7_copyFrom_9 : decode cX7_copyFrom 9 = .ok (.iconst 0, 1) := by decide +kernel
theorem dX7_copyFrom_10 : decode cX7_copyFrom 10 = .ok (.bipush 10, 2) := by decide +kernel
theorem dX7_copyFrom_12 : decode cX7_copyFrom 12 = .ok (.invokestatic 35, 3) := by decide +kernel
theorem dX7_copyFrom_15 : decode cX7_copyFrom 15 = .ok (.aload_n 1, 1) := by decide +kernel
theorem dX7_copyFrom_16 : decode cX7_copyFrom 16 = .ok (.getfield 15, 3) := by decide +kernel
theorem dX7_copyFrom_19 : decode cX7_copyFrom 19 = .ok (.iconst 0, 1) := by decide +kernel
theorem dX7_copyFrom_20 : decode cX7_copyFrom 20 = .ok (.aload_n 0, 1) := by decide +kernel
theorem dX7_copyFrom_21 : decode cX7_copyFrom 21 = .ok (.getfield 15, 3) := by decide +kernel
theorem dX7_copyFrom_24 : decode cX7_copyFrom 24 = .ok (.iconst 0, 1) := by decide +kernel
theorem dX7_copyFrom_25 : decode cX7_copyFrom 25 = .ok (.bipush 10, 2) := by decide +kernel
theorem dX7_copyFrom_27 : decode cX7_copyFrom 27 = .ok (.invokestatic 35, 3) := by decide +kernel
theorem dX7_copyFrom_30 : decode cX7_copyFrom 30 = .ok (.aload_n 1, 1) := by decide +kernel
theorem dX7_copyFrom_31 : decode cX7_copyFrom 31 = .ok (.getfield 18, 3) := by decide +kernel
theorem dX7_copyFrom_34 : decode cX7_copyFrom 34 = .ok (.iconst 0, 1) := by decide +kernel
theorem dX7_copyFrom_35 : decode cX7_copyFrom 35 = .ok (.aload_n 0, 1) := by decide +kernel
theorem dX7_copyFrom_36 : decode cX7_copyFrom 36 = .ok (.getfield 18, 3) := by decide +kernel
theorem dX7_copyFrom_39 : decode cX7_copyFrom 39 = .ok (.iconst 0, 1) := by decide +kernel
theorem dX7_copyFrom_40 : decode cX7_copyFrom 40 = .ok (.bipush 10, 2) := by decide +kernel
theorem dX7_copyFrom_42 : decode cX7_copyFrom 42 = .ok (.invokestatic 35, 3) := by decide +kernel
theorem dX7_copyFrom_45 : decode cX7_copyFrom 45 = .ok (.aload_n 1, 1) := by decide +kernel
theorem dX7_copyFrom_46 : decode cX7_copyFrom 46 = .ok (.getfield 21, 3) := by decide +kernel
theorem dX7_copyFrom_49 : decode cX7_copyFrom 49 = .ok (.iconst 0, 1) := by decide +kernel
theorem dX7_copyFrom_50 : decode cX7_copyFrom 50 = .ok (.aload_n 0, 1) := by decide +kernel
theorem dX7_copyFrom_51 : decode cX7_copyFrom 51 = .ok (.getfield 21, 3) := by decide +kernel
theorem dX7_copyFrom_54 : decode cX7_copyFrom 54 = .ok (.iconst 0, 1) := by decide +kernel
theorem dX7_copyFrom_55 : decode cX7_copyFrom 55 = .ok (.aload_n 0, 1) := by decide +kernel
theorem dX7_copyFrom_56 : decode cX7_copyFrom 56 = .ok (.getfield 21, 3) := by decide +kernel
theorem dX7_copyFrom_59 : decode cX7_copyFrom 59 = .ok (.arraylength, 1) := by decide +kernel
theorem dX7_copyFrom_60 : decode cX7_copyFrom 60 = .ok (.invokestatic 35, 3) := by decide +kernel
theorem dX7_copyFrom_63 : decode cX7_copyFrom 63 = .ok (.aload_n 0, 1) := by decide +kernel
theorem dX7_copyFrom_64 : decode cX7_copyFrom 64 = .ok (.aload_n 1, 1) := by decide +kernel
theorem dX7_copyFrom_65 : decode cX7_copyFrom 65 = .ok (.getfield 24, 3) := by decide +kernel
theorem dX7_copyFrom_68 : decode cX7_copyFrom 68 = .ok (.putfield 24, 3) := by decide +kernel
theorem dX7_copyFrom_71 : decode cX7_copyFrom 71 = .ok (.return_, 1) := by decide +kernel
theorem dX8_init_0 : decode cX8_init 0 = .ok (.aload_n 0, 1) := by decide +kernel
theorem dX8_init_1 : decode cX8_init 1 = .ok (.invokespecial 1, 3) := by decide +kernel
theorem dX8_init_4 : decode cX8_init 4 = .ok (.aload_n 0, 1) := by decide +kernel
theorem dX8_init_5 : decode cX8_init 5 = .ok (.new 7, 3) := by decide +kernel
theorem dX8_init_8 : decode cX8_init 8 = .ok (.dup, 1) := by decide +kernel
theorem dX8_init_9 : decode cX8_init 9 = .ok (.invokespecial 9, 3) := by decide +kernel
theorem dX8_init_12 : decode cX8_init 12 = .ok (.putfield 10, 3) := by decide +kernel
theorem dX8_init_15 : decode cX8_init 15 = .ok (.aload_n 0, 1) := by decide +kernel
theorem dX8_init_16 : decode cX8_init 16 = .ok (.new 16, 3) := by decide +kernel
theorem dX8_init_19 : decode cX8_init 19 = .ok (.dup, 1) := by decide +kernel
theorem dX8_init_20 : decode cX8_init 20 = .ok (.invokespecial 18, 3) := by decide +kernel
theorem dX8_init_23 : decode cX8_init 23 = .ok (.putfield 19, 3) := by decide +kernel
theorem dX8_init_26 : decode cX8_init 26 = .ok (.aload_n 0, 1) := by decide +kernel
theorem dX8_init_27 : decode cX8_init 27 = .ok (.new 23, 3) := by decide +kernel
theorem dX8_init_30 : decode cX8_init 30 = .ok (.dup, 1) := by decide +kernel
theorem dX8_init_31 : decode cX8_init 31 = .ok (.invokespecial 25, 3) := by decide +kernel
theorem dX8_init_34 : decode cX8_init 34 = .ok (.putfield 26, 3) := by decide +kernel
theorem dX8_init_37 : decode cX8_init 37 = .ok (.aload_n 0, 1) := by decide +kernel
theorem dX8_init_38 : decode cX8_init 38 = .ok (.new 30, 3) := by decide +kernel
theorem dX8_init_41 : decode cX8_init 41 = .ok (.dup, 1) := by decide +kernel
theorem dX8_init_42 : decode cX8_init 42 = .ok (.invokespecial 32, 3) := by decide +kernel
theorem dX8_init_45 : decode cX8_init 45 = .ok (.putfield 33, 3) := by decide +kernel
theorem dX8_init_48 : decode cX8_init 48 = .ok (.aload_n 0, 1) := by decide +kernel
theorem dX8_init_49 : decode cX8_init 49 = .ok (.new 37, 3) := by decide +kernel
theorem dX8_init_52 : decode cX8_init 52 = .ok (.dup, 1) := by decide +kernel
theorem dX8_init_53 : decode cX8_init 53 = .ok (.invokespecial 39, 3) := by decide +kernel
theorem dX8_init_56 : decode cX8_init 56 = .ok (.putfield 40, 3) := by decide +kernel
theorem dX8_init_59 : decode cX8_init 59 = .ok (.aload_n 0, 1) := by decide +kernel
theorem dX8_init_60 : decode cX8_init 60 = .ok (.new 44, 3) := by decide +kernel
theorem dX8_init_63 : decode cX8_init 63 = .ok (.dup, 1) := by decide +kernel
theorem dX8_init_64 : decode cX8_init 64 = .ok (.invokespecial 46, 3) := by decide +kernel
theorem dX8_init_67 : decode cX8_init 67 = .ok (.putfield 47, 3) := by decide +kernel
theorem dX8_init_70 : decode cX8_init 70 = .ok (.return_, 1) := by decide +kernel
theorem dX8_copyFrom_0 : decode cX8_copyFrom 0 = .ok (.aload_n 0, 1) := by decide +kernel
theorem dX8_copyFrom_1 : decode cX8_copyFrom 1 = .ok (.aload_n 1, 1) := by decide +kernel
theorem dX8_copyFrom_2 : decode cX8_copyFrom 2 = .ok (.getfield 51, 3) := by decide +kernel
theorem dX8_copyFrom_5 : decode cX8_copyFrom 5 = .ok (.putfield 51, 3) := by decide +kernel
theorem dX8_copyFrom_8 : decode cX8_copyFrom 8 = .ok (.aload_n 0, 1) := by decide +kernel
theorem dX8_copyFrom_9 : decode cX8_copyFrom 9 = .ok (.getfield 10, 3) := by decide +kernel
theorem dX8_copyFrom_12 : decode cX8_copyFrom 12 = .ok (.aload_n 1, 1) := by decide +kernel
theorem dX8_copyFrom_13 : decode cX8_copyFrom 13 = .ok (.getfield 10, 3) := by decide +kernel
theorem dX8_copyFrom_16 : decode cX8_copyFrom 16 = .ok (.invokevirtual 55, 3) := by decide +kernel
theorem dX8_copyFrom_19 : decode cX8_copyFrom 19 = .ok (.aload_n 0, 1) := by decide +kernel
theorem dX8_copyFrom_20 : decode cX8_copyFrom 20 = .ok (.getfield 19, 3) := by decide +kernel
theorem dX8_copyFrom_23 : decode cX8_copyFrom 23 = .ok (.aload_n 1, 1) := by decide +kernel
theorem dX8_copyFrom_24 : decode cX8_copyFrom 24 = .ok (.getfield 19, 3) := by decide +kernel
theorem dX8_copyFrom_27 : decode cX8_copyFrom 27 = .ok (.invokevirtual 59, 3) := by decide +kernel
theorem dX8_copyFrom_30 : decode cX8_copyFrom 30 = .ok (.aload_n 0, 1) := by decide +kernel
theorem dX8_copyFrom_31 : decode cX8_copyFrom 31 = .ok (.getfield 26, 3) := by decide +kernel
theorem dX8_copyFrom_34 : decode cX8_copyFrom 34 = .ok (.aload_n 1, 1) := by decide +kernel
theorem dX8_copyFrom_35 : decode cX8_copyFrom 35 = .ok (.getfield 26, 3) := by decide +kernel
theorem dX8_copyFrom_38 : decode cX8_copyFrom 38 = .ok (.invokevirtual 62, 3) := by decide +kernel
theorem dX8_copyFrom_41 : decode cX8_copyFrom 41 = .ok (.aload_n 0, 1) := by decide +kernel
theorem dX8_copyFrom_42 : decode cX8_copyFrom 42 = .ok (.getfield 33, 3) := by decide +kernel
theorem dX8_copyFrom_45 : decode cX8_copyFrom 45 = .ok (.aload_n 1, 1) := by decide +kernel
theorem dX8_copyFrom_46 : decode cX8_copyFrom 46 = .ok (.getfield 33, 3) := by decide +kernel
theorem dX8_copyFrom_49 : decode cX8_copyFrom 49 = .ok (.invokevirtual 65, 3) := by decide +kernel
theorem dX8_copyFrom_52 : decode cX8_copyFrom 52 = .ok (.aload_n 0, 1) := by decide +kernel
theorem dX8_copyFrom_53 : decode cX8_copyFrom 53 = .ok (.getfield 40, 3) := by decide +kernel
theorem dX8_copyFrom_56 : decode cX8_copyFrom 56 = .ok (.aload_n 1, 1) := by decide +kernel
theorem dX8_copyFrom_57 : decode cX8_copyFrom 57 = .ok (.getfield 40, 3) := by decide +kernel
theorem dX8_copyFrom_60 : decode cX8_copyFrom 60 = .ok (.invokevirtual 68, 3) := by decide +kernel
theorem dX8_copyFrom_63 : decode cX8_copyFrom 63 = .ok (.aload_n 0, 1) := by decide +kernel
theorem dX8_copyFrom_64 : decode cX8_copyFrom 64 = .ok (.getfield 47, 3) := by decide +kernel
theorem dX8_copyFrom_67 : decode cX8_copyFrom 67 = .ok (.aload_n 1, 1) := by decide +kernel
theorem dX8_copyFrom_68 : decode cX8_copyFrom 68 = .ok (.getfield 47, 3) := by decide +kernel
theorem dX8_copyFrom_71 : decode cX8_copyFrom 71 = .ok (.invokevirtual 71, 3) := by decide +kernel
theorem dX8_copyFrom_74 : decode cX8_copyFrom 74 = .ok (.return_, 1) := by decide +kernel
theorem dX9_init_0 : decode cX9_init 0 = .ok (.aload_n 0, 1) := by decide +kernel
theorem dX9_init_1 : decode cX9_init 1 = .ok (.invokespecial 1, 3) := by decide +kernel
theorem dX9_init_4 : decode cX9_init 4 = .ok (.aload_n 0, 1) := by decide +kernel
theorem dX9_init_5 : decode cX9_init 5 = .ok (.bipush 120, 2) := by decide +kernel
theorem dX9_init_7 : decode cX9_init 7 = .ok (.newarray .byte, 2) := by decide +kernel
theorem dX9_init_9 : decode cX9_init 9 = .ok (.putfield 9, 3) := by decide +kernel
theorem dX9_init_12 : decode cX9_init 12 = .ok (.return_, 1) := by decide +kernel
theorem dX9_append_0 : decode cX9_append 0 = .ok (.iload_n 3, 1) := by decide +kernel
theorem dX9_append_1 : decode cX9_append 1 = .ok (.iconst 1, 1) := by decide +kernel
theorem dX9_append_2 : decode cX9_append 2 = .ok (.isub, 1) := by decide +kernel
theorem dX9_append_3 : decode cX9_append 3 = .ok (.istore 4, 2) := by decide +kernel
theorem dX9_append_5 : decode cX9_append 5 = .ok (.iload 4, 2) := by decide +kernel
theorem dX9_append_7 : decode cX9_append 7 = .ok (.ifCond .lt 46, 3) := by decide +kernel
theorem dX9_append_10 : decode cX9_append 10 = .ok (.aload_n 0, 1) := by decide +kernel
theorem dX9_append_11 : decode cX9_append 11 = .ok (.getfield 13, 3) := by decide +kernel
theorem dX9_append_14 : decode cX9_append 14 = .ok (.bipush 120, 2) := by decide +kernel
theorem dX9_append_16 : decode cX9_append 16 = .ok (.if_icmp .ge 37, 3) := by decide +kernel
theorem dX9_append_19 : decode cX9_append 19 = .ok (.aload_n 0, 1) := by decide +kernel
theorem dX9_append_20 : decode cX9_append 20 = .ok (.getfield 9, 3) := by decide +kernel
theorem dX9_append_23 : decode cX9_append 23 = .ok (.aload_n 0, 1) := by decide +kernel
theorem dX9_append_24 : decode cX9_append 24 = .ok (.getfield 13, 3) := by decide +kernel
theorem dX9_append_27 : decode cX9_append 27 = .ok (.lload_n 1, 1) := by decide +kernel
theorem dX9_append_28 : decode cX9_append 28 = .ok (.bipush 8, 2) := by decide +kernel
theorem dX9_append_30 : decode cX9_append 30 = .ok (.iload 4, 2) := by decide +kernel
theorem dX9_append_32 : decode cX9_append 32 = .ok (.imul, 1) := by decide +kernel
theorem dX9_append_33 : decode cX9_append 33 = .ok (.lushr, 1) := by decide +kernel
theorem dX9_append_34 : decode cX9_append 34 = .ok (.l2i, 1) := by decide +kernel
theorem dX9_append_35 : decode cX9_append 35 = .ok (.i2b, 1) := by decide +kernel
theorem dX9_append_36 : decode cX9_append 36 = .ok (.bastore, 1) := by decide +kernel
theorem dX9_append_37 : decode cX9_append 37 = .ok (.aload_n 0, 1) := by decide +kernel
theorem dX9_append_38 : decode cX9_append 38 = .ok (.dup, 1) := by decide +kernel
theorem dX9_append_39 : decode cX9_append 39 = .ok (.getfield 13, 3) := by decide +kernel
theorem dX9_append_42 : decode cX9_append 42 = .ok (.iconst 1, 1) := by decide +kernel
theorem dX9_append_43 : decode cX9_append 43 = .ok (.iadd, 1) := by decide +kernel
theorem dX9_append_44 : decode cX9_append 44 = .ok (.putfield 13, 3) := by decide +kernel
theorem dX9_append_47 : decode cX9_append 47 = .ok (.iinc 4 (-1), 3) := by decide +kernel
theorem dX9_append_50 : decode cX9_append 50 = .ok (.goto (-45), 3) := by decide +kernel
theorem dX9_append_53 : decode cX9_append 53 = .ok (.return_, 1) := by decide +kernel
theorem dX9_at_0 : decode cX9_at 0 = .ok (.iload_n 1, 1) := by decide +kernel
theorem dX9_at_1 : decode cX9_at 1 = .ok (.ifCond .lt 24, 3) := by decide +kernel
theorem dX9_at_4 : decode cX9_at 4 = .ok (.iload_n 1, 1) := by decide +kernel
theorem dX9_at_5 : decode cX9_at 5 = .ok (.aload_n 0, 1) := by decide +kernel
theorem dX9_at_6 : decode cX9_at 6 = .ok (.getfield 13, 3) := by decide +kernel
theorem dX9_at_9 : decode cX9_at 9 = .ok (.if_icmp .ge 16, 3) := by decide +kernel
theorem dX9_at_12 : decode cX9_at 12 = .ok (.aload_n 0, 1) := by decide +kernel
theorem dX9_at_13 : decode cX9_at 13 = .ok (.getfield 9, 3) := by decide +kernel
theorem dX9_at_16 : decode cX9_at 16 = .ok (.iload_n 1, 1) := by decide +kernel
theorem dX9_at_17 : decode cX9_at 17 = .ok (.baload, 1) := by decide +kernel
theorem dX9_at_18 : decode cX9_at 18 = .ok (.sipush 255, 3) := by decide +kernel
theorem dX9_at_21 : decode cX9_at 21 = .ok (.iand, 1) := by decide +kernel
theorem dX9_at_22 : decode cX9_at 22 = .ok (.goto 4, 3) := by decide +kernel
theorem dX9_at_25 : decode cX9_at 25 = .ok (.iconst (-1), 1) := by decide +kernel
theorem dX9_at_26 : decode cX9_at 26 = .ok (.ireturn, 1) := by decide +kernel
theorem dX9_copyFrom_0 : decode cX9_copyFrom 0 = .ok (.aload_n 1, 1) := by decide +kernel
theorem dX9_copyFrom_1 : decode cX9_copyFrom 1 = .ok (.getfield 9, 3) := by decide +kernel
theorem dX9_copyFrom_4 : decode cX9_copyFrom 4 = .ok (.iconst 0, 1) := by decide +kernel
theorem dX9_copyFrom_5 : decode cX9_copyFrom 5 = .ok (.aload_n 0, 1) := by decide +kernel
theorem dX9_copyFrom_6 : decode cX9_copyFrom 6 = .ok (.getfield 9, 3) := by decide +kernel
theorem dX9_copyFrom_9 : decode cX9_copyFrom 9 = .ok (.iconst 0, 1) := by decide +kernel
theorem dX9_copyFrom_10 : decode cX9_copyFrom 10 = .ok (.bipush 120, 2) := by decide +kernel
theorem dX9_copyFrom_12 : decode cX9_copyFrom 12 = .ok (.invokestatic 17, 3) := by decide +kernel
theorem dX9_copyFrom_15 : decode cX9_copyFrom 15 = .ok (.aload_n 0, 1) := by decide +kernel
theorem dX9_copyFrom_16 : decode cX9_copyFrom 16 = .ok (.aload_n 1, 1) := by decide +kernel
theorem dX9_copyFrom_17 : decode cX9_copyFrom 17 = .ok (.getfield 13, 3) := by decide +kernel
theorem dX9_copyFrom_20 : decode cX9_copyFrom 20 = .ok (.putfield 13, 3) := by decide +kernel
theorem dX9_copyFrom_23 : decode cX9_copyFrom 23 = .ok (.return_, 1) := by decide +kernel
theorem dX10_init_0 : decode cX10_init 0 = .ok (.aload_n 0, 1) := by decide +kernel
theorem dX10_init_1 : decode cX10_init 1 = .ok (.invokespecial 3, 3) := by decide +kernel
theorem dX10_init_4 : decode cX10_init 4 = .ok (.aload_n 0, 1) := by decide +kernel
theorem dX10_init_5 : decode cX10_init 5 = .ok (.bipush 36, 2) := by decide +kernel
theorem dX10_init_7 : decode cX10_init 7 = .ok (.newarray .int, 2) := by decide +kernel
theorem dX10_init_9 : decode cX10_init 9 = .ok (.putfield 9, 3) := by decide +kernel
theorem dX10_init_12 : decode cX10_init 12 = .ok (.iconst 0, 1) := by decide +kernel
theorem dX10_init_13 : decode cX10_init 13 = .ok (.istore_n 1, 1) := by decide +kernel
theorem dX10_init_14 : decode cX10_init 14 = .ok (.iload_n 1, 1) := by decide +kernel
theorem dX10_init_15 : decode cX10_init 15 = .ok (.bipush 6, 2) := by decide +kernel
theorem dX10_init_17 : decode cX10_init 17 = .ok (.if_icmp .ge 23, 3) := by decide +kernel
theorem dX10_init_20 : decode cX10_init 20 = .ok (.aload_n 0, 1) := by decide +kernel
theorem dX10_init_21 : decode cX10_init 21 = .ok (.getfield 9, 3) := by decide +kernel
theorem dX10_init_24 : decode cX10_init 24 = .ok (.iload_n 1, 1) := by decide +kernel
theorem dX10_init_25 : decode cX10_init 25 = .ok (.bipush 6, 2) := by decide +kernel
theorem dX10_init_27 : decode cX10_init 27 = .ok (.imul, 1) := by decide +kernel
theorem dX10_init_28 : decode cX10_init 28 = .ok (.iload_n 1, 1) := by decide +kernel
theorem dX10_init_29 : decode cX10_init 29 = .ok (.iadd, 1) := by decide +kernel
theorem dX10_init_30 : decode cX10_init 30 = .ok (.sipush 1000, 3) := by decide +kernel
theorem dX10_init_33 : decode cX10_init 33 = .ok (.iastore, 1) := by decide +kernel
theorem dX10_init_34 : decode cX10_init 34 = .ok (.iinc 1 1, 3) := by decide +kernel
theorem dX10_init_37 : decode cX10_init 37 = .ok (.goto (-23), 3) := by decide +kernel
theorem dX10_init_40 : decode cX10_init 40 = .ok (.return_, 1) := by decide +kernel
theorem dX10_follow_0 : decode cX10_follow 0 = .ok (.iload_n 1, 1) := by decide +kernel
theorem dX10_follow_1 : decode cX10_follow 1 = .ok (.bipush 6, 2) := by decide +kernel
theorem dX10_follow_3 : decode cX10_follow 3 = .ok (.imul, 1) := by decide +kernel
theorem dX10_follow_4 : decode cX10_follow 4 = .ok (.iload_n 2, 1) := by decide +kernel
theorem dX10_follow_5 : decode cX10_follow 5 = .ok (.iadd, 1) := by decide +kernel
theorem dX10_follow_6 : decode cX10_follow 6 = .ok (.istore 4, 2) := by decide +kernel
theorem dX10_follow_8 : decode cX10_follow 8 = .ok (.iload 4, 2) := by decide +kernel
theorem dX10_follow_10 : decode cX10_follow 10 = .ok (.ifCond .lt 21, 3) := by decide +kernel
theorem dX10_follow_13 : decode cX10_follow 13 = .ok (.iload 4, 2) := by decide +kernel
theorem dX10_follow_15 : decode cX10_follow 15 = .ok (.aload_n 0, 1) := by decide +kernel
theorem dX10_follow_16 : decode cX10_follow 16 = .ok (.getfield 9, 3) := by decide +kernel
theorem dX10_follow_19 : decode cX10_follow 19 = .ok (.arraylength, 1) := by decide +kernel
theorem dX10_follow_20 : decode cX10_follow 20 = .ok (.if_icmp .ge 11, 3) := by decide +kernel
theorem dX10_follow_23 : decode cX10_follow 23 = .ok (.aload_n 0, 1) := by decide +kernel
theorem dX10_follow_24 : decode cX10_follow 24 = .ok (.getfield 9, 3) := by decide +kernel
theorem dX10_follow_27 : decode cX10_follow 27 = .ok (.iload 4, 2) := by decide +kernel
theorem dX10_follow_29 : decode cX10_follow 29 = .ok (.iload_n 3, 1) := by decide +kernel
theorem dX10_follow_30 : decode cX10_follow 30 = .ok (.iastore, 1) := by decide +kernel
theorem dX10_follow_31 : decode cX10_follow 31 = .ok (.return_, 1) := by decide +kernel
theorem dX10_chanceOf_0 : decode cX10_chanceOf 0 = .ok (.iload_n 1, 1) := by decide +kernel
theorem dX10_chanceOf_1 : decode cX10_chanceOf 1 = .ok (.bipush 6, 2) := by decide +kernel
theorem dX10_chanceOf_3 : decode cX10_chanceOf 3 = .ok (.imul, 1) := by decide +kernel
theorem dX10_chanceOf_4 : decode cX10_chanceOf 4 = .ok (.iload_n 2, 1) := by decide +kernel
theorem dX10_chanceOf_5 : decode cX10_chanceOf 5 = .ok (.iadd, 1) := by decide +kernel
theorem dX10_chanceOf_6 : decode cX10_chanceOf 6 = .ok (.istore_n 3, 1) := by decide +kernel
theorem dX10_chanceOf_7 : decode cX10_chanceOf 7 = .ok (.iload_n 3, 1) := by decide +kernel
theorem dX10_chanceOf_8 : decode cX10_chanceOf 8 = .ok (.ifCond .lt 21, 3) := by decide +kernel
theorem dX10_chanceOf_11 : decode cX10_chanceOf 11 = .ok (.iload_n 3, 1) := by decide +kernel
theorem dX10_chanceOf_12 : decode cX10_chanceOf 12 = .ok (.aload_n 0, 1) := by decide +kernel
theorem dX10_chanceOf_13 : decode cX10_chanceOf 13 = .ok (.getfield 9, 3) := by decide +kernel
theorem dX10_chanceOf_16 : decode cX10_chanceOf 16 = .ok (.arraylength, 1) := by decide +kernel
theorem dX10_chanceOf_17 : decode cX10_chanceOf 17 = .ok (.if_icmp .ge 12, 3) := by decide +kernel
theorem dX10_chanceOf_20 : decode cX10_chanceOf 20 = .ok (.aload_n 0, 1) := by decide +kernel
theorem dX10_chanceOf_21 : decode cX10_chanceOf 21 = .ok (.getfield 9, 3) := by decide +kernel
theorem dX10_chanceOf_24 : decode cX10_chanceOf 24 = .ok (.iload_n 3, 1) := by decide +kernel
theorem dX10_chanceOf_25 : decode cX10_chanceOf 25 = .ok (.iaload, 1) := by decide +kernel
theorem dX10_chanceOf_26 : decode cX10_chanceOf 26 = .ok (.goto 4, 3) := by decide +kernel
theorem dX10_chanceOf_29 : decode cX10_chanceOf 29 = .ok (.iconst 0, 1) := by decide +kernel
theorem dX10_chanceOf_30 : decode cX10_chanceOf 30 = .ok (.ireturn, 1) := by decide +kernel
theorem dX10_nextBy_0 : decode cX10_nextBy 0 = .ok (.iload_n 1, 1) := by decide +kernel
theorem dX10_nextBy_1 : decode cX10_nextBy 1 = .ok (.istore_n 3, 1) := by decide +kernel
theorem dX10_nextBy_2 : decode cX10_nextBy 2 = .ok (.iconst 0, 1) := by decide +kernel
theorem dX10_nextBy_3 : decode cX10_nextBy 3 = .ok (.istore 4, 2) := by decide +kernel
theorem dX10_nextBy_5 : decode cX10_nextBy 5 = .ok (.iconst 0, 1) := by decide +kernel
theorem dX10_nextBy_6 : decode cX10_nextBy 6 = .ok (.istore 5, 2) := by decide +kernel
theorem dX10_nextBy_8 : decode cX10_nextBy 8 = .ok (.iload 5, 2) := by decide +kernel
theorem dX10_nextBy_10 : decode cX10_nextBy 10 = .ok (.bipush 6, 2) := by decide +kernel
theorem dX10_nextBy_12 : decode cX10_nextBy 12 = .ok (.if_icmp .ge 42, 3) := by decide +kernel
theorem dX10_nextBy_15 : decode cX10_nextBy 15 = .ok (.aload_n 0, 1) := by decide +kernel
theorem dX10_nextBy_16 : decode cX10_nextBy 16 = .ok (.iload_n 1, 1) := by decide +kernel
theorem dX10_nextBy_17 : decode cX10_nextBy 17 = .ok (.iload 5, 2) := by decide +kernel
theorem dX10_nextBy_19 : decode cX10_nextBy 19 = .ok (.invokevirtual 15, 3) := by decide +kernel
theorem dX10_nextBy_22 : decode cX10_nextBy 22 = .ok (.istore 6, 2) := by decide +kernel
theorem dX10_nextBy_24 : decode cX10_nextBy 24 = .ok (.iload 4, 2) := by decide +kernel
theorem dX10_nextBy_26 : decode cX10_nextBy 26 = .ok (.iload 6, 2) := by decide +kernel
theorem dX10_nextBy_28 : decode cX10_nextBy 28 = .ok (.iadd, 1) := by decide +kernel
theorem dX10_nextBy_29 : decode cX10_nextBy 29 = .ok (.istore 4, 2) := by decide +kernel
theorem dX10_nextBy_31 : decode cX10_nextBy 31 = .ok (.iload 4, 2) := by decide +kernel
theorem dX10_nextBy_33 : decode cX10_nextBy 33 = .ok (.iload_n 2, 1) := by decide +kernel
theorem dX10_nextBy_34 : decode cX10_nextBy 34 = .ok (.if_icmp .le 6, 3) := by decide +kernel
theorem dX10_nextBy_37 : decode cX10_nextBy 37 = .ok (.iload 5, 2) := by decide +kernel
theorem dX10_nextBy_39 : decode cX10_nextBy 39 = .ok (.ireturn, 1) := by decide +kernel
theorem dX10_nextBy_40 : decode cX10_nextBy 40 = .ok (.iload 6, 2) := by decide +kernel
theorem dX10_nextBy_42 : decode cX10_nextBy 42 = .ok (.ifCond .le 6, 3) := by decide +kernel
theorem dX10_nextBy_45 : decode cX10_nextBy 45 = .ok (.iload 5, 2) := by decide +kernel
theorem dX10_nextBy_47 : decode cX10_nextBy 47 = .ok (.istore_n 3, 1) := by decide +kernel
theorem dX10_nextBy_48 : decode cX10_nextBy 48 = .ok (.iinc 5 1, 3) := by decide +kernel
theorem dX10_nextBy_51 : decode cX10_nextBy 51 = .ok (.goto (-43), 3) := by decide +kernel
theorem dX10_nextBy_54 : decode cX10_nextBy 54 = .ok (.iload_n 3, 1) := by decide +kernel
theorem dX10_nextBy_55 : decode cX10_nextBy 55 = .ok (.ireturn, 1) := by decide +kernel
theorem dX10_copyFrom_0 : decode cX10_copyFrom 0 = .ok (.aload_n 1, 1) := by decide +kernel
theorem dX10_copyFrom_1 : decode cX10_copyFrom 1 = .ok (.getfield 9, 3) := by decide +kernel
theorem dX10_copyFrom_4 : decode cX10_copyFrom 4 = .ok (.iconst 0, 1) := by decide +kernel
theorem dX10_copyFrom_5 : decode cX10_copyFrom 5 = .ok (.aload_n 0, 1) := by decide +kernel
theorem dX10_copyFrom_6 : decode cX10_copyFrom 6 = .ok (.getfield 9, 3) := by decide +kernel
theorem dX10_copyFrom_9 : decode cX10_copyFrom 9 = .ok (.iconst 0, 1) := by decide +kernel
theorem dX10_copyFrom_10 : decode cX10_copyFrom 10 = .ok (.aload_n 0, 1) := by decide +kernel
theorem dX10_copyFrom_11 : decode cX10_copyFrom 11 = .ok (.getfield 9, 3) := by decide +kernel
theorem dX10_copyFrom_14 : decode cX10_copyFrom 14 = .ok (.arraylength, 1) := by decide +kernel
theorem dX10_copyFrom_15 : decode cX10_copyFrom 15 = .ok (.invokestatic 19, 3) := by decide +kernel
theorem dX10_copyFrom_18 : decode cX10_copyFrom 18 = .ok (.return_, 1) := by decide +kernel
theorem dX11_init_0 : decode cX11_init 0 = .ok (.aload_n 0, 1) := by decide +kernel
theorem dX11_init_1 : decode cX11_init 1 = .ok (.invokespecial 3, 3) := by decide +kernel
theorem dX11_init_4 : decode cX11_init 4 = .ok (.aload_n 0, 1) := by decide +kernel
theorem dX11_init_5 : decode cX11_init 5 = .ok (.iconst 5, 1) := by decide +kernel
theorem dX11_init_6 : decode cX11_init 6 = .ok (.anewarray 11, 3) := by decide +kernel
theorem dX11_init_9 : decode cX11_init 9 = .ok (.putfield 13, 3) := by decide +kernel
theorem dX11_init_12 : decode cX11_init 12 = .ok (.aload_n 0, 1) := by decide +kernel
theorem dX11_init_13 : decode cX11_init 13 = .ok (.new 17, 3) := by decide +kernel
theorem dX11_init_16 : decode cX11_init 16 = .ok (.dup, 1) := by decide +kernel
theorem dX11_init_17 : decode cX11_init 17 = .ok (.invokespecial 19, 3) := by decide +kernel
theorem dX11_init_20 : decode cX11_init 20 = .ok (.putfield 20, 3) := by decide +kernel
theorem dX11_init_23 : decode cX11_init 23 = .ok (.aload_n 0, 1) := by decide +kernel
theorem dX11_init_24 : decode cX11_init 24 = .ok (.new 17, 3) := by decide +kernel
theorem dX11_init_27 : decode cX11_init 27 = .ok (.dup, 1) := by decide +kernel
theorem dX11_init_28 : decode cX11_init 28 = .ok (.invokespecial 19, 3) := by decide +kernel
theorem dX11_init_31 : decode cX11_init 31 = .ok (.putfield 24, 3) := by decide +kernel
theorem dX11_init_34 : decode cX11_init 34 = .ok (.aload_n 0, 1) := by decide +kernel
theorem dX11_init_35 : decode cX11_init 35 = .ok (.new 27, 3) := by decide +kernel
theorem dX11_init_38 : decode cX11_init 38 = .ok (.dup, 1) := by decide +kernel
theorem dX11_init_39 : decode cX11_init 39 = .ok (.invokespecial 29, 3) := by decide +kernel
theorem dX11_init_42 : decode cX11_init 42 = .ok (.putfield 30, 3) := by decide +kernel
theorem dX11_init_45 : decode cX11_init 45 = .ok (.aload_n 0, 1) := by decide +kernel
theorem dX11_init_46 : decode cX11_init 46 = .ok (.new 34, 3) := by decide +kernel
theorem dX11_init_49 : decode cX11_init 49 = .ok (.dup, 1) := by decide +kernel
theorem dX11_init_50 : decode cX11_init 50 = .ok (.invokespecial 36, 3) := by decide +kernel
theorem dX11_init_53 : decode cX11_init 53 = .ok (.putfield 37, 3) := by decide +kernel
theorem dX11_init_56 : decode cX11_init 56 = .ok (.aload_n 0, 1) := by decide +kernel
theorem dX11_init_57 : decode cX11_init 57 = .ok (.new 41, 3) := by decide +kernel
theorem dX11_init_60 : decode cX11_init 60 = .ok (.dup, 1) := by decide +kernel
theorem dX11_init_61 : decode cX11_init 61 = .ok (.invokespecial 43, 3) := by decide +kernel
theorem dX11_init_64 : decode cX11_init 64 = .ok (.putfield 44, 3) := by decide +kernel
theorem dX11_init_67 : decode cX11_init 67 = .ok (.iconst 0, 1) := by decide +kernel
theorem dX11_init_68 : decode cX11_init 68 = .ok (.istore_n 1, 1) := by decide +kernel
theorem dX11_init_69 : decode cX11_init 69 = .ok (.iload_n 1, 1) := by decide +kernel
theorem dX11_init_70 : decode cX11_init 70 = .ok (.iconst 5, 1) := by decide +kernel
theorem dX11_init_71 : decode cX11_init 71 = .ok (.if_icmp .ge 22, 3) := by decide +kernel
theorem dX11_init_74 : decode cX11_init 74 = .ok (.aload_n 0, 1) := by decide +kernel
theorem dX11_init_75 : decode cX11_init 75 = .ok (.getfield 13, 3) := by decide +kernel
theorem dX11_init_78 : decode cX11_init 78 = .ok (.iload_n 1, 1) := by decide +kernel
theorem dX11_init_79 : decode cX11_init 79 = .ok (.new 11, 3) := by decide +kernel
theorem dX11_init_82 : decode cX11_init 82 = .ok (.dup, 1) := by decide +kernel
theorem dX11_init_83 : decode cX11_init 83 = .ok (.invokespecial 48, 3) := by decide +kernel
theorem dX11_init_86 : decode cX11_init 86 = .ok (.aastore, 1) := by decide +kernel
theorem dX11_init_87 : decode cX11_init 87 = .ok (.iinc 1 1, 3) := by decide +kernel
theorem dX11_init_90 : decode cX11_init 90 = .ok (.goto (-21), 3) := by decide +kernel
theorem dX11_init_93 : decode cX11_init 93 = .ok (.return_, 1) := by decide +kernel
theorem dX11_feed_0 : decode cX11_feed 0 = .ok (.iload_n 3, 1) := by decide +kernel
theorem dX11_feed_1 : decode cX11_feed 1 = .ok (.iconst 1, 1) := by decide +kernel
theorem dX11_feed_2 : decode cX11_feed 2 = .ok (.bipush 8, 2) := by decide +kernel
theorem dX11_feed_4 : decode cX11_feed 4 = .ok (.invokestatic 49, 3) := by decide +kernel
theorem dX11_feed_7 : decode cX11_feed 7 = .ok (.ifCond .ne 6, 3) := by decide +kernel
theorem dX11_feed_10 : decode cX11_feed 10 = .ok (.bipush (-2), 2) := by decide +kernel
theorem dX11_feed_12 : decode cX11_feed 12 = .ok (.ireturn, 1) := by decide +kernel
theorem dX11_feed_13 : decode cX11_feed 13 = .ok (.aload_n 0, 1) := by decide +kernel
theorem dX11_feed_14 : decode cX11_feed 14 = .ok (.getfield 20, 3) := by decide +kernel
theorem dX11_feed_17 : decode cX11_feed 17 = .ok (.getfield 53, 3) := by decide +kernel
theorem dX11_feed_20 : decode cX11_feed 20 = .ok (.getfield 57, 3) := by decide +kernel
theorem dX11_feed_23 : decode cX11_feed 23 = .ok (.iload_n 3, 1) := by decide +kernel
theorem dX11_feed_24 : decode cX11_feed 24 = .ok (.iadd, 1) := by decide +kernel
theorem dX11_feed_25 : decode cX11_feed 25 = .ok (.bipush 120, 2) := by decide +kernel
theorem dX11_feed_27 : decode cX11_feed 27 = .ok (.if_icmp .le 6, 3) := by decide +kernel
theorem dX11_feed_30 : decode cX11_feed 30 = .ok (.bipush (-4), 2) := by decide +kernel
theorem dX11_feed_32 : decode cX11_feed 32 = .ok (.ireturn, 1) := by decide +kernel
theorem dX11_feed_33 : decode cX11_feed 33 = .ok (.aload_n 0, 1) := by decide +kernel
theorem dX11_feed_34 : decode cX11_feed 34 = .ok (.getfield 20, 3) := by decide +kernel
theorem dX11_feed_37 : decode cX11_feed 37 = .ok (.getfield 53, 3) := by decide +kernel
theorem dX11_feed_40 : decode cX11_feed 40 = .ok (.lload_n 1, 1) := by decide +kernel
theorem dX11_feed_41 : decode cX11_feed 41 = .ok (.iload_n 3, 1) := by decide +kernel
theorem dX11_feed_42 : decode cX11_feed 42 = .ok (.invokevirtual 63, 3) := by decide +kernel
theorem dX11_feed_45 : decode cX11_feed 45 = .ok (.aload_n 0, 1) := by decide +kernel
theorem dX11_feed_46 : decode cX11_feed 46 = .ok (.getfield 20, 3) := by decide +kernel
theorem dX11_feed_49 : decode cX11_feed 49 = .ok (.getfield 53, 3) := by decide +kernel
theorem dX11_feed_52 : decode cX11_feed 52 = .ok (.getfield 57, 3) := by decide +kernel
theorem dX11_feed_55 : decode cX11_feed 55 = .ok (.ireturn, 1) := by decide +kernel
theorem dX11_mill_0 : decode cX11_mill 0 = .ok (.aload_n 0, 1) := by decide +kernel
theorem dX11_mill_1 : decode cX11_mill 1 = .ok (.getfield 20, 3) := by decide +kernel
theorem dX11_mill_4 : decode cX11_mill 4 = .ok (.getfield 67, 3) := by decide +kernel
theorem dX11_mill_7 : decode cX11_mill 7 = .ok (.iconst 5, 1) := by decide +kernel
theorem dX11_mill_8 : decode cX11_mill 8 = .ok (.if_icmp .lt 6, 3) := by decide +kernel
theorem dX11_mill_11 : decode cX11_mill 11 = .ok (.bipush (-4), 2) := by decide +kernel
theorem dX11_mill_13 : decode cX11_mill 13 = .ok (.ireturn, 1) := by decide +kernel
theorem dX11_mill_14 : decode cX11_mill 14 = .ok (.aload_n 0, 1) := by decide +kernel
theorem dX11_mill_15 : decode cX11_mill 15 = .ok (.getfield 30, 3) := by decide +kernel
theorem dX11_mill_18 : decode cX11_mill 18 = .ok (.aload_n 0, 1) := by decide +kernel
theorem dX11_mill_19 : decode cX11_mill 19 = .ok (.getfield 20, 3) := by decide +kernel
theorem dX11_mill_22 : decode cX11_mill 22 = .ok (.getfield 53, 3) := by decide +kernel
theorem dX11_mill_25 : decode cX11_mill 25 = .ok (.aload_n 0, 1) := by decide +kernel
theorem dX11_mill_26 : decode cX11_mill 26 = .ok (.getfield 13, 3) := by decide +kernel
theorem dX11_mill_29 : decode cX11_mill 29 = .ok (.aload_n 0, 1) := by decide +kernel
theorem dX11_mill_30 : decode cX11_mill 30 = .ok (.getfield 20, 3) := by decide +kernel
theorem dX11_mill_33 : decode cX11_mill 33 = .ok (.getfield 67, 3) := by decide +kernel
theorem dX11_mill_36 : decode cX11_mill 36 = .ok (.aaload, 1) := by decide +kernel
theorem dX11_mill_37 : decode cX11_mill 37 = .ok (.invokevirtual 69, 3) := by decide +kernel
theorem dX11_mill_40 : decode cX11_mill 40 = .ok (.istore_n 1, 1) := by decide +kernel
theorem dX11_mill_41 : decode cX11_mill 41 = .ok (.aload_n 0, 1) := by decide +kernel
theorem dX11_mill_42 : decode cX11_mill 42 = .ok (.getfield 20, 3) := by decide +kernel
theorem dX11_mill_45 : decode cX11_mill 45 = .ok (.getfield 53, 3) := by decide +kernel
theorem dX11_mill_48 : decode cX11_mill 48 = .ok (.iconst 0, 1) := by decide +kernel
theorem dX11_mill_49 : decode cX11_mill 49 = .ok (.putfield 57, 3) := by decide +kernel
theorem dX11_mill_52 : decode cX11_mill 52 = .ok (.iload_n 1, 1) := by decide +kernel
theorem dX11_mill_53 : decode cX11_mill 53 = .ok (.ifCond .lt 8, 3) := by decide +kernel
theorem dX11_mill_56 : decode cX11_mill 56 = .ok (.bipush (-10), 2) := by decide +kernel
theorem dX11_mill_58 : decode cX11_mill 58 = .ok (.iload_n 1, 1) := by decide +kernel
theorem dX11_mill_59 : decode cX11_mill 59 = .ok (.isub, 1) := by decide +kernel
theorem dX11_mill_60 : decode cX11_mill 60 = .ok (.ireturn, 1) := by decide +kernel
theorem dX11_mill_61 : decode cX11_mill 61 = .ok (.aload_n 0, 1) := by decide +kernel
theorem dX11_mill_62 : decode cX11_mill 62 = .ok (.getfield 20, 3) := by decide +kernel
theorem dX11_mill_65 : decode cX11_mill 65 = .ok (.dup, 1) := by decide +kernel
theorem dX11_mill_66 : decode cX11_mill 66 = .ok (.getfield 67, 3) := by decide +kernel
theorem dX11_mill_69 : decode cX11_mill 69 = .ok (.iconst 1, 1) := by decide +kernel
theorem dX11_mill_70 : decode cX11_mill 70 = .ok (.iadd, 1) := by decide +kernel
theorem dX11_mill_71 : decode cX11_mill 71 = .ok (.putfield 67, 3) := by decide +kernel
theorem dX11_mill_74 : decode cX11_mill 74 = .ok (.aload_n 0, 1) := by decide +kernel
theorem dX11_mill_75 : decode cX11_mill 75 = .ok (.getfield 20, 3) := by decide +kernel
theorem dX11_mill_78 : decode cX11_mill 78 = .ok (.getfield 67, 3) := by decide +kernel
theorem dX11_mill_81 : decode cX11_mill 81 = .ok (.iconst 1, 1) := by decide +kernel
theorem dX11_mill_82 : decode cX11_mill 82 = .ok (.isub, 1) := by decide +kernel
theorem dX11_mill_83 : decode cX11_mill 83 = .ok (.ireturn, 1) := by decide +kernel
theorem dX11_hour_0 : decode cX11_hour 0 = .ok (.aload_n 0, 1) := by decide +kernel
theorem dX11_hour_1 : decode cX11_hour 1 = .ok (.iload_n 1, 1) := by decide +kernel
theorem dX11_hour_2 : decode cX11_hour 2 = .ok (.invokevirtual 73, 3) := by decide +kernel
theorem dX11_hour_5 : decode cX11_hour 5 = .ok (.ifCond .eq 20, 3) := by decide +kernel
theorem dX11_hour_8 : decode cX11_hour 8 = .ok (.iload_n 2, 1) := by decide +kernel
theorem dX11_hour_9 : decode cX11_hour 9 = .ok (.invokestatic 77, 3) := by decide +kernel
theorem dX11_hour_12 : decode cX11_hour 12 = .ok (.ifCond .eq 13, 3) := by decide +kernel
theorem dX11_hour_15 : decode cX11_hour 15 = .ok (.iload 6, 2) := by decide +kernel
theorem dX11_hour_17 : decode cX11_hour 17 = .ok (.iconst 0, 1) := by decide +kernel
theorem dX11_hour_18 : decode cX11_hour 18 = .ok (.iconst 5, 1) := by decide +kernel
theorem dX11_hour_19 : decode cX11_hour 19 = .ok (.invokestatic 49, 3) := by decide +kernel
theorem dX11_hour_22 : decode cX11_hour 22 = .ok (.ifCond .ne 5, 3) := by decide +kernel
theorem dX11_hour_25 : decode cX11_hour 25 = .ok (.iconst (-1), 1) := by decide +kernel
theorem dX11_hour_26 : decode cX11_hour 26 = .ok (.ireturn, 1) := by decide +kernel
theorem dX11_hour_27 : decode cX11_hour 27 = .ok (.iload_n 3, 1) := by decide +kernel
theorem dX11_hour_28 : decode cX11_hour 28 = .ok (.invokestatic 80, 3) := by decide +kernel
theorem dX11_hour_31 : decode cX11_hour 31 = .ok (.ifCond .eq 25, 3) := by decide +kernel
theorem dX11_hour_34 : decode cX11_hour 34 = .ok (.iload 4, 2) := by decide +kernel
theorem dX11_hour_36 : decode cX11_hour 36 = .ok (.iconst 0, 1) := by decide +kernel
theorem dX11_hour_37 : decode cX11_hour 37 = .ok (.bipush 9, 2) := by decide +kernel
theorem dX11_hour_39 : decode cX11_hour 39 = .ok (.invokestatic 49, 3) := by decide +kernel
theorem dX11_hour_42 : decode cX11_hour 42 = .ok (.ifCond .eq 14, 3) := by decide +kernel
theorem dX11_hour_45 : decode cX11_hour 45 = .ok (.iload 5, 2) := by decide +kernel
theorem dX11_hour_47 : decode cX11_hour 47 = .ok (.iconst 0, 1) := by decide +kernel
theorem dX11_hour_48 : decode cX11_hour 48 = .ok (.bipush 9, 2) := by decide +kernel
theorem dX11_hour_50 : decode cX11_hour 50 = .ok (.invokestatic 49, 3) := by decide +kernel
theorem dX11_hour_53 : decode cX11_hour 53 = .ok (.ifCond .ne 6, 3) := by decide +kernel
theorem dX11_hour_56 : decode cX11_hour 56 = .ok (.bipush (-2), 2) := by decide +kernel
theorem dX11_hour_58 : decode cX11_hour 58 = .ok (.ireturn, 1) := by decide +kernel
theorem dX11_hour_59 : decode cX11_hour 59 = .ok (.aload_n 0, 1) := by decide +kernel
theorem dX11_hour_60 : decode cX11_hour 60 = .ok (.getfield 13, 3) := by decide +kernel
theorem dX11_hour_63 : decode cX11_hour 63 = .ok (.iload_n 1, 1) := by decide +kernel
theorem dX11_hour_64 : decode cX11_hour 64 = .ok (.aaload, 1) := by decide +kernel
theorem dX11_hour_65 : decode cX11_hour 65 = .ok (.iload_n 2, 1) := by decide +kernel
theorem dX11_hour_66 : decode cX11_hour 66 = .ok (.iload_n 3, 1) := by decide +kernel
theorem dX11_hour_67 : decode cX11_hour 67 = .ok (.iload 4, 2) := by decide +kernel
theorem dX11_hour_69 : decode cX11_hour 69 = .ok (.iload 5, 2) := by decide +kernel
theorem dX11_hour_71 : decode cX11_hour 71 = .ok (.invokevirtual 83, 3) := by decide +kernel
theorem dX11_hour_74 : decode cX11_hour 74 = .ok (.istore 7, 2) := by decide +kernel
theorem dX11_hour_76 : decode cX11_hour 76 = .ok (.iload 6, 2) := by decide +kernel
theorem dX11_hour_78 : decode cX11_hour 78 = .ok (.tableswitch 72 0 4 #[34, 40, 46, 52, 58], 34) := by decide +kernel
theorem dX11_hour_112 : decode cX11_hour 112 = .ok (.iload 7, 2) := by decide +kernel
theorem dX11_hour_114 : decode cX11_hour 114 = .ok (.invokestatic 87, 3) := by decide +kernel
theorem dX11_hour_117 : decode cX11_hour 117 = .ok (.ireturn, 1) := by decide +kernel
theorem dX11_hour_118 : decode cX11_hour 118 = .ok (.iload 7, 2) := by decide +kernel
theorem dX11_hour_120 : decode cX11_hour 120 = .ok (.invokestatic 91, 3) := by decide +kernel
theorem dX11_hour_123 : decode cX11_hour 123 = .ok (.ireturn, 1) := by decide +kernel
theorem dX11_hour_124 : decode cX11_hour 124 = .ok (.iload 7, 2) := by decide +kernel
theorem dX11_hour_126 : decode cX11_hour 126 = .ok (.invokestatic 94, 3) := by decide +kernel
theorem dX11_hour_129 : decode cX11_hour 129 = .ok (.ireturn, 1) := by decide +kernel
theorem dX11_hour_130 : decode cX11_hour 130 = .ok (.iload 7, 2) := by decide +kernel
theorem dX11_hour_132 : decode cX11_hour 132 = .ok (.invokestatic 97, 3) := by decide +kernel
theorem dX11_hour_135 : decode cX11_hour 135 = .ok (.ireturn, 1) := by decide +kernel
theorem dX11_hour_136 : decode cX11_hour 136 = .ok (.iload 7, 2) := by decide +kernel
theorem dX11_hour_138 : decode cX11_hour 138 = .ok (.invokestatic 100, 3) := by decide +kernel
theorem dX11_hour_141 : decode cX11_hour 141 = .ok (.ifCond .eq 7, 3) := by decide +kernel
theorem dX11_hour_144 : decode cX11_hour 144 = .ok (.iconst 1, 1) := by decide +kernel
theorem dX11_hour_145 : decode cX11_hour 145 = .ok (.goto 4, 3) := by decide +kernel
theorem dX11_hour_148 : decode cX11_hour 148 = .ok (.iconst 0, 1) := by decide +kernel
theorem dX11_hour_149 : decode cX11_hour 149 = .ok (.ireturn, 1) := by decide +kernel
theorem dX11_hour_150 : decode cX11_hour 150 = .ok (.iload 7, 2) := by decide +kernel
theorem dX11_hour_152 : decode cX11_hour 152 = .ok (.invokestatic 103, 3) := by decide +kernel
theorem dX11_hour_155 : decode cX11_hour 155 = .ok (.ifCond .eq 7, 3) := by decide +kernel
theorem dX11_hour_158 : decode cX11_hour 158 = .ok (.iconst 1, 1) := by decide +kernel
theorem dX11_hour_159 : decode cX11_hour 159 = .ok (.goto 4, 3) := by decide +kernel
theorem dX11_hour_162 : decode cX11_hour 162 = .ok (.iconst 0, 1) := by decide +kernel
theorem dX11_hour_163 : decode cX11_hour 163 = .ok (.ireturn, 1) := by decide +kernel
theorem dX11_wind_0 : decode cX11_wind 0 = .ok (.iload_n 1, 1) := by decide +kernel
theorem dX11_wind_1 : decode cX11_wind 1 = .ok (.invokestatic 77, 3) := by decide +kernel
theorem dX11_wind_4 : decode cX11_wind 4 = .ok (.ifCond .ne 5, 3) := by decide +kernel
theorem dX11_wind_7 : decode cX11_wind 7 = .ok (.iconst (-1), 1) := by decide +kernel
theorem dX11_wind_8 : decode cX11_wind 8 = .ok (.ireturn, 1) := by decide +kernel
theorem dX11_wind_9 : decode cX11_wind 9 = .ok (.iload_n 2, 1) := by decide +kernel
theorem dX11_wind_10 : decode cX11_wind 10 = .ok (.invokestatic 106, 3) := by decide +kernel
theorem dX11_wind_13 : decode cX11_wind 13 = .ok (.ifCond .eq 34, 3) := by decide +kernel
theorem dX11_wind_16 : decode cX11_wind 16 = .ok (.iload_n 3, 1) := by decide +kernel
theorem dX11_wind_17 : decode cX11_wind 17 = .ok (.invokestatic 106, 3) := by decide +kernel
theorem dX11_wind_20 : decode cX11_wind 20 = .ok (.ifCond .eq 27, 3) := by decide +kernel
theorem dX11_wind_23 : decode cX11_wind 23 = .ok (.iload 4, 2) := by decide +kernel
theorem dX11_wind_25 : decode cX11_wind 25 = .ok (.invokestatic 106, 3) := by decide +kernel
theorem dX11_wind_28 : decode cX11_wind 28 = .ok (.ifCond .eq 19, 3) := by decide +kernel
theorem dX11_wind_31 : decode cX11_wind 31 = .ok (.iload 5, 2) := by decide +kernel
theorem dX11_wind_33 : decode cX11_wind 33 = .ok (.invokestatic 106, 3) := by decide +kernel
theorem dX11_wind_36 : decode cX11_wind 36 = .ok (.ifCond .eq 11, 3) := by decide +kernel
theorem dX11_wind_39 : decode cX11_wind 39 = .ok (.iload 6, 2) := by decide +kernel
theorem dX11_wind_41 : decode cX11_wind 41 = .ok (.invokestatic 106, 3) := by decide +kernel
theorem dX11_wind_44 : decode cX11_wind 44 = .ok (.ifCond .ne 6, 3) := by decide +kernel
theorem dX11_wind_47 : decode cX11_wind 47 = .ok (.bipush (-2), 2) := by decide +kernel
theorem dX11_wind_49 : decode cX11_wind 49 = .ok (.ireturn, 1) := by decide +kernel
theorem dX11_wind_50 : decode cX11_wind 50 = .ok (.iload_n 2, 1) := by decide +kernel
theorem dX11_wind_51 : decode cX11_wind 51 = .ok (.iload_n 3, 1) := by decide +kernel
theorem dX11_wind_52 : decode cX11_wind 52 = .ok (.iadd, 1) := by decide +kernel
theorem dX11_wind_53 : decode cX11_wind 53 = .ok (.iload 4, 2) := by decide +kernel
theorem dX11_wind_55 : decode cX11_wind 55 = .ok (.iadd, 1) := by decide +kernel
theorem dX11_wind_56 : decode cX11_wind 56 = .ok (.iload 5, 2) := by decide +kernel
theorem dX11_wind_58 : decode cX11_wind 58 = .ok (.iadd, 1) := by decide +kernel
theorem dX11_wind_59 : decode cX11_wind 59 = .ok (.iload 6, 2) := by decide +kernel
theorem dX11_wind_61 : decode cX11_wind 61 = .ok (.iadd, 1) := by decide +kernel
theorem dX11_wind_62 : decode cX11_wind 62 = .ok (.sipush 1000, 3) := by decide +kernel
theorem dX11_wind_65 : decode cX11_wind 65 = .ok (.if_icmp .le 6, 3) := by decide +kernel
theorem dX11_wind_68 : decode cX11_wind 68 = .ok (.bipush (-2), 2) := by decide +kernel
theorem dX11_wind_70 : decode cX11_wind 70 = .ok (.ireturn, 1) := by decide +kernel
theorem dX11_wind_71 : decode cX11_wind 71 = .ok (.aload_n 0, 1) := by decide +kernel
theorem dX11_wind_72 : decode cX11_wind 72 = .ok (.getfield 20, 3) := by decide +kernel
theorem dX11_wind_75 : decode cX11_wind 75 = .ok (.getfield 111, 3) := by decide +kernel
theorem dX11_wind_78 : decode cX11_wind 78 = .ok (.iload_n 1, 1) := by decide +kernel
theorem dX11_wind_79 : decode cX11_wind 79 = .ok (.iconst 0, 1) := by decide +kernel
theorem dX11_wind_80 : decode cX11_wind 80 = .ok (.iload_n 2, 1) := by decide +kernel
theorem dX11_wind_81 : decode cX11_wind 81 = .ok (.invokevirtual 115, 3) := by decide +kernel
theorem dX11_wind_84 : decode cX11_wind 84 = .ok (.aload_n 0, 1) := by decide +kernel
theorem dX11_wind_85 : decode cX11_wind 85 = .ok (.getfield 20, 3) := by decide +kernel
theorem dX11_wind_88 : decode cX11_wind 88 = .ok (.getfield 111, 3) := by decide +kernel
theorem dX11_wind_91 : decode cX11_wind 91 = .ok (.iload_n 1, 1) := by decide +kernel
theorem dX11_wind_92 : decode cX11_wind 92 = .ok (.iconst 1, 1) := by decide +kernel
theorem dX11_wind_93 : decode cX11_wind 93 = .ok (.iload_n 3, 1) := by decide +kernel
theorem dX11_wind_94 : decode cX11_wind 94 = .ok (.invokevirtual 115, 3) := by decide +kernel
theorem dX11_wind_97 : decode cX11_wind 97 = .ok (.aload_n 0, 1) := by decide +kernel
theorem dX11_wind_98 : decode cX11_wind 98 = .ok (.getfield 20, 3) := by decide +kernel
theorem dX11_wind_101 : decode cX11_wind 101 = .ok (.getfield 111, 3) := by decide +kernel
theorem dX11_wind_104 : decode cX11_wind 104 = .ok (.iload_n 1, 1) := by decide +kernel
theorem dX11_wind_105 : decode cX11_wind 105 = .ok (.iconst 2, 1) := by decide +kernel
theorem dX11_wind_106 : decode cX11_wind 106 = .ok (.iload 4, 2) := by decide +kernel
theorem dX11_wind_108 : decode cX11_wind 108 = .ok (.invokevirtual 115, 3) := by decide +kernel
theorem dX11_wind_111 : decode cX11_wind 111 = .ok (.aload_n 0, 1) := by decide +kernel
theorem dX11_wind_112 : decode cX11_wind 112 = .ok (.getfield 20, 3) := by decide +kernel
theorem dX11_wind_115 : decode cX11_wind 115 = .ok (.getfield 111, 3) := by decide +kernel
theorem dX11_wind_118 : decode cX11_wind 118 = .ok (.iload_n 1, 1) := by decide +kernel
theorem dX11_wind_119 : decode cX11_wind 119 = .ok (.iconst 3, 1) := by decide +kernel
theorem dX11_wind_120 : decode cX11_wind 120 = .ok (.iload 5, 2) := by decide +kernel
theorem dX11_wind_122 : decode cX11_wind 122 = .ok (.invokevirtual 115, 3) := by decide +kernel
theorem dX11_wind_125 : decode cX11_wind 125 = .ok (.aload_n 0, 1) := by decide +kernel
theorem dX11_wind_126 : decode cX11_wind 126 = .ok (.getfield 20, 3) := by decide +kernel
theorem dX11_wind_129 : decode cX11_wind 129 = .ok (.getfield 111, 3) := by decide +kernel
theorem dX11_wind_132 : decode cX11_wind 132 = .ok (.iload_n 1, 1) := by decide +kernel
theorem dX11_wind_133 : decode cX11_wind 133 = .ok (.iconst 4, 1) := by decide +kernel
theorem dX11_wind_134 : decode cX11_wind 134 = .ok (.iload 6, 2) := by decide +kernel
theorem dX11_wind_136 : decode cX11_wind 136 = .ok (.invokevirtual 115, 3) := by decide +kernel
theorem dX11_wind_139 : decode cX11_wind 139 = .ok (.aload_n 0, 1) := by decide +kernel
theorem dX11_wind_140 : decode cX11_wind 140 = .ok (.getfield 20, 3) := by decide +kernel
theorem dX11_wind_143 : decode cX11_wind 143 = .ok (.getfield 111, 3) := by decide +kernel
theorem dX11_wind_146 : decode cX11_wind 146 = .ok (.iload_n 1, 1) := by decide +kernel
theorem dX11_wind_147 : decode cX11_wind 147 = .ok (.iconst 5, 1) := by decide +kernel
theorem dX11_wind_148 : decode cX11_wind 148 = .ok (.sipush 1000, 3) := by decide +kernel
theorem dX11_wind_151 : decode cX11_wind 151 = .ok (.iload_n 2, 1) := by decide +kernel
theorem dX11_wind_152 : decode cX11_wind 152 = .ok (.isub, 1) := by decide +kernel
theorem dX11_wind_153 : decode cX11_wind 153 = .ok (.iload_n 3, 1) := by decide +kernel
theorem dX11_wind_154 : decode cX11_wind 154 = .ok (.isub, 1) := by decide +kernel
theorem dX11_wind_155 : decode cX11_wind 155 = .ok (.iload 4, 2) := by decide +kernel
theorem dX11_wind_157 : decode cX11_wind 157 = .ok (.isub, 1) := by decide +kernel
theorem dX11_wind_158 : decode cX11_wind 158 = .ok (.iload 5, 2) := by decide +kernel
theorem dX11_wind_160 : decode cX11_wind 160 = .ok (.isub, 1) := by decide +kernel
theorem dX11_wind_161 : decode cX11_wind 161 = .ok (.iload 6, 2) := by decide +kernel
theorem dX11_wind_163 : decode cX11_wind 163 = .ok (.isub, 1) := by decide +kernel
theorem dX11_wind_164 : decode cX11_wind 164 = .ok (.invokevirtual 115, 3) := by decide +kernel
theorem dX11_wind_167 : decode cX11_wind 167 = .ok (.aload_n 0, 1) := by decide +kernel
theorem dX11_wind_168 : decode cX11_wind 168 = .ok (.getfield 37, 3) := by decide +kernel
theorem dX11_wind_171 : decode cX11_wind 171 = .ok (.invokevirtual 119, 3) := by decide +kernel
theorem dX11_wind_174 : decode cX11_wind 174 = .ok (.iconst 1, 1) := by decide +kernel
theorem dX11_wind_175 : decode cX11_wind 175 = .ok (.ireturn, 1) := by decide +kernel
theorem dX11_chance_0 : decode cX11_chance 0 = .ok (.iload_n 1, 1) := by decide +kernel
theorem dX11_chance_1 : decode cX11_chance 1 = .ok (.invokestatic 77, 3) := by decide +kernel
theorem dX11_chance_4 : decode cX11_chance 4 = .ok (.ifCond .eq 25, 3) := by decide +kernel
theorem dX11_chance_7 : decode cX11_chance 7 = .ok (.iload_n 2, 1) := by decide +kernel
theorem dX11_chance_8 : decode cX11_chance 8 = .ok (.invokestatic 77, 3) := by decide +kernel
theorem dX11_chance_11 : decode cX11_chance 11 = .ok (.ifCond .eq 18, 3) := by decide +kernel
theorem dX11_chance_14 : decode cX11_chance 14 = .ok (.aload_n 0, 1) := by decide +kernel
theorem dX11_chance_15 : decode cX11_chance 15 = .ok (.getfield 20, 3) := by decide +kernel
theorem dX11_chance_18 : decode cX11_chance 18 = .ok (.getfield 111, 3) := by decide +kernel
theorem dX11_chance_21 : decode cX11_chance 21 = .ok (.iload_n 1, 1) := by decide +kernel
theorem dX11_chance_22 : decode cX11_chance 22 = .ok (.iload_n 2, 1) := by decide +kernel
theorem dX11_chance_23 : decode cX11_chance 23 = .ok (.invokevirtual 122, 3) := by decide +kernel
theorem dX11_chance_26 : decode cX11_chance 26 = .ok (.goto 4, 3) := by decide +kernel
theorem dX11_chance_29 : decode cX11_chance 29 = .ok (.iconst (-1), 1) := by decide +kernel
theorem dX11_chance_30 : decode cX11_chance 30 = .ok (.ireturn, 1) := by decide +kernel
theorem dX11_lead_0 : decode cX11_lead 0 = .ok (.aload_n 0, 1) := by decide +kernel
theorem dX11_lead_1 : decode cX11_lead 1 = .ok (.iload_n 1, 1) := by decide +kernel
theorem dX11_lead_2 : decode cX11_lead 2 = .ok (.invokevirtual 73, 3) := by decide +kernel
theorem dX11_lead_5 : decode cX11_lead 5 = .ok (.ifCond .ne 5, 3) := by decide +kernel
theorem dX11_lead_8 : decode cX11_lead 8 = .ok (.iconst (-1), 1) := by decide +kernel
theorem dX11_lead_9 : decode cX11_lead 9 = .ok (.ireturn, 1) := by decide +kernel
theorem dX11_lead_10 : decode cX11_lead 10 = .ok (.aload_n 0, 1) := by decide +kernel
theorem dX11_lead_11 : decode cX11_lead 11 = .ok (.getfield 20, 3) := by decide +kernel
theorem dX11_lead_14 : decode cX11_lead 14 = .ok (.getfield 126, 3) := by decide +kernel
theorem dX11_lead_17 : decode cX11_lead 17 = .ok (.iload_n 1, 1) := by decide +kernel
theorem dX11_lead_18 : decode cX11_lead 18 = .ok (.invokevirtual 130, 3) := by decide +kernel
theorem dX11_lead_21 : decode cX11_lead 21 = .ok (.aload_n 0, 1) := by decide +kernel
theorem dX11_lead_22 : decode cX11_lead 22 = .ok (.getfield 37, 3) := by decide +kernel
theorem dX11_lead_25 : decode cX11_lead 25 = .ok (.invokevirtual 119, 3) := by decide +kernel
theorem dX11_lead_28 : decode cX11_lead 28 = .ok (.iconst 1, 1) := by decide +kernel
theorem dX11_lead_29 : decode cX11_lead 29 = .ok (.ireturn, 1) := by decide +kernel
theorem dX11_led_0 : decode cX11_led 0 = .ok (.iload_n 1, 1) := by decide +kernel
theorem dX11_led_1 : decode cX11_led 1 = .ok (.iconst 0, 1) := by decide +kernel
theorem dX11_led_2 : decode cX11_led 2 = .ok (.iconst 5, 1) := by decide +kernel
theorem dX11_led_3 : decode cX11_led 3 = .ok (.invokestatic 49, 3) := by decide +kernel
theorem dX11_led_6 : decode cX11_led 6 = .ok (.ifCond .ne 5, 3) := by decide +kernel
theorem dX11_led_9 : decode cX11_led 9 = .ok (.iconst (-1), 1) := by decide +kernel
theorem dX11_led_10 : decode cX11_led 10 = .ok (.ireturn, 1) := by decide +kernel
theorem dX11_led_11 : decode cX11_led 11 = .ok (.aload_n 0, 1) := by decide +kernel
theorem dX11_led_12 : decode cX11_led 12 = .ok (.invokevirtual 136, 3) := by decide +kernel
theorem dX11_led_15 : decode cX11_led 15 = .ok (.ifCond .ne 6, 3) := by decide +kernel
theorem dX11_led_18 : decode cX11_led 18 = .ok (.bipush (-3), 2) := by decide +kernel
theorem dX11_led_20 : decode cX11_led 20 = .ok (.ireturn, 1) := by decide +kernel
theorem dX11_led_21 : decode cX11_led 21 = .ok (.iload_n 1, 1) := by decide +kernel
theorem dX11_led_22 : decode cX11_led 22 = .ok (.tableswitch 89 0 4 #[34, 45, 56, 67, 78], 34) := by decide +kernel
theorem dX11_led_56 : decode cX11_led 56 = .ok (.aload_n 0, 1) := by decide +kernel
theorem dX11_led_57 : decode cX11_led 57 = .ok (.getfield 20, 3) := by decide +kernel
theorem dX11_led_60 : decode cX11_led 60 = .ok (.getfield 126, 3) := by decide +kernel
theorem dX11_led_63 : decode cX11_led 63 = .ok (.getfield 140, 3) := by decide +kernel
theorem dX11_led_66 : decode cX11_led 66 = .ok (.ireturn, 1) := by decide +kernel
theorem dX11_led_67 : decode cX11_led 67 = .ok (.aload_n 0, 1) := by decide +kernel
theorem dX11_led_68 : decode cX11_led 68 = .ok (.getfield 20, 3) := by decide +kernel
theorem dX11_led_71 : decode cX11_led 71 = .ok (.getfield 126, 3) := by decide +kernel
theorem dX11_led_74 : decode cX11_led 74 = .ok (.getfield 143, 3) := by decide +kernel
theorem dX11_led_77 : decode cX11_led 77 = .ok (.ireturn, 1) := by decide +kernel
theorem dX11_led_78 : decode cX11_led 78 = .ok (.aload_n 0, 1) := by decide +kernel
theorem dX11_led_79 : decode cX11_led 79 = .ok (.getfield 20, 3) := by decide +kernel
theorem dX11_led_82 : decode cX11_led 82 = .ok (.getfield 126, 3) := by decide +kernel
theorem dX11_led_85 : decode cX11_led 85 = .ok (.getfield 146, 3) := by decide +kernel
theorem dX11_led_88 : decode cX11_led 88 = .ok (.ireturn, 1) := by decide +kernel
theorem dX11_led_89 : decode cX11_led 89 = .ok (.aload_n 0, 1) := by decide +kernel
theorem dX11_led_90 : decode cX11_led 90 = .ok (.getfield 20, 3) := by decide +kernel
theorem dX11_led_93 : decode cX11_led 93 = .ok (.getfield 126, 3) := by decide +kernel
theorem dX11_led_96 : decode cX11_led 96 = .ok (.getfield 149, 3) := by decide +kernel
theorem dX11_led_99 : decode cX11_led 99 = .ok (.ireturn, 1) := by decide +kernel
theorem dX11_led_100 : decode cX11_led 100 = .ok (.aload_n 0, 1) := by decide +kernel
theorem dX11_led_101 : decode cX11_led 101 = .ok (.getfield 20, 3) := by decide +kernel
theorem dX11_led_104 : decode cX11_led 104 = .ok (.getfield 126, 3) := by decide +kernel
theorem dX11_led_107 : decode cX11_led 107 = .ok (.getfield 152, 3) := by decide +kernel
theorem dX11_led_110 : decode cX11_led 110 = .ok (.ireturn, 1) := by decide +kernel
theorem dX11_led_111 : decode cX11_led 111 = .ok (.aload_n 0, 1) := by decide +kernel
theorem dX11_led_112 : decode cX11_led 112 = .ok (.getfield 20, 3) := by decide +kernel
theorem dX11_led_115 : decode cX11_led 115 = .ok (.getfield 126, 3) := by decide +kernel
theorem dX11_led_118 : decode cX11_led 118 = .ok (.getfield 155, 3) := by decide +kernel
theorem dX11_led_121 : decode cX11_led 121 = .ok (.ifCond .eq 7, 3) := by decide +kernel
theorem dX11_led_124 : decode cX11_led 124 = .ok (.iconst 1, 1) := by decide +kernel
theorem dX11_led_125 : decode cX11_led 125 = .ok (.goto 4, 3) := by decide +kernel
theorem dX11_led_128 : decode cX11_led 128 = .ok (.iconst 0, 1) := by decide +kernel
theorem dX11_led_129 : decode cX11_led 129 = .ok (.ireturn, 1) := by decide +kernel
theorem dX11_go_0 : decode cX11_go 0 = .ok (.iload_n 1, 1) := by decide +kernel
theorem dX11_go_1 : decode cX11_go 1 = .ok (.invokestatic 77, 3) := by decide +kernel
theorem dX11_go_4 : decode cX11_go 4 = .ok (.ifCond .ne 6, 3) := by decide +kernel
theorem dX11_go_7 : decode cX11_go 7 = .ok (.bipush (-11), 2) := by decide +kernel
theorem dX11_go_9 : decode cX11_go 9 = .ok (.ireturn, 1) := by decide +kernel
