theorem dX12_bestFrom_107 : decode cX12_bestFrom 107 = .ok (.lload 6, 2) := by decide +kernel
theorem dX12_bestFrom_109 : decode cX12_bestFrom 109 = .ok (.lastore, 1) := by decide +kernel
theorem dX12_bestFrom_110 : decode cX12_bestFrom 110 = .ok (.aload_n 0, 1) := by decide +kernel
theorem dX12_bestFrom_111 : decode cX12_bestFrom 111 = .ok (.getfield 46, 3) := by decide +kernel
theorem dX12_bestFrom_114 : decode cX12_bestFrom 114 = .ok (.iload 5, 2) := by decide +kernel
theorem dX12_bestFrom_116 : decode cX12_bestFrom 116 = .ok (.laload, 1) := by decide +kernel
theorem dX12_bestFrom_117 : decode cX12_bestFrom 117 = .ok (.lreturn, 1) := by decide +kernel
theorem dX12_with_0 : decode cX12_with 0 = .ok (.aload_n 0, 1) := by decide +kernel
theorem dX12_with_1 : decode cX12_with 1 = .ok (.iload_n 2, 1) := by decide +kernel
theorem dX12_with_2 : decode cX12_with 2 = .ok (.iload_n 3, 1) := by decide +kernel
theorem dX12_with_3 : decode cX12_with 3 = .ok (.iload 4, 2) := by decide +kernel
theorem dX12_with_5 : decode cX12_with 5 = .ok (.iload 5, 2) := by decide +kernel
theorem dX12_with_7 : decode cX12_with 7 = .ok (.invokevirtual 205, 3) := by decide +kernel
theorem dX12_with_10 : decode cX12_with 10 = .ok (.istore 6, 2) := by decide +kernel
theorem dX12_with_12 : decode cX12_with 12 = .ok (.aload_n 0, 1) := by decide +kernel
theorem dX12_with_13 : decode cX12_with 13 = .ok (.getfield 28, 3) := by decide +kernel
theorem dX12_with_16 : decode cX12_with 16 = .ok (.iload 6, 2) := by decide +kernel
theorem dX12_with_18 : decode cX12_with 18 = .ok (.iaload, 1) := by decide +kernel
theorem dX12_with_19 : decode cX12_with 19 = .ok (.ifCond .ge 5, 3) := by decide +kernel
theorem dX12_with_22 : decode cX12_with 22 = .ok (.lconst 0, 1) := by decide +kernel
theorem dX12_with_23 : decode cX12_with 23 = .ok (.lreturn, 1) := by decide +kernel
theorem dX12_with_24 : decode cX12_with 24 = .ok (.aload_n 0, 1) := by decide +kernel
theorem dX12_with_25 : decode cX12_with 25 = .ok (.getfield 31, 3) := by decide +kernel
theorem dX12_with_28 : decode cX12_with 28 = .ok (.iload 6, 2) := by decide +kernel
theorem dX12_with_30 : decode cX12_with 30 = .ok (.iaload, 1) := by decide +kernel
theorem dX12_with_31 : decode cX12_with 31 = .ok (.istore 7, 2) := by decide +kernel
theorem dX12_with_33 : decode cX12_with 33 = .ok (.aload_n 0, 1) := by decide +kernel
theorem dX12_with_34 : decode cX12_with 34 = .ok (.getfield 34, 3) := by decide +kernel
theorem dX12_with_37 : decode cX12_with 37 = .ok (.iload 6, 2) := by decide +kernel
theorem dX12_with_39 : decode cX12_with 39 = .ok (.iaload, 1) := by decide +kernel
theorem dX12_with_40 : decode cX12_with 40 = .ok (.istore 8, 2) := by decide +kernel
theorem dX12_with_42 : decode cX12_with 42 = .ok (.lconst 0, 1) := by decide +kernel
theorem dX12_with_43 : decode cX12_with 43 = .ok (.lstore 9, 2) := by decide +kernel
theorem dX12_with_45 : decode cX12_with 45 = .ok (.iconst 0, 1) := by decide +kernel
theorem dX12_with_46 : decode cX12_with 46 = .ok (.istore 11, 2) := by decide +kernel
theorem dX12_with_48 : decode cX12_with 48 = .ok (.iload 11, 2) := by decide +kernel
theorem dX12_with_50 : decode cX12_with 50 = .ok (.bipush 6, 2) := by decide +kernel
theorem dX12_with_52 : decode cX12_with 52 = .ok (.if_icmp .ge 58, 3) := by decide +kernel
theorem dX12_with_55 : decode cX12_with 55 = .ok (.aload_n 0, 1) := by decide +kernel
theorem dX12_with_56 : decode cX12_with 56 = .ok (.getfield 9, 3) := by decide +kernel
theorem dX12_with_59 : decode cX12_with 59 = .ok (.sipush 851, 3) := by decide +kernel
theorem dX12_with_62 : decode cX12_with 62 = .ok (.bipush 6, 2) := by decide +kernel
theorem dX12_with_64 : decode cX12_with 64 = .ok (.iload_n 2, 1) := by decide +kernel
theorem dX12_with_65 : decode cX12_with 65 = .ok (.imul, 1) := by decide +kernel
theorem dX12_with_66 : decode cX12_with 66 = .ok (.iadd, 1) := by decide +kernel
theorem dX12_with_67 : decode cX12_with 67 = .ok (.iload 11, 2) := by decide +kernel
theorem dX12_with_69 : decode cX12_with 69 = .ok (.iadd, 1) := by decide +kernel
theorem dX12_with_70 : decode cX12_with 70 = .ok (.iaload, 1) := by decide +kernel
theorem dX12_with_71 : decode cX12_with 71 = .ok (.istore 12, 2) := by decide +kernel
theorem dX12_with_73 : decode cX12_with 73 = .ok (.lload 9, 2) := by decide +kernel
theorem dX12_with_75 : decode cX12_with 75 = .ok (.iload 12, 2) := by decide +kernel
theorem dX12_with_77 : decode cX12_with 77 = .ok (.ifCond .ne 7, 3) := by decide +kernel
theorem dX12_with_80 : decode cX12_with 80 = .ok (.lconst 0, 1) := by decide +kernel
theorem dX12_with_81 : decode cX12_with 81 = .ok (.goto 20, 3) := by decide +kernel
theorem dX12_with_84 : decode cX12_with 84 = .ok (.iload 12, 2) := by decide +kernel
theorem dX12_with_86 : decode cX12_with 86 = .ok (.i2l, 1) := by decide +kernel
theorem dX12_with_87 : decode cX12_with 87 = .ok (.aload_n 0, 1) := by decide +kernel
theorem dX12_with_88 : decode cX12_with 88 = .ok (.iload_n 1, 1) := by decide +kernel
theorem dX12_with_89 : decode cX12_with 89 = .ok (.iconst 1, 1) := by decide +kernel
theorem dX12_with_90 : decode cX12_with 90 = .ok (.isub, 1) := by decide +kernel
theorem dX12_with_91 : decode cX12_with 91 = .ok (.iload 11, 2) := by decide +kernel
theorem dX12_with_93 : decode cX12_with 93 = .ok (.iload 7, 2) := by decide +kernel
theorem dX12_with_95 : decode cX12_with 95 = .ok (.iload 8, 2) := by decide +kernel
theorem dX12_with_97 : decode cX12_with 97 = .ok (.invokevirtual 209, 3) := by decide +kernel
theorem dX12_with_100 : decode cX12_with 100 = .ok (.lmul, 1) := by decide +kernel
theorem dX12_with_101 : decode cX12_with 101 = .ok (.ladd, 1) := by decide +kernel
theorem dX12_with_102 : decode cX12_with 102 = .ok (.lstore 9, 2) := by decide +kernel
theorem dX12_with_104 : decode cX12_with 104 = .ok (.iinc 11 1, 3) := by decide +kernel
theorem dX12_with_107 : decode cX12_with 107 = .ok (.goto (-59), 3) := by decide +kernel
theorem dX12_with_110 : decode cX12_with 110 = .ok (.ldc2_w 213, 3) := by decide +kernel
theorem dX12_with_113 : decode cX12_with 113 = .ok (.aload_n 0, 1) := by decide +kernel
theorem dX12_with_114 : decode cX12_with 114 = .ok (.getfield 28, 3) := by decide +kernel
theorem dX12_with_117 : decode cX12_with 117 = .ok (.iload 6, 2) := by decide +kernel
theorem dX12_with_119 : decode cX12_with 119 = .ok (.iaload, 1) := by decide +kernel
theorem dX12_with_120 : decode cX12_with 120 = .ok (.i2l, 1) := by decide +kernel
theorem dX12_with_121 : decode cX12_with 121 = .ok (.lmul, 1) := by decide +kernel
theorem dX12_with_122 : decode cX12_with 122 = .ok (.lload 9, 2) := by decide +kernel
theorem dX12_with_124 : decode cX12_with 124 = .ok (.ldc2_w 213, 3) := by decide +kernel
theorem dX12_with_127 : decode cX12_with 127 = .ok (.ldiv, 1) := by decide +kernel
theorem dX12_with_128 : decode cX12_with 128 = .ok (.ladd, 1) := by decide +kernel
theorem dX12_with_129 : decode cX12_with 129 = .ok (.lreturn, 1) := by decide +kernel
theorem dX12_isSafe_0 : decode cX12_isSafe 0 = .ok (.iconst 1, 1) := by decide +kernel
theorem dX12_isSafe_1 : decode cX12_isSafe 1 = .ok (.istore 5, 2) := by decide +kernel
theorem dX12_isSafe_3 : decode cX12_isSafe 3 = .ok (.iconst 0, 1) := by decide +kernel
theorem dX12_isSafe_4 : decode cX12_isSafe 4 = .ok (.istore 6, 2) := by decide +kernel
theorem dX12_isSafe_6 : decode cX12_isSafe 6 = .ok (.iload 6, 2) := by decide +kernel
theorem dX12_isSafe_8 : decode cX12_isSafe 8 = .ok (.iload_n 2, 1) := by decide +kernel
theorem dX12_isSafe_9 : decode cX12_isSafe 9 = .ok (.if_icmp .gt 46, 3) := by decide +kernel
theorem dX12_isSafe_12 : decode cX12_isSafe 12 = .ok (.iload 6, 2) := by decide +kernel
theorem dX12_isSafe_14 : decode cX12_isSafe 14 = .ok (.bipush 6, 2) := by decide +kernel
theorem dX12_isSafe_16 : decode cX12_isSafe 16 = .ok (.if_icmp .ge 39, 3) := by decide +kernel
theorem dX12_isSafe_19 : decode cX12_isSafe 19 = .ok (.iload 5, 2) := by decide +kernel
theorem dX12_isSafe_21 : decode cX12_isSafe 21 = .ok (.ifCond .eq 25, 3) := by decide +kernel
theorem dX12_isSafe_24 : decode cX12_isSafe 24 = .ok (.aload_n 0, 1) := by decide +kernel
theorem dX12_isSafe_25 : decode cX12_isSafe 25 = .ok (.getfield 28, 3) := by decide +kernel
theorem dX12_isSafe_28 : decode cX12_isSafe 28 = .ok (.aload_n 0, 1) := by decide +kernel
theorem dX12_isSafe_29 : decode cX12_isSafe 29 = .ok (.iload 6, 2) := by decide +kernel
theorem dX12_isSafe_31 : decode cX12_isSafe 31 = .ok (.iload_n 1, 1) := by decide +kernel
theorem dX12_isSafe_32 : decode cX12_isSafe 32 = .ok (.iload_n 3, 1) := by decide +kernel
theorem dX12_isSafe_33 : decode cX12_isSafe 33 = .ok (.iload 4, 2) := by decide +kernel
theorem dX12_isSafe_35 : decode cX12_isSafe 35 = .ok (.invokevirtual 205, 3) := by decide +kernel
theorem dX12_isSafe_38 : decode cX12_isSafe 38 = .ok (.iaload, 1) := by decide +kernel
theorem dX12_isSafe_39 : decode cX12_isSafe 39 = .ok (.ifCond .lt 7, 3) := by decide +kernel
theorem dX12_isSafe_42 : decode cX12_isSafe 42 = .ok (.iconst 1, 1) := by decide +kernel
theorem dX12_isSafe_43 : decode cX12_isSafe 43 = .ok (.goto 4, 3) := by decide +kernel
theorem dX12_isSafe_46 : decode cX12_isSafe 46 = .ok (.iconst 0, 1) := by decide +kernel
theorem dX12_isSafe_47 : decode cX12_isSafe 47 = .ok (.istore 5, 2) := by decide +kernel
theorem dX12_isSafe_49 : decode cX12_isSafe 49 = .ok (.iinc 6 1, 3) := by decide +kernel
theorem dX12_isSafe_52 : decode cX12_isSafe 52 = .ok (.goto (-46), 3) := by decide +kernel
theorem dX12_isSafe_55 : decode cX12_isSafe 55 = .ok (.iload 5, 2) := by decide +kernel
theorem dX12_isSafe_57 : decode cX12_isSafe 57 = .ok (.ireturn, 1) := by decide +kernel
theorem dX12_bestSetting_0 : decode cX12_bestSetting 0 = .ok (.iconst (-1), 1) := by decide +kernel
theorem dX12_bestSetting_1 : decode cX12_bestSetting 1 = .ok (.istore 6, 2) := by decide +kernel
theorem dX12_bestSetting_3 : decode cX12_bestSetting 3 = .ok (.lconst 0, 1) := by decide +kernel
theorem dX12_bestSetting_4 : decode cX12_bestSetting 4 = .ok (.lstore 7, 2) := by decide +kernel
theorem dX12_bestSetting_6 : decode cX12_bestSetting 6 = .ok (.iconst 0, 1) := by decide +kernel
theorem dX12_bestSetting_7 : decode cX12_bestSetting 7 = .ok (.istore 9, 2) := by decide +kernel
theorem dX12_bestSetting_9 : decode cX12_bestSetting 9 = .ok (.iload 9, 2) := by decide +kernel
theorem dX12_bestSetting_11 : decode cX12_bestSetting 11 = .ok (.bipush 8, 2) := by decide +kernel
theorem dX12_bestSetting_13 : decode cX12_bestSetting 13 = .ok (.if_icmp .ge 91, 3) := by decide +kernel
theorem dX12_bestSetting_16 : decode cX12_bestSetting 16 = .ok (.iload 5, 2) := by decide +kernel
theorem dX12_bestSetting_18 : decode cX12_bestSetting 18 = .ok (.iconst (-1), 1) := by decide +kernel
theorem dX12_bestSetting_19 : decode cX12_bestSetting 19 = .ok (.if_icmp .eq 17, 3) := by decide +kernel
theorem dX12_bestSetting_22 : decode cX12_bestSetting 22 = .ok (.aload_n 0, 1) := by decide +kernel
theorem dX12_bestSetting_23 : decode cX12_bestSetting 23 = .ok (.iload 9, 2) := by decide +kernel
theorem dX12_bestSetting_25 : decode cX12_bestSetting 25 = .ok (.iload 5, 2) := by decide +kernel
theorem dX12_bestSetting_27 : decode cX12_bestSetting 27 = .ok (.iload_n 3, 1) := by decide +kernel
theorem dX12_bestSetting_28 : decode cX12_bestSetting 28 = .ok (.iload 4, 2) := by decide +kernel
theorem dX12_bestSetting_30 : decode cX12_bestSetting 30 = .ok (.invokevirtual 215, 3) := by decide +kernel
theorem dX12_bestSetting_33 : decode cX12_bestSetting 33 = .ok (.ifCond .eq 65, 3) := by decide +kernel
theorem dX12_bestSetting_36 : decode cX12_bestSetting 36 = .ok (.aload_n 0, 1) := by decide +kernel
theorem dX12_bestSetting_37 : decode cX12_bestSetting 37 = .ok (.iload_n 1, 1) := by decide +kernel
theorem dX12_bestSetting_38 : decode cX12_bestSetting 38 = .ok (.iload_n 2, 1) := by decide +kernel
theorem dX12_bestSetting_39 : decode cX12_bestSetting 39 = .ok (.iload 9, 2) := by decide +kernel
theorem dX12_bestSetting_41 : decode cX12_bestSetting 41 = .ok (.iload_n 3, 1) := by decide +kernel
theorem dX12_bestSetting_42 : decode cX12_bestSetting 42 = .ok (.iload 4, 2) := by decide +kernel
theorem dX12_bestSetting_44 : decode cX12_bestSetting 44 = .ok (.invokevirtual 201, 3) := by decide +kernel
theorem dX12_bestSetting_47 : decode cX12_bestSetting 47 = .ok (.lstore 10, 2) := by decide +kernel
theorem dX12_bestSetting_49 : decode cX12_bestSetting 49 = .ok (.iload 6, 2) := by decide +kernel
theorem dX12_bestSetting_51 : decode cX12_bestSetting 51 = .ok (.iconst (-1), 1) := by decide +kernel
theorem dX12_bestSetting_52 : decode cX12_bestSetting 52 = .ok (.if_icmp .eq 11, 3) := by decide +kernel
theorem dX12_bestSetting_55 : decode cX12_bestSetting 55 = .ok (.lload 10, 2) := by decide +kernel
theorem dX12_bestSetting_57 : decode cX12_bestSetting 57 = .ok (.lload 7, 2) := by decide +kernel
theorem dX12_bestSetting_59 : decode cX12_bestSetting 59 = .ok (.lcmp, 1) := by decide +kernel
theorem dX12_bestSetting_60 : decode cX12_bestSetting 60 = .ok (.ifCond .le 7, 3) := by decide +kernel
theorem dX12_bestSetting_63 : decode cX12_bestSetting 63 = .ok (.iconst 1, 1) := by decide +kernel
theorem dX12_bestSetting_64 : decode cX12_bestSetting 64 = .ok (.goto 4, 3) := by decide +kernel
theorem dX12_bestSetting_67 : decode cX12_bestSetting 67 = .ok (.iconst 0, 1) := by decide +kernel
theorem dX12_bestSetting_68 : decode cX12_bestSetting 68 = .ok (.istore 12, 2) := by decide +kernel
theorem dX12_bestSetting_70 : decode cX12_bestSetting 70 = .ok (.iload 12, 2) := by decide +kernel
theorem dX12_bestSetting_72 : decode cX12_bestSetting 72 = .ok (.ifCond .eq 8, 3) := by decide +kernel
theorem dX12_bestSetting_75 : decode cX12_bestSetting 75 = .ok (.iload 9, 2) := by decide +kernel
theorem dX12_bestSetting_77 : decode cX12_bestSetting 77 = .ok (.goto 5, 3) := by decide +kernel
theorem dX12_bestSetting_80 : decode cX12_bestSetting 80 = .ok (.iload 6, 2) := by decide +kernel
theorem dX12_bestSetting_82 : decode cX12_bestSetting 82 = .ok (.istore 6, 2) := by decide +kernel
theorem dX12_bestSetting_84 : decode cX12_bestSetting 84 = .ok (.iload 12, 2) := by decide +kernel
theorem dX12_bestSetting_86 : decode cX12_bestSetting 86 = .ok (.ifCond .eq 8, 3) := by decide +kernel
theorem dX12_bestSetting_89 : decode cX12_bestSetting 89 = .ok (.lload 10, 2) := by decide +kernel
theorem dX12_bestSetting_91 : decode cX12_bestSetting 91 = .ok (.goto 5, 3) := by decide +kernel
theorem dX12_bestSetting_94 : decode cX12_bestSetting 94 = .ok (.lload 7, 2) := by decide +kernel
theorem dX12_bestSetting_96 : decode cX12_bestSetting 96 = .ok (.lstore 7, 2) := by decide +kernel
theorem dX12_bestSetting_98 : decode cX12_bestSetting 98 = .ok (.iinc 9 1, 3) := by decide +kernel
theorem dX12_bestSetting_101 : decode cX12_bestSetting 101 = .ok (.goto (-92), 3) := by decide +kernel
theorem dX12_bestSetting_104 : decode cX12_bestSetting 104 = .ok (.iload 6, 2) := by decide +kernel
theorem dX12_bestSetting_106 : decode cX12_bestSetting 106 = .ok (.iconst (-1), 1) := by decide +kernel
theorem dX12_bestSetting_107 : decode cX12_bestSetting 107 = .ok (.if_icmp .ne 7, 3) := by decide +kernel
theorem dX12_bestSetting_110 : decode cX12_bestSetting 110 = .ok (.iconst 0, 1) := by decide +kernel
theorem dX12_bestSetting_111 : decode cX12_bestSetting 111 = .ok (.goto 5, 3) := by decide +kernel
theorem dX12_bestSetting_114 : decode cX12_bestSetting 114 = .ok (.iload 6, 2) := by decide +kernel
theorem dX12_bestSetting_116 : decode cX12_bestSetting 116 = .ok (.ireturn, 1) := by decide +kernel
theorem dX12_watched_0 : decode cX12_watched 0 = .ok (.iconst (-1), 1) := by decide +kernel
theorem dX12_watched_1 : decode cX12_watched 1 = .ok (.istore 5, 2) := by decide +kernel
theorem dX12_watched_3 : decode cX12_watched 3 = .ok (.iconst 0, 1) := by decide +kernel
theorem dX12_watched_4 : decode cX12_watched 4 = .ok (.istore 6, 2) := by decide +kernel
theorem dX12_watched_6 : decode cX12_watched 6 = .ok (.iconst 0, 1) := by decide +kernel
theorem dX12_watched_7 : decode cX12_watched 7 = .ok (.istore 7, 2) := by decide +kernel
theorem dX12_watched_9 : decode cX12_watched 9 = .ok (.iload 7, 2) := by decide +kernel
theorem dX12_watched_11 : decode cX12_watched 11 = .ok (.bipush 8, 2) := by decide +kernel
theorem dX12_watched_13 : decode cX12_watched 13 = .ok (.if_icmp .ge 124, 3) := by decide +kernel
theorem dX12_watched_16 : decode cX12_watched 16 = .ok (.aload_n 0, 1) := by decide +kernel
theorem dX12_watched_17 : decode cX12_watched 17 = .ok (.iload_n 1, 1) := by decide +kernel
theorem dX12_watched_18 : decode cX12_watched 18 = .ok (.iload 7, 2) := by decide +kernel
theorem dX12_watched_20 : decode cX12_watched 20 = .ok (.iload_n 3, 1) := by decide +kernel
theorem dX12_watched_21 : decode cX12_watched 21 = .ok (.iload 4, 2) := by decide +kernel
theorem dX12_watched_23 : decode cX12_watched 23 = .ok (.invokevirtual 205, 3) := by decide +kernel
theorem dX12_watched_26 : decode cX12_watched 26 = .ok (.istore 8, 2) := by decide +kernel
theorem dX12_watched_28 : decode cX12_watched 28 = .ok (.iload_n 2, 1) := by decide +kernel
theorem dX12_watched_29 : decode cX12_watched 29 = .ok (.iconst (-1), 1) := by decide +kernel
theorem dX12_watched_30 : decode cX12_watched 30 = .ok (.if_icmp .eq 11, 3) := by decide +kernel
theorem dX12_watched_33 : decode cX12_watched 33 = .ok (.iload 7, 2) := by decide +kernel
theorem dX12_watched_35 : decode cX12_watched 35 = .ok (.iconst 2, 1) := by decide +kernel
theorem dX12_watched_36 : decode cX12_watched 36 = .ok (.irem, 1) := by decide +kernel
theorem dX12_watched_37 : decode cX12_watched 37 = .ok (.iload_n 2, 1) := by decide +kernel
theorem dX12_watched_38 : decode cX12_watched 38 = .ok (.if_icmp .ne 27, 3) := by decide +kernel
theorem dX12_watched_41 : decode cX12_watched 41 = .ok (.aload_n 0, 1) := by decide +kernel
theorem dX12_watched_42 : decode cX12_watched 42 = .ok (.getfield 28, 3) := by decide +kernel
theorem dX12_watched_45 : decode cX12_watched 45 = .ok (.iload 8, 2) := by decide +kernel
theorem dX12_watched_47 : decode cX12_watched 47 = .ok (.iaload, 1) := by decide +kernel
theorem dX12_watched_48 : decode cX12_watched 48 = .ok (.ifCond .lt 17, 3) := by decide +kernel
theorem dX12_watched_51 : decode cX12_watched 51 = .ok (.aload_n 0, 1) := by decide +kernel
theorem dX12_watched_52 : decode cX12_watched 52 = .ok (.getfield 37, 3) := by decide +kernel
theorem dX12_watched_55 : decode cX12_watched 55 = .ok (.iload 8, 2) := by decide +kernel
theorem dX12_watched_57 : decode cX12_watched 57 = .ok (.baload, 1) := by decide +kernel
theorem dX12_watched_58 : decode cX12_watched 58 = .ok (.ifCond .ne 7, 3) := by decide +kernel
theorem dX12_watched_61 : decode cX12_watched 61 = .ok (.iconst 1, 1) := by decide +kernel
theorem dX12_watched_62 : decode cX12_watched 62 = .ok (.goto 4, 3) := by decide +kernel
theorem dX12_watched_65 : decode cX12_watched 65 = .ok (.iconst 0, 1) := by decide +kernel
theorem dX12_watched_66 : decode cX12_watched 66 = .ok (.istore 9, 2) := by decide +kernel
theorem dX12_watched_68 : decode cX12_watched 68 = .ok (.iload 9, 2) := by decide +kernel
theorem dX12_watched_70 : decode cX12_watched 70 = .ok (.ifCond .eq 25, 3) := by decide +kernel
theorem dX12_watched_73 : decode cX12_watched 73 = .ok (.iload 5, 2) := by decide +kernel
theorem dX12_watched_75 : decode cX12_watched 75 = .ok (.iconst (-1), 1) := by decide +kernel
theorem dX12_watched_76 : decode cX12_watched 76 = .ok (.if_icmp .eq 15, 3) := by decide +kernel
theorem dX12_watched_79 : decode cX12_watched 79 = .ok (.aload_n 0, 1) := by decide +kernel
theorem dX12_watched_80 : decode cX12_watched 80 = .ok (.getfield 28, 3) := by decide +kernel
theorem dX12_watched_83 : decode cX12_watched 83 = .ok (.iload 8, 2) := by decide +kernel
theorem dX12_watched_85 : decode cX12_watched 85 = .ok (.iaload, 1) := by decide +kernel
theorem dX12_watched_86 : decode cX12_watched 86 = .ok (.iload 6, 2) := by decide +kernel
theorem dX12_watched_88 : decode cX12_watched 88 = .ok (.if_icmp .le 7, 3) := by decide +kernel
theorem dX12_watched_91 : decode cX12_watched 91 = .ok (.iconst 1, 1) := by decide +kernel
theorem dX12_watched_92 : decode cX12_watched 92 = .ok (.goto 4, 3) := by decide +kernel
theorem dX12_watched_95 : decode cX12_watched 95 = .ok (.iconst 0, 1) := by decide +kernel
theorem dX12_watched_96 : decode cX12_watched 96 = .ok (.istore 10, 2) := by decide +kernel
theorem dX12_watched_98 : decode cX12_watched 98 = .ok (.iload 10, 2) := by decide +kernel
theorem dX12_watched_100 : decode cX12_watched 100 = .ok (.ifCond .eq 8, 3) := by decide +kernel
theorem dX12_watched_103 : decode cX12_watched 103 = .ok (.iload 7, 2) := by decide +kernel
theorem dX12_watched_105 : decode cX12_watched 105 = .ok (.goto 5, 3) := by decide +kernel
theorem dX12_watched_108 : decode cX12_watched 108 = .ok (.iload 5, 2) := by decide +kernel
theorem dX12_watched_110 : decode cX12_watched 110 = .ok (.istore 5, 2) := by decide +kernel
theorem dX12_watched_112 : decode cX12_watched 112 = .ok (.iload 10, 2) := by decide +kernel
theorem dX12_watched_114 : decode cX12_watched 114 = .ok (.ifCond .eq 13, 3) := by decide +kernel
theorem dX12_watched_117 : decode cX12_watched 117 = .ok (.aload_n 0, 1) := by decide +kernel
theorem dX12_watched_118 : decode cX12_watched 118 = .ok (.getfield 28, 3) := by decide +kernel
theorem dX12_watched_121 : decode cX12_watched 121 = .ok (.iload 8, 2) := by decide +kernel
theorem dX12_watched_123 : decode cX12_watched 123 = .ok (.iaload, 1) := by decide +kernel
theorem dX12_watched_124 : decode cX12_watched 124 = .ok (.goto 5, 3) := by decide +kernel
theorem dX12_watched_127 : decode cX12_watched 127 = .ok (.iload 6, 2) := by decide +kernel
theorem dX12_watched_129 : decode cX12_watched 129 = .ok (.istore 6, 2) := by decide +kernel
theorem dX12_watched_131 : decode cX12_watched 131 = .ok (.iinc 7 1, 3) := by decide +kernel
theorem dX12_watched_134 : decode cX12_watched 134 = .ok (.goto (-125), 3) := by decide +kernel
theorem dX12_watched_137 : decode cX12_watched 137 = .ok (.iload 5, 2) := by decide +kernel
theorem dX12_watched_139 : decode cX12_watched 139 = .ok (.iconst (-1), 1) := by decide +kernel
theorem dX12_watched_140 : decode cX12_watched 140 = .ok (.if_icmp .ne 7, 3) := by decide +kernel
theorem dX12_watched_143 : decode cX12_watched 143 = .ok (.iconst 0, 1) := by decide +kernel
theorem dX12_watched_144 : decode cX12_watched 144 = .ok (.goto 5, 3) := by decide +kernel
theorem dX12_watched_147 : decode cX12_watched 147 = .ok (.iload 5, 2) := by decide +kernel
theorem dX12_watched_149 : decode cX12_watched 149 = .ok (.ireturn, 1) := by decide +kernel
theorem dX12_settingOf_0 : decode cX12_settingOf 0 = .ok (.iload 5, 2) := by decide +kernel
theorem dX12_settingOf_2 : decode cX12_settingOf 2 = .ok (.iconst 3, 1) := by decide +kernel
theorem dX12_settingOf_3 : decode cX12_settingOf 3 = .ok (.if_icmp .le 7, 3) := by decide +kernel
theorem dX12_settingOf_6 : decode cX12_settingOf 6 = .ok (.iconst 3, 1) := by decide +kernel
theorem dX12_settingOf_7 : decode cX12_settingOf 7 = .ok (.goto 5, 3) := by decide +kernel
theorem dX12_settingOf_10 : decode cX12_settingOf 10 = .ok (.iload 5, 2) := by decide +kernel
theorem dX12_settingOf_12 : decode cX12_settingOf 12 = .ok (.istore 10, 2) := by decide +kernel
theorem dX12_settingOf_14 : decode cX12_settingOf 14 = .ok (.iload_n 1, 1) := by decide +kernel
theorem dX12_settingOf_15 : decode cX12_settingOf 15 = .ok (.tableswitch 138 1 6 #[37, 39, 53, 65, 79, 93], 37) := by decide +kernel
theorem dX12_settingOf_52 : decode cX12_settingOf 52 = .ok (.iload_n 2, 1) := by decide +kernel
theorem dX12_settingOf_53 : decode cX12_settingOf 53 = .ok (.ireturn, 1) := by decide +kernel
theorem dX12_settingOf_54 : decode cX12_settingOf 54 = .ok (.aload_n 0, 1) := by decide +kernel
theorem dX12_settingOf_55 : decode cX12_settingOf 55 = .ok (.iload 7, 2) := by decide +kernel
theorem dX12_settingOf_57 : decode cX12_settingOf 57 = .ok (.iload_n 2, 1) := by decide +kernel
theorem dX12_settingOf_58 : decode cX12_settingOf 58 = .ok (.iconst 2, 1) := by decide +kernel
theorem dX12_settingOf_59 : decode cX12_settingOf 59 = .ok (.irem, 1) := by decide +kernel
theorem dX12_settingOf_60 : decode cX12_settingOf 60 = .ok (.iload 8, 2) := by decide +kernel
theorem dX12_settingOf_62 : decode cX12_settingOf 62 = .ok (.iload 9, 2) := by decide +kernel
theorem dX12_settingOf_64 : decode cX12_settingOf 64 = .ok (.invokevirtual 219, 3) := by decide +kernel
theorem dX12_settingOf_67 : decode cX12_settingOf 67 = .ok (.ireturn, 1) := by decide +kernel
theorem dX12_settingOf_68 : decode cX12_settingOf 68 = .ok (.aload_n 0, 1) := by decide +kernel
theorem dX12_settingOf_69 : decode cX12_settingOf 69 = .ok (.iload 6, 2) := by decide +kernel
theorem dX12_settingOf_71 : decode cX12_settingOf 71 = .ok (.iconst (-1), 1) := by decide +kernel
theorem dX12_settingOf_72 : decode cX12_settingOf 72 = .ok (.iload 8, 2) := by decide +kernel
theorem dX12_settingOf_74 : decode cX12_settingOf 74 = .ok (.iload 9, 2) := by decide +kernel
theorem dX12_settingOf_76 : decode cX12_settingOf 76 = .ok (.invokevirtual 219, 3) := by decide +kernel
theorem dX12_settingOf_79 : decode cX12_settingOf 79 = .ok (.ireturn, 1) := by decide +kernel
theorem dX12_settingOf_80 : decode cX12_settingOf 80 = .ok (.aload_n 0, 1) := by decide +kernel
theorem dX12_settingOf_81 : decode cX12_settingOf 81 = .ok (.iload 10, 2) := by decide +kernel
theorem dX12_settingOf_83 : decode cX12_settingOf 83 = .ok (.iload 6, 2) := by decide +kernel
theorem dX12_settingOf_85 : decode cX12_settingOf 85 = .ok (.iload 8, 2) := by decide +kernel
theorem dX12_settingOf_87 : decode cX12_settingOf 87 = .ok (.iload 9, 2) := by decide +kernel
theorem dX12_settingOf_89 : decode cX12_settingOf 89 = .ok (.iconst (-1), 1) := by decide +kernel
theorem dX12_settingOf_90 : decode cX12_settingOf 90 = .ok (.invokevirtual 222, 3) := by decide +kernel
theorem dX12_settingOf_93 : decode cX12_settingOf 93 = .ok (.ireturn, 1) := by decide +kernel
theorem dX12_settingOf_94 : decode cX12_settingOf 94 = .ok (.aload_n 0, 1) := by decide +kernel
theorem dX12_settingOf_95 : decode cX12_settingOf 95 = .ok (.iload 10, 2) := by decide +kernel
theorem dX12_settingOf_97 : decode cX12_settingOf 97 = .ok (.iload 6, 2) := by decide +kernel
theorem dX12_settingOf_99 : decode cX12_settingOf 99 = .ok (.iload 8, 2) := by decide +kernel
theorem dX12_settingOf_101 : decode cX12_settingOf 101 = .ok (.iload 9, 2) := by decide +kernel
theorem dX12_settingOf_103 : decode cX12_settingOf 103 = .ok (.iload_n 2, 1) := by decide +kernel
theorem dX12_settingOf_104 : decode cX12_settingOf 104 = .ok (.invokevirtual 222, 3) := by decide +kernel
theorem dX12_settingOf_107 : decode cX12_settingOf 107 = .ok (.ireturn, 1) := by decide +kernel
theorem dX12_settingOf_108 : decode cX12_settingOf 108 = .ok (.aload_n 0, 1) := by decide +kernel
theorem dX12_settingOf_109 : decode cX12_settingOf 109 = .ok (.getfield 9, 3) := by decide +kernel
theorem dX12_settingOf_112 : decode cX12_settingOf 112 = .ok (.sipush 907, 3) := by decide +kernel
theorem dX12_settingOf_115 : decode cX12_settingOf 115 = .ok (.iload_n 3, 1) := by decide +kernel
theorem dX12_settingOf_116 : decode cX12_settingOf 116 = .ok (.iadd, 1) := by decide +kernel
theorem dX12_settingOf_117 : decode cX12_settingOf 117 = .ok (.iaload, 1) := by decide +kernel
theorem dX12_settingOf_118 : decode cX12_settingOf 118 = .ok (.ifCond .ne 7, 3) := by decide +kernel
theorem dX12_settingOf_121 : decode cX12_settingOf 121 = .ok (.iload_n 2, 1) := by decide +kernel
theorem dX12_settingOf_122 : decode cX12_settingOf 122 = .ok (.goto 30, 3) := by decide +kernel
theorem dX12_settingOf_125 : decode cX12_settingOf 125 = .ok (.aload_n 0, 1) := by decide +kernel
theorem dX12_settingOf_126 : decode cX12_settingOf 126 = .ok (.getfield 9, 3) := by decide +kernel
theorem dX12_settingOf_129 : decode cX12_settingOf 129 = .ok (.sipush 917, 3) := by decide +kernel
theorem dX12_settingOf_132 : decode cX12_settingOf 132 = .ok (.bipush 10, 2) := by decide +kernel
theorem dX12_settingOf_134 : decode cX12_settingOf 134 = .ok (.iload_n 3, 1) := by decide +kernel
theorem dX12_settingOf_135 : decode cX12_settingOf 135 = .ok (.imul, 1) := by decide +kernel
theorem dX12_settingOf_136 : decode cX12_settingOf 136 = .ok (.iadd, 1) := by decide +kernel
theorem dX12_settingOf_137 : decode cX12_settingOf 137 = .ok (.iload 4, 2) := by decide +kernel
theorem dX12_settingOf_139 : decode cX12_settingOf 139 = .ok (.aload_n 0, 1) := by decide +kernel
theorem dX12_settingOf_140 : decode cX12_settingOf 140 = .ok (.getfield 9, 3) := by decide +kernel
theorem dX12_settingOf_143 : decode cX12_settingOf 143 = .ok (.sipush 907, 3) := by decide +kernel
theorem dX12_settingOf_146 : decode cX12_settingOf 146 = .ok (.iload_n 3, 1) := by decide +kernel
theorem dX12_settingOf_147 : decode cX12_settingOf 147 = .ok (.iadd, 1) := by decide +kernel
theorem dX12_settingOf_148 : decode cX12_settingOf 148 = .ok (.iaload, 1) := by decide +kernel
theorem dX12_settingOf_149 : decode cX12_settingOf 149 = .ok (.irem, 1) := by decide +kernel
theorem dX12_settingOf_150 : decode cX12_settingOf 150 = .ok (.iadd, 1) := by decide +kernel
theorem dX12_settingOf_151 : decode cX12_settingOf 151 = .ok (.iaload, 1) := by decide +kernel
theorem dX12_settingOf_152 : decode cX12_settingOf 152 = .ok (.ireturn, 1) := by decide +kernel
theorem dX12_settingOf_153 : decode cX12_settingOf 153 = .ok (.iconst 0, 1) := by decide +kernel
theorem dX12_settingOf_154 : decode cX12_settingOf 154 = .ok (.ireturn, 1) := by decide +kernel
theorem dX12_rule_0 : decode cX12_rule 0 = .ok (.iload_n 1, 1) := by decide +kernel
theorem dX12_rule_1 : decode cX12_rule 1 = .ok (.iconst 0, 1) := by decide +kernel
theorem dX12_rule_2 : decode cX12_rule 2 = .ok (.bipush 6, 2) := by decide +kernel
theorem dX12_rule_4 : decode cX12_rule 4 = .ok (.invokestatic 63, 3) := by decide +kernel
theorem dX12_rule_7 : decode cX12_rule 7 = .ok (.ifCond .ne 5, 3) := by decide +kernel
theorem dX12_rule_10 : decode cX12_rule 10 = .ok (.iconst (-1), 1) := by decide +kernel
theorem dX12_rule_11 : decode cX12_rule 11 = .ok (.ireturn, 1) := by decide +kernel
theorem dX12_rule_12 : decode cX12_rule 12 = .ok (.iload_n 2, 1) := by decide +kernel
theorem dX12_rule_13 : decode cX12_rule 13 = .ok (.iconst 0, 1) := by decide +kernel
theorem dX12_rule_14 : decode cX12_rule 14 = .ok (.bipush 7, 2) := by decide +kernel
theorem dX12_rule_16 : decode cX12_rule 16 = .ok (.invokestatic 63, 3) := by decide +kernel
theorem dX12_rule_19 : decode cX12_rule 19 = .ok (.ifCond .ne 6, 3) := by decide +kernel
theorem dX12_rule_22 : decode cX12_rule 22 = .ok (.bipush (-2), 2) := by decide +kernel
theorem dX12_rule_24 : decode cX12_rule 24 = .ok (.ireturn, 1) := by decide +kernel
theorem dX12_rule_25 : decode cX12_rule 25 = .ok (.aload_n 0, 1) := by decide +kernel
theorem dX12_rule_26 : decode cX12_rule 26 = .ok (.getfield 9, 3) := by decide +kernel
theorem dX12_rule_29 : decode cX12_rule 29 = .ok (.iconst 1, 1) := by decide +kernel
theorem dX12_rule_30 : decode cX12_rule 30 = .ok (.iaload, 1) := by decide +kernel
theorem dX12_rule_31 : decode cX12_rule 31 = .ok (.bipush 10, 2) := by decide +kernel
theorem dX12_rule_33 : decode cX12_rule 33 = .ok (.if_icmp .ne 6, 3) := by decide +kernel
theorem dX12_rule_36 : decode cX12_rule 36 = .ok (.bipush (-4), 2) := by decide +kernel
theorem dX12_rule_38 : decode cX12_rule 38 = .ok (.ireturn, 1) := by decide +kernel
theorem dX12_rule_39 : decode cX12_rule 39 = .ok (.aload_n 0, 1) := by decide +kernel
theorem dX12_rule_40 : decode cX12_rule 40 = .ok (.getfield 9, 3) := by decide +kernel
theorem dX12_rule_43 : decode cX12_rule 43 = .ok (.iconst 1, 1) := by decide +kernel
theorem dX12_rule_44 : decode cX12_rule 44 = .ok (.iaload, 1) := by decide +kernel
theorem dX12_rule_45 : decode cX12_rule 45 = .ok (.istore_n 3, 1) := by decide +kernel
theorem dX12_rule_46 : decode cX12_rule 46 = .ok (.aload_n 0, 1) := by decide +kernel
theorem dX12_rule_47 : decode cX12_rule 47 = .ok (.getfield 9, 3) := by decide +kernel
theorem dX12_rule_50 : decode cX12_rule 50 = .ok (.sipush 887, 3) := by decide +kernel
theorem dX12_rule_53 : decode cX12_rule 53 = .ok (.iload_n 3, 1) := by decide +kernel
theorem dX12_rule_54 : decode cX12_rule 54 = .ok (.iadd, 1) := by decide +kernel
theorem dX12_rule_55 : decode cX12_rule 55 = .ok (.iload_n 1, 1) := by decide +kernel
theorem dX12_rule_56 : decode cX12_rule 56 = .ok (.iastore, 1) := by decide +kernel
theorem dX12_rule_57 : decode cX12_rule 57 = .ok (.aload_n 0, 1) := by decide +kernel
theorem dX12_rule_58 : decode cX12_rule 58 = .ok (.getfield 9, 3) := by decide +kernel
theorem dX12_rule_61 : decode cX12_rule 61 = .ok (.sipush 897, 3) := by decide +kernel
theorem dX12_rule_64 : decode cX12_rule 64 = .ok (.iload_n 3, 1) := by decide +kernel
theorem dX12_rule_65 : decode cX12_rule 65 = .ok (.iadd, 1) := by decide +kernel
theorem dX12_rule_66 : decode cX12_rule 66 = .ok (.iload_n 2, 1) := by decide +kernel
theorem dX12_rule_67 : decode cX12_rule 67 = .ok (.iastore, 1) := by decide +kernel
theorem dX12_rule_68 : decode cX12_rule 68 = .ok (.aload_n 0, 1) := by decide +kernel
theorem dX12_rule_69 : decode cX12_rule 69 = .ok (.getfield 9, 3) := by decide +kernel
theorem dX12_rule_72 : decode cX12_rule 72 = .ok (.sipush 907, 3) := by decide +kernel
theorem dX12_rule_75 : decode cX12_rule 75 = .ok (.iload_n 3, 1) := by decide +kernel
theorem dX12_rule_76 : decode cX12_rule 76 = .ok (.iadd, 1) := by decide +kernel
theorem dX12_rule_77 : decode cX12_rule 77 = .ok (.iconst 0, 1) := by decide +kernel
theorem dX12_rule_78 : decode cX12_rule 78 = .ok (.iastore, 1) := by decide +kernel
theorem dX12_rule_79 : decode cX12_rule 79 = .ok (.aload_n 0, 1) := by decide +kernel
theorem dX12_rule_80 : decode cX12_rule 80 = .ok (.getfield 9, 3) := by decide +kernel
theorem dX12_rule_83 : decode cX12_rule 83 = .ok (.iconst 1, 1) := by decide +kernel
theorem dX12_rule_84 : decode cX12_rule 84 = .ok (.dup2, 1) := by decide +kernel
theorem dX12_rule_85 : decode cX12_rule 85 = .ok (.iaload, 1) := by decide +kernel
theorem dX12_rule_86 : decode cX12_rule 86 = .ok (.iconst 1, 1) := by decide +kernel
theorem dX12_rule_87 : decode cX12_rule 87 = .ok (.iadd, 1) := by decide +kernel
theorem dX12_rule_88 : decode cX12_rule 88 = .ok (.iastore, 1) := by decide +kernel
theorem dX12_rule_89 : decode cX12_rule 89 = .ok (.iload_n 3, 1) := by decide +kernel
theorem dX12_rule_90 : decode cX12_rule 90 = .ok (.ireturn, 1) := by decide +kernel
theorem dX12_row_0 : decode cX12_row 0 = .ok (.aload_n 0, 1) := by decide +kernel
theorem dX12_row_1 : decode cX12_row 1 = .ok (.iload_n 1, 1) := by decide +kernel
theorem dX12_row_2 : decode cX12_row 2 = .ok (.invokevirtual 225, 3) := by decide +kernel
theorem dX12_row_5 : decode cX12_row 5 = .ok (.ifCond .ne 5, 3) := by decide +kernel
theorem dX12_row_8 : decode cX12_row 8 = .ok (.iconst (-1), 1) := by decide +kernel
theorem dX12_row_9 : decode cX12_row 9 = .ok (.ireturn, 1) := by decide +kernel
theorem dX12_row_10 : decode cX12_row 10 = .ok (.iload_n 2, 1) := by decide +kernel
theorem dX12_row_11 : decode cX12_row 11 = .ok (.iconst 0, 1) := by decide +kernel
theorem dX12_row_12 : decode cX12_row 12 = .ok (.bipush 7, 2) := by decide +kernel
theorem dX12_row_14 : decode cX12_row 14 = .ok (.invokestatic 63, 3) := by decide +kernel
theorem dX12_row_17 : decode cX12_row 17 = .ok (.ifCond .ne 6, 3) := by decide +kernel
theorem dX12_row_20 : decode cX12_row 20 = .ok (.bipush (-2), 2) := by decide +kernel
theorem dX12_row_22 : decode cX12_row 22 = .ok (.ireturn, 1) := by decide +kernel
theorem dX12_row_23 : decode cX12_row 23 = .ok (.aload_n 0, 1) := by decide +kernel
theorem dX12_row_24 : decode cX12_row 24 = .ok (.getfield 9, 3) := by decide +kernel
theorem dX12_row_27 : decode cX12_row 27 = .ok (.sipush 887, 3) := by decide +kernel
theorem dX12_row_30 : decode cX12_row 30 = .ok (.iload_n 1, 1) := by decide +kernel
theorem dX12_row_31 : decode cX12_row 31 = .ok (.iadd, 1) := by decide +kernel
theorem dX12_row_32 : decode cX12_row 32 = .ok (.iaload, 1) := by decide +kernel
theorem dX12_row_33 : decode cX12_row 33 = .ok (.bipush 6, 2) := by decide +kernel
theorem dX12_row_35 : decode cX12_row 35 = .ok (.if_icmp .eq 6, 3) := by decide +kernel
theorem dX12_row_38 : decode cX12_row 38 = .ok (.bipush (-3), 2) := by decide +kernel
theorem dX12_row_40 : decode cX12_row 40 = .ok (.ireturn, 1) := by decide +kernel
theorem dX12_row_41 : decode cX12_row 41 = .ok (.aload_n 0, 1) := by decide +kernel
theorem dX12_row_42 : decode cX12_row 42 = .ok (.getfield 9, 3) := by decide +kernel
theorem dX12_row_45 : decode cX12_row 45 = .ok (.sipush 907, 3) := by decide +kernel
theorem dX12_row_48 : decode cX12_row 48 = .ok (.iload_n 1, 1) := by decide +kernel
theorem dX12_row_49 : decode cX12_row 49 = .ok (.iadd, 1) := by decide +kernel
theorem dX12_row_50 : decode cX12_row 50 = .ok (.iaload, 1) := by decide +kernel
theorem dX12_row_51 : decode cX12_row 51 = .ok (.bipush 10, 2) := by decide +kernel
theorem dX12_row_53 : decode cX12_row 53 = .ok (.if_icmp .ne 6, 3) := by decide +kernel
theorem dX12_row_56 : decode cX12_row 56 = .ok (.bipush (-4), 2) := by decide +kernel
theorem dX12_row_58 : decode cX12_row 58 = .ok (.ireturn, 1) := by decide +kernel
theorem dX12_row_59 : decode cX12_row 59 = .ok (.aload_n 0, 1) := by decide +kernel
theorem dX12_row_60 : decode cX12_row 60 = .ok (.getfield 9, 3) := by decide +kernel
theorem dX12_row_63 : decode cX12_row 63 = .ok (.sipush 917, 3) := by decide +kernel
theorem dX12_row_66 : decode cX12_row 66 = .ok (.bipush 10, 2) := by decide +kernel
theorem dX12_row_68 : decode cX12_row 68 = .ok (.iload_n 1, 1) := by decide +kernel
theorem dX12_row_69 : decode cX12_row 69 = .ok (.imul, 1) := by decide +kernel
theorem dX12_row_70 : decode cX12_row 70 = .ok (.iadd, 1) := by decide +kernel
theorem dX12_row_71 : decode cX12_row 71 = .ok (.aload_n 0, 1) := by decide +kernel
theorem dX12_row_72 : decode cX12_row 72 = .ok (.getfield 9, 3) := by decide +kernel
theorem dX12_row_75 : decode cX12_row 75 = .ok (.sipush 907, 3) := by decide +kernel
theorem dX12_row_78 : decode cX12_row 78 = .ok (.iload_n 1, 1) := by decide +kernel
theorem dX12_row_79 : decode cX12_row 79 = .ok (.iadd, 1) := by decide +kernel
theorem dX12_row_80 : decode cX12_row 80 = .ok (.iaload, 1) := by decide +kernel
theorem dX12_row_81 : decode cX12_row 81 = .ok (.iadd, 1) := by decide +kernel
theorem dX12_row_82 : decode cX12_row 82 = .ok (.iload_n 2, 1) := by decide +kernel
theorem dX12_row_83 : decode cX12_row 83 = .ok (.iastore, 1) := by decide +kernel
theorem dX12_row_84 : decode cX12_row 84 = .ok (.aload_n 0, 1) := by decide +kernel
theorem dX12_row_85 : decode cX12_row 85 = .ok (.getfield 9, 3) := by decide +kernel
theorem dX12_row_88 : decode cX12_row 88 = .ok (.sipush 907, 3) := by decide +kernel
theorem dX12_row_91 : decode cX12_row 91 = .ok (.iload_n 1, 1) := by decide +kernel
theorem dX12_row_92 : decode cX12_row 92 = .ok (.iadd, 1) := by decide +kernel
theorem dX12_row_93 : decode cX12_row 93 = .ok (.dup2, 1) := by decide +kernel
theorem dX12_row_94 : decode cX12_row 94 = .ok (.iaload, 1) := by decide +kernel
theorem dX12_row_95 : decode cX12_row 95 = .ok (.iconst 1, 1) := by decide +kernel
theorem dX12_row_96 : decode cX12_row 96 = .ok (.iadd, 1) := by decide +kernel
theorem dX12_row_97 : decode cX12_row 97 = .ok (.iastore, 1) := by decide +kernel
theorem dX12_row_98 : decode cX12_row 98 = .ok (.aload_n 0, 1) := by decide +kernel
theorem dX12_row_99 : decode cX12_row 99 = .ok (.getfield 9, 3) := by decide +kernel
theorem dX12_row_102 : decode cX12_row 102 = .ok (.sipush 907, 3) := by decide +kernel
theorem dX12_row_105 : decode cX12_row 105 = .ok (.iload_n 1, 1) := by decide +kernel
theorem dX12_row_106 : decode cX12_row 106 = .ok (.iadd, 1) := by decide +kernel
theorem dX12_row_107 : decode cX12_row 107 = .ok (.iaload, 1) := by decide +kernel
theorem dX12_row_108 : decode cX12_row 108 = .ok (.ireturn, 1) := by decide +kernel
theorem dX12_sets_0 : decode cX12_sets 0 = .ok (.aload_n 0, 1) := by decide +kernel
theorem dX12_sets_1 : decode cX12_sets 1 = .ok (.iload_n 1, 1) := by decide +kernel
theorem dX12_sets_2 : decode cX12_sets 2 = .ok (.invokevirtual 225, 3) := by decide +kernel
theorem dX12_sets_5 : decode cX12_sets 5 = .ok (.ifCond .eq 19, 3) := by decide +kernel
theorem dX12_sets_8 : decode cX12_sets 8 = .ok (.iload 4, 2) := by decide +kernel
theorem dX12_sets_10 : decode cX12_sets 10 = .ok (.invokestatic 184, 3) := by decide +kernel
theorem dX12_sets_13 : decode cX12_sets 13 = .ok (.ifCond .eq 11, 3) := by decide +kernel
theorem dX12_sets_16 : decode cX12_sets 16 = .ok (.iload 5, 2) := by decide +kernel
theorem dX12_sets_18 : decode cX12_sets 18 = .ok (.invokestatic 184, 3) := by decide +kernel
theorem dX12_sets_21 : decode cX12_sets 21 = .ok (.ifCond .ne 5, 3) := by decide +kernel
theorem dX12_sets_24 : decode cX12_sets 24 = .ok (.iconst (-1), 1) := by decide +kernel
theorem dX12_sets_25 : decode cX12_sets 25 = .ok (.ireturn, 1) := by decide +kernel
theorem dX12_sets_26 : decode cX12_sets 26 = .ok (.iload_n 2, 1) := by decide +kernel
theorem dX12_sets_27 : decode cX12_sets 27 = .ok (.iconst 0, 1) := by decide +kernel
theorem dX12_sets_28 : decode cX12_sets 28 = .ok (.bipush 9, 2) := by decide +kernel
theorem dX12_sets_30 : decode cX12_sets 30 = .ok (.invokestatic 63, 3) := by decide +kernel
theorem dX12_sets_33 : decode cX12_sets 33 = .ok (.ifCond .eq 13, 3) := by decide +kernel
theorem dX12_sets_36 : decode cX12_sets 36 = .ok (.iload_n 3, 1) := by decide +kernel
theorem dX12_sets_37 : decode cX12_sets 37 = .ok (.iconst 1, 1) := by decide +kernel
theorem dX12_sets_38 : decode cX12_sets 38 = .ok (.bipush 6, 2) := by decide +kernel
theorem dX12_sets_40 : decode cX12_sets 40 = .ok (.invokestatic 63, 3) := by decide +kernel
theorem dX12_sets_43 : decode cX12_sets 43 = .ok (.ifCond .ne 6, 3) := by decide +kernel
theorem dX12_sets_46 : decode cX12_sets 46 = .ok (.bipush (-2), 2) := by decide +kernel
theorem dX12_sets_48 : decode cX12_sets 48 = .ok (.ireturn, 1) := by decide +kernel
theorem dX12_sets_49 : decode cX12_sets 49 = .ok (.aload_n 0, 1) := by decide +kernel
theorem dX12_sets_50 : decode cX12_sets 50 = .ok (.invokevirtual 191, 3) := by decide +kernel
theorem dX12_sets_53 : decode cX12_sets 53 = .ok (.ifCond .ne 6, 3) := by decide +kernel
theorem dX12_sets_56 : decode cX12_sets 56 = .ok (.bipush (-3), 2) := by decide +kernel
theorem dX12_sets_58 : decode cX12_sets 58 = .ok (.ireturn, 1) := by decide +kernel
theorem dX12_sets_59 : decode cX12_sets 59 = .ok (.aload_n 0, 1) := by decide +kernel
theorem dX12_sets_60 : decode cX12_sets 60 = .ok (.invokevirtual 228, 3) := by decide +kernel
theorem dX12_sets_63 : decode cX12_sets 63 = .ok (.aload_n 0, 1) := by decide +kernel
theorem dX12_sets_64 : decode cX12_sets 64 = .ok (.aload_n 0, 1) := by decide +kernel
theorem dX12_sets_65 : decode cX12_sets 65 = .ok (.getfield 9, 3) := by decide +kernel
theorem dX12_sets_68 : decode cX12_sets 68 = .ok (.sipush 887, 3) := by decide +kernel
theorem dX12_sets_71 : decode cX12_sets 71 = .ok (.iload_n 1, 1) := by decide +kernel
theorem dX12_sets_72 : decode cX12_sets 72 = .ok (.iadd, 1) := by decide +kernel
theorem dX12_sets_73 : decode cX12_sets 73 = .ok (.iaload, 1) := by decide +kernel
theorem dX12_sets_74 : decode cX12_sets 74 = .ok (.aload_n 0, 1) := by decide +kernel
theorem dX12_sets_75 : decode cX12_sets 75 = .ok (.getfield 9, 3) := by decide +kernel
theorem dX12_sets_78 : decode cX12_sets 78 = .ok (.sipush 897, 3) := by decide +kernel
theorem dX12_sets_81 : decode cX12_sets 81 = .ok (.iload_n 1, 1) := by decide +kernel
theorem dX12_sets_82 : decode cX12_sets 82 = .ok (.iadd, 1) := by decide +kernel
theorem dX12_sets_83 : decode cX12_sets 83 = .ok (.iaload, 1) := by decide +kernel
theorem dX12_sets_84 : decode cX12_sets 84 = .ok (.iload_n 1, 1) := by decide +kernel
theorem dX12_sets_85 : decode cX12_sets 85 = .ok (.iload_n 2, 1) := by decide +kernel
theorem dX12_sets_86 : decode cX12_sets 86 = .ok (.iload_n 3, 1) := by decide +kernel
theorem dX12_sets_87 : decode cX12_sets 87 = .ok (.iload 4, 2) := by decide +kernel
theorem dX12_sets_89 : decode cX12_sets 89 = .ok (.iload 5, 2) := by decide +kernel
theorem dX12_sets_91 : decode cX12_sets 91 = .ok (.aload_n 0, 1) := by decide +kernel
theorem dX12_sets_92 : decode cX12_sets 92 = .ok (.getfield 9, 3) := by decide +kernel
theorem dX12_sets_95 : decode cX12_sets 95 = .ok (.bipush 7, 2) := by decide +kernel
theorem dX12_sets_97 : decode cX12_sets 97 = .ok (.iaload, 1) := by decide +kernel
theorem dX12_sets_98 : decode cX12_sets 98 = .ok (.aload_n 0, 1) := by decide +kernel
theorem dX12_sets_99 : decode cX12_sets 99 = .ok (.getfield 9, 3) := by decide +kernel
theorem dX12_sets_102 : decode cX12_sets 102 = .ok (.bipush 8, 2) := by decide +kernel
theorem dX12_sets_104 : decode cX12_sets 104 = .ok (.iaload, 1) := by decide +kernel
theorem dX12_sets_105 : decode cX12_sets 105 = .ok (.invokevirtual 231, 3) := by decide +kernel
theorem dX12_sets_108 : decode cX12_sets 108 = .ok (.ireturn, 1) := by decide +kernel
theorem dX12_behind_0 : decode cX12_behind 0 = .ok (.iload_n 1, 1) := by decide +kernel
theorem dX12_behind_1 : decode cX12_behind 1 = .ok (.aload_n 0, 1) := by decide +kernel
theorem dX12_behind_2 : decode cX12_behind 2 = .ok (.getfield 235, 3) := by decide +kernel
theorem dX12_behind_5 : decode cX12_behind 5 = .ok (.if_icmp .ne 5, 3) := by decide +kernel
theorem dX12_behind_8 : decode cX12_behind 8 = .ok (.lconst 0, 1) := by decide +kernel
theorem dX12_behind_9 : decode cX12_behind 9 = .ok (.lreturn, 1) := by decide +kernel
theorem dX12_behind_10 : decode cX12_behind 10 = .ok (.lconst 0, 1) := by decide +kernel
theorem dX12_behind_11 : decode cX12_behind 11 = .ok (.lstore 5, 2) := by decide +kernel
theorem dX12_behind_13 : decode cX12_behind 13 = .ok (.iconst 0, 1) := by decide +kernel
theorem dX12_behind_14 : decode cX12_behind 14 = .ok (.istore 7, 2) := by decide +kernel
theorem dX12_behind_16 : decode cX12_behind 16 = .ok (.iload 7, 2) := by decide +kernel
theorem dX12_behind_18 : decode cX12_behind 18 = .ok (.bipush 6, 2) := by decide +kernel
theorem dX12_behind_20 : decode cX12_behind 20 = .ok (.if_icmp .ge 56, 3) := by decide +kernel
theorem dX12_behind_23 : decode cX12_behind 23 = .ok (.aload_n 0, 1) := by decide +kernel
theorem dX12_behind_24 : decode cX12_behind 24 = .ok (.getfield 9, 3) := by decide +kernel
theorem dX12_behind_27 : decode cX12_behind 27 = .ok (.sipush 851, 3) := by decide +kernel
theorem dX12_behind_30 : decode cX12_behind 30 = .ok (.bipush 6, 2) := by decide +kernel
theorem dX12_behind_32 : decode cX12_behind 32 = .ok (.iload_n 2, 1) := by decide +kernel
theorem dX12_behind_33 : decode cX12_behind 33 = .ok (.imul, 1) := by decide +kernel
theorem dX12_behind_34 : decode cX12_behind 34 = .ok (.iadd, 1) := by decide +kernel
theorem dX12_behind_35 : decode cX12_behind 35 = .ok (.iload 7, 2) := by decide +kernel
theorem dX12_behind_37 : decode cX12_behind 37 = .ok (.iadd, 1) := by decide +kernel
theorem dX12_behind_38 : decode cX12_behind 38 = .ok (.iaload, 1) := by decide +kernel
theorem dX12_behind_39 : decode cX12_behind 39 = .ok (.istore 8, 2) := by decide +kernel
theorem dX12_behind_41 : decode cX12_behind 41 = .ok (.lload 5, 2) := by decide +kernel
theorem dX12_behind_43 : decode cX12_behind 43 = .ok (.iload 8, 2) := by decide +kernel
theorem dX12_behind_45 : decode cX12_behind 45 = .ok (.ifCond .ne 7, 3) := by decide +kernel
theorem dX12_behind_48 : decode cX12_behind 48 = .ok (.lconst 0, 1) := by decide +kernel
theorem dX12_behind_49 : decode cX12_behind 49 = .ok (.goto 18, 3) := by decide +kernel
theorem dX12_behind_52 : decode cX12_behind 52 = .ok (.iload 8, 2) := by decide +kernel
theorem dX12_behind_54 : decode cX12_behind 54 = .ok (.i2l, 1) := by decide +kernel
theorem dX12_behind_55 : decode cX12_behind 55 = .ok (.aload_n 0, 1) := by decide +kernel
theorem dX12_behind_56 : decode cX12_behind 56 = .ok (.iload_n 1, 1) := by decide +kernel
theorem dX12_behind_57 : decode cX12_behind 57 = .ok (.iload 7, 2) := by decide +kernel
theorem dX12_behind_59 : decode cX12_behind 59 = .ok (.iload_n 2, 1) := by decide +kernel
theorem dX12_behind_60 : decode cX12_behind 60 = .ok (.iload_n 3, 1) := by decide +kernel
theorem dX12_behind_61 : decode cX12_behind 61 = .ok (.iload 4, 2) := by decide +kernel
theorem dX12_behind_63 : decode cX12_behind 63 = .ok (.invokevirtual 238, 3) := by decide +kernel
theorem dX12_behind_66 : decode cX12_behind 66 = .ok (.lmul, 1) := by decide +kernel
theorem dX12_behind_67 : decode cX12_behind 67 = .ok (.ladd, 1) := by decide +kernel
theorem dX12_behind_68 : decode cX12_behind 68 = .ok (.lstore 5, 2) := by decide +kernel
theorem dX12_behind_70 : decode cX12_behind 70 = .ok (.iinc 7 1, 3) := by decide +kernel
theorem dX12_behind_73 : decode cX12_behind 73 = .ok (.goto (-57), 3) := by decide +kernel
theorem dX12_behind_76 : decode cX12_behind 76 = .ok (.lload 5, 2) := by decide +kernel
theorem dX12_behind_78 : decode cX12_behind 78 = .ok (.ldc2_w 213, 3) := by decide +kernel
theorem dX12_behind_81 : decode cX12_behind 81 = .ok (.ldiv, 1) := by decide +kernel
theorem dX12_behind_82 : decode cX12_behind 82 = .ok (.lreturn, 1) := by decide +kernel
theorem dX12_meanFrom_0 : decode cX12_meanFrom 0 = .ok (.bipush 6, 2) := by decide +kernel
theorem dX12_meanFrom_2 : decode cX12_meanFrom 2 = .ok (.iload_n 1, 1) := by decide +kernel
theorem dX12_meanFrom_3 : decode cX12_meanFrom 3 = .ok (.imul, 1) := by decide +kernel
theorem dX12_meanFrom_4 : decode cX12_meanFrom 4 = .ok (.iload_n 2, 1) := by decide +kernel
theorem dX12_meanFrom_5 : decode cX12_meanFrom 5 = .ok (.iadd, 1) := by decide +kernel
theorem dX12_meanFrom_6 : decode cX12_meanFrom 6 = .ok (.bipush 6, 2) := by decide +kernel
theorem dX12_meanFrom_8 : decode cX12_meanFrom 8 = .ok (.imul, 1) := by decide +kernel
theorem dX12_meanFrom_9 : decode cX12_meanFrom 9 = .ok (.iload_n 3, 1) := by decide +kernel
theorem dX12_meanFrom_10 : decode cX12_meanFrom 10 = .ok (.iadd, 1) := by decide +kernel
theorem dX12_meanFrom_11 : decode cX12_meanFrom 11 = .ok (.bipush 10, 2) := by decide +kernel
theorem dX12_meanFrom_13 : decode cX12_meanFrom 13 = .ok (.imul, 1) := by decide +kernel
theorem dX12_meanFrom_14 : decode cX12_meanFrom 14 = .ok (.iload 4, 2) := by decide +kernel
theorem dX12_meanFrom_16 : decode cX12_meanFrom 16 = .ok (.iadd, 1) := by decide +kernel
theorem dX12_meanFrom_17 : decode cX12_meanFrom 17 = .ok (.bipush 10, 2) := by decide +kernel
theorem dX12_meanFrom_19 : decode cX12_meanFrom 19 = .ok (.imul, 1) := by decide +kernel
theorem dX12_meanFrom_20 : decode cX12_meanFrom 20 = .ok (.iload 5, 2) := by decide +kernel
theorem dX12_meanFrom_22 : decode cX12_meanFrom 22 = .ok (.iadd, 1) := by decide +kernel
theorem dX12_meanFrom_23 : decode cX12_meanFrom 23 = .ok (.istore 6, 2) := by decide +kernel
theorem dX12_meanFrom_25 : decode cX12_meanFrom 25 = .ok (.aload_n 0, 1) := by decide +kernel
theorem dX12_meanFrom_26 : decode cX12_meanFrom 26 = .ok (.getfield 43, 3) := by decide +kernel
theorem dX12_meanFrom_29 : decode cX12_meanFrom 29 = .ok (.iload 6, 2) := by decide +kernel
theorem dX12_meanFrom_31 : decode cX12_meanFrom 31 = .ok (.iaload, 1) := by decide +kernel
theorem dX12_meanFrom_32 : decode cX12_meanFrom 32 = .ok (.aload_n 0, 1) := by decide +kernel
theorem dX12_meanFrom_33 : decode cX12_meanFrom 33 = .ok (.getfield 198, 3) := by decide +kernel
theorem dX12_meanFrom_36 : decode cX12_meanFrom 36 = .ok (.if_icmp .eq 36, 3) := by decide +kernel
theorem dX12_meanFrom_39 : decode cX12_meanFrom 39 = .ok (.aload_n 0, 1) := by decide +kernel
theorem dX12_meanFrom_40 : decode cX12_meanFrom 40 = .ok (.iload_n 1, 1) := by decide +kernel
theorem dX12_meanFrom_41 : decode cX12_meanFrom 41 = .ok (.iload_n 2, 1) := by decide +kernel
theorem dX12_meanFrom_42 : decode cX12_meanFrom 42 = .ok (.iload_n 3, 1) := by decide +kernel
theorem dX12_meanFrom_43 : decode cX12_meanFrom 43 = .ok (.iload 4, 2) := by decide +kernel
theorem dX12_meanFrom_45 : decode cX12_meanFrom 45 = .ok (.iload 5, 2) := by decide +kernel
theorem dX12_meanFrom_47 : decode cX12_meanFrom 47 = .ok (.invokevirtual 241, 3) := by decide +kernel
theorem dX12_meanFrom_50 : decode cX12_meanFrom 50 = .ok (.lstore 7, 2) := by decide +kernel
theorem dX12_meanFrom_52 : decode cX12_meanFrom 52 = .ok (.aload_n 0, 1) := by decide +kernel
theorem dX12_meanFrom_53 : decode cX12_meanFrom 53 = .ok (.getfield 43, 3) := by decide +kernel
theorem dX12_meanFrom_56 : decode cX12_meanFrom 56 = .ok (.iload 6, 2) := by decide +kernel
theorem dX12_meanFrom_58 : decode cX12_meanFrom 58 = .ok (.aload_n 0, 1) := by decide +kernel
theorem dX12_meanFrom_59 : decode cX12_meanFrom 59 = .ok (.getfield 198, 3) := by decide +kernel
theorem dX12_meanFrom_62 : decode cX12_meanFrom 62 = .ok (.iastore, 1) := by decide +kernel
theorem dX12_meanFrom_63 : decode cX12_meanFrom 63 = .ok (.aload_n 0, 1) := by decide +kernel
theorem dX12_meanFrom_64 : decode cX12_meanFrom 64 = .ok (.getfield 50, 3) := by decide +kernel
theorem dX12_meanFrom_67 : decode cX12_meanFrom 67 = .ok (.iload 6, 2) := by decide +kernel
theorem dX12_meanFrom_69 : decode cX12_meanFrom 69 = .ok (.lload 7, 2) := by decide +kernel
theorem dX12_meanFrom_71 : decode cX12_meanFrom 71 = .ok (.lastore, 1) := by decide +kernel
theorem dX12_meanFrom_72 : decode cX12_meanFrom 72 = .ok (.aload_n 0, 1) := by decide +kernel
theorem dX12_meanFrom_73 : decode cX12_meanFrom 73 = .ok (.getfield 50, 3) := by decide +kernel
theorem dX12_meanFrom_76 : decode cX12_meanFrom 76 = .ok (.iload 6, 2) := by decide +kernel
theorem dX12_meanFrom_78 : decode cX12_meanFrom 78 = .ok (.laload, 1) := by decide +kernel
theorem dX12_meanFrom_79 : decode cX12_meanFrom 79 = .ok (.lreturn, 1) := by decide +kernel
theorem dX12_meanAnew_0 : decode cX12_meanAnew 0 = .ok (.iload_n 1, 1) := by decide +kernel
theorem dX12_meanAnew_1 : decode cX12_meanAnew 1 = .ok (.aload_n 0, 1) := by decide +kernel
theorem dX12_meanAnew_2 : decode cX12_meanAnew 2 = .ok (.getfield 244, 3) := by decide +kernel
theorem dX12_meanAnew_5 : decode cX12_meanAnew 5 = .ok (.if_icmp .ne 14, 3) := by decide +kernel
theorem dX12_meanAnew_8 : decode cX12_meanAnew 8 = .ok (.aload_n 0, 1) := by decide +kernel
theorem dX12_meanAnew_9 : decode cX12_meanAnew 9 = .ok (.iload_n 1, 1) := by decide +kernel
theorem dX12_meanAnew_10 : decode cX12_meanAnew 10 = .ok (.iconst 1, 1) := by decide +kernel
theorem dX12_meanAnew_11 : decode cX12_meanAnew 11 = .ok (.iadd, 1) := by decide +kernel
theorem dX12_meanAnew_12 : decode cX12_meanAnew 12 = .ok (.iload_n 2, 1) := by decide +kernel
theorem dX12_meanAnew_13 : decode cX12_meanAnew 13 = .ok (.iconst 0, 1) := by decide +kernel
theorem dX12_meanAnew_14 : decode cX12_meanAnew 14 = .ok (.iconst 0, 1) := by decide +kernel
theorem dX12_meanAnew_15 : decode cX12_meanAnew 15 = .ok (.invokevirtual 247, 3) := by decide +kernel
theorem dX12_meanAnew_18 : decode cX12_meanAnew 18 = .ok (.lreturn, 1) := by decide +kernel
theorem dX12_meanAnew_19 : decode cX12_meanAnew 19 = .ok (.aload_n 0, 1) := by decide +kernel
theorem dX12_meanAnew_20 : decode cX12_meanAnew 20 = .ok (.aload_n 0, 1) := by decide +kernel
theorem dX12_meanAnew_21 : decode cX12_meanAnew 21 = .ok (.getfield 250, 3) := by decide +kernel
theorem dX12_meanAnew_24 : decode cX12_meanAnew 24 = .ok (.aload_n 0, 1) := by decide +kernel
theorem dX12_meanAnew_25 : decode cX12_meanAnew 25 = .ok (.getfield 253, 3) := by decide +kernel
theorem dX12_meanAnew_28 : decode cX12_meanAnew 28 = .ok (.aload_n 0, 1) := by decide +kernel
theorem dX12_meanAnew_29 : decode cX12_meanAnew 29 = .ok (.getfield 256, 3) := by decide +kernel
theorem dX12_meanAnew_32 : decode cX12_meanAnew 32 = .ok (.iload_n 1, 1) := by decide +kernel
theorem dX12_meanAnew_33 : decode cX12_meanAnew 33 = .ok (.aload_n 0, 1) := by decide +kernel
theorem dX12_meanAnew_34 : decode cX12_meanAnew 34 = .ok (.getfield 235, 3) := by decide +kernel
theorem dX12_meanAnew_37 : decode cX12_meanAnew 37 = .ok (.iload_n 1, 1) := by decide +kernel
theorem dX12_meanAnew_38 : decode cX12_meanAnew 38 = .ok (.isub, 1) := by decide +kernel
theorem dX12_meanAnew_39 : decode cX12_meanAnew 39 = .ok (.iload_n 2, 1) := by decide +kernel
theorem dX12_meanAnew_40 : decode cX12_meanAnew 40 = .ok (.iload_n 3, 1) := by decide +kernel
theorem dX12_meanAnew_41 : decode cX12_meanAnew 41 = .ok (.iload 4, 2) := by decide +kernel
theorem dX12_meanAnew_43 : decode cX12_meanAnew 43 = .ok (.iload 5, 2) := by decide +kernel
theorem dX12_meanAnew_45 : decode cX12_meanAnew 45 = .ok (.invokevirtual 231, 3) := by decide +kernel
theorem dX12_meanAnew_48 : decode cX12_meanAnew 48 = .ok (.istore 6, 2) := by decide +kernel
theorem dX12_meanAnew_50 : decode cX12_meanAnew 50 = .ok (.aload_n 0, 1) := by decide +kernel
theorem dX12_meanAnew_51 : decode cX12_meanAnew 51 = .ok (.iload_n 2, 1) := by decide +kernel
theorem dX12_meanAnew_52 : decode cX12_meanAnew 52 = .ok (.iload 6, 2) := by decide +kernel
theorem dX12_meanAnew_54 : decode cX12_meanAnew 54 = .ok (.iload 4, 2) := by decide +kernel
theorem dX12_meanAnew_56 : decode cX12_meanAnew 56 = .ok (.iload 5, 2) := by decide +kernel
theorem dX12_meanAnew_58 : decode cX12_meanAnew 58 = .ok (.invokevirtual 205, 3) := by decide +kernel
theorem dX12_meanAnew_61 : decode cX12_meanAnew 61 = .ok (.istore 7, 2) := by decide +kernel
theorem dX12_meanAnew_63 : decode cX12_meanAnew 63 = .ok (.aload_n 0, 1) := by decide +kernel
theorem dX12_meanAnew_64 : decode cX12_meanAnew 64 = .ok (.getfield 28, 3) := by decide +kernel
theorem dX12_meanAnew_67 : decode cX12_meanAnew 67 = .ok (.iload 7, 2) := by decide +kernel
theorem dX12_meanAnew_69 : decode cX12_meanAnew 69 = .ok (.iaload, 1) := by decide +kernel
theorem dX12_meanAnew_70 : decode cX12_meanAnew 70 = .ok (.ifCond .ge 18, 3) := by decide +kernel
theorem dX12_meanAnew_73 : decode cX12_meanAnew 73 = .ok (.aload_n 0, 1) := by decide +kernel
theorem dX12_meanAnew_74 : decode cX12_meanAnew 74 = .ok (.getfield 259, 3) := by decide +kernel
theorem dX12_meanAnew_77 : decode cX12_meanAnew 77 = .ok (.ifCond .eq 9, 3) := by decide +kernel
theorem dX12_meanAnew_80 : decode cX12_meanAnew 80 = .ok (.ldc2_w 262, 3) := by decide +kernel
theorem dX12_meanAnew_83 : decode cX12_meanAnew 83 = .ok (.goto 4, 3) := by decide +kernel
theorem dX12_meanAnew_86 : decode cX12_meanAnew 86 = .ok (.lconst 0, 1) := by decide +kernel
theorem dX12_meanAnew_87 : decode cX12_meanAnew 87 = .ok (.lreturn, 1) := by decide +kernel
theorem dX12_meanAnew_88 : decode cX12_meanAnew 88 = .ok (.aload_n 0, 1) := by decide +kernel
theorem dX12_meanAnew_89 : decode cX12_meanAnew 89 = .ok (.getfield 259, 3) := by decide +kernel
theorem dX12_meanAnew_92 : decode cX12_meanAnew 92 = .ok (.ifCond .eq 7, 3) := by decide +kernel
theorem dX12_meanAnew_95 : decode cX12_meanAnew 95 = .ok (.lconst 0, 1) := by decide +kernel
theorem dX12_meanAnew_96 : decode cX12_meanAnew 96 = .ok (.goto 15, 3) := by decide +kernel
theorem dX12_meanAnew_99 : decode cX12_meanAnew 99 = .ok (.ldc2_w 213, 3) := by decide +kernel
theorem dX12_meanAnew_102 : decode cX12_meanAnew 102 = .ok (.aload_n 0, 1) := by decide +kernel
theorem dX12_meanAnew_103 : decode cX12_meanAnew 103 = .ok (.getfield 28, 3) := by decide +kernel
theorem dX12_meanAnew_106 : decode cX12_meanAnew 106 = .ok (.iload 7, 2) := by decide +kernel
theorem dX12_meanAnew_108 : decode cX12_meanAnew 108 = .ok (.iaload, 1) := by decide +kernel
theorem dX12_meanAnew_109 : decode cX12_meanAnew 109 = .ok (.i2l, 1) := by decide +kernel
theorem dX12_meanAnew_110 : decode cX12_meanAnew 110 = .ok (.lmul, 1) := by decide +kernel
theorem dX12_meanAnew_111 : decode cX12_meanAnew 111 = .ok (.lstore 8, 2) := by decide +kernel
theorem dX12_meanAnew_113 : decode cX12_meanAnew 113 = .ok (.lload 8, 2) := by decide +kernel
theorem dX12_meanAnew_115 : decode cX12_meanAnew 115 = .ok (.aload_n 0, 1) := by decide +kernel
theorem dX12_meanAnew_116 : decode cX12_meanAnew 116 = .ok (.iload_n 1, 1) := by decide +kernel
theorem dX12_meanAnew_117 : decode cX12_meanAnew 117 = .ok (.iconst 1, 1) := by decide +kernel
theorem dX12_meanAnew_118 : decode cX12_meanAnew 118 = .ok (.iadd, 1) := by decide +kernel
theorem dX12_meanAnew_119 : decode cX12_meanAnew 119 = .ok (.iload_n 2, 1) := by decide +kernel
theorem dX12_meanAnew_120 : decode cX12_meanAnew 120 = .ok (.aload_n 0, 1) := by decide +kernel
theorem dX12_meanAnew_121 : decode cX12_meanAnew 121 = .ok (.getfield 31, 3) := by decide +kernel
theorem dX12_meanAnew_124 : decode cX12_meanAnew 124 = .ok (.iload 7, 2) := by decide +kernel
theorem dX12_meanAnew_126 : decode cX12_meanAnew 126 = .ok (.iaload, 1) := by decide +kernel
theorem dX12_meanAnew_127 : decode cX12_meanAnew 127 = .ok (.aload_n 0, 1) := by decide +kernel
theorem dX12_meanAnew_128 : decode cX12_meanAnew 128 = .ok (.getfield 34, 3) := by decide +kernel
theorem dX12_meanAnew_131 : decode cX12_meanAnew 131 = .ok (.iload 7, 2) := by decide +kernel
theorem dX12_meanAnew_133 : decode cX12_meanAnew 133 = .ok (.iaload, 1) := by decide +kernel
theorem dX12_meanAnew_134 : decode cX12_meanAnew 134 = .ok (.invokevirtual 247, 3) := by decide +kernel
theorem dX12_meanAnew_137 : decode cX12_meanAnew 137 = .ok (.ladd, 1) := by decide +kernel
theorem dX12_meanAnew_138 : decode cX12_meanAnew 138 = .ok (.lreturn, 1) := by decide +kernel
theorem dX12_meanBy_0 : decode cX12_meanBy 0 = .ok (.aload_n 0, 1) := by decide +kernel
theorem dX12_meanBy_1 : decode cX12_meanBy 1 = .ok (.iload_n 1, 1) := by decide +kernel
theorem dX12_meanBy_2 : decode cX12_meanBy 2 = .ok (.putfield 250, 3) := by decide +kernel
theorem dX12_meanBy_5 : decode cX12_meanBy 5 = .ok (.aload_n 0, 1) := by decide +kernel
theorem dX12_meanBy_6 : decode cX12_meanBy 6 = .ok (.iload_n 2, 1) := by decide +kernel
theorem dX12_meanBy_7 : decode cX12_meanBy 7 = .ok (.putfield 253, 3) := by decide +kernel
theorem dX12_meanBy_10 : decode cX12_meanBy 10 = .ok (.aload_n 0, 1) := by decide +kernel
theorem dX12_meanBy_11 : decode cX12_meanBy 11 = .ok (.iload_n 3, 1) := by decide +kernel
theorem dX12_meanBy_12 : decode cX12_meanBy 12 = .ok (.putfield 256, 3) := by decide +kernel
theorem dX12_meanBy_15 : decode cX12_meanBy 15 = .ok (.aload_n 0, 1) := by decide +kernel
theorem dX12_meanBy_16 : decode cX12_meanBy 16 = .ok (.iload 4, 2) := by decide +kernel
theorem dX12_meanBy_18 : decode cX12_meanBy 18 = .ok (.putfield 235, 3) := by decide +kernel
theorem dX12_meanBy_21 : decode cX12_meanBy 21 = .ok (.aload_n 0, 1) := by decide +kernel
theorem dX12_meanBy_22 : decode cX12_meanBy 22 = .ok (.iload 6, 2) := by decide +kernel
theorem dX12_meanBy_24 : decode cX12_meanBy 24 = .ok (.putfield 244, 3) := by decide +kernel
theorem dX12_meanBy_27 : decode cX12_meanBy 27 = .ok (.aload_n 0, 1) := by decide +kernel
theorem dX12_meanBy_28 : decode cX12_meanBy 28 = .ok (.iload 7, 2) := by decide +kernel
theorem dX12_meanBy_30 : decode cX12_meanBy 30 = .ok (.putfield 259, 3) := by decide +kernel
theorem dX12_meanBy_33 : decode cX12_meanBy 33 = .ok (.aload_n 0, 1) := by decide +kernel
theorem dX12_meanBy_34 : decode cX12_meanBy 34 = .ok (.dup, 1) := by decide +kernel
theorem dX12_meanBy_35 : decode cX12_meanBy 35 = .ok (.getfield 198, 3) := by decide +kernel
theorem dX12_meanBy_38 : decode cX12_meanBy 38 = .ok (.iconst 1, 1) := by decide +kernel
theorem dX12_meanBy_39 : decode cX12_meanBy 39 = .ok (.iadd, 1) := by decide +kernel
theorem dX12_meanBy_40 : decode cX12_meanBy 40 = .ok (.putfield 198, 3) := by decide +kernel
theorem dX12_meanBy_43 : decode cX12_meanBy 43 = .ok (.aload_n 0, 1) := by decide +kernel
theorem dX12_meanBy_44 : decode cX12_meanBy 44 = .ok (.iconst 0, 1) := by decide +kernel
theorem dX12_meanBy_45 : decode cX12_meanBy 45 = .ok (.iload 5, 2) := by decide +kernel
theorem dX12_meanBy_47 : decode cX12_meanBy 47 = .ok (.iload 5, 2) := by decide +kernel
theorem dX12_meanBy_49 : decode cX12_meanBy 49 = .ok (.aload_n 0, 1) := by decide +kernel
theorem dX12_meanBy_50 : decode cX12_meanBy 50 = .ok (.getfield 9, 3) := by decide +kernel
theorem dX12_meanBy_53 : decode cX12_meanBy 53 = .ok (.bipush 7, 2) := by decide +kernel
theorem dX12_meanBy_55 : decode cX12_meanBy 55 = .ok (.iaload, 1) := by decide +kernel
theorem dX12_meanBy_56 : decode cX12_meanBy 56 = .ok (.aload_n 0, 1) := by decide +kernel
theorem dX12_meanBy_57 : decode cX12_meanBy 57 = .ok (.getfield 9, 3) := by decide +kernel
theorem dX12_meanBy_60 : decode cX12_meanBy 60 = .ok (.bipush 8, 2) := by decide +kernel
theorem dX12_meanBy_62 : decode cX12_meanBy 62 = .ok (.iaload, 1) := by decide +kernel
theorem dX12_meanBy_63 : decode cX12_meanBy 63 = .ok (.invokevirtual 238, 3) := by decide +kernel
theorem dX12_meanBy_66 : decode cX12_meanBy 66 = .ok (.lreturn, 1) := by decide +kernel
theorem dX12_mean_0 : decode cX12_mean 0 = .ok (.aload_n 0, 1) := by decide +kernel
theorem dX12_mean_1 : decode cX12_mean 1 = .ok (.iload_n 1, 1) := by decide +kernel
theorem dX12_mean_2 : decode cX12_mean 2 = .ok (.invokevirtual 225, 3) := by decide +kernel
theorem dX12_mean_5 : decode cX12_mean 5 = .ok (.ifCond .eq 37, 3) := by decide +kernel
theorem dX12_mean_8 : decode cX12_mean 8 = .ok (.iload_n 2, 1) := by decide +kernel
theorem dX12_mean_9 : decode cX12_mean 9 = .ok (.iconst 1, 1) := by decide +kernel
theorem dX12_mean_10 : decode cX12_mean 10 = .ok (.bipush 6, 2) := by decide +kernel
theorem dX12_mean_12 : decode cX12_mean 12 = .ok (.invokestatic 63, 3) := by decide +kernel
theorem dX12_mean_15 : decode cX12_mean 15 = .ok (.ifCond .eq 27, 3) := by decide +kernel
theorem dX12_mean_18 : decode cX12_mean 18 = .ok (.iload_n 3, 1) := by decide +kernel
theorem dX12_mean_19 : decode cX12_mean 19 = .ok (.invokestatic 184, 3) := by decide +kernel
theorem dX12_mean_22 : decode cX12_mean 22 = .ok (.ifCond .eq 20, 3) := by decide +kernel
theorem dX12_mean_25 : decode cX12_mean 25 = .ok (.iload 4, 2) := by decide +kernel
theorem dX12_mean_27 : decode cX12_mean 27 = .ok (.iconst 0, 1) := by decide +kernel
theorem dX12_mean_28 : decode cX12_mean 28 = .ok (.iconst 1, 1) := by decide +kernel
theorem dX12_mean_29 : decode cX12_mean 29 = .ok (.invokestatic 63, 3) := by decide +kernel
theorem dX12_mean_32 : decode cX12_mean 32 = .ok (.ifCond .eq 10, 3) := by decide +kernel
theorem dX12_mean_35 : decode cX12_mean 35 = .ok (.aload_n 0, 1) := by decide +kernel
theorem dX12_mean_36 : decode cX12_mean 36 = .ok (.invokevirtual 191, 3) := by decide +kernel
theorem dX12_mean_39 : decode cX12_mean 39 = .ok (.ifCond .ne 7, 3) := by decide +kernel
theorem dX12_mean_42 : decode cX12_mean 42 = .ok (.ldc2_w 264, 3) := by decide +kernel
theorem dX12_mean_45 : decode cX12_mean 45 = .ok (.lreturn, 1) := by decide +kernel
theorem dX12_mean_46 : decode cX12_mean 46 = .ok (.aload_n 0, 1) := by decide +kernel
theorem dX12_mean_47 : decode cX12_mean 47 = .ok (.getfield 9, 3) := by decide +kernel
theorem dX12_mean_50 : decode cX12_mean 50 = .ok (.bipush 10, 2) := by decide +kernel
theorem dX12_mean_52 : decode cX12_mean 52 = .ok (.iaload, 1) := by decide +kernel
theorem dX12_mean_53 : decode cX12_mean 53 = .ok (.iconst 1, 1) := by decide +kernel
theorem dX12_mean_54 : decode cX12_mean 54 = .ok (.if_icmp .ne 5, 3) := by decide +kernel
theorem dX12_mean_57 : decode cX12_mean 57 = .ok (.lconst 0, 1) := by decide +kernel
theorem dX12_mean_58 : decode cX12_mean 58 = .ok (.lreturn, 1) := by decide +kernel
theorem dX12_mean_59 : decode cX12_mean 59 = .ok (.aload_n 0, 1) := by decide +kernel
theorem dX12_mean_60 : decode cX12_mean 60 = .ok (.invokevirtual 228, 3) := by decide +kernel
theorem dX12_mean_63 : decode cX12_mean 63 = .ok (.aload_n 0, 1) := by decide +kernel
theorem dX12_mean_64 : decode cX12_mean 64 = .ok (.aload_n 0, 1) := by decide +kernel
theorem dX12_mean_65 : decode cX12_mean 65 = .ok (.getfield 9, 3) := by decide +kernel
theorem dX12_mean_68 : decode cX12_mean 68 = .ok (.sipush 887, 3) := by decide +kernel
theorem dX12_mean_71 : decode cX12_mean 71 = .ok (.iload_n 1, 1) := by decide +kernel
theorem dX12_mean_72 : decode cX12_mean 72 = .ok (.iadd, 1) := by decide +kernel
theorem dX12_mean_73 : decode cX12_mean 73 = .ok (.iaload, 1) := by decide +kernel
theorem dX12_mean_74 : decode cX12_mean 74 = .ok (.aload_n 0, 1) := by decide +kernel
theorem dX12_mean_75 : decode cX12_mean 75 = .ok (.getfield 9, 3) := by decide +kernel
theorem dX12_mean_78 : decode cX12_mean 78 = .ok (.sipush 897, 3) := by decide +kernel
theorem dX12_mean_81 : decode cX12_mean 81 = .ok (.iload_n 1, 1) := by decide +kernel
theorem dX12_mean_82 : decode cX12_mean 82 = .ok (.iadd, 1) := by decide +kernel
theorem dX12_mean_83 : decode cX12_mean 83 = .ok (.iaload, 1) := by decide +kernel
theorem dX12_mean_84 : decode cX12_mean 84 = .ok (.iload_n 1, 1) := by decide +kernel
theorem dX12_mean_85 : decode cX12_mean 85 = .ok (.iload_n 2, 1) := by decide +kernel
theorem dX12_mean_86 : decode cX12_mean 86 = .ok (.iload_n 3, 1) := by decide +kernel
theorem dX12_mean_87 : decode cX12_mean 87 = .ok (.iconst (-1), 1) := by decide +kernel
theorem dX12_mean_88 : decode cX12_mean 88 = .ok (.iload 4, 2) := by decide +kernel
theorem dX12_mean_90 : decode cX12_mean 90 = .ok (.iconst 1, 1) := by decide +kernel
theorem dX12_mean_91 : decode cX12_mean 91 = .ok (.if_icmp .ne 7, 3) := by decide +kernel
theorem dX12_mean_94 : decode cX12_mean 94 = .ok (.iconst 1, 1) := by decide +kernel
theorem dX12_mean_95 : decode cX12_mean 95 = .ok (.goto 4, 3) := by decide +kernel
theorem dX12_mean_98 : decode cX12_mean 98 = .ok (.iconst 0, 1) := by decide +kernel
theorem dX12_mean_99 : decode cX12_mean 99 = .ok (.invokevirtual 266, 3) := by decide +kernel
theorem dX12_mean_102 : decode cX12_mean 102 = .ok (.lreturn, 1) := by decide +kernel
theorem dX12_best_0 : decode cX12_best 0 = .ok (.iload_n 1, 1) := by decide +kernel
theorem dX12_best_1 : decode cX12_best 1 = .ok (.iconst 1, 1) := by decide +kernel
theorem dX12_best_2 : decode cX12_best 2 = .ok (.bipush 6, 2) := by decide +kernel
theorem dX12_best_4 : decode cX12_best 4 = .ok (.invokestatic 63, 3) := by decide +kernel
theorem dX12_best_7 : decode cX12_best 7 = .ok (.ifCond .eq 26, 3) := by decide +kernel
theorem dX12_best_10 : decode cX12_best 10 = .ok (.iload_n 2, 1) := by decide +kernel
theorem dX12_best_11 : decode cX12_best 11 = .ok (.invokestatic 184, 3) := by decide +kernel
theorem dX12_best_14 : decode cX12_best 14 = .ok (.ifCond .eq 19, 3) := by decide +kernel
theorem dX12_best_17 : decode cX12_best 17 = .ok (.iload_n 3, 1) := by decide +kernel
theorem dX12_best_18 : decode cX12_best 18 = .ok (.iconst 0, 1) := by decide +kernel
theorem dX12_best_19 : decode cX12_best 19 = .ok (.iconst 2, 1) := by decide +kernel
theorem dX12_best_20 : decode cX12_best 20 = .ok (.invokestatic 63, 3) := by decide +kernel
theorem dX12_best_23 : decode cX12_best 23 = .ok (.ifCond .eq 10, 3) := by decide +kernel
theorem dX12_best_26 : decode cX12_best 26 = .ok (.aload_n 0, 1) := by decide +kernel
theorem dX12_best_27 : decode cX12_best 27 = .ok (.invokevirtual 191, 3) := by decide +kernel
theorem dX12_best_30 : decode cX12_best 30 = .ok (.ifCond .ne 7, 3) := by decide +kernel
theorem dX12_best_33 : decode cX12_best 33 = .ok (.ldc2_w 264, 3) := by decide +kernel
theorem dX12_best_36 : decode cX12_best 36 = .ok (.lreturn, 1) := by decide +kernel
theorem dX12_best_37 : decode cX12_best 37 = .ok (.aload_n 0, 1) := by decide +kernel
theorem dX12_best_38 : decode cX12_best 38 = .ok (.getfield 9, 3) := by decide +kernel
theorem dX12_best_41 : decode cX12_best 41 = .ok (.bipush 10, 2) := by decide +kernel
theorem dX12_best_43 : decode cX12_best 43 = .ok (.iaload, 1) := by decide +kernel
theorem dX12_best_44 : decode cX12_best 44 = .ok (.iconst 1, 1) := by decide +kernel
theorem dX12_best_45 : decode cX12_best 45 = .ok (.if_icmp .ne 5, 3) := by decide +kernel
theorem dX12_best_48 : decode cX12_best 48 = .ok (.lconst 0, 1) := by decide +kernel
theorem dX12_best_49 : decode cX12_best 49 = .ok (.lreturn, 1) := by decide +kernel
theorem dX12_best_50 : decode cX12_best 50 = .ok (.aload_n 0, 1) := by decide +kernel
theorem dX12_best_51 : decode cX12_best 51 = .ok (.invokevirtual 228, 3) := by decide +kernel
theorem dX12_best_54 : decode cX12_best 54 = .ok (.iload_n 3, 1) := by decide +kernel
theorem dX12_best_55 : decode cX12_best 55 = .ok (.ifCond .ne 26, 3) := by decide +kernel
theorem dX12_best_58 : decode cX12_best 58 = .ok (.aload_n 0, 1) := by decide +kernel
theorem dX12_best_59 : decode cX12_best 59 = .ok (.iload_n 1, 1) := by decide +kernel
theorem dX12_best_60 : decode cX12_best 60 = .ok (.iload_n 2, 1) := by decide +kernel
theorem dX12_best_61 : decode cX12_best 61 = .ok (.aload_n 0, 1) := by decide +kernel
theorem dX12_best_62 : decode cX12_best 62 = .ok (.getfield 9, 3) := by decide +kernel
theorem dX12_best_65 : decode cX12_best 65 = .ok (.bipush 7, 2) := by decide +kernel
theorem dX12_best_67 : decode cX12_best 67 = .ok (.iaload, 1) := by decide +kernel
theorem dX12_best_68 : decode cX12_best 68 = .ok (.aload_n 0, 1) := by decide +kernel
theorem dX12_best_69 : decode cX12_best 69 = .ok (.getfield 9, 3) := by decide +kernel
theorem dX12_best_72 : decode cX12_best 72 = .ok (.bipush 8, 2) := by decide +kernel
theorem dX12_best_74 : decode cX12_best 74 = .ok (.iaload, 1) := by decide +kernel
theorem dX12_best_75 : decode cX12_best 75 = .ok (.iconst (-1), 1) := by decide +kernel
theorem dX12_best_76 : decode cX12_best 76 = .ok (.invokevirtual 222, 3) := by decide +kernel
theorem dX12_best_79 : decode cX12_best 79 = .ok (.i2l, 1) := by decide +kernel
theorem dX12_best_80 : decode cX12_best 80 = .ok (.lreturn, 1) := by decide +kernel
theorem dX12_best_81 : decode cX12_best 81 = .ok (.aload_n 0, 1) := by decide +kernel
theorem dX12_best_82 : decode cX12_best 82 = .ok (.iload_n 1, 1) := by decide +kernel
theorem dX12_best_83 : decode cX12_best 83 = .ok (.iload_n 2, 1) := by decide +kernel
theorem dX12_best_84 : decode cX12_best 84 = .ok (.aload_n 0, 1) := by decide +kernel
theorem dX12_best_85 : decode cX12_best 85 = .ok (.getfield 9, 3) := by decide +kernel
theorem dX12_best_88 : decode cX12_best 88 = .ok (.bipush 7, 2) := by decide +kernel
theorem dX12_best_90 : decode cX12_best 90 = .ok (.iaload, 1) := by decide +kernel
theorem dX12_best_91 : decode cX12_best 91 = .ok (.aload_n 0, 1) := by decide +kernel
theorem dX12_best_92 : decode cX12_best 92 = .ok (.getfield 9, 3) := by decide +kernel
theorem dX12_best_95 : decode cX12_best 95 = .ok (.bipush 8, 2) := by decide +kernel
theorem dX12_best_97 : decode cX12_best 97 = .ok (.iaload, 1) := by decide +kernel
theorem dX12_best_98 : decode cX12_best 98 = .ok (.invokevirtual 209, 3) := by decide +kernel
theorem dX12_best_101 : decode cX12_best 101 = .ok (.lstore 4, 2) := by decide +kernel
theorem dX12_best_103 : decode cX12_best 103 = .ok (.lconst 0, 1) := by decide +kernel
theorem dX12_best_104 : decode cX12_best 104 = .ok (.lstore 6, 2) := by decide +kernel
theorem dX12_best_106 : decode cX12_best 106 = .ok (.iconst 0, 1) := by decide +kernel
theorem dX12_best_107 : decode cX12_best 107 = .ok (.istore 8, 2) := by decide +kernel
theorem dX12_best_109 : decode cX12_best 109 = .ok (.iload 8, 2) := by decide +kernel
theorem dX12_best_111 : decode cX12_best 111 = .ok (.bipush 8, 2) := by decide +kernel
theorem dX12_best_113 : decode cX12_best 113 = .ok (.if_icmp .ge 45, 3) := by decide +kernel
theorem dX12_best_116 : decode cX12_best 116 = .ok (.iload_n 3, 1) := by decide +kernel
theorem dX12_best_117 : decode cX12_best 117 = .ok (.iconst 2, 1) := by decide +kernel
theorem dX12_best_118 : decode cX12_best 118 = .ok (.if_icmp .ne 40, 3) := by decide +kernel
theorem dX12_best_121 : decode cX12_best 121 = .ok (.aload_n 0, 1) := by decide +kernel
theorem dX12_best_122 : decode cX12_best 122 = .ok (.iconst 1, 1) := by decide +kernel
theorem dX12_best_123 : decode cX12_best 123 = .ok (.iload 8, 2) := by decide +kernel
theorem dX12_best_125 : decode cX12_best 125 = .ok (.iconst (-1), 1) := by decide +kernel
theorem dX12_best_126 : decode cX12_best 126 = .ok (.iload_n 1, 1) := by decide +kernel
theorem dX12_best_127 : decode cX12_best 127 = .ok (.iload_n 2, 1) := by decide +kernel
theorem dX12_best_128 : decode cX12_best 128 = .ok (.iconst (-1), 1) := by decide +kernel
theorem dX12_best_129 : decode cX12_best 129 = .ok (.iconst 0, 1) := by decide +kernel
theorem dX12_best_130 : decode cX12_best 130 = .ok (.invokevirtual 266, 3) := by decide +kernel
theorem dX12_best_133 : decode cX12_best 133 = .ok (.lstore 9, 2) := by decide +kernel
theorem dX12_best_135 : decode cX12_best 135 = .ok (.lload 9, 2) := by decide +kernel
theorem dX12_best_137 : decode cX12_best 137 = .ok (.lload 6, 2) := by decide +kernel
theorem dX12_best_139 : decode cX12_best 139 = .ok (.lcmp, 1) := by decide +kernel
theorem dX12_best_140 : decode cX12_best 140 = .ok (.ifCond .le 8, 3) := by decide +kernel
theorem dX12_best_143 : decode cX12_best 143 = .ok (.lload 9, 2) := by decide +kernel
theorem dX12_best_145 : decode cX12_best 145 = .ok (.goto 5, 3) := by decide +kernel
theorem dX12_best_148 : decode cX12_best 148 = .ok (.lload 6, 2) := by decide +kernel
theorem dX12_best_150 : decode cX12_best 150 = .ok (.lstore 6, 2) := by decide +kernel
theorem dX12_best_152 : decode cX12_best 152 = .ok (.iinc 8 1, 3) := by decide +kernel
theorem dX12_best_155 : decode cX12_best 155 = .ok (.goto (-46), 3) := by decide +kernel
theorem dX12_best_158 : decode cX12_best 158 = .ok (.lload 4, 2) := by decide +kernel
theorem dX12_best_160 : decode cX12_best 160 = .ok (.lload 6, 2) := by decide +kernel
theorem dX12_best_162 : decode cX12_best 162 = .ok (.lsub, 1) := by decide +kernel
theorem dX12_best_163 : decode cX12_best 163 = .ok (.lreturn, 1) := by decide +kernel
theorem dX12_dress_0 : decode cX12_dress 0 = .ok (.iload_n 2, 1) := by decide +kernel
theorem dX12_dress_1 : decode cX12_dress 1 = .ok (.invokestatic 184, 3) := by decide +kernel
theorem dX12_dress_4 : decode cX12_dress 4 = .ok (.ifCond .ne 5, 3) := by decide +kernel
theorem dX12_dress_7 : decode cX12_dress 7 = .ok (.iconst (-1), 1) := by decide +kernel
theorem dX12_dress_8 : decode cX12_dress 8 = .ok (.ireturn, 1) := by decide +kernel
theorem dX12_dress_9 : decode cX12_dress 9 = .ok (.iload_n 1, 1) := by decide +kernel
theorem dX12_dress_10 : decode cX12_dress 10 = .ok (.iconst 1, 1) := by decide +kernel
theorem dX12_dress_11 : decode cX12_dress 11 = .ok (.iconst 4, 1) := by decide +kernel
theorem dX12_dress_12 : decode cX12_dress 12 = .ok (.invokestatic 63, 3) := by decide +kernel
theorem dX12_dress_15 : decode cX12_dress 15 = .ok (.ifCond .ne 6, 3) := by decide +kernel
theorem dX12_dress_18 : decode cX12_dress 18 = .ok (.bipush (-2), 2) := by decide +kernel
theorem dX12_dress_20 : decode cX12_dress 20 = .ok (.ireturn, 1) := by decide +kernel
theorem dX12_dress_21 : decode cX12_dress 21 = .ok (.aload_n 0, 1) := by decide +kernel
theorem dX12_dress_22 : decode cX12_dress 22 = .ok (.invokevirtual 191, 3) := by decide +kernel
theorem dX12_dress_25 : decode cX12_dress 25 = .ok (.ifCond .ne 6, 3) := by decide +kernel
theorem dX12_dress_28 : decode cX12_dress 28 = .ok (.bipush (-3), 2) := by decide +kernel
theorem dX12_dress_30 : decode cX12_dress 30 = .ok (.ireturn, 1) := by decide +kernel
theorem dX12_dress_31 : decode cX12_dress 31 = .ok (.aload_n 0, 1) := by decide +kernel
theorem dX12_dress_32 : decode cX12_dress 32 = .ok (.getfield 9, 3) := by decide +kernel
theorem dX12_dress_35 : decode cX12_dress 35 = .ok (.bipush 10, 2) := by decide +kernel
theorem dX12_dress_37 : decode cX12_dress 37 = .ok (.iaload, 1) := by decide +kernel
theorem dX12_dress_38 : decode cX12_dress 38 = .ok (.iconst 1, 1) := by decide +kernel
theorem dX12_dress_39 : decode cX12_dress 39 = .ok (.if_icmp .ne 6, 3) := by decide +kernel
theorem dX12_dress_42 : decode cX12_dress 42 = .ok (.bipush (-5), 2) := by decide +kernel
theorem dX12_dress_44 : decode cX12_dress 44 = .ok (.ireturn, 1) := by decide +kernel
theorem dX12_dress_45 : decode cX12_dress 45 = .ok (.aload_n 0, 1) := by decide +kernel
theorem dX12_dress_46 : decode cX12_dress 46 = .ok (.invokevirtual 228, 3) := by decide +kernel
theorem dX12_dress_49 : decode cX12_dress 49 = .ok (.aload_n 0, 1) := by decide +kernel
theorem dX12_dress_50 : decode cX12_dress 50 = .ok (.iconst 3, 1) := by decide +kernel
theorem dX12_dress_51 : decode cX12_dress 51 = .ok (.iconst 0, 1) := by decide +kernel
theorem dX12_dress_52 : decode cX12_dress 52 = .ok (.iconst (-1), 1) := by decide +kernel
theorem dX12_dress_53 : decode cX12_dress 53 = .ok (.iload_n 1, 1) := by decide +kernel
theorem dX12_dress_54 : decode cX12_dress 54 = .ok (.iload_n 2, 1) := by decide +kernel
theorem dX12_dress_55 : decode cX12_dress 55 = .ok (.iconst (-1), 1) := by decide +kernel
theorem dX12_dress_56 : decode cX12_dress 56 = .ok (.iconst 0, 1) := by decide +kernel
theorem dX12_dress_57 : decode cX12_dress 57 = .ok (.invokevirtual 266, 3) := by decide +kernel
theorem dX12_dress_60 : decode cX12_dress 60 = .ok (.lstore_n 3, 1) := by decide +kernel
theorem dX12_dress_61 : decode cX12_dress 61 = .ok (.bipush (-5), 2) := by decide +kernel
theorem dX12_dress_63 : decode cX12_dress 63 = .ok (.istore 5, 2) := by decide +kernel
theorem dX12_dress_65 : decode cX12_dress 65 = .ok (.iconst 0, 1) := by decide +kernel
theorem dX12_dress_66 : decode cX12_dress 66 = .ok (.istore 6, 2) := by decide +kernel
theorem dX12_dress_68 : decode cX12_dress 68 = .ok (.iload 6, 2) := by decide +kernel
theorem dX12_dress_70 : decode cX12_dress 70 = .ok (.iload_n 1, 1) := by decide +kernel
theorem dX12_dress_71 : decode cX12_dress 71 = .ok (.if_icmp .ge 53, 3) := by decide +kernel
theorem dX12_dress_74 : decode cX12_dress 74 = .ok (.aload_n 0, 1) := by decide +kernel
theorem dX12_dress_75 : decode cX12_dress 75 = .ok (.iconst 3, 1) := by decide +kernel
theorem dX12_dress_76 : decode cX12_dress 76 = .ok (.iconst 0, 1) := by decide +kernel
theorem dX12_dress_77 : decode cX12_dress 77 = .ok (.iconst (-1), 1) := by decide +kernel
theorem dX12_dress_78 : decode cX12_dress 78 = .ok (.iload_n 1, 1) := by decide +kernel
theorem dX12_dress_79 : decode cX12_dress 79 = .ok (.iload_n 2, 1) := by decide +kernel
theorem dX12_dress_80 : decode cX12_dress 80 = .ok (.iload 6, 2) := by decide +kernel
theorem dX12_dress_82 : decode cX12_dress 82 = .ok (.iconst 0, 1) := by decide +kernel
theorem dX12_dress_83 : decode cX12_dress 83 = .ok (.invokevirtual 266, 3) := by decide +kernel
theorem dX12_dress_86 : decode cX12_dress 86 = .ok (.lstore 7, 2) := by decide +kernel
theorem dX12_dress_88 : decode cX12_dress 88 = .ok (.lload 7, 2) := by decide +kernel
theorem dX12_dress_90 : decode cX12_dress 90 = .ok (.lload_n 3, 1) := by decide +kernel
theorem dX12_dress_91 : decode cX12_dress 91 = .ok (.lcmp, 1) := by decide +kernel
theorem dX12_dress_92 : decode cX12_dress 92 = .ok (.ifCond .le 8, 3) := by decide +kernel
theorem dX12_dress_95 : decode cX12_dress 95 = .ok (.iload 6, 2) := by decide +kernel
theorem dX12_dress_97 : decode cX12_dress 97 = .ok (.goto 5, 3) := by decide +kernel
theorem dX12_dress_100 : decode cX12_dress 100 = .ok (.iload 5, 2) := by decide +kernel
theorem dX12_dress_102 : decode cX12_dress 102 = .ok (.istore 5, 2) := by decide +kernel
theorem dX12_dress_104 : decode cX12_dress 104 = .ok (.lload 7, 2) := by decide +kernel
theorem dX12_dress_106 : decode cX12_dress 106 = .ok (.lload_n 3, 1) := by decide +kernel
theorem dX12_dress_107 : decode cX12_dress 107 = .ok (.lcmp, 1) := by decide +kernel
theorem dX12_dress_108 : decode cX12_dress 108 = .ok (.ifCond .le 8, 3) := by decide +kernel
theorem dX12_dress_111 : decode cX12_dress 111 = .ok (.lload 7, 2) := by decide +kernel
theorem dX12_dress_113 : decode cX12_dress 113 = .ok (.goto 4, 3) := by decide +kernel
theorem dX12_dress_116 : decode cX12_dress 116 = .ok (.lload_n 3, 1) := by decide +kernel
theorem dX12_dress_117 : decode cX12_dress 117 = .ok (.lstore_n 3, 1) := by decide +kernel
theorem dX12_dress_118 : decode cX12_dress 118 = .ok (.iinc 6 1, 3) := by decide +kernel
theorem dX12_dress_121 : decode cX12_dress 121 = .ok (.goto (-53), 3) := by decide +kernel
theorem dX12_dress_124 : decode cX12_dress 124 = .ok (.iload 5, 2) := by decide +kernel
theorem dX12_dress_126 : decode cX12_dress 126 = .ok (.ireturn, 1) := by decide +kernel
theorem dX12_day_0 : decode cX12_day 0 = .ok (.iload_n 1, 1) := by decide +kernel
theorem dX12_day_1 : decode cX12_day 1 = .ok (.iconst (-1), 1) := by decide +kernel
theorem dX12_day_2 : decode cX12_day 2 = .ok (.if_icmp .ne 12, 3) := by decide +kernel
theorem dX12_day_5 : decode cX12_day 5 = .ok (.aload_n 0, 1) := by decide +kernel
theorem dX12_day_6 : decode cX12_day 6 = .ok (.getfield 9, 3) := by decide +kernel
theorem dX12_day_9 : decode cX12_day 9 = .ok (.iconst 2, 1) := by decide +kernel
theorem dX12_day_10 : decode cX12_day 10 = .ok (.iconst 0, 1) := by decide +kernel
theorem dX12_day_11 : decode cX12_day 11 = .ok (.iastore, 1) := by decide +kernel
theorem dX12_day_12 : decode cX12_day 12 = .ok (.iconst 0, 1) := by decide +kernel
theorem dX12_day_13 : decode cX12_day 13 = .ok (.ireturn, 1) := by decide +kernel
theorem dX12_day_14 : decode cX12_day 14 = .ok (.iload_n 1, 1) := by decide +kernel
theorem dX12_day_15 : decode cX12_day 15 = .ok (.invokestatic 184, 3) := by decide +kernel
theorem dX12_day_18 : decode cX12_day 18 = .ok (.ifCond .ne 5, 3) := by decide +kernel
theorem dX12_day_21 : decode cX12_day 21 = .ok (.iconst (-1), 1) := by decide +kernel
theorem dX12_day_22 : decode cX12_day 22 = .ok (.ireturn, 1) := by decide +kernel
theorem dX12_day_23 : decode cX12_day 23 = .ok (.iload_n 2, 1) := by decide +kernel
theorem dX12_day_24 : decode cX12_day 24 = .ok (.iconst 0, 1) := by decide +kernel
theorem dX12_day_25 : decode cX12_day 25 = .ok (.bipush 7, 2) := by decide +kernel
theorem dX12_day_27 : decode cX12_day 27 = .ok (.invokestatic 63, 3) := by decide +kernel
theorem dX12_day_30 : decode cX12_day 30 = .ok (.ifCond .ne 6, 3) := by decide +kernel
theorem dX12_day_33 : decode cX12_day 33 = .ok (.bipush (-2), 2) := by decide +kernel
theorem dX12_day_35 : decode cX12_day 35 = .ok (.ireturn, 1) := by decide +kernel
theorem dX12_day_36 : decode cX12_day 36 = .ok (.aload_n 0, 1) := by decide +kernel
theorem dX12_day_37 : decode cX12_day 37 = .ok (.getfield 9, 3) := by decide +kernel
theorem dX12_day_40 : decode cX12_day 40 = .ok (.iconst 2, 1) := by decide +kernel
theorem dX12_day_41 : decode cX12_day 41 = .ok (.iaload, 1) := by decide +kernel
theorem dX12_day_42 : decode cX12_day 42 = .ok (.bipush 10, 2) := by decide +kernel
theorem dX12_day_44 : decode cX12_day 44 = .ok (.if_icmp .ne 6, 3) := by decide +kernel
theorem dX12_day_47 : decode cX12_day 47 = .ok (.bipush (-4), 2) := by decide +kernel
theorem dX12_day_49 : decode cX12_day 49 = .ok (.ireturn, 1) := by decide +kernel
theorem dX12_day_50 : decode cX12_day 50 = .ok (.aload_n 0, 1) := by decide +kernel
theorem dX12_day_51 : decode cX12_day 51 = .ok (.getfield 9, 3) := by decide +kernel
theorem dX12_day_54 : decode cX12_day 54 = .ok (.sipush 1017, 3) := by decide +kernel
theorem dX12_day_57 : decode cX12_day 57 = .ok (.aload_n 0, 1) := by decide +kernel
theorem dX12_day_58 : decode cX12_day 58 = .ok (.getfield 9, 3) := by decide +kernel
theorem dX12_day_61 : decode cX12_day 61 = .ok (.iconst 2, 1) := by decide +kernel
theorem dX12_day_62 : decode cX12_day 62 = .ok (.iaload, 1) := by decide +kernel
theorem dX12_day_63 : decode cX12_day 63 = .ok (.iadd, 1) := by decide +kernel
theorem dX12_day_64 : decode cX12_day 64 = .ok (.iload_n 1, 1) := by decide +kernel
theorem dX12_day_65 : decode cX12_day 65 = .ok (.iastore, 1) := by decide +kernel
theorem dX12_day_66 : decode cX12_day 66 = .ok (.aload_n 0, 1) := by decide +kernel
theorem dX12_day_67 : decode cX12_day 67 = .ok (.getfield 9, 3) := by decide +kernel
theorem dX12_day_70 : decode cX12_day 70 = .ok (.sipush 1027, 3) := by decide +kernel
theorem dX12_day_73 : decode cX12_day 73 = .ok (.aload_n 0, 1) := by decide +kernel
theorem dX12_day_74 : decode cX12_day 74 = .ok (.getfield 9, 3) := by decide +kernel
theorem dX12_day_77 : decode cX12_day 77 = .ok (.iconst 2, 1) := by decide +kernel
theorem dX12_day_78 : decode cX12_day 78 = .ok (.iaload, 1) := by decide +kernel
theorem dX12_day_79 : decode cX12_day 79 = .ok (.iadd, 1) := by decide +kernel
theorem dX12_day_80 : decode cX12_day 80 = .ok (.iload_n 2, 1) := by decide +kernel
theorem dX12_day_81 : decode cX12_day 81 = .ok (.iastore, 1) := by decide +kernel
theorem dX12_day_82 : decode cX12_day 82 = .ok (.aload_n 0, 1) := by decide +kernel
theorem dX12_day_83 : decode cX12_day 83 = .ok (.getfield 9, 3) := by decide +kernel
theorem dX12_day_86 : decode cX12_day 86 = .ok (.iconst 2, 1) := by decide +kernel
theorem dX12_day_87 : decode cX12_day 87 = .ok (.dup2, 1) := by decide +kernel
theorem dX12_day_88 : decode cX12_day 88 = .ok (.iaload, 1) := by decide +kernel
theorem dX12_day_89 : decode cX12_day 89 = .ok (.iconst 1, 1) := by decide +kernel
theorem dX12_day_90 : decode cX12_day 90 = .ok (.iadd, 1) := by decide +kernel
theorem dX12_day_91 : decode cX12_day 91 = .ok (.iastore, 1) := by decide +kernel
theorem dX12_day_92 : decode cX12_day 92 = .ok (.aload_n 0, 1) := by decide +kernel
theorem dX12_day_93 : decode cX12_day 93 = .ok (.getfield 9, 3) := by decide +kernel
theorem dX12_day_96 : decode cX12_day 96 = .ok (.iconst 2, 1) := by decide +kernel
theorem dX12_day_97 : decode cX12_day 97 = .ok (.iaload, 1) := by decide +kernel
theorem dX12_day_98 : decode cX12_day 98 = .ok (.ireturn, 1) := by decide +kernel
theorem dX12_mostMeal_0 : decode cX12_mostMeal 0 = .ok (.iconst 0, 1) := by decide +kernel
theorem dX12_mostMeal_1 : decode cX12_mostMeal 1 = .ok (.istore 4, 2) := by decide +kernel
theorem dX12_mostMeal_3 : decode cX12_mostMeal 3 = .ok (.iconst 0, 1) := by decide +kernel
theorem dX12_mostMeal_4 : decode cX12_mostMeal 4 = .ok (.istore 5, 2) := by decide +kernel
theorem dX12_mostMeal_6 : decode cX12_mostMeal 6 = .ok (.iload 5, 2) := by decide +kernel
theorem dX12_mostMeal_8 : decode cX12_mostMeal 8 = .ok (.bipush 8, 2) := by decide +kernel
theorem dX12_mostMeal_10 : decode cX12_mostMeal 10 = .ok (.if_icmp .ge 41, 3) := by decide +kernel
theorem dX12_mostMeal_13 : decode cX12_mostMeal 13 = .ok (.aload_n 0, 1) := by decide +kernel
theorem dX12_mostMeal_14 : decode cX12_mostMeal 14 = .ok (.getfield 28, 3) := by decide +kernel
theorem dX12_mostMeal_17 : decode cX12_mostMeal 17 = .ok (.aload_n 0, 1) := by decide +kernel
theorem dX12_mostMeal_18 : decode cX12_mostMeal 18 = .ok (.iload_n 1, 1) := by decide +kernel
theorem dX12_mostMeal_19 : decode cX12_mostMeal 19 = .ok (.iload 5, 2) := by decide +kernel
theorem dX12_mostMeal_21 : decode cX12_mostMeal 21 = .ok (.iload_n 2, 1) := by decide +kernel
theorem dX12_mostMeal_22 : decode cX12_mostMeal 22 = .ok (.iload_n 3, 1) := by decide +kernel
theorem dX12_mostMeal_23 : decode cX12_mostMeal 23 = .ok (.invokevirtual 205, 3) := by decide +kernel
theorem dX12_mostMeal_26 : decode cX12_mostMeal 26 = .ok (.iaload, 1) := by decide +kernel
theorem dX12_mostMeal_27 : decode cX12_mostMeal 27 = .ok (.istore 6, 2) := by decide +kernel
theorem dX12_mostMeal_29 : decode cX12_mostMeal 29 = .ok (.iload 6, 2) := by decide +kernel
theorem dX12_mostMeal_31 : decode cX12_mostMeal 31 = .ok (.iload 4, 2) := by decide +kernel
theorem dX12_mostMeal_33 : decode cX12_mostMeal 33 = .ok (.if_icmp .le 8, 3) := by decide +kernel
theorem dX12_mostMeal_36 : decode cX12_mostMeal 36 = .ok (.iload 6, 2) := by decide +kernel
theorem dX12_mostMeal_38 : decode cX12_mostMeal 38 = .ok (.goto 5, 3) := by decide +kernel
theorem dX12_mostMeal_41 : decode cX12_mostMeal 41 = .ok (.iload 4, 2) := by decide +kernel
theorem dX12_mostMeal_43 : decode cX12_mostMeal 43 = .ok (.istore 4, 2) := by decide +kernel
theorem dX12_mostMeal_45 : decode cX12_mostMeal 45 = .ok (.iinc 5 1, 3) := by decide +kernel
theorem dX12_mostMeal_48 : decode cX12_mostMeal 48 = .ok (.goto (-42), 3) := by decide +kernel
theorem dX12_mostMeal_51 : decode cX12_mostMeal 51 = .ok (.iload 4, 2) := by decide +kernel
theorem dX12_mostMeal_53 : decode cX12_mostMeal 53 = .ok (.ireturn, 1) := by decide +kernel
theorem dX12_judged_0 : decode cX12_judged 0 = .ok (.iload_n 1, 1) := by decide +kernel
theorem dX12_judged_1 : decode cX12_judged 1 = .ok (.iconst 0, 1) := by decide +kernel
theorem dX12_judged_2 : decode cX12_judged 2 = .ok (.iconst 3, 1) := by decide +kernel
theorem dX12_judged_3 : decode cX12_judged 3 = .ok (.invokestatic 63, 3) := by decide +kernel
theorem dX12_judged_6 : decode cX12_judged 6 = .ok (.ifCond .ne 5, 3) := by decide +kernel
theorem dX12_judged_9 : decode cX12_judged 9 = .ok (.iconst (-1), 1) := by decide +kernel
theorem dX12_judged_10 : decode cX12_judged 10 = .ok (.ireturn, 1) := by decide +kernel
theorem dX12_judged_11 : decode cX12_judged 11 = .ok (.aload_n 0, 1) := by decide +kernel
theorem dX12_judged_12 : decode cX12_judged 12 = .ok (.invokevirtual 191, 3) := by decide +kernel
theorem dX12_judged_15 : decode cX12_judged 15 = .ok (.ifCond .eq 14, 3) := by decide +kernel
theorem dX12_judged_18 : decode cX12_judged 18 = .ok (.aload_n 0, 1) := by decide +kernel
theorem dX12_judged_19 : decode cX12_judged 19 = .ok (.getfield 9, 3) := by decide +kernel
theorem dX12_judged_22 : decode cX12_judged 22 = .ok (.bipush 10, 2) := by decide +kernel
theorem dX12_judged_24 : decode cX12_judged 24 = .ok (.iaload, 1) := by decide +kernel
theorem dX12_judged_25 : decode cX12_judged 25 = .ok (.iconst 1, 1) := by decide +kernel
theorem dX12_judged_26 : decode cX12_judged 26 = .ok (.if_icmp .ne 6, 3) := by decide +kernel
theorem dX12_judged_29 : decode cX12_judged 29 = .ok (.bipush (-3), 2) := by decide +kernel
theorem dX12_judged_31 : decode cX12_judged 31 = .ok (.ireturn, 1) := by decide +kernel
theorem dX12_judged_32 : decode cX12_judged 32 = .ok (.aload_n 0, 1) := by decide +kernel
theorem dX12_judged_33 : decode cX12_judged 33 = .ok (.invokevirtual 228, 3) := by decide +kernel
theorem dX12_judged_36 : decode cX12_judged 36 = .ok (.aload_n 0, 1) := by decide +kernel
theorem dX12_judged_37 : decode cX12_judged 37 = .ok (.getfield 9, 3) := by decide +kernel
theorem dX12_judged_40 : decode cX12_judged 40 = .ok (.bipush 7, 2) := by decide +kernel
theorem dX12_judged_42 : decode cX12_judged 42 = .ok (.iaload, 1) := by decide +kernel
theorem dX12_judged_43 : decode cX12_judged 43 = .ok (.istore_n 2, 1) := by decide +kernel
theorem dX12_judged_44 : decode cX12_judged 44 = .ok (.aload_n 0, 1) := by decide +kernel
theorem dX12_judged_45 : decode cX12_judged 45 = .ok (.getfield 9, 3) := by decide +kernel
theorem dX12_judged_48 : decode cX12_judged 48 = .ok (.bipush 8, 2) := by decide +kernel
theorem dX12_judged_50 : decode cX12_judged 50 = .ok (.iaload, 1) := by decide +kernel
theorem dX12_judged_51 : decode cX12_judged 51 = .ok (.istore_n 3, 1) := by decide +kernel
theorem dX12_judged_52 : decode cX12_judged 52 = .ok (.bipush (-5), 2) := by decide +kernel
theorem dX12_judged_54 : decode cX12_judged 54 = .ok (.istore 4, 2) := by decide +kernel
theorem dX12_judged_56 : decode cX12_judged 56 = .ok (.iconst 0, 1) := by decide +kernel
theorem dX12_judged_57 : decode cX12_judged 57 = .ok (.istore 5, 2) := by decide +kernel
theorem dX12_judged_59 : decode cX12_judged 59 = .ok (.bipush (-5), 2) := by decide +kernel
theorem dX12_judged_61 : decode cX12_judged 61 = .ok (.istore 6, 2) := by decide +kernel
theorem dX12_judged_63 : decode cX12_judged 63 = .ok (.bipush (-5), 2) := by decide +kernel
theorem dX12_judged_65 : decode cX12_judged 65 = .ok (.istore 7, 2) := by decide +kernel
theorem dX12_judged_67 : decode cX12_judged 67 = .ok (.iconst 0, 1) := by decide +kernel
theorem dX12_judged_68 : decode cX12_judged 68 = .ok (.istore 8, 2) := by decide +kernel
theorem dX12_judged_70 : decode cX12_judged 70 = .ok (.iconst 1, 1) := by decide +kernel
theorem dX12_judged_71 : decode cX12_judged 71 = .ok (.istore 9, 2) := by decide +kernel
theorem dX12_judged_73 : decode cX12_judged 73 = .ok (.iconst 0, 1) := by decide +kernel
theorem dX12_judged_74 : decode cX12_judged 74 = .ok (.istore 10, 2) := by decide +kernel
theorem dX12_judged_76 : decode cX12_judged 76 = .ok (.iload 10, 2) := by decide +kernel
theorem dX12_judged_78 : decode cX12_judged 78 = .ok (.aload_n 0, 1) := by decide +kernel
theorem dX12_judged_79 : decode cX12_judged 79 = .ok (.getfield 9, 3) := by decide +kernel
theorem dX12_judged_82 : decode cX12_judged 82 = .ok (.iconst 2, 1) := by decide +kernel
theorem dX12_judged_83 : decode cX12_judged 83 = .ok (.iaload, 1) := by decide +kernel
theorem dX12_judged_84 : decode cX12_judged 84 = .ok (.if_icmp .ge 208, 3) := by decide +kernel
theorem dX12_judged_87 : decode cX12_judged 87 = .ok (.iload 9, 2) := by decide +kernel
theorem dX12_judged_89 : decode cX12_judged 89 = .ok (.ifCond .eq 203, 3) := by decide +kernel
theorem dX12_judged_92 : decode cX12_judged 92 = .ok (.aload_n 0, 1) := by decide +kernel
theorem dX12_judged_93 : decode cX12_judged 93 = .ok (.aload_n 0, 1) := by decide +kernel
theorem dX12_judged_94 : decode cX12_judged 94 = .ok (.getfield 9, 3) := by decide +kernel
theorem dX12_judged_97 : decode cX12_judged 97 = .ok (.sipush 1017, 3) := by decide +kernel
theorem dX12_judged_100 : decode cX12_judged 100 = .ok (.iload 10, 2) := by decide +kernel
theorem dX12_judged_102 : decode cX12_judged 102 = .ok (.iadd, 1) := by decide +kernel
theorem dX12_judged_103 : decode cX12_judged 103 = .ok (.iaload, 1) := by decide +kernel
theorem dX12_judged_104 : decode cX12_judged 104 = .ok (.aload_n 0, 1) := by decide +kernel
theorem dX12_judged_105 : decode cX12_judged 105 = .ok (.getfield 9, 3) := by decide +kernel
theorem dX12_judged_108 : decode cX12_judged 108 = .ok (.sipush 1027, 3) := by decide +kernel
theorem dX12_judged_111 : decode cX12_judged 111 = .ok (.iload 10, 2) := by decide +kernel
theorem dX12_judged_113 : decode cX12_judged 113 = .ok (.iadd, 1) := by decide +kernel
theorem dX12_judged_114 : decode cX12_judged 114 = .ok (.iaload, 1) := by decide +kernel
theorem dX12_judged_115 : decode cX12_judged 115 = .ok (.iload_n 2, 1) := by decide +kernel
theorem dX12_judged_116 : decode cX12_judged 116 = .ok (.iload_n 3, 1) := by decide +kernel
theorem dX12_judged_117 : decode cX12_judged 117 = .ok (.invokevirtual 205, 3) := by decide +kernel
theorem dX12_judged_120 : decode cX12_judged 120 = .ok (.istore 11, 2) := by decide +kernel
theorem dX12_judged_122 : decode cX12_judged 122 = .ok (.aload_n 0, 1) := by decide +kernel
theorem dX12_judged_123 : decode cX12_judged 123 = .ok (.getfield 28, 3) := by decide +kernel
theorem dX12_judged_126 : decode cX12_judged 126 = .ok (.iload 11, 2) := by decide +kernel
theorem dX12_judged_128 : decode cX12_judged 128 = .ok (.iaload, 1) := by decide +kernel
theorem dX12_judged_129 : decode cX12_judged 129 = .ok (.ifCond .lt 7, 3) := by decide +kernel
theorem dX12_judged_132 : decode cX12_judged 132 = .ok (.iconst 1, 1) := by decide +kernel
theorem dX12_judged_133 : decode cX12_judged 133 = .ok (.goto 4, 3) := by decide +kernel
theorem dX12_judged_136 : decode cX12_judged 136 = .ok (.iconst 0, 1) := by decide +kernel
theorem dX12_judged_137 : decode cX12_judged 137 = .ok (.istore 9, 2) := by decide +kernel
theorem dX12_judged_139 : decode cX12_judged 139 = .ok (.iload 9, 2) := by decide +kernel
theorem dX12_judged_141 : decode cX12_judged 141 = .ok (.ifCond .eq 13, 3) := by decide +kernel
theorem dX12_judged_144 : decode cX12_judged 144 = .ok (.aload_n 0, 1) := by decide +kernel
theorem dX12_judged_145 : decode cX12_judged 145 = .ok (.getfield 28, 3) := by decide +kernel
theorem dX12_judged_148 : decode cX12_judged 148 = .ok (.iload 11, 2) := by decide +kernel
theorem dX12_judged_150 : decode cX12_judged 150 = .ok (.iaload, 1) := by decide +kernel
theorem dX12_judged_151 : decode cX12_judged 151 = .ok (.goto 4, 3) := by decide +kernel
theorem dX12_judged_154 : decode cX12_judged 154 = .ok (.iconst 0, 1) := by decide +kernel
theorem dX12_judged_155 : decode cX12_judged 155 = .ok (.istore 12, 2) := by decide +kernel
theorem dX12_judged_157 : decode cX12_judged 157 = .ok (.iload 4, 2) := by decide +kernel
theorem dX12_judged_159 : decode cX12_judged 159 = .ok (.bipush (-5), 2) := by decide +kernel
theorem dX12_judged_161 : decode cX12_judged 161 = .ok (.if_icmp .ne 23, 3) := by decide +kernel
theorem dX12_judged_164 : decode cX12_judged 164 = .ok (.iload 9, 2) := by decide +kernel
theorem dX12_judged_166 : decode cX12_judged 166 = .ok (.ifCond .eq 13, 3) := by decide +kernel
theorem dX12_judged_169 : decode cX12_judged 169 = .ok (.aload_n 0, 1) := by decide +kernel
theorem dX12_judged_170 : decode cX12_judged 170 = .ok (.getfield 37, 3) := by decide +kernel
theorem dX12_judged_173 : decode cX12_judged 173 = .ok (.iload 11, 2) := by decide +kernel
theorem dX12_judged_175 : decode cX12_judged 175 = .ok (.baload, 1) := by decide +kernel
theorem dX12_judged_176 : decode cX12_judged 176 = .ok (.ifCond .eq 8, 3) := by decide +kernel
theorem dX12_judged_179 : decode cX12_judged 179 = .ok (.iload 10, 2) := by decide +kernel
theorem dX12_judged_181 : decode cX12_judged 181 = .ok (.goto 5, 3) := by decide +kernel
theorem dX12_judged_184 : decode cX12_judged 184 = .ok (.iload 4, 2) := by decide +kernel
theorem dX12_judged_186 : decode cX12_judged 186 = .ok (.istore 4, 2) := by decide +kernel
theorem dX12_judged_188 : decode cX12_judged 188 = .ok (.iload 5, 2) := by decide +kernel
theorem dX12_judged_190 : decode cX12_judged 190 = .ok (.iload 12, 2) := by decide +kernel
theorem dX12_judged_192 : decode cX12_judged 192 = .ok (.iadd, 1) := by decide +kernel
theorem dX12_judged_193 : decode cX12_judged 193 = .ok (.istore 5, 2) := by decide +kernel
theorem dX12_judged_195 : decode cX12_judged 195 = .ok (.aload_n 0, 1) := by decide +kernel
theorem dX12_judged_196 : decode cX12_judged 196 = .ok (.aload_n 0, 1) := by decide +kernel
theorem dX12_judged_197 : decode cX12_judged 197 = .ok (.getfield 9, 3) := by decide +kernel
theorem dX12_judged_200 : decode cX12_judged 200 = .ok (.sipush 1017, 3) := by decide +kernel
theorem dX12_judged_203 : decode cX12_judged 203 = .ok (.iload 10, 2) := by decide +kernel
theorem dX12_judged_205 : decode cX12_judged 205 = .ok (.iadd, 1) := by decide +kernel
theorem dX12_judged_206 : decode cX12_judged 206 = .ok (.iaload, 1) := by decide +kernel
theorem dX12_judged_207 : decode cX12_judged 207 = .ok (.iload_n 2, 1) := by decide +kernel
theorem dX12_judged_208 : decode cX12_judged 208 = .ok (.iload_n 3, 1) := by decide +kernel
theorem dX12_judged_209 : decode cX12_judged 209 = .ok (.invokevirtual 270, 3) := by decide +kernel
theorem dX12_judged_212 : decode cX12_judged 212 = .ok (.iload 12, 2) := by decide +kernel
theorem dX12_judged_214 : decode cX12_judged 214 = .ok (.isub, 1) := by decide +kernel
theorem dX12_judged_215 : decode cX12_judged 215 = .ok (.istore 13, 2) := by decide +kernel
theorem dX12_judged_217 : decode cX12_judged 217 = .ok (.iload 6, 2) := by decide +kernel
theorem dX12_judged_219 : decode cX12_judged 219 = .ok (.bipush (-5), 2) := by decide +kernel
theorem dX12_judged_221 : decode cX12_judged 221 = .ok (.if_icmp .ne 13, 3) := by decide +kernel
theorem dX12_judged_224 : decode cX12_judged 224 = .ok (.iload 13, 2) := by decide +kernel
theorem dX12_judged_226 : decode cX12_judged 226 = .ok (.ifCond .le 8, 3) := by decide +kernel
theorem dX12_judged_229 : decode cX12_judged 229 = .ok (.iload 10, 2) := by decide +kernel
theorem dX12_judged_231 : decode cX12_judged 231 = .ok (.goto 5, 3) := by decide +kernel
theorem dX12_judged_234 : decode cX12_judged 234 = .ok (.iload 6, 2) := by decide +kernel
theorem dX12_judged_236 : decode cX12_judged 236 = .ok (.istore 6, 2) := by decide +kernel
theorem dX12_judged_238 : decode cX12_judged 238 = .ok (.iload 13, 2) := by decide +kernel
theorem dX12_judged_240 : decode cX12_judged 240 = .ok (.iload 8, 2) := by decide +kernel
theorem dX12_judged_242 : decode cX12_judged 242 = .ok (.if_icmp .le 8, 3) := by decide +kernel
theorem dX12_judged_245 : decode cX12_judged 245 = .ok (.iload 10, 2) := by decide +kernel
theorem dX12_judged_247 : decode cX12_judged 247 = .ok (.goto 5, 3) := by decide +kernel
theorem dX12_judged_250 : decode cX12_judged 250 = .ok (.iload 7, 2) := by decide +kernel
theorem dX12_judged_252 : decode cX12_judged 252 = .ok (.istore 7, 2) := by decide +kernel
theorem dX12_judged_254 : decode cX12_judged 254 = .ok (.iload 13, 2) := by decide +kernel
theorem dX12_judged_256 : decode cX12_judged 256 = .ok (.iload 8, 2) := by decide +kernel
theorem dX12_judged_258 : decode cX12_judged 258 = .ok (.if_icmp .le 8, 3) := by decide +kernel
theorem dX12_judged_261 : decode cX12_judged 261 = .ok (.iload 13, 2) := by decide +kernel
theorem dX12_judged_263 : decode cX12_judged 263 = .ok (.goto 5, 3) := by decide +kernel
theorem dX12_judged_266 : decode cX12_judged 266 = .ok (.iload 8, 2) := by decide +kernel
theorem dX12_judged_268 : decode cX12_judged 268 = .ok (.istore 8, 2) := by decide +kernel
theorem dX12_judged_270 : decode cX12_judged 270 = .ok (.aload_n 0, 1) := by decide +kernel
theorem dX12_judged_271 : decode cX12_judged 271 = .ok (.getfield 31, 3) := by decide +kernel
theorem dX12_judged_274 : decode cX12_judged 274 = .ok (.iload 11, 2) := by decide +kernel
theorem dX12_judged_276 : decode cX12_judged 276 = .ok (.iaload, 1) := by decide +kernel
theorem dX12_judged_277 : decode cX12_judged 277 = .ok (.istore_n 2, 1) := by decide +kernel
theorem dX12_judged_278 : decode cX12_judged 278 = .ok (.aload_n 0, 1) := by decide +kernel
theorem dX12_judged_279 : decode cX12_judged 279 = .ok (.getfield 34, 3) := by decide +kernel
theorem dX12_judged_282 : decode cX12_judged 282 = .ok (.iload 11, 2) := by decide +kernel
theorem dX12_judged_284 : decode cX12_judged 284 = .ok (.iaload, 1) := by decide +kernel
theorem dX12_judged_285 : decode cX12_judged 285 = .ok (.istore_n 3, 1) := by decide +kernel
theorem dX12_judged_286 : decode cX12_judged 286 = .ok (.iinc 10 1, 3) := by decide +kernel
theorem dX12_judged_289 : decode cX12_judged 289 = .ok (.goto (-213), 3) := by decide +kernel
theorem dX12_judged_292 : decode cX12_judged 292 = .ok (.iload_n 1, 1) := by decide +kernel
theorem dX12_judged_293 : decode cX12_judged 293 = .ok (.ifCond .ne 8, 3) := by decide +kernel
theorem dX12_judged_296 : decode cX12_judged 296 = .ok (.iload 4, 2) := by decide +kernel
theorem dX12_judged_298 : decode cX12_judged 298 = .ok (.goto 25, 3) := by decide +kernel
theorem dX12_judged_301 : decode cX12_judged 301 = .ok (.iload_n 1, 1) := by decide +kernel
theorem dX12_judged_302 : decode cX12_judged 302 = .ok (.iconst 1, 1) := by decide +kernel
theorem dX12_judged_303 : decode cX12_judged 303 = .ok (.if_icmp .ne 8, 3) := by decide +kernel
theorem dX12_judged_306 : decode cX12_judged 306 = .ok (.iload 5, 2) := by decide +kernel
theorem dX12_judged_308 : decode cX12_judged 308 = .ok (.goto 15, 3) := by decide +kernel
theorem dX12_judged_311 : decode cX12_judged 311 = .ok (.iload_n 1, 1) := by decide +kernel
theorem dX12_judged_312 : decode cX12_judged 312 = .ok (.iconst 2, 1) := by decide +kernel
theorem dX12_judged_313 : decode cX12_judged 313 = .ok (.if_icmp .ne 8, 3) := by decide +kernel
theorem dX12_judged_316 : decode cX12_judged 316 = .ok (.iload 6, 2) := by decide +kernel
theorem dX12_judged_318 : decode cX12_judged 318 = .ok (.goto 5, 3) := by decide +kernel
theorem dX12_judged_321 : decode cX12_judged 321 = .ok (.iload 7, 2) := by decide +kernel
theorem dX12_judged_323 : decode cX12_judged 323 = .ok (.ireturn, 1) := by decide +kernel
theorem dX12_order_0 : decode cX12_order 0 = .ok (.iload_n 1, 1) := by decide +kernel
theorem dX12_order_1 : decode cX12_order 1 = .ok (.iconst 1, 1) := by decide +kernel
theorem dX12_order_2 : decode cX12_order 2 = .ok (.bipush 20, 2) := by decide +kernel
theorem dX12_order_4 : decode cX12_order 4 = .ok (.invokestatic 63, 3) := by decide +kernel
theorem dX12_order_7 : decode cX12_order 7 = .ok (.ifCond .eq 23, 3) := by decide +kernel
theorem dX12_order_10 : decode cX12_order 10 = .ok (.iload_n 2, 1) := by decide +kernel
theorem dX12_order_11 : decode cX12_order 11 = .ok (.iconst 1, 1) := by decide +kernel
theorem dX12_order_12 : decode cX12_order 12 = .ok (.bipush 99, 2) := by decide +kernel
theorem dX12_order_14 : decode cX12_order 14 = .ok (.invokestatic 63, 3) := by decide +kernel
theorem dX12_order_17 : decode cX12_order 17 = .ok (.ifCond .eq 13, 3) := by decide +kernel
theorem dX12_order_20 : decode cX12_order 20 = .ok (.iload_n 3, 1) := by decide +kernel
theorem dX12_order_21 : decode cX12_order 21 = .ok (.iconst 0, 1) := by decide +kernel
theorem dX12_order_22 : decode cX12_order 22 = .ok (.bipush 99, 2) := by decide +kernel
theorem dX12_order_24 : decode cX12_order 24 = .ok (.invokestatic 63, 3) := by decide +kernel
theorem dX12_order_27 : decode cX12_order 27 = .ok (.ifCond .ne 6, 3) := by decide +kernel
theorem dX12_order_30 : decode cX12_order 30 = .ok (.bipush (-2), 2) := by decide +kernel
theorem dX12_order_32 : decode cX12_order 32 = .ok (.ireturn, 1) := by decide +kernel
theorem dX12_order_33 : decode cX12_order 33 = .ok (.aload_n 0, 1) := by decide +kernel
theorem dX12_order_34 : decode cX12_order 34 = .ok (.getfield 9, 3) := by decide +kernel
theorem dX12_order_37 : decode cX12_order 37 = .ok (.iconst 3, 1) := by decide +kernel
theorem dX12_order_38 : decode cX12_order 38 = .ok (.iaload, 1) := by decide +kernel
theorem dX12_order_39 : decode cX12_order 39 = .ok (.bipush 6, 2) := by decide +kernel
theorem dX12_order_41 : decode cX12_order 41 = .ok (.if_icmp .ne 6, 3) := by decide +kernel
theorem dX12_order_44 : decode cX12_order 44 = .ok (.bipush (-4), 2) := by decide +kernel
theorem dX12_order_46 : decode cX12_order 46 = .ok (.ireturn, 1) := by decide +kernel
theorem dX12_order_47 : decode cX12_order 47 = .ok (.aload_n 0, 1) := by decide +kernel
theorem dX12_order_48 : decode cX12_order 48 = .ok (.getfield 9, 3) := by decide +kernel
theorem dX12_order_51 : decode cX12_order 51 = .ok (.iconst 3, 1) := by decide +kernel
theorem dX12_order_52 : decode cX12_order 52 = .ok (.iaload, 1) := by decide +kernel
theorem dX12_order_53 : decode cX12_order 53 = .ok (.istore 4, 2) := by decide +kernel
theorem dX12_order_55 : decode cX12_order 55 = .ok (.aload_n 0, 1) := by decide +kernel
theorem dX12_order_56 : decode cX12_order 56 = .ok (.getfield 9, 3) := by decide +kernel
theorem dX12_order_59 : decode cX12_order 59 = .ok (.sipush 1037, 3) := by decide +kernel
theorem dX12_order_62 : decode cX12_order 62 = .ok (.iload 4, 2) := by decide +kernel
theorem dX12_order_64 : decode cX12_order 64 = .ok (.iadd, 1) := by decide +kernel
theorem dX12_order_65 : decode cX12_order 65 = .ok (.iload_n 1, 1) := by decide +kernel
theorem dX12_order_66 : decode cX12_order 66 = .ok (.iastore, 1) := by decide +kernel
theorem dX12_order_67 : decode cX12_order 67 = .ok (.aload_n 0, 1) := by decide +kernel
theorem dX12_order_68 : decode cX12_order 68 = .ok (.getfield 9, 3) := by decide +kernel
theorem dX12_order_71 : decode cX12_order 71 = .ok (.sipush 1043, 3) := by decide +kernel
theorem dX12_order_74 : decode cX12_order 74 = .ok (.iload 4, 2) := by decide +kernel
theorem dX12_order_76 : decode cX12_order 76 = .ok (.iadd, 1) := by decide +kernel
theorem dX12_order_77 : decode cX12_order 77 = .ok (.iload_n 2, 1) := by decide +kernel
theorem dX12_order_78 : decode cX12_order 78 = .ok (.iastore, 1) := by decide +kernel
theorem dX12_order_79 : decode cX12_order 79 = .ok (.aload_n 0, 1) := by decide +kernel
theorem dX12_order_80 : decode cX12_order 80 = .ok (.getfield 9, 3) := by decide +kernel
theorem dX12_order_83 : decode cX12_order 83 = .ok (.sipush 1049, 3) := by decide +kernel
theorem dX12_order_86 : decode cX12_order 86 = .ok (.iload 4, 2) := by decide +kernel
theorem dX12_order_88 : decode cX12_order 88 = .ok (.iadd, 1) := by decide +kernel
theorem dX12_order_89 : decode cX12_order 89 = .ok (.iload_n 3, 1) := by decide +kernel
theorem dX12_order_90 : decode cX12_order 90 = .ok (.iastore, 1) := by decide +kernel
theorem dX12_order_91 : decode cX12_order 91 = .ok (.aload_n 0, 1) := by decide +kernel
theorem dX12_order_92 : decode cX12_order 92 = .ok (.getfield 9, 3) := by decide +kernel
theorem dX12_order_95 : decode cX12_order 95 = .ok (.iconst 3, 1) := by decide +kernel
theorem dX12_order_96 : decode cX12_order 96 = .ok (.dup2, 1) := by decide +kernel
theorem dX12_order_97 : decode cX12_order 97 = .ok (.iaload, 1) := by decide +kernel
theorem dX12_order_98 : decode cX12_order 98 = .ok (.iconst 1, 1) := by decide +kernel
theorem dX12_order_99 : decode cX12_order 99 = .ok (.iadd, 1) := by decide +kernel
theorem dX12_order_100 : decode cX12_order 100 = .ok (.iastore, 1) := by decide +kernel
theorem dX12_order_101 : decode cX12_order 101 = .ok (.iload 4, 2) := by decide +kernel
theorem dX12_order_103 : decode cX12_order 103 = .ok (.ireturn, 1) := by decide +kernel
theorem dX12_ready_0 : decode cX12_ready 0 = .ok (.iconst 0, 1) := by decide +kernel
theorem dX12_ready_1 : decode cX12_ready 1 = .ok (.istore_n 3, 1) := by decide +kernel
theorem dX12_ready_2 : decode cX12_ready 2 = .ok (.iconst 0, 1) := by decide +kernel
theorem dX12_ready_3 : decode cX12_ready 3 = .ok (.istore 4, 2) := by decide +kernel
theorem dX12_ready_5 : decode cX12_ready 5 = .ok (.iload 4, 2) := by decide +kernel
theorem dX12_ready_7 : decode cX12_ready 7 = .ok (.aload_n 0, 1) := by decide +kernel
theorem dX12_ready_8 : decode cX12_ready 8 = .ok (.getfield 9, 3) := by decide +kernel
theorem dX12_ready_11 : decode cX12_ready 11 = .ok (.iconst 3, 1) := by decide +kernel
theorem dX12_ready_12 : decode cX12_ready 12 = .ok (.iaload, 1) := by decide +kernel
theorem dX12_ready_13 : decode cX12_ready 13 = .ok (.if_icmp .ge 103, 3) := by decide +kernel
theorem dX12_ready_16 : decode cX12_ready 16 = .ok (.aload_n 0, 1) := by decide +kernel
theorem dX12_ready_17 : decode cX12_ready 17 = .ok (.getfield 9, 3) := by decide +kernel
theorem dX12_ready_20 : decode cX12_ready 20 = .ok (.sipush 1043, 3) := by decide +kernel
theorem dX12_ready_23 : decode cX12_ready 23 = .ok (.iload 4, 2) := by decide +kernel
theorem dX12_ready_25 : decode cX12_ready 25 = .ok (.iadd, 1) := by decide +kernel
theorem dX12_ready_26 : decode cX12_ready 26 = .ok (.iaload, 1) := by decide +kernel
theorem dX12_ready_27 : decode cX12_ready 27 = .ok (.aload_n 0, 1) := by decide +kernel
theorem dX12_ready_28 : decode cX12_ready 28 = .ok (.getfield 9, 3) := by decide +kernel
theorem dX12_ready_31 : decode cX12_ready 31 = .ok (.sipush 1043, 3) := by decide +kernel
theorem dX12_ready_34 : decode cX12_ready 34 = .ok (.iload_n 2, 1) := by decide +kernel
theorem dX12_ready_35 : decode cX12_ready 35 = .ok (.iadd, 1) := by decide +kernel
theorem dX12_ready_36 : decode cX12_ready 36 = .ok (.iaload, 1) := by decide +kernel
theorem dX12_ready_37 : decode cX12_ready 37 = .ok (.if_icmp .lt 33, 3) := by decide +kernel
theorem dX12_ready_40 : decode cX12_ready 40 = .ok (.aload_n 0, 1) := by decide +kernel
theorem dX12_ready_41 : decode cX12_ready 41 = .ok (.getfield 9, 3) := by decide +kernel
theorem dX12_ready_44 : decode cX12_ready 44 = .ok (.sipush 1043, 3) := by decide +kernel
theorem dX12_ready_47 : decode cX12_ready 47 = .ok (.iload 4, 2) := by decide +kernel
theorem dX12_ready_49 : decode cX12_ready 49 = .ok (.iadd, 1) := by decide +kernel
theorem dX12_ready_50 : decode cX12_ready 50 = .ok (.iaload, 1) := by decide +kernel
theorem dX12_ready_51 : decode cX12_ready 51 = .ok (.aload_n 0, 1) := by decide +kernel
theorem dX12_ready_52 : decode cX12_ready 52 = .ok (.getfield 9, 3) := by decide +kernel
theorem dX12_ready_55 : decode cX12_ready 55 = .ok (.sipush 1043, 3) := by decide +kernel
theorem dX12_ready_58 : decode cX12_ready 58 = .ok (.iload_n 2, 1) := by decide +kernel
theorem dX12_ready_59 : decode cX12_ready 59 = .ok (.iadd, 1) := by decide +kernel
theorem dX12_ready_60 : decode cX12_ready 60 = .ok (.iaload, 1) := by decide +kernel
theorem dX12_ready_61 : decode cX12_ready 61 = .ok (.if_icmp .ne 13, 3) := by decide +kernel
theorem dX12_ready_64 : decode cX12_ready 64 = .ok (.iload 4, 2) := by decide +kernel
theorem dX12_ready_66 : decode cX12_ready 66 = .ok (.iload_n 2, 1) := by decide +kernel
theorem dX12_ready_67 : decode cX12_ready 67 = .ok (.if_icmp .gt 7, 3) := by decide +kernel
theorem dX12_ready_70 : decode cX12_ready 70 = .ok (.iconst 1, 1) := by decide +kernel
theorem dX12_ready_71 : decode cX12_ready 71 = .ok (.goto 4, 3) := by decide +kernel
theorem dX12_ready_74 : decode cX12_ready 74 = .ok (.iconst 0, 1) := by decide +kernel
theorem dX12_ready_75 : decode cX12_ready 75 = .ok (.istore 5, 2) := by decide +kernel
theorem dX12_ready_77 : decode cX12_ready 77 = .ok (.iload_n 3, 1) := by decide +kernel
theorem dX12_ready_78 : decode cX12_ready 78 = .ok (.iload_n 1, 1) := by decide +kernel
theorem dX12_ready_79 : decode cX12_ready 79 = .ok (.iload 4, 2) := by decide +kernel
theorem dX12_ready_81 : decode cX12_ready 81 = .ok (.ishr, 1) := by decide +kernel
theorem dX12_ready_82 : decode cX12_ready 82 = .ok (.iconst 1, 1) := by decide +kernel
theorem dX12_ready_83 : decode cX12_ready 83 = .ok (.iand, 1) := by decide +kernel
theorem dX12_ready_84 : decode cX12_ready 84 = .ok (.iconst 1, 1) := by decide +kernel
theorem dX12_ready_85 : decode cX12_ready 85 = .ok (.if_icmp .ne 22, 3) := by decide +kernel
theorem dX12_ready_88 : decode cX12_ready 88 = .ok (.iload 5, 2) := by decide +kernel
theorem dX12_ready_90 : decode cX12_ready 90 = .ok (.ifCond .eq 17, 3) := by decide +kernel
theorem dX12_ready_93 : decode cX12_ready 93 = .ok (.aload_n 0, 1) := by decide +kernel
theorem dX12_ready_94 : decode cX12_ready 94 = .ok (.getfield 9, 3) := by decide +kernel
theorem dX12_ready_97 : decode cX12_ready 97 = .ok (.sipush 1037, 3) := by decide +kernel
theorem dX12_ready_100 : decode cX12_ready 100 = .ok (.iload 4, 2) := by decide +kernel
theorem dX12_ready_102 : decode cX12_ready 102 = .ok (.iadd, 1) := by decide +kernel
theorem dX12_ready_103 : decode cX12_ready 103 = .ok (.iaload, 1) := by decide +kernel
theorem dX12_ready_104 : decode cX12_ready 104 = .ok (.goto 4, 3) := by decide +kernel
theorem dX12_ready_107 : decode cX12_ready 107 = .ok (.iconst 0, 1) := by decide +kernel
theorem dX12_ready_108 : decode cX12_ready 108 = .ok (.iadd, 1) := by decide +kernel
theorem dX12_ready_109 : decode cX12_ready 109 = .ok (.istore_n 3, 1) := by decide +kernel
theorem dX12_ready_110 : decode cX12_ready 110 = .ok (.iinc 4 1, 3) := by decide +kernel
theorem dX12_ready_113 : decode cX12_ready 113 = .ok (.goto (-108), 3) := by decide +kernel
theorem dX12_ready_116 : decode cX12_ready 116 = .ok (.iload_n 3, 1) := by decide +kernel
theorem dX12_ready_117 : decode cX12_ready 117 = .ok (.ireturn, 1) := by decide +kernel
theorem dX12_lates_0 : decode cX12_lates 0 = .ok (.iconst 0, 1) := by decide +kernel
theorem dX12_lates_1 : decode cX12_lates 1 = .ok (.istore_n 2, 1) := by decide +kernel
theorem dX12_lates_2 : decode cX12_lates 2 = .ok (.iconst 0, 1) := by decide +kernel
theorem dX12_lates_3 : decode cX12_lates 3 = .ok (.istore_n 3, 1) := by decide +kernel
theorem dX12_lates_4 : decode cX12_lates 4 = .ok (.iload_n 3, 1) := by decide +kernel
theorem dX12_lates_5 : decode cX12_lates 5 = .ok (.aload_n 0, 1) := by decide +kernel
theorem dX12_lates_6 : decode cX12_lates 6 = .ok (.getfield 9, 3) := by decide +kernel
theorem dX12_lates_9 : decode cX12_lates 9 = .ok (.iconst 3, 1) := by decide +kernel
theorem dX12_lates_10 : decode cX12_lates 10 = .ok (.iaload, 1) := by decide +kernel
theorem dX12_lates_11 : decode cX12_lates 11 = .ok (.if_icmp .ge 47, 3) := by decide +kernel
theorem dX12_lates_14 : decode cX12_lates 14 = .ok (.iload_n 2, 1) := by decide +kernel
theorem dX12_lates_15 : decode cX12_lates 15 = .ok (.iload_n 1, 1) := by decide +kernel
theorem dX12_lates_16 : decode cX12_lates 16 = .ok (.iload_n 3, 1) := by decide +kernel
theorem dX12_lates_17 : decode cX12_lates 17 = .ok (.ishr, 1) := by decide +kernel
theorem dX12_lates_18 : decode cX12_lates 18 = .ok (.iconst 1, 1) := by decide +kernel
theorem dX12_lates_19 : decode cX12_lates 19 = .ok (.iand, 1) := by decide +kernel
theorem dX12_lates_20 : decode cX12_lates 20 = .ok (.iconst 1, 1) := by decide +kernel
theorem dX12_lates_21 : decode cX12_lates 21 = .ok (.if_icmp .ne 28, 3) := by decide +kernel
theorem dX12_lates_24 : decode cX12_lates 24 = .ok (.aload_n 0, 1) := by decide +kernel
theorem dX12_lates_25 : decode cX12_lates 25 = .ok (.iload_n 1, 1) := by decide +kernel
theorem dX12_lates_26 : decode cX12_lates 26 = .ok (.iload_n 3, 1) := by decide +kernel
theorem dX12_lates_27 : decode cX12_lates 27 = .ok (.invokevirtual 274, 3) := by decide +kernel
theorem dX12_lates_30 : decode cX12_lates 30 = .ok (.aload_n 0, 1) := by decide +kernel
theorem dX12_lates_31 : decode cX12_lates 31 = .ok (.getfield 9, 3) := by decide +kernel
theorem dX12_lates_34 : decode cX12_lates 34 = .ok (.sipush 1043, 3) := by decide +kernel
theorem dX12_lates_37 : decode cX12_lates 37 = .ok (.iload_n 3, 1) := by decide +kernel
theorem dX12_lates_38 : decode cX12_lates 38 = .ok (.iadd, 1) := by decide +kernel
theorem dX12_lates_39 : decode cX12_lates 39 = .ok (.iaload, 1) := by decide +kernel
theorem dX12_lates_40 : decode cX12_lates 40 = .ok (.if_icmp .le 9, 3) := by decide +kernel
theorem dX12_lates_43 : decode cX12_lates 43 = .ok (.iconst 1, 1) := by decide +kernel
theorem dX12_lates_44 : decode cX12_lates 44 = .ok (.iload_n 3, 1) := by decide +kernel
theorem dX12_lates_45 : decode cX12_lates 45 = .ok (.ishl, 1) := by decide +kernel
theorem dX12_lates_46 : decode cX12_lates 46 = .ok (.goto 4, 3) := by decide +kernel
theorem dX12_lates_49 : decode cX12_lates 49 = .ok (.iconst 0, 1) := by decide +kernel
theorem dX12_lates_50 : decode cX12_lates 50 = .ok (.ior, 1) := by decide +kernel
theorem dX12_lates_51 : decode cX12_lates 51 = .ok (.istore_n 2, 1) := by decide +kernel
theorem dX12_lates_52 : decode cX12_lates 52 = .ok (.iinc 3 1, 3) := by decide +kernel
theorem dX12_lates_55 : decode cX12_lates 55 = .ok (.goto (-51), 3) := by decide +kernel
theorem dX12_lates_58 : decode cX12_lates 58 = .ok (.iload_n 2, 1) := by decide +kernel
theorem dX12_lates_59 : decode cX12_lates 59 = .ok (.ireturn, 1) := by decide +kernel
theorem dX12_take_0 : decode cX12_take 0 = .ok (.iconst 0, 1) := by decide +kernel
theorem dX12_take_1 : decode cX12_take 1 = .ok (.istore_n 1, 1) := by decide +kernel
theorem dX12_take_2 : decode cX12_take 2 = .ok (.iconst 0, 1) := by decide +kernel
theorem dX12_take_3 : decode cX12_take 3 = .ok (.istore_n 2, 1) := by decide +kernel
theorem dX12_take_4 : decode cX12_take 4 = .ok (.iconst 1, 1) := by decide +kernel
theorem dX12_take_5 : decode cX12_take 5 = .ok (.istore_n 3, 1) := by decide +kernel
theorem dX12_take_6 : decode cX12_take 6 = .ok (.iload_n 3, 1) := by decide +kernel
theorem dX12_take_7 : decode cX12_take 7 = .ok (.iconst 1, 1) := by decide +kernel
theorem dX12_take_8 : decode cX12_take 8 = .ok (.aload_n 0, 1) := by decide +kernel
theorem dX12_take_9 : decode cX12_take 9 = .ok (.getfield 9, 3) := by decide +kernel
theorem dX12_take_12 : decode cX12_take 12 = .ok (.iconst 3, 1) := by decide +kernel
theorem dX12_take_13 : decode cX12_take 13 = .ok (.iaload, 1) := by decide +kernel
theorem dX12_take_14 : decode cX12_take 14 = .ok (.ishl, 1) := by decide +kernel
theorem dX12_take_15 : decode cX12_take 15 = .ok (.if_icmp .ge 106, 3) := by decide +kernel
theorem dX12_take_18 : decode cX12_take 18 = .ok (.iconst 0, 1) := by decide +kernel
theorem dX12_take_19 : decode cX12_take 19 = .ok (.istore 4, 2) := by decide +kernel
theorem dX12_take_21 : decode cX12_take 21 = .ok (.iconst 0, 1) := by decide +kernel
theorem dX12_take_22 : decode cX12_take 22 = .ok (.istore 5, 2) := by decide +kernel
theorem dX12_take_24 : decode cX12_take 24 = .ok (.iload 5, 2) := by decide +kernel
theorem dX12_take_26 : decode cX12_take 26 = .ok (.aload_n 0, 1) := by decide +kernel
theorem dX12_take_27 : decode cX12_take 27 = .ok (.getfield 9, 3) := by decide +kernel
theorem dX12_take_30 : decode cX12_take 30 = .ok (.iconst 3, 1) := by decide +kernel
theorem dX12_take_31 : decode cX12_take 31 = .ok (.iaload, 1) := by decide +kernel
theorem dX12_take_32 : decode cX12_take 32 = .ok (.if_icmp .ge 39, 3) := by decide +kernel
theorem dX12_take_35 : decode cX12_take 35 = .ok (.iload 4, 2) := by decide +kernel
theorem dX12_take_37 : decode cX12_take 37 = .ok (.iload_n 3, 1) := by decide +kernel
theorem dX12_take_38 : decode cX12_take 38 = .ok (.iload 5, 2) := by decide +kernel
theorem dX12_take_40 : decode cX12_take 40 = .ok (.ishr, 1) := by decide +kernel
theorem dX12_take_41 : decode cX12_take 41 = .ok (.iconst 1, 1) := by decide +kernel
theorem dX12_take_42 : decode cX12_take 42 = .ok (.iand, 1) := by decide +kernel
theorem dX12_take_43 : decode cX12_take 43 = .ok (.iconst 1, 1) := by decide +kernel
theorem dX12_take_44 : decode cX12_take 44 = .ok (.if_icmp .ne 17, 3) := by decide +kernel
theorem dX12_take_47 : decode cX12_take 47 = .ok (.aload_n 0, 1) := by decide +kernel
theorem dX12_take_48 : decode cX12_take 48 = .ok (.getfield 9, 3) := by decide +kernel
theorem dX12_take_51 : decode cX12_take 51 = .ok (.sipush 1049, 3) := by decide +kernel
theorem dX12_take_54 : decode cX12_take 54 = .ok (.iload 5, 2) := by decide +kernel
theorem dX12_take_56 : decode cX12_take 56 = .ok (.iadd, 1) := by decide +kernel
theorem dX12_take_57 : decode cX12_take 57 = .ok (.iaload, 1) := by decide +kernel
theorem dX12_take_58 : decode cX12_take 58 = .ok (.goto 4, 3) := by decide +kernel
theorem dX12_take_61 : decode cX12_take 61 = .ok (.iconst 0, 1) := by decide +kernel
theorem dX12_take_62 : decode cX12_take 62 = .ok (.iadd, 1) := by decide +kernel
theorem dX12_take_63 : decode cX12_take 63 = .ok (.istore 4, 2) := by decide +kernel
theorem dX12_take_65 : decode cX12_take 65 = .ok (.iinc 5 1, 3) := by decide +kernel
theorem dX12_take_68 : decode cX12_take 68 = .ok (.goto (-44), 3) := by decide +kernel
theorem dX12_take_71 : decode cX12_take 71 = .ok (.iload 4, 2) := by decide +kernel
theorem dX12_take_73 : decode cX12_take 73 = .ok (.iload_n 2, 1) := by decide +kernel
theorem dX12_take_74 : decode cX12_take 74 = .ok (.if_icmp .le 15, 3) := by decide +kernel
theorem dX12_take_77 : decode cX12_take 77 = .ok (.aload_n 0, 1) := by decide +kernel
theorem dX12_take_78 : decode cX12_take 78 = .ok (.iload_n 3, 1) := by decide +kernel
theorem dX12_take_79 : decode cX12_take 79 = .ok (.invokevirtual 277, 3) := by decide +kernel
theorem dX12_take_82 : decode cX12_take 82 = .ok (.ifCond .ne 7, 3) := by decide +kernel
theorem dX12_take_85 : decode cX12_take 85 = .ok (.iconst 1, 1) := by decide +kernel
theorem dX12_take_86 : decode cX12_take 86 = .ok (.goto 4, 3) := by decide +kernel
theorem dX12_take_89 : decode cX12_take 89 = .ok (.iconst 0, 1) := by decide +kernel
theorem dX12_take_90 : decode cX12_take 90 = .ok (.istore 5, 2) := by decide +kernel
theorem dX12_take_92 : decode cX12_take 92 = .ok (.iload 5, 2) := by decide +kernel
theorem dX12_take_94 : decode cX12_take 94 = .ok (.ifCond .eq 7, 3) := by decide +kernel
theorem dX12_take_97 : decode cX12_take 97 = .ok (.iload_n 3, 1) := by decide +kernel
theorem dX12_take_98 : decode cX12_take 98 = .ok (.goto 4, 3) := by decide +kernel
theorem dX12_take_101 : decode cX12_take 101 = .ok (.iload_n 1, 1) := by decide +kernel
theorem dX12_take_102 : decode cX12_take 102 = .ok (.istore_n 1, 1) := by decide +kernel
theorem dX12_take_103 : decode cX12_take 103 = .ok (.iload 5, 2) := by decide +kernel
theorem dX12_take_105 : decode cX12_take 105 = .ok (.ifCond .eq 8, 3) := by decide +kernel
theorem dX12_take_108 : decode cX12_take 108 = .ok (.iload 4, 2) := by decide +kernel
theorem dX12_take_110 : decode cX12_take 110 = .ok (.goto 4, 3) := by decide +kernel
theorem dX12_take_113 : decode cX12_take 113 = .ok (.iload_n 2, 1) := by decide +kernel
theorem dX12_take_114 : decode cX12_take 114 = .ok (.istore_n 2, 1) := by decide +kernel
theorem dX12_take_115 : decode cX12_take 115 = .ok (.iinc 3 1, 3) := by decide +kernel
theorem dX12_take_118 : decode cX12_take 118 = .ok (.goto (-112), 3) := by decide +kernel
theorem dX12_take_121 : decode cX12_take 121 = .ok (.iload_n 1, 1) := by decide +kernel
theorem dX12_take_122 : decode cX12_take 122 = .ok (.ireturn, 1) := by decide +kernel
theorem dX12_late_0 : decode cX12_late 0 = .ok (.iload_n 1, 1) := by decide +kernel
theorem dX12_late_1 : decode cX12_late 1 = .ok (.iconst 0, 1) := by decide +kernel
theorem dX12_late_2 : decode cX12_late 2 = .ok (.iconst 1, 1) := by decide +kernel
theorem dX12_late_3 : decode cX12_late 3 = .ok (.aload_n 0, 1) := by decide +kernel
theorem dX12_late_4 : decode cX12_late 4 = .ok (.getfield 9, 3) := by decide +kernel
theorem dX12_late_7 : decode cX12_late 7 = .ok (.iconst 3, 1) := by decide +kernel
theorem dX12_late_8 : decode cX12_late 8 = .ok (.iaload, 1) := by decide +kernel
theorem dX12_late_9 : decode cX12_late 9 = .ok (.ishl, 1) := by decide +kernel
theorem dX12_late_10 : decode cX12_late 10 = .ok (.iconst 1, 1) := by decide +kernel
theorem dX12_late_11 : decode cX12_late 11 = .ok (.isub, 1) := by decide +kernel
theorem dX12_late_12 : decode cX12_late 12 = .ok (.invokestatic 63, 3) := by decide +kernel
theorem dX12_late_15 : decode cX12_late 15 = .ok (.ifCond .eq 11, 3) := by decide +kernel
theorem dX12_late_18 : decode cX12_late 18 = .ok (.aload_n 0, 1) := by decide +kernel
theorem dX12_late_19 : decode cX12_late 19 = .ok (.iload_n 1, 1) := by decide +kernel
theorem dX12_late_20 : decode cX12_late 20 = .ok (.invokevirtual 277, 3) := by decide +kernel
theorem dX12_late_23 : decode cX12_late 23 = .ok (.goto 5, 3) := by decide +kernel
theorem dX12_late_26 : decode cX12_late 26 = .ok (.bipush (-2), 2) := by decide +kernel
theorem dX12_late_28 : decode cX12_late 28 = .ok (.ireturn, 1) := by decide +kernel
theorem dX12_windAt_0 : decode cX12_windAt 0 = .ok (.iload_n 1, 1) := by decide +kernel
theorem dX12_windAt_1 : decode cX12_windAt 1 = .ok (.ifCond .ne 7, 3) := by decide +kernel
theorem dX12_windAt_4 : decode cX12_windAt 4 = .ok (.iconst 0, 1) := by decide +kernel
theorem dX12_windAt_5 : decode cX12_windAt 5 = .ok (.goto 25, 3) := by decide +kernel
theorem dX12_windAt_8 : decode cX12_windAt 8 = .ok (.iload_n 1, 1) := by decide +kernel
theorem dX12_windAt_9 : decode cX12_windAt 9 = .ok (.iconst 1, 1) := by decide +kernel
theorem dX12_windAt_10 : decode cX12_windAt 10 = .ok (.if_icmp .ne 10, 3) := by decide +kernel
theorem dX12_windAt_13 : decode cX12_windAt 13 = .ok (.iload_n 3, 1) := by decide +kernel
theorem dX12_windAt_14 : decode cX12_windAt 14 = .ok (.bipush 16, 2) := by decide +kernel
theorem dX12_windAt_16 : decode cX12_windAt 16 = .ok (.idiv, 1) := by decide +kernel
theorem dX12_windAt_17 : decode cX12_windAt 17 = .ok (.goto 13, 3) := by decide +kernel
theorem dX12_windAt_20 : decode cX12_windAt 20 = .ok (.iload_n 3, 1) := by decide +kernel
theorem dX12_windAt_21 : decode cX12_windAt 21 = .ok (.bipush 16, 2) := by decide +kernel
theorem dX12_windAt_23 : decode cX12_windAt 23 = .ok (.idiv, 1) := by decide +kernel
theorem dX12_windAt_24 : decode cX12_windAt 24 = .ok (.iload_n 3, 1) := by decide +kernel
theorem dX12_windAt_25 : decode cX12_windAt 25 = .ok (.iconst 4, 1) := by decide +kernel
theorem dX12_windAt_26 : decode cX12_windAt 26 = .ok (.idiv, 1) := by decide +kernel
theorem dX12_windAt_27 : decode cX12_windAt 27 = .ok (.iconst 4, 1) := by decide +kernel
theorem dX12_windAt_28 : decode cX12_windAt 28 = .ok (.irem, 1) := by decide +kernel
theorem dX12_windAt_29 : decode cX12_windAt 29 = .ok (.iadd, 1) := by decide +kernel
theorem dX12_windAt_30 : decode cX12_windAt 30 = .ok (.istore 4, 2) := by decide +kernel
theorem dX12_windAt_32 : decode cX12_windAt 32 = .ok (.iload_n 2, 1) := by decide +kernel
theorem dX12_windAt_33 : decode cX12_windAt 33 = .ok (.iload 4, 2) := by decide +kernel
theorem dX12_windAt_35 : decode cX12_windAt 35 = .ok (.if_icmp .le 10, 3) := by decide +kernel
theorem dX12_windAt_38 : decode cX12_windAt 38 = .ok (.iload_n 2, 1) := by decide +kernel
theorem dX12_windAt_39 : decode cX12_windAt 39 = .ok (.iload 4, 2) := by decide +kernel
theorem dX12_windAt_41 : decode cX12_windAt 41 = .ok (.isub, 1) := by decide +kernel
theorem dX12_windAt_42 : decode cX12_windAt 42 = .ok (.goto 4, 3) := by decide +kernel
theorem dX12_windAt_45 : decode cX12_windAt 45 = .ok (.iconst 0, 1) := by decide +kernel
theorem dX12_windAt_46 : decode cX12_windAt 46 = .ok (.ireturn, 1) := by decide +kernel
theorem dX12_clothAt_0 : decode cX12_clothAt 0 = .ok (.iload_n 1, 1) := by decide +kernel
theorem dX12_clothAt_1 : decode cX12_clothAt 1 = .ok (.ifCond .ne 10, 3) := by decide +kernel
theorem dX12_clothAt_4 : decode cX12_clothAt 4 = .ok (.iload_n 2, 1) := by decide +kernel
theorem dX12_clothAt_5 : decode cX12_clothAt 5 = .ok (.bipush 16, 2) := by decide +kernel
theorem dX12_clothAt_7 : decode cX12_clothAt 7 = .ok (.idiv, 1) := by decide +kernel
theorem dX12_clothAt_8 : decode cX12_clothAt 8 = .ok (.goto 19, 3) := by decide +kernel
theorem dX12_clothAt_11 : decode cX12_clothAt 11 = .ok (.iload_n 1, 1) := by decide +kernel
theorem dX12_clothAt_12 : decode cX12_clothAt 12 = .ok (.iconst 1, 1) := by decide +kernel
theorem dX12_clothAt_13 : decode cX12_clothAt 13 = .ok (.if_icmp .ne 11, 3) := by decide +kernel
theorem dX12_clothAt_16 : decode cX12_clothAt 16 = .ok (.iload_n 2, 1) := by decide +kernel
theorem dX12_clothAt_17 : decode cX12_clothAt 17 = .ok (.iconst 4, 1) := by decide +kernel
theorem dX12_clothAt_18 : decode cX12_clothAt 18 = .ok (.idiv, 1) := by decide +kernel
theorem dX12_clothAt_19 : decode cX12_clothAt 19 = .ok (.iconst 4, 1) := by decide +kernel
theorem dX12_clothAt_20 : decode cX12_clothAt 20 = .ok (.irem, 1) := by decide +kernel
