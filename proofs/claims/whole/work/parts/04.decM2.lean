theorem dX12_clothAt_21 : decode cX12_clothAt 21 = .ok (.goto 6, 3) := by decide +kernel
theorem dX12_clothAt_24 : decode cX12_clothAt 24 = .ok (.iload_n 2, 1) := by decide +kernel
theorem dX12_clothAt_25 : decode cX12_clothAt 25 = .ok (.iconst 4, 1) := by decide +kernel
theorem dX12_clothAt_26 : decode cX12_clothAt 26 = .ok (.irem, 1) := by decide +kernel
theorem dX12_clothAt_27 : decode cX12_clothAt 27 = .ok (.ireturn, 1) := by decide +kernel
theorem dX12_mealAt_0 : decode cX12_mealAt 0 = .ok (.aload_n 0, 1) := by decide +kernel
theorem dX12_mealAt_1 : decode cX12_mealAt 1 = .ok (.getfield 53, 3) := by decide +kernel
theorem dX12_mealAt_4 : decode cX12_mealAt 4 = .ok (.bipush 24, 2) := by decide +kernel
theorem dX12_mealAt_6 : decode cX12_mealAt 6 = .ok (.iload_n 1, 1) := by decide +kernel
theorem dX12_mealAt_7 : decode cX12_mealAt 7 = .ok (.imul, 1) := by decide +kernel
theorem dX12_mealAt_8 : decode cX12_mealAt 8 = .ok (.iconst 4, 1) := by decide +kernel
theorem dX12_mealAt_9 : decode cX12_mealAt 9 = .ok (.iload_n 2, 1) := by decide +kernel
theorem dX12_mealAt_10 : decode cX12_mealAt 10 = .ok (.imul, 1) := by decide +kernel
theorem dX12_mealAt_11 : decode cX12_mealAt 11 = .ok (.iadd, 1) := by decide +kernel
theorem dX12_mealAt_12 : decode cX12_mealAt 12 = .ok (.iload_n 3, 1) := by decide +kernel
theorem dX12_mealAt_13 : decode cX12_mealAt 13 = .ok (.iadd, 1) := by decide +kernel
theorem dX12_mealAt_14 : decode cX12_mealAt 14 = .ok (.iaload, 1) := by decide +kernel
theorem dX12_mealAt_15 : decode cX12_mealAt 15 = .ok (.ireturn, 1) := by decide +kernel
theorem dX12_allMeal_0 : decode cX12_allMeal 0 = .ok (.iconst 0, 1) := by decide +kernel
theorem dX12_allMeal_1 : decode cX12_allMeal 1 = .ok (.istore_n 3, 1) := by decide +kernel
theorem dX12_allMeal_2 : decode cX12_allMeal 2 = .ok (.iconst 0, 1) := by decide +kernel
theorem dX12_allMeal_3 : decode cX12_allMeal 3 = .ok (.istore 4, 2) := by decide +kernel
theorem dX12_allMeal_5 : decode cX12_allMeal 5 = .ok (.iload 4, 2) := by decide +kernel
theorem dX12_allMeal_7 : decode cX12_allMeal 7 = .ok (.iconst 3, 1) := by decide +kernel
theorem dX12_allMeal_8 : decode cX12_allMeal 8 = .ok (.if_icmp .ge 33, 3) := by decide +kernel
theorem dX12_allMeal_11 : decode cX12_allMeal 11 = .ok (.iload_n 3, 1) := by decide +kernel
theorem dX12_allMeal_12 : decode cX12_allMeal 12 = .ok (.aload_n 0, 1) := by decide +kernel
theorem dX12_allMeal_13 : decode cX12_allMeal 13 = .ok (.iload 4, 2) := by decide +kernel
theorem dX12_allMeal_15 : decode cX12_allMeal 15 = .ok (.aload_n 0, 1) := by decide +kernel
theorem dX12_allMeal_16 : decode cX12_allMeal 16 = .ok (.iload 4, 2) := by decide +kernel
theorem dX12_allMeal_18 : decode cX12_allMeal 18 = .ok (.iload_n 1, 1) := by decide +kernel
theorem dX12_allMeal_19 : decode cX12_allMeal 19 = .ok (.iload_n 2, 1) := by decide +kernel
theorem dX12_allMeal_20 : decode cX12_allMeal 20 = .ok (.invokevirtual 280, 3) := by decide +kernel
theorem dX12_allMeal_23 : decode cX12_allMeal 23 = .ok (.aload_n 0, 1) := by decide +kernel
theorem dX12_allMeal_24 : decode cX12_allMeal 24 = .ok (.iload 4, 2) := by decide +kernel
theorem dX12_allMeal_26 : decode cX12_allMeal 26 = .ok (.iload_n 2, 1) := by decide +kernel
theorem dX12_allMeal_27 : decode cX12_allMeal 27 = .ok (.invokevirtual 283, 3) := by decide +kernel
theorem dX12_allMeal_30 : decode cX12_allMeal 30 = .ok (.invokevirtual 286, 3) := by decide +kernel
theorem dX12_allMeal_33 : decode cX12_allMeal 33 = .ok (.iadd, 1) := by decide +kernel
theorem dX12_allMeal_34 : decode cX12_allMeal 34 = .ok (.istore_n 3, 1) := by decide +kernel
theorem dX12_allMeal_35 : decode cX12_allMeal 35 = .ok (.iinc 4 1, 3) := by decide +kernel
theorem dX12_allMeal_38 : decode cX12_allMeal 38 = .ok (.goto (-33), 3) := by decide +kernel
theorem dX12_allMeal_41 : decode cX12_allMeal 41 = .ok (.iload_n 3, 1) := by decide +kernel
theorem dX12_allMeal_42 : decode cX12_allMeal 42 = .ok (.ireturn, 1) := by decide +kernel
theorem dX12_isRest_0 : decode cX12_isRest 0 = .ok (.iconst 1, 1) := by decide +kernel
theorem dX12_isRest_1 : decode cX12_isRest 1 = .ok (.istore_n 3, 1) := by decide +kernel
theorem dX12_isRest_2 : decode cX12_isRest 2 = .ok (.iconst 0, 1) := by decide +kernel
theorem dX12_isRest_3 : decode cX12_isRest 3 = .ok (.istore 4, 2) := by decide +kernel
theorem dX12_isRest_5 : decode cX12_isRest 5 = .ok (.iload 4, 2) := by decide +kernel
theorem dX12_isRest_7 : decode cX12_isRest 7 = .ok (.iconst 3, 1) := by decide +kernel
theorem dX12_isRest_8 : decode cX12_isRest 8 = .ok (.if_icmp .ge 72, 3) := by decide +kernel
theorem dX12_isRest_11 : decode cX12_isRest 11 = .ok (.aload_n 0, 1) := by decide +kernel
theorem dX12_isRest_12 : decode cX12_isRest 12 = .ok (.iload 4, 2) := by decide +kernel
theorem dX12_isRest_14 : decode cX12_isRest 14 = .ok (.iload_n 1, 1) := by decide +kernel
theorem dX12_isRest_15 : decode cX12_isRest 15 = .ok (.iload_n 2, 1) := by decide +kernel
theorem dX12_isRest_16 : decode cX12_isRest 16 = .ok (.invokevirtual 280, 3) := by decide +kernel
theorem dX12_isRest_19 : decode cX12_isRest 19 = .ok (.istore 5, 2) := by decide +kernel
theorem dX12_isRest_21 : decode cX12_isRest 21 = .ok (.iconst 0, 1) := by decide +kernel
theorem dX12_isRest_22 : decode cX12_isRest 22 = .ok (.istore 6, 2) := by decide +kernel
theorem dX12_isRest_24 : decode cX12_isRest 24 = .ok (.iload 6, 2) := by decide +kernel
theorem dX12_isRest_26 : decode cX12_isRest 26 = .ok (.iconst 4, 1) := by decide +kernel
theorem dX12_isRest_27 : decode cX12_isRest 27 = .ok (.if_icmp .ge 47, 3) := by decide +kernel
theorem dX12_isRest_30 : decode cX12_isRest 30 = .ok (.iload_n 3, 1) := by decide +kernel
theorem dX12_isRest_31 : decode cX12_isRest 31 = .ok (.ifCond .eq 35, 3) := by decide +kernel
theorem dX12_isRest_34 : decode cX12_isRest 34 = .ok (.aload_n 0, 1) := by decide +kernel
theorem dX12_isRest_35 : decode cX12_isRest 35 = .ok (.iload 4, 2) := by decide +kernel
theorem dX12_isRest_37 : decode cX12_isRest 37 = .ok (.iload 5, 2) := by decide +kernel
theorem dX12_isRest_39 : decode cX12_isRest 39 = .ok (.iload 6, 2) := by decide +kernel
theorem dX12_isRest_41 : decode cX12_isRest 41 = .ok (.invokevirtual 286, 3) := by decide +kernel
theorem dX12_isRest_44 : decode cX12_isRest 44 = .ok (.aload_n 0, 1) := by decide +kernel
theorem dX12_isRest_45 : decode cX12_isRest 45 = .ok (.iload 4, 2) := by decide +kernel
theorem dX12_isRest_47 : decode cX12_isRest 47 = .ok (.iload 5, 2) := by decide +kernel
theorem dX12_isRest_49 : decode cX12_isRest 49 = .ok (.aload_n 0, 1) := by decide +kernel
theorem dX12_isRest_50 : decode cX12_isRest 50 = .ok (.iload 4, 2) := by decide +kernel
theorem dX12_isRest_52 : decode cX12_isRest 52 = .ok (.iload_n 2, 1) := by decide +kernel
theorem dX12_isRest_53 : decode cX12_isRest 53 = .ok (.invokevirtual 283, 3) := by decide +kernel
theorem dX12_isRest_56 : decode cX12_isRest 56 = .ok (.invokevirtual 286, 3) := by decide +kernel
theorem dX12_isRest_59 : decode cX12_isRest 59 = .ok (.if_icmp .gt 7, 3) := by decide +kernel
theorem dX12_isRest_62 : decode cX12_isRest 62 = .ok (.iconst 1, 1) := by decide +kernel
theorem dX12_isRest_63 : decode cX12_isRest 63 = .ok (.goto 4, 3) := by decide +kernel
theorem dX12_isRest_66 : decode cX12_isRest 66 = .ok (.iconst 0, 1) := by decide +kernel
theorem dX12_isRest_67 : decode cX12_isRest 67 = .ok (.istore_n 3, 1) := by decide +kernel
theorem dX12_isRest_68 : decode cX12_isRest 68 = .ok (.iinc 6 1, 3) := by decide +kernel
theorem dX12_isRest_71 : decode cX12_isRest 71 = .ok (.goto (-47), 3) := by decide +kernel
theorem dX12_isRest_74 : decode cX12_isRest 74 = .ok (.iinc 4 1, 3) := by decide +kernel
theorem dX12_isRest_77 : decode cX12_isRest 77 = .ok (.goto (-72), 3) := by decide +kernel
theorem dX12_isRest_80 : decode cX12_isRest 80 = .ok (.iload_n 3, 1) := by decide +kernel
theorem dX12_isRest_81 : decode cX12_isRest 81 = .ok (.ireturn, 1) := by decide +kernel
theorem dX12_looksAt_0 : decode cX12_looksAt 0 = .ok (.iconst 0, 1) := by decide +kernel
theorem dX12_looksAt_1 : decode cX12_looksAt 1 = .ok (.istore_n 3, 1) := by decide +kernel
theorem dX12_looksAt_2 : decode cX12_looksAt 2 = .ok (.iload_n 3, 1) := by decide +kernel
theorem dX12_looksAt_3 : decode cX12_looksAt 3 = .ok (.bipush 6, 2) := by decide +kernel
theorem dX12_looksAt_5 : decode cX12_looksAt 5 = .ok (.if_icmp .ge 56, 3) := by decide +kernel
theorem dX12_looksAt_8 : decode cX12_looksAt 8 = .ok (.iconst 0, 1) := by decide +kernel
theorem dX12_looksAt_9 : decode cX12_looksAt 9 = .ok (.istore 4, 2) := by decide +kernel
theorem dX12_looksAt_11 : decode cX12_looksAt 11 = .ok (.iload 4, 2) := by decide +kernel
theorem dX12_looksAt_13 : decode cX12_looksAt 13 = .ok (.iconst 4, 1) := by decide +kernel
theorem dX12_looksAt_14 : decode cX12_looksAt 14 = .ok (.if_icmp .ge 41, 3) := by decide +kernel
theorem dX12_looksAt_17 : decode cX12_looksAt 17 = .ok (.aload_n 0, 1) := by decide +kernel
theorem dX12_looksAt_18 : decode cX12_looksAt 18 = .ok (.iload_n 2, 1) := by decide +kernel
theorem dX12_looksAt_19 : decode cX12_looksAt 19 = .ok (.iload_n 3, 1) := by decide +kernel
theorem dX12_looksAt_20 : decode cX12_looksAt 20 = .ok (.iconst 2, 1) := by decide +kernel
theorem dX12_looksAt_21 : decode cX12_looksAt 21 = .ok (.iload 4, 2) := by decide +kernel
theorem dX12_looksAt_23 : decode cX12_looksAt 23 = .ok (.imul, 1) := by decide +kernel
theorem dX12_looksAt_24 : decode cX12_looksAt 24 = .ok (.iconst 0, 1) := by decide +kernel
theorem dX12_looksAt_25 : decode cX12_looksAt 25 = .ok (.iconst 0, 1) := by decide +kernel
theorem dX12_looksAt_26 : decode cX12_looksAt 26 = .ok (.invokevirtual 187, 3) := by decide +kernel
theorem dX12_looksAt_29 : decode cX12_looksAt 29 = .ok (.aload_n 0, 1) := by decide +kernel
theorem dX12_looksAt_30 : decode cX12_looksAt 30 = .ok (.getfield 53, 3) := by decide +kernel
theorem dX12_looksAt_33 : decode cX12_looksAt 33 = .ok (.bipush 24, 2) := by decide +kernel
theorem dX12_looksAt_35 : decode cX12_looksAt 35 = .ok (.iload_n 1, 1) := by decide +kernel
theorem dX12_looksAt_36 : decode cX12_looksAt 36 = .ok (.imul, 1) := by decide +kernel
theorem dX12_looksAt_37 : decode cX12_looksAt 37 = .ok (.iconst 4, 1) := by decide +kernel
theorem dX12_looksAt_38 : decode cX12_looksAt 38 = .ok (.iload_n 3, 1) := by decide +kernel
theorem dX12_looksAt_39 : decode cX12_looksAt 39 = .ok (.imul, 1) := by decide +kernel
theorem dX12_looksAt_40 : decode cX12_looksAt 40 = .ok (.iadd, 1) := by decide +kernel
theorem dX12_looksAt_41 : decode cX12_looksAt 41 = .ok (.iload 4, 2) := by decide +kernel
theorem dX12_looksAt_43 : decode cX12_looksAt 43 = .ok (.iadd, 1) := by decide +kernel
theorem dX12_looksAt_44 : decode cX12_looksAt 44 = .ok (.aload_n 0, 1) := by decide +kernel
theorem dX12_looksAt_45 : decode cX12_looksAt 45 = .ok (.getfield 167, 3) := by decide +kernel
theorem dX12_looksAt_48 : decode cX12_looksAt 48 = .ok (.iastore, 1) := by decide +kernel
theorem dX12_looksAt_49 : decode cX12_looksAt 49 = .ok (.iinc 4 1, 3) := by decide +kernel
theorem dX12_looksAt_52 : decode cX12_looksAt 52 = .ok (.goto (-41), 3) := by decide +kernel
theorem dX12_looksAt_55 : decode cX12_looksAt 55 = .ok (.iinc 3 1, 3) := by decide +kernel
theorem dX12_looksAt_58 : decode cX12_looksAt 58 = .ok (.goto (-56), 3) := by decide +kernel
theorem dX12_looksAt_61 : decode cX12_looksAt 61 = .ok (.return_, 1) := by decide +kernel
theorem dX12_ridge_0 : decode cX12_ridge 0 = .ok (.aload_n 0, 1) := by decide +kernel
theorem dX12_ridge_1 : decode cX12_ridge 1 = .ok (.iload_n 1, 1) := by decide +kernel
theorem dX12_ridge_2 : decode cX12_ridge 2 = .ok (.invokevirtual 180, 3) := by decide +kernel
theorem dX12_ridge_5 : decode cX12_ridge 5 = .ok (.ifCond .eq 37, 3) := by decide +kernel
theorem dX12_ridge_8 : decode cX12_ridge 8 = .ok (.aload_n 0, 1) := by decide +kernel
theorem dX12_ridge_9 : decode cX12_ridge 9 = .ok (.iload_n 2, 1) := by decide +kernel
theorem dX12_ridge_10 : decode cX12_ridge 10 = .ok (.invokevirtual 180, 3) := by decide +kernel
theorem dX12_ridge_13 : decode cX12_ridge 13 = .ok (.ifCond .eq 29, 3) := by decide +kernel
theorem dX12_ridge_16 : decode cX12_ridge 16 = .ok (.aload_n 0, 1) := by decide +kernel
theorem dX12_ridge_17 : decode cX12_ridge 17 = .ok (.iload_n 3, 1) := by decide +kernel
theorem dX12_ridge_18 : decode cX12_ridge 18 = .ok (.invokevirtual 180, 3) := by decide +kernel
theorem dX12_ridge_21 : decode cX12_ridge 21 = .ok (.ifCond .eq 21, 3) := by decide +kernel
theorem dX12_ridge_24 : decode cX12_ridge 24 = .ok (.iload 4, 2) := by decide +kernel
theorem dX12_ridge_26 : decode cX12_ridge 26 = .ok (.invokestatic 184, 3) := by decide +kernel
theorem dX12_ridge_29 : decode cX12_ridge 29 = .ok (.ifCond .eq 13, 3) := by decide +kernel
theorem dX12_ridge_32 : decode cX12_ridge 32 = .ok (.iload 5, 2) := by decide +kernel
theorem dX12_ridge_34 : decode cX12_ridge 34 = .ok (.iconst 0, 1) := by decide +kernel
theorem dX12_ridge_35 : decode cX12_ridge 35 = .ok (.iconst 1, 1) := by decide +kernel
theorem dX12_ridge_36 : decode cX12_ridge 36 = .ok (.invokestatic 63, 3) := by decide +kernel
theorem dX12_ridge_39 : decode cX12_ridge 39 = .ok (.ifCond .ne 5, 3) := by decide +kernel
theorem dX12_ridge_42 : decode cX12_ridge 42 = .ok (.iconst (-1), 1) := by decide +kernel
theorem dX12_ridge_43 : decode cX12_ridge 43 = .ok (.ireturn, 1) := by decide +kernel
theorem dX12_ridge_44 : decode cX12_ridge 44 = .ok (.aload_n 0, 1) := by decide +kernel
theorem dX12_ridge_45 : decode cX12_ridge 45 = .ok (.iconst 0, 1) := by decide +kernel
theorem dX12_ridge_46 : decode cX12_ridge 46 = .ok (.iload_n 1, 1) := by decide +kernel
theorem dX12_ridge_47 : decode cX12_ridge 47 = .ok (.invokevirtual 289, 3) := by decide +kernel
theorem dX12_ridge_50 : decode cX12_ridge 50 = .ok (.aload_n 0, 1) := by decide +kernel
theorem dX12_ridge_51 : decode cX12_ridge 51 = .ok (.iconst 1, 1) := by decide +kernel
theorem dX12_ridge_52 : decode cX12_ridge 52 = .ok (.iload_n 2, 1) := by decide +kernel
theorem dX12_ridge_53 : decode cX12_ridge 53 = .ok (.invokevirtual 289, 3) := by decide +kernel
theorem dX12_ridge_56 : decode cX12_ridge 56 = .ok (.aload_n 0, 1) := by decide +kernel
theorem dX12_ridge_57 : decode cX12_ridge 57 = .ok (.iconst 2, 1) := by decide +kernel
theorem dX12_ridge_58 : decode cX12_ridge 58 = .ok (.iload_n 3, 1) := by decide +kernel
theorem dX12_ridge_59 : decode cX12_ridge 59 = .ok (.invokevirtual 289, 3) := by decide +kernel
theorem dX12_ridge_62 : decode cX12_ridge 62 = .ok (.iconst (-1), 1) := by decide +kernel
theorem dX12_ridge_63 : decode cX12_ridge 63 = .ok (.istore 6, 2) := by decide +kernel
theorem dX12_ridge_65 : decode cX12_ridge 65 = .ok (.aload_n 0, 1) := by decide +kernel
theorem dX12_ridge_66 : decode cX12_ridge 66 = .ok (.iload 4, 2) := by decide +kernel
theorem dX12_ridge_68 : decode cX12_ridge 68 = .ok (.iconst 0, 1) := by decide +kernel
theorem dX12_ridge_69 : decode cX12_ridge 69 = .ok (.invokevirtual 293, 3) := by decide +kernel
theorem dX12_ridge_72 : decode cX12_ridge 72 = .ok (.istore 7, 2) := by decide +kernel
theorem dX12_ridge_74 : decode cX12_ridge 74 = .ok (.iconst 0, 1) := by decide +kernel
theorem dX12_ridge_75 : decode cX12_ridge 75 = .ok (.istore 8, 2) := by decide +kernel
theorem dX12_ridge_77 : decode cX12_ridge 77 = .ok (.iload 8, 2) := by decide +kernel
theorem dX12_ridge_79 : decode cX12_ridge 79 = .ok (.bipush 64, 2) := by decide +kernel
theorem dX12_ridge_81 : decode cX12_ridge 81 = .ok (.if_icmp .ge 61, 3) := by decide +kernel
theorem dX12_ridge_84 : decode cX12_ridge 84 = .ok (.iload 6, 2) := by decide +kernel
theorem dX12_ridge_86 : decode cX12_ridge 86 = .ok (.iconst (-1), 1) := by decide +kernel
theorem dX12_ridge_87 : decode cX12_ridge 87 = .ok (.if_icmp .ne 19, 3) := by decide +kernel
theorem dX12_ridge_90 : decode cX12_ridge 90 = .ok (.aload_n 0, 1) := by decide +kernel
theorem dX12_ridge_91 : decode cX12_ridge 91 = .ok (.iload 4, 2) := by decide +kernel
theorem dX12_ridge_93 : decode cX12_ridge 93 = .ok (.iload 8, 2) := by decide +kernel
theorem dX12_ridge_95 : decode cX12_ridge 95 = .ok (.invokevirtual 296, 3) := by decide +kernel
theorem dX12_ridge_98 : decode cX12_ridge 98 = .ok (.ifCond .eq 8, 3) := by decide +kernel
theorem dX12_ridge_101 : decode cX12_ridge 101 = .ok (.iload 8, 2) := by decide +kernel
theorem dX12_ridge_103 : decode cX12_ridge 103 = .ok (.goto 5, 3) := by decide +kernel
theorem dX12_ridge_106 : decode cX12_ridge 106 = .ok (.iload 6, 2) := by decide +kernel
theorem dX12_ridge_108 : decode cX12_ridge 108 = .ok (.istore 6, 2) := by decide +kernel
theorem dX12_ridge_110 : decode cX12_ridge 110 = .ok (.aload_n 0, 1) := by decide +kernel
theorem dX12_ridge_111 : decode cX12_ridge 111 = .ok (.iload 4, 2) := by decide +kernel
theorem dX12_ridge_113 : decode cX12_ridge 113 = .ok (.iload 8, 2) := by decide +kernel
theorem dX12_ridge_115 : decode cX12_ridge 115 = .ok (.invokevirtual 293, 3) := by decide +kernel
theorem dX12_ridge_118 : decode cX12_ridge 118 = .ok (.istore 9, 2) := by decide +kernel
theorem dX12_ridge_120 : decode cX12_ridge 120 = .ok (.iload 9, 2) := by decide +kernel
theorem dX12_ridge_122 : decode cX12_ridge 122 = .ok (.iload 7, 2) := by decide +kernel
theorem dX12_ridge_124 : decode cX12_ridge 124 = .ok (.if_icmp .le 8, 3) := by decide +kernel
theorem dX12_ridge_127 : decode cX12_ridge 127 = .ok (.iload 9, 2) := by decide +kernel
theorem dX12_ridge_129 : decode cX12_ridge 129 = .ok (.goto 5, 3) := by decide +kernel
theorem dX12_ridge_132 : decode cX12_ridge 132 = .ok (.iload 7, 2) := by decide +kernel
theorem dX12_ridge_134 : decode cX12_ridge 134 = .ok (.istore 7, 2) := by decide +kernel
theorem dX12_ridge_136 : decode cX12_ridge 136 = .ok (.iinc 8 1, 3) := by decide +kernel
theorem dX12_ridge_139 : decode cX12_ridge 139 = .ok (.goto (-62), 3) := by decide +kernel
theorem dX12_ridge_142 : decode cX12_ridge 142 = .ok (.iload 5, 2) := by decide +kernel
theorem dX12_ridge_144 : decode cX12_ridge 144 = .ok (.ifCond .ne 38, 3) := by decide +kernel
theorem dX12_ridge_147 : decode cX12_ridge 147 = .ok (.iload 6, 2) := by decide +kernel
theorem dX12_ridge_149 : decode cX12_ridge 149 = .ok (.iconst (-1), 1) := by decide +kernel
theorem dX12_ridge_150 : decode cX12_ridge 150 = .ok (.if_icmp .ne 8, 3) := by decide +kernel
theorem dX12_ridge_153 : decode cX12_ridge 153 = .ok (.bipush (-5), 2) := by decide +kernel
theorem dX12_ridge_155 : decode cX12_ridge 155 = .ok (.goto 26, 3) := by decide +kernel
theorem dX12_ridge_158 : decode cX12_ridge 158 = .ok (.bipush 100, 2) := by decide +kernel
theorem dX12_ridge_160 : decode cX12_ridge 160 = .ok (.iload 6, 2) := by decide +kernel
theorem dX12_ridge_162 : decode cX12_ridge 162 = .ok (.bipush 16, 2) := by decide +kernel
theorem dX12_ridge_164 : decode cX12_ridge 164 = .ok (.idiv, 1) := by decide +kernel
theorem dX12_ridge_165 : decode cX12_ridge 165 = .ok (.imul, 1) := by decide +kernel
theorem dX12_ridge_166 : decode cX12_ridge 166 = .ok (.bipush 10, 2) := by decide +kernel
theorem dX12_ridge_168 : decode cX12_ridge 168 = .ok (.iload 6, 2) := by decide +kernel
theorem dX12_ridge_170 : decode cX12_ridge 170 = .ok (.iconst 4, 1) := by decide +kernel
theorem dX12_ridge_171 : decode cX12_ridge 171 = .ok (.idiv, 1) := by decide +kernel
theorem dX12_ridge_172 : decode cX12_ridge 172 = .ok (.iconst 4, 1) := by decide +kernel
theorem dX12_ridge_173 : decode cX12_ridge 173 = .ok (.irem, 1) := by decide +kernel
theorem dX12_ridge_174 : decode cX12_ridge 174 = .ok (.imul, 1) := by decide +kernel
theorem dX12_ridge_175 : decode cX12_ridge 175 = .ok (.iadd, 1) := by decide +kernel
theorem dX12_ridge_176 : decode cX12_ridge 176 = .ok (.iload 6, 2) := by decide +kernel
theorem dX12_ridge_178 : decode cX12_ridge 178 = .ok (.iconst 4, 1) := by decide +kernel
theorem dX12_ridge_179 : decode cX12_ridge 179 = .ok (.irem, 1) := by decide +kernel
theorem dX12_ridge_180 : decode cX12_ridge 180 = .ok (.iadd, 1) := by decide +kernel
theorem dX12_ridge_181 : decode cX12_ridge 181 = .ok (.ireturn, 1) := by decide +kernel
theorem dX12_ridge_182 : decode cX12_ridge 182 = .ok (.iload 6, 2) := by decide +kernel
theorem dX12_ridge_184 : decode cX12_ridge 184 = .ok (.iconst (-1), 1) := by decide +kernel
theorem dX12_ridge_185 : decode cX12_ridge 185 = .ok (.if_icmp .ne 7, 3) := by decide +kernel
theorem dX12_ridge_188 : decode cX12_ridge 188 = .ok (.iconst 1, 1) := by decide +kernel
theorem dX12_ridge_189 : decode cX12_ridge 189 = .ok (.goto 14, 3) := by decide +kernel
theorem dX12_ridge_192 : decode cX12_ridge 192 = .ok (.aload_n 0, 1) := by decide +kernel
theorem dX12_ridge_193 : decode cX12_ridge 193 = .ok (.iload 4, 2) := by decide +kernel
theorem dX12_ridge_195 : decode cX12_ridge 195 = .ok (.iload 6, 2) := by decide +kernel
theorem dX12_ridge_197 : decode cX12_ridge 197 = .ok (.invokevirtual 293, 3) := by decide +kernel
theorem dX12_ridge_200 : decode cX12_ridge 200 = .ok (.iload 7, 2) := by decide +kernel
theorem dX12_ridge_202 : decode cX12_ridge 202 = .ok (.isub, 1) := by decide +kernel
theorem dX12_ridge_203 : decode cX12_ridge 203 = .ok (.ireturn, 1) := by decide +kernel
theorem dX12_nextWind_0 : decode cX12_nextWind 0 = .ok (.bipush 31, 2) := by decide +kernel
theorem dX12_nextWind_2 : decode cX12_nextWind 2 = .ok (.iload_n 2, 1) := by decide +kernel
theorem dX12_nextWind_3 : decode cX12_nextWind 3 = .ok (.imul, 1) := by decide +kernel
theorem dX12_nextWind_4 : decode cX12_nextWind 4 = .ok (.bipush 17, 2) := by decide +kernel
theorem dX12_nextWind_6 : decode cX12_nextWind 6 = .ok (.iload_n 3, 1) := by decide +kernel
theorem dX12_nextWind_7 : decode cX12_nextWind 7 = .ok (.imul, 1) := by decide +kernel
theorem dX12_nextWind_8 : decode cX12_nextWind 8 = .ok (.iadd, 1) := by decide +kernel
theorem dX12_nextWind_9 : decode cX12_nextWind 9 = .ok (.bipush 7, 2) := by decide +kernel
theorem dX12_nextWind_11 : decode cX12_nextWind 11 = .ok (.imul, 1) := by decide +kernel
theorem dX12_nextWind_12 : decode cX12_nextWind 12 = .ok (.sipush 1000, 3) := by decide +kernel
theorem dX12_nextWind_15 : decode cX12_nextWind 15 = .ok (.irem, 1) := by decide +kernel
theorem dX12_nextWind_16 : decode cX12_nextWind 16 = .ok (.istore 4, 2) := by decide +kernel
theorem dX12_nextWind_18 : decode cX12_nextWind 18 = .ok (.iconst 0, 1) := by decide +kernel
theorem dX12_nextWind_19 : decode cX12_nextWind 19 = .ok (.istore 5, 2) := by decide +kernel
theorem dX12_nextWind_21 : decode cX12_nextWind 21 = .ok (.iconst 0, 1) := by decide +kernel
theorem dX12_nextWind_22 : decode cX12_nextWind 22 = .ok (.istore 6, 2) := by decide +kernel
theorem dX12_nextWind_24 : decode cX12_nextWind 24 = .ok (.iload 6, 2) := by decide +kernel
theorem dX12_nextWind_26 : decode cX12_nextWind 26 = .ok (.bipush 6, 2) := by decide +kernel
theorem dX12_nextWind_28 : decode cX12_nextWind 28 = .ok (.if_icmp .ge 40, 3) := by decide +kernel
theorem dX12_nextWind_31 : decode cX12_nextWind 31 = .ok (.iload 5, 2) := by decide +kernel
theorem dX12_nextWind_33 : decode cX12_nextWind 33 = .ok (.aload_n 0, 1) := by decide +kernel
theorem dX12_nextWind_34 : decode cX12_nextWind 34 = .ok (.getfield 9, 3) := by decide +kernel
theorem dX12_nextWind_37 : decode cX12_nextWind 37 = .ok (.sipush 851, 3) := by decide +kernel
theorem dX12_nextWind_40 : decode cX12_nextWind 40 = .ok (.bipush 6, 2) := by decide +kernel
theorem dX12_nextWind_42 : decode cX12_nextWind 42 = .ok (.iload_n 1, 1) := by decide +kernel
theorem dX12_nextWind_43 : decode cX12_nextWind 43 = .ok (.imul, 1) := by decide +kernel
theorem dX12_nextWind_44 : decode cX12_nextWind 44 = .ok (.iadd, 1) := by decide +kernel
theorem dX12_nextWind_45 : decode cX12_nextWind 45 = .ok (.iload 6, 2) := by decide +kernel
theorem dX12_nextWind_47 : decode cX12_nextWind 47 = .ok (.iadd, 1) := by decide +kernel
theorem dX12_nextWind_48 : decode cX12_nextWind 48 = .ok (.iaload, 1) := by decide +kernel
theorem dX12_nextWind_49 : decode cX12_nextWind 49 = .ok (.iadd, 1) := by decide +kernel
theorem dX12_nextWind_50 : decode cX12_nextWind 50 = .ok (.istore 5, 2) := by decide +kernel
theorem dX12_nextWind_52 : decode cX12_nextWind 52 = .ok (.iload 5, 2) := by decide +kernel
theorem dX12_nextWind_54 : decode cX12_nextWind 54 = .ok (.iload 4, 2) := by decide +kernel
theorem dX12_nextWind_56 : decode cX12_nextWind 56 = .ok (.if_icmp .le 6, 3) := by decide +kernel
theorem dX12_nextWind_59 : decode cX12_nextWind 59 = .ok (.iload 6, 2) := by decide +kernel
theorem dX12_nextWind_61 : decode cX12_nextWind 61 = .ok (.ireturn, 1) := by decide +kernel
theorem dX12_nextWind_62 : decode cX12_nextWind 62 = .ok (.iinc 6 1, 3) := by decide +kernel
theorem dX12_nextWind_65 : decode cX12_nextWind 65 = .ok (.goto (-41), 3) := by decide +kernel
theorem dX12_nextWind_68 : decode cX12_nextWind 68 = .ok (.iload_n 1, 1) := by decide +kernel
theorem dX12_nextWind_69 : decode cX12_nextWind 69 = .ok (.ireturn, 1) := by decide +kernel
theorem dX12_run_0 : decode cX12_run 0 = .ok (.aload_n 0, 1) := by decide +kernel
theorem dX12_run_1 : decode cX12_run 1 = .ok (.iload_n 1, 1) := by decide +kernel
theorem dX12_run_2 : decode cX12_run 2 = .ok (.invokevirtual 225, 3) := by decide +kernel
theorem dX12_run_5 : decode cX12_run 5 = .ok (.ifCond .eq 54, 3) := by decide +kernel
theorem dX12_run_8 : decode cX12_run 8 = .ok (.iload_n 2, 1) := by decide +kernel
theorem dX12_run_9 : decode cX12_run 9 = .ok (.iconst 1, 1) := by decide +kernel
theorem dX12_run_10 : decode cX12_run 10 = .ok (.bipush 30, 2) := by decide +kernel
theorem dX12_run_12 : decode cX12_run 12 = .ok (.invokestatic 63, 3) := by decide +kernel
theorem dX12_run_15 : decode cX12_run 15 = .ok (.ifCond .eq 44, 3) := by decide +kernel
theorem dX12_run_18 : decode cX12_run 18 = .ok (.iload_n 3, 1) := by decide +kernel
theorem dX12_run_19 : decode cX12_run 19 = .ok (.iconst 0, 1) := by decide +kernel
theorem dX12_run_20 : decode cX12_run 20 = .ok (.sipush 999, 3) := by decide +kernel
theorem dX12_run_23 : decode cX12_run 23 = .ok (.invokestatic 63, 3) := by decide +kernel
theorem dX12_run_26 : decode cX12_run 26 = .ok (.ifCond .eq 33, 3) := by decide +kernel
theorem dX12_run_29 : decode cX12_run 29 = .ok (.iload 4, 2) := by decide +kernel
theorem dX12_run_31 : decode cX12_run 31 = .ok (.invokestatic 184, 3) := by decide +kernel
theorem dX12_run_34 : decode cX12_run 34 = .ok (.ifCond .eq 25, 3) := by decide +kernel
theorem dX12_run_37 : decode cX12_run 37 = .ok (.aload_n 0, 1) := by decide +kernel
theorem dX12_run_38 : decode cX12_run 38 = .ok (.invokevirtual 191, 3) := by decide +kernel
theorem dX12_run_41 : decode cX12_run 41 = .ok (.ifCond .eq 18, 3) := by decide +kernel
theorem dX12_run_44 : decode cX12_run 44 = .ok (.aload_n 0, 1) := by decide +kernel
theorem dX12_run_45 : decode cX12_run 45 = .ok (.getfield 9, 3) := by decide +kernel
theorem dX12_run_48 : decode cX12_run 48 = .ok (.bipush 6, 2) := by decide +kernel
theorem dX12_run_50 : decode cX12_run 50 = .ok (.iaload, 1) := by decide +kernel
theorem dX12_run_51 : decode cX12_run 51 = .ok (.iload_n 2, 1) := by decide +kernel
theorem dX12_run_52 : decode cX12_run 52 = .ok (.iadd, 1) := by decide +kernel
theorem dX12_run_53 : decode cX12_run 53 = .ok (.sipush 999, 3) := by decide +kernel
theorem dX12_run_56 : decode cX12_run 56 = .ok (.if_icmp .le 7, 3) := by decide +kernel
theorem dX12_run_59 : decode cX12_run 59 = .ok (.ldc2_w 264, 3) := by decide +kernel
theorem dX12_run_62 : decode cX12_run 62 = .ok (.lreturn, 1) := by decide +kernel
theorem dX12_run_63 : decode cX12_run 63 = .ok (.aload_n 0, 1) := by decide +kernel
theorem dX12_run_64 : decode cX12_run 64 = .ok (.invokevirtual 228, 3) := by decide +kernel
theorem dX12_run_67 : decode cX12_run 67 = .ok (.lconst 0, 1) := by decide +kernel
theorem dX12_run_68 : decode cX12_run 68 = .ok (.lstore 5, 2) := by decide +kernel
theorem dX12_run_70 : decode cX12_run 70 = .ok (.aload_n 0, 1) := by decide +kernel
theorem dX12_run_71 : decode cX12_run 71 = .ok (.getfield 9, 3) := by decide +kernel
theorem dX12_run_74 : decode cX12_run 74 = .ok (.bipush 7, 2) := by decide +kernel
theorem dX12_run_76 : decode cX12_run 76 = .ok (.iaload, 1) := by decide +kernel
theorem dX12_run_77 : decode cX12_run 77 = .ok (.istore 7, 2) := by decide +kernel
theorem dX12_run_79 : decode cX12_run 79 = .ok (.aload_n 0, 1) := by decide +kernel
theorem dX12_run_80 : decode cX12_run 80 = .ok (.getfield 9, 3) := by decide +kernel
theorem dX12_run_83 : decode cX12_run 83 = .ok (.bipush 8, 2) := by decide +kernel
theorem dX12_run_85 : decode cX12_run 85 = .ok (.iaload, 1) := by decide +kernel
theorem dX12_run_86 : decode cX12_run 86 = .ok (.istore 8, 2) := by decide +kernel
theorem dX12_run_88 : decode cX12_run 88 = .ok (.aload_n 0, 1) := by decide +kernel
theorem dX12_run_89 : decode cX12_run 89 = .ok (.getfield 9, 3) := by decide +kernel
theorem dX12_run_92 : decode cX12_run 92 = .ok (.bipush 6, 2) := by decide +kernel
theorem dX12_run_94 : decode cX12_run 94 = .ok (.iaload, 1) := by decide +kernel
theorem dX12_run_95 : decode cX12_run 95 = .ok (.istore 9, 2) := by decide +kernel
theorem dX12_run_97 : decode cX12_run 97 = .ok (.iload 4, 2) := by decide +kernel
theorem dX12_run_99 : decode cX12_run 99 = .ok (.istore 10, 2) := by decide +kernel
theorem dX12_run_101 : decode cX12_run 101 = .ok (.iload 4, 2) := by decide +kernel
theorem dX12_run_103 : decode cX12_run 103 = .ok (.istore 11, 2) := by decide +kernel
theorem dX12_run_105 : decode cX12_run 105 = .ok (.aload_n 0, 1) := by decide +kernel
theorem dX12_run_106 : decode cX12_run 106 = .ok (.getfield 9, 3) := by decide +kernel
theorem dX12_run_109 : decode cX12_run 109 = .ok (.bipush 10, 2) := by decide +kernel
theorem dX12_run_111 : decode cX12_run 111 = .ok (.iaload, 1) := by decide +kernel
theorem dX12_run_112 : decode cX12_run 112 = .ok (.ifCond .ne 7, 3) := by decide +kernel
theorem dX12_run_115 : decode cX12_run 115 = .ok (.iconst 1, 1) := by decide +kernel
theorem dX12_run_116 : decode cX12_run 116 = .ok (.goto 4, 3) := by decide +kernel
theorem dX12_run_119 : decode cX12_run 119 = .ok (.iconst 0, 1) := by decide +kernel
theorem dX12_run_120 : decode cX12_run 120 = .ok (.istore 12, 2) := by decide +kernel
theorem dX12_run_122 : decode cX12_run 122 = .ok (.iconst 0, 1) := by decide +kernel
theorem dX12_run_123 : decode cX12_run 123 = .ok (.istore 13, 2) := by decide +kernel
theorem dX12_run_125 : decode cX12_run 125 = .ok (.iload 13, 2) := by decide +kernel
theorem dX12_run_127 : decode cX12_run 127 = .ok (.iload_n 2, 1) := by decide +kernel
theorem dX12_run_128 : decode cX12_run 128 = .ok (.if_icmp .ge 144, 3) := by decide +kernel
theorem dX12_run_131 : decode cX12_run 131 = .ok (.iload 12, 2) := by decide +kernel
theorem dX12_run_133 : decode cX12_run 133 = .ok (.ifCond .eq 139, 3) := by decide +kernel
theorem dX12_run_136 : decode cX12_run 136 = .ok (.aload_n 0, 1) := by decide +kernel
theorem dX12_run_137 : decode cX12_run 137 = .ok (.aload_n 0, 1) := by decide +kernel
theorem dX12_run_138 : decode cX12_run 138 = .ok (.getfield 9, 3) := by decide +kernel
theorem dX12_run_141 : decode cX12_run 141 = .ok (.sipush 887, 3) := by decide +kernel
theorem dX12_run_144 : decode cX12_run 144 = .ok (.iload_n 1, 1) := by decide +kernel
theorem dX12_run_145 : decode cX12_run 145 = .ok (.iadd, 1) := by decide +kernel
theorem dX12_run_146 : decode cX12_run 146 = .ok (.iaload, 1) := by decide +kernel
theorem dX12_run_147 : decode cX12_run 147 = .ok (.aload_n 0, 1) := by decide +kernel
theorem dX12_run_148 : decode cX12_run 148 = .ok (.getfield 9, 3) := by decide +kernel
theorem dX12_run_151 : decode cX12_run 151 = .ok (.sipush 897, 3) := by decide +kernel
theorem dX12_run_154 : decode cX12_run 154 = .ok (.iload_n 1, 1) := by decide +kernel
theorem dX12_run_155 : decode cX12_run 155 = .ok (.iadd, 1) := by decide +kernel
theorem dX12_run_156 : decode cX12_run 156 = .ok (.iaload, 1) := by decide +kernel
theorem dX12_run_157 : decode cX12_run 157 = .ok (.iload_n 1, 1) := by decide +kernel
theorem dX12_run_158 : decode cX12_run 158 = .ok (.iload 13, 2) := by decide +kernel
theorem dX12_run_160 : decode cX12_run 160 = .ok (.iload_n 2, 1) := by decide +kernel
theorem dX12_run_161 : decode cX12_run 161 = .ok (.iload 13, 2) := by decide +kernel
theorem dX12_run_163 : decode cX12_run 163 = .ok (.isub, 1) := by decide +kernel
theorem dX12_run_164 : decode cX12_run 164 = .ok (.iload 10, 2) := by decide +kernel
theorem dX12_run_166 : decode cX12_run 166 = .ok (.iload 11, 2) := by decide +kernel
theorem dX12_run_168 : decode cX12_run 168 = .ok (.iload 7, 2) := by decide +kernel
theorem dX12_run_170 : decode cX12_run 170 = .ok (.iload 8, 2) := by decide +kernel
theorem dX12_run_172 : decode cX12_run 172 = .ok (.invokevirtual 231, 3) := by decide +kernel
theorem dX12_run_175 : decode cX12_run 175 = .ok (.istore 14, 2) := by decide +kernel
theorem dX12_run_177 : decode cX12_run 177 = .ok (.aload_n 0, 1) := by decide +kernel
theorem dX12_run_178 : decode cX12_run 178 = .ok (.iload 10, 2) := by decide +kernel
theorem dX12_run_180 : decode cX12_run 180 = .ok (.iload 14, 2) := by decide +kernel
theorem dX12_run_182 : decode cX12_run 182 = .ok (.iload 7, 2) := by decide +kernel
theorem dX12_run_184 : decode cX12_run 184 = .ok (.iload 8, 2) := by decide +kernel
theorem dX12_run_186 : decode cX12_run 186 = .ok (.invokevirtual 205, 3) := by decide +kernel
theorem dX12_run_189 : decode cX12_run 189 = .ok (.istore 15, 2) := by decide +kernel
theorem dX12_run_191 : decode cX12_run 191 = .ok (.aload_n 0, 1) := by decide +kernel
theorem dX12_run_192 : decode cX12_run 192 = .ok (.getfield 28, 3) := by decide +kernel
theorem dX12_run_195 : decode cX12_run 195 = .ok (.iload 15, 2) := by decide +kernel
theorem dX12_run_197 : decode cX12_run 197 = .ok (.iaload, 1) := by decide +kernel
theorem dX12_run_198 : decode cX12_run 198 = .ok (.ifCond .lt 7, 3) := by decide +kernel
theorem dX12_run_201 : decode cX12_run 201 = .ok (.iconst 1, 1) := by decide +kernel
theorem dX12_run_202 : decode cX12_run 202 = .ok (.goto 4, 3) := by decide +kernel
theorem dX12_run_205 : decode cX12_run 205 = .ok (.iconst 0, 1) := by decide +kernel
theorem dX12_run_206 : decode cX12_run 206 = .ok (.istore 12, 2) := by decide +kernel
theorem dX12_run_208 : decode cX12_run 208 = .ok (.lload 5, 2) := by decide +kernel
theorem dX12_run_210 : decode cX12_run 210 = .ok (.iload 12, 2) := by decide +kernel
theorem dX12_run_212 : decode cX12_run 212 = .ok (.ifCond .eq 14, 3) := by decide +kernel
theorem dX12_run_215 : decode cX12_run 215 = .ok (.aload_n 0, 1) := by decide +kernel
theorem dX12_run_216 : decode cX12_run 216 = .ok (.getfield 28, 3) := by decide +kernel
theorem dX12_run_219 : decode cX12_run 219 = .ok (.iload 15, 2) := by decide +kernel
theorem dX12_run_221 : decode cX12_run 221 = .ok (.iaload, 1) := by decide +kernel
theorem dX12_run_222 : decode cX12_run 222 = .ok (.i2l, 1) := by decide +kernel
theorem dX12_run_223 : decode cX12_run 223 = .ok (.goto 4, 3) := by decide +kernel
theorem dX12_run_226 : decode cX12_run 226 = .ok (.lconst 0, 1) := by decide +kernel
theorem dX12_run_227 : decode cX12_run 227 = .ok (.ladd, 1) := by decide +kernel
theorem dX12_run_228 : decode cX12_run 228 = .ok (.lstore 5, 2) := by decide +kernel
theorem dX12_run_230 : decode cX12_run 230 = .ok (.aload_n 0, 1) := by decide +kernel
theorem dX12_run_231 : decode cX12_run 231 = .ok (.getfield 31, 3) := by decide +kernel
theorem dX12_run_234 : decode cX12_run 234 = .ok (.iload 15, 2) := by decide +kernel
theorem dX12_run_236 : decode cX12_run 236 = .ok (.iaload, 1) := by decide +kernel
theorem dX12_run_237 : decode cX12_run 237 = .ok (.istore 7, 2) := by decide +kernel
theorem dX12_run_239 : decode cX12_run 239 = .ok (.aload_n 0, 1) := by decide +kernel
theorem dX12_run_240 : decode cX12_run 240 = .ok (.getfield 34, 3) := by decide +kernel
theorem dX12_run_243 : decode cX12_run 243 = .ok (.iload 15, 2) := by decide +kernel
theorem dX12_run_245 : decode cX12_run 245 = .ok (.iaload, 1) := by decide +kernel
theorem dX12_run_246 : decode cX12_run 246 = .ok (.istore 8, 2) := by decide +kernel
theorem dX12_run_248 : decode cX12_run 248 = .ok (.iinc 9 1, 3) := by decide +kernel
theorem dX12_run_251 : decode cX12_run 251 = .ok (.iload 10, 2) := by decide +kernel
theorem dX12_run_253 : decode cX12_run 253 = .ok (.istore 11, 2) := by decide +kernel
theorem dX12_run_255 : decode cX12_run 255 = .ok (.aload_n 0, 1) := by decide +kernel
theorem dX12_run_256 : decode cX12_run 256 = .ok (.iload 10, 2) := by decide +kernel
theorem dX12_run_258 : decode cX12_run 258 = .ok (.iload_n 3, 1) := by decide +kernel
theorem dX12_run_259 : decode cX12_run 259 = .ok (.iload 9, 2) := by decide +kernel
theorem dX12_run_261 : decode cX12_run 261 = .ok (.invokevirtual 300, 3) := by decide +kernel
theorem dX12_run_264 : decode cX12_run 264 = .ok (.istore 10, 2) := by decide +kernel
theorem dX12_run_266 : decode cX12_run 266 = .ok (.iinc 13 1, 3) := by decide +kernel
theorem dX12_run_269 : decode cX12_run 269 = .ok (.goto (-144), 3) := by decide +kernel
theorem dX12_run_272 : decode cX12_run 272 = .ok (.aload_n 0, 1) := by decide +kernel
theorem dX12_run_273 : decode cX12_run 273 = .ok (.getfield 9, 3) := by decide +kernel
theorem dX12_run_276 : decode cX12_run 276 = .ok (.bipush 6, 2) := by decide +kernel
theorem dX12_run_278 : decode cX12_run 278 = .ok (.dup2, 1) := by decide +kernel
theorem dX12_run_279 : decode cX12_run 279 = .ok (.iaload, 1) := by decide +kernel
theorem dX12_run_280 : decode cX12_run 280 = .ok (.iload_n 2, 1) := by decide +kernel
theorem dX12_run_281 : decode cX12_run 281 = .ok (.iadd, 1) := by decide +kernel
theorem dX12_run_282 : decode cX12_run 282 = .ok (.iastore, 1) := by decide +kernel
theorem dX12_run_283 : decode cX12_run 283 = .ok (.aload_n 0, 1) := by decide +kernel
theorem dX12_run_284 : decode cX12_run 284 = .ok (.getfield 9, 3) := by decide +kernel
theorem dX12_run_287 : decode cX12_run 287 = .ok (.bipush 7, 2) := by decide +kernel
theorem dX12_run_289 : decode cX12_run 289 = .ok (.iload 7, 2) := by decide +kernel
theorem dX12_run_291 : decode cX12_run 291 = .ok (.iastore, 1) := by decide +kernel
theorem dX12_run_292 : decode cX12_run 292 = .ok (.aload_n 0, 1) := by decide +kernel
theorem dX12_run_293 : decode cX12_run 293 = .ok (.getfield 9, 3) := by decide +kernel
theorem dX12_run_296 : decode cX12_run 296 = .ok (.bipush 8, 2) := by decide +kernel
theorem dX12_run_298 : decode cX12_run 298 = .ok (.iload 8, 2) := by decide +kernel
theorem dX12_run_300 : decode cX12_run 300 = .ok (.iastore, 1) := by decide +kernel
theorem dX12_run_301 : decode cX12_run 301 = .ok (.aload_n 0, 1) := by decide +kernel
theorem dX12_run_302 : decode cX12_run 302 = .ok (.getfield 9, 3) := by decide +kernel
theorem dX12_run_305 : decode cX12_run 305 = .ok (.bipush 9, 2) := by decide +kernel
theorem dX12_run_307 : decode cX12_run 307 = .ok (.dup2, 1) := by decide +kernel
theorem dX12_run_308 : decode cX12_run 308 = .ok (.iaload, 1) := by decide +kernel
theorem dX12_run_309 : decode cX12_run 309 = .ok (.lload 5, 2) := by decide +kernel
theorem dX12_run_311 : decode cX12_run 311 = .ok (.l2i, 1) := by decide +kernel
theorem dX12_run_312 : decode cX12_run 312 = .ok (.iadd, 1) := by decide +kernel
theorem dX12_run_313 : decode cX12_run 313 = .ok (.iastore, 1) := by decide +kernel
theorem dX12_run_314 : decode cX12_run 314 = .ok (.aload_n 0, 1) := by decide +kernel
theorem dX12_run_315 : decode cX12_run 315 = .ok (.getfield 9, 3) := by decide +kernel
theorem dX12_run_318 : decode cX12_run 318 = .ok (.bipush 10, 2) := by decide +kernel
theorem dX12_run_320 : decode cX12_run 320 = .ok (.iload 12, 2) := by decide +kernel
theorem dX12_run_322 : decode cX12_run 322 = .ok (.ifCond .eq 7, 3) := by decide +kernel
theorem dX12_run_325 : decode cX12_run 325 = .ok (.iconst 0, 1) := by decide +kernel
theorem dX12_run_326 : decode cX12_run 326 = .ok (.goto 4, 3) := by decide +kernel
theorem dX12_run_329 : decode cX12_run 329 = .ok (.iconst 1, 1) := by decide +kernel
theorem dX12_run_330 : decode cX12_run 330 = .ok (.iastore, 1) := by decide +kernel
theorem dX12_run_331 : decode cX12_run 331 = .ok (.lload 5, 2) := by decide +kernel
theorem dX12_run_333 : decode cX12_run 333 = .ok (.lreturn, 1) := by decide +kernel
theorem dX12_runs_0 : decode cX12_runs 0 = .ok (.aload_n 0, 1) := by decide +kernel
theorem dX12_runs_1 : decode cX12_runs 1 = .ok (.getfield 303, 3) := by decide +kernel
theorem dX12_runs_4 : decode cX12_runs 4 = .ok (.bipush 20, 2) := by decide +kernel
theorem dX12_runs_6 : decode cX12_runs 6 = .ok (.if_icmp .ge 13, 3) := by decide +kernel
theorem dX12_runs_9 : decode cX12_runs 9 = .ok (.aload_n 0, 1) := by decide +kernel
theorem dX12_runs_10 : decode cX12_runs 10 = .ok (.getfield 56, 3) := by decide +kernel
theorem dX12_runs_13 : decode cX12_runs 13 = .ok (.aload_n 0, 1) := by decide +kernel
theorem dX12_runs_14 : decode cX12_runs 14 = .ok (.getfield 303, 3) := by decide +kernel
theorem dX12_runs_17 : decode cX12_runs 17 = .ok (.iload_n 1, 1) := by decide +kernel
theorem dX12_runs_18 : decode cX12_runs 18 = .ok (.iastore, 1) := by decide +kernel
theorem dX12_runs_19 : decode cX12_runs 19 = .ok (.aload_n 0, 1) := by decide +kernel
theorem dX12_runs_20 : decode cX12_runs 20 = .ok (.dup, 1) := by decide +kernel
theorem dX12_runs_21 : decode cX12_runs 21 = .ok (.getfield 303, 3) := by decide +kernel
theorem dX12_runs_24 : decode cX12_runs 24 = .ok (.iconst 1, 1) := by decide +kernel
theorem dX12_runs_25 : decode cX12_runs 25 = .ok (.iadd, 1) := by decide +kernel
theorem dX12_runs_26 : decode cX12_runs 26 = .ok (.putfield 303, 3) := by decide +kernel
theorem dX12_runs_29 : decode cX12_runs 29 = .ok (.return_, 1) := by decide +kernel
theorem dX12_isUnder_0 : decode cX12_isUnder 0 = .ok (.iload_n 1, 1) := by decide +kernel
theorem dX12_isUnder_1 : decode cX12_isUnder 1 = .ok (.ifCond .eq 44, 3) := by decide +kernel
theorem dX12_isUnder_4 : decode cX12_isUnder 4 = .ok (.iload_n 1, 1) := by decide +kernel
theorem dX12_isUnder_5 : decode cX12_isUnder 5 = .ok (.iload_n 0, 1) := by decide +kernel
theorem dX12_isUnder_6 : decode cX12_isUnder 6 = .ok (.if_icmp .eq 39, 3) := by decide +kernel
theorem dX12_isUnder_9 : decode cX12_isUnder 9 = .ok (.iload_n 1, 1) := by decide +kernel
theorem dX12_isUnder_10 : decode cX12_isUnder 10 = .ok (.iconst 3, 1) := by decide +kernel
theorem dX12_isUnder_11 : decode cX12_isUnder 11 = .ok (.if_icmp .ne 13, 3) := by decide +kernel
theorem dX12_isUnder_14 : decode cX12_isUnder 14 = .ok (.iload_n 0, 1) := by decide +kernel
theorem dX12_isUnder_15 : decode cX12_isUnder 15 = .ok (.iconst 4, 1) := by decide +kernel
theorem dX12_isUnder_16 : decode cX12_isUnder 16 = .ok (.if_icmp .eq 29, 3) := by decide +kernel
theorem dX12_isUnder_19 : decode cX12_isUnder 19 = .ok (.iload_n 0, 1) := by decide +kernel
theorem dX12_isUnder_20 : decode cX12_isUnder 20 = .ok (.iconst 5, 1) := by decide +kernel
theorem dX12_isUnder_21 : decode cX12_isUnder 21 = .ok (.if_icmp .eq 24, 3) := by decide +kernel
theorem dX12_isUnder_24 : decode cX12_isUnder 24 = .ok (.iload_n 1, 1) := by decide +kernel
theorem dX12_isUnder_25 : decode cX12_isUnder 25 = .ok (.iconst 4, 1) := by decide +kernel
theorem dX12_isUnder_26 : decode cX12_isUnder 26 = .ok (.if_icmp .ne 8, 3) := by decide +kernel
theorem dX12_isUnder_29 : decode cX12_isUnder 29 = .ok (.iload_n 0, 1) := by decide +kernel
theorem dX12_isUnder_30 : decode cX12_isUnder 30 = .ok (.iconst 5, 1) := by decide +kernel
theorem dX12_isUnder_31 : decode cX12_isUnder 31 = .ok (.if_icmp .eq 14, 3) := by decide +kernel
theorem dX12_isUnder_34 : decode cX12_isUnder 34 = .ok (.iload_n 1, 1) := by decide +kernel
theorem dX12_isUnder_35 : decode cX12_isUnder 35 = .ok (.iconst 1, 1) := by decide +kernel
theorem dX12_isUnder_36 : decode cX12_isUnder 36 = .ok (.if_icmp .ne 13, 3) := by decide +kernel
theorem dX12_isUnder_39 : decode cX12_isUnder 39 = .ok (.iload_n 0, 1) := by decide +kernel
theorem dX12_isUnder_40 : decode cX12_isUnder 40 = .ok (.bipush 6, 2) := by decide +kernel
theorem dX12_isUnder_42 : decode cX12_isUnder 42 = .ok (.if_icmp .ne 7, 3) := by decide +kernel
theorem dX12_isUnder_45 : decode cX12_isUnder 45 = .ok (.iconst 1, 1) := by decide +kernel
theorem dX12_isUnder_46 : decode cX12_isUnder 46 = .ok (.goto 4, 3) := by decide +kernel
theorem dX12_isUnder_49 : decode cX12_isUnder 49 = .ok (.iconst 0, 1) := by decide +kernel
theorem dX12_isUnder_50 : decode cX12_isUnder 50 = .ok (.ireturn, 1) := by decide +kernel
theorem dX12_plainSets_0 : decode cX12_plainSets 0 = .ok (.aload_n 0, 1) := by decide +kernel
theorem dX12_plainSets_1 : decode cX12_plainSets 1 = .ok (.iconst 1, 1) := by decide +kernel
theorem dX12_plainSets_2 : decode cX12_plainSets 2 = .ok (.invokevirtual 306, 3) := by decide +kernel
theorem dX12_plainSets_5 : decode cX12_plainSets 5 = .ok (.iload_n 1, 1) := by decide +kernel
theorem dX12_plainSets_6 : decode cX12_plainSets 6 = .ok (.aload_n 0, 1) := by decide +kernel
theorem dX12_plainSets_7 : decode cX12_plainSets 7 = .ok (.getfield 309, 3) := by decide +kernel
theorem dX12_plainSets_10 : decode cX12_plainSets 10 = .ok (.iadd, 1) := by decide +kernel
theorem dX12_plainSets_11 : decode cX12_plainSets 11 = .ok (.ireturn, 1) := by decide +kernel
theorem dX12_setsActs_0 : decode cX12_setsActs 0 = .ok (.aload_n 0, 1) := by decide +kernel
theorem dX12_setsActs_1 : decode cX12_setsActs 1 = .ok (.getfield 312, 3) := by decide +kernel
theorem dX12_setsActs_4 : decode cX12_setsActs 4 = .ok (.iconst 1, 1) := by decide +kernel
theorem dX12_setsActs_5 : decode cX12_setsActs 5 = .ok (.invokestatic 315, 3) := by decide +kernel
theorem dX12_setsActs_8 : decode cX12_setsActs 8 = .ok (.ifCond .eq 17, 3) := by decide +kernel
theorem dX12_setsActs_11 : decode cX12_setsActs 11 = .ok (.aload_n 0, 1) := by decide +kernel
theorem dX12_setsActs_12 : decode cX12_setsActs 12 = .ok (.bipush 11, 2) := by decide +kernel
theorem dX12_setsActs_14 : decode cX12_setsActs 14 = .ok (.invokevirtual 306, 3) := by decide +kernel
theorem dX12_setsActs_17 : decode cX12_setsActs 17 = .ok (.aload_n 0, 1) := by decide +kernel
theorem dX12_setsActs_18 : decode cX12_setsActs 18 = .ok (.iload_n 1, 1) := by decide +kernel
theorem dX12_setsActs_19 : decode cX12_setsActs 19 = .ok (.iconst 3, 1) := by decide +kernel
theorem dX12_setsActs_20 : decode cX12_setsActs 20 = .ok (.imul, 1) := by decide +kernel
theorem dX12_setsActs_21 : decode cX12_setsActs 21 = .ok (.invokevirtual 318, 3) := by decide +kernel
theorem dX12_setsActs_24 : decode cX12_setsActs 24 = .ok (.ireturn, 1) := by decide +kernel
theorem dX12_setsActs_25 : decode cX12_setsActs 25 = .ok (.aload_n 0, 1) := by decide +kernel
theorem dX12_setsActs_26 : decode cX12_setsActs 26 = .ok (.getfield 312, 3) := by decide +kernel
theorem dX12_setsActs_29 : decode cX12_setsActs 29 = .ok (.iconst 5, 1) := by decide +kernel
theorem dX12_setsActs_30 : decode cX12_setsActs 30 = .ok (.if_icmp .ne 20, 3) := by decide +kernel
theorem dX12_setsActs_33 : decode cX12_setsActs 33 = .ok (.aload_n 0, 1) := by decide +kernel
theorem dX12_setsActs_34 : decode cX12_setsActs 34 = .ok (.bipush 51, 2) := by decide +kernel
theorem dX12_setsActs_36 : decode cX12_setsActs 36 = .ok (.invokevirtual 306, 3) := by decide +kernel
theorem dX12_setsActs_39 : decode cX12_setsActs 39 = .ok (.aload_n 0, 1) := by decide +kernel
theorem dX12_setsActs_40 : decode cX12_setsActs 40 = .ok (.iload_n 1, 1) := by decide +kernel
theorem dX12_setsActs_41 : decode cX12_setsActs 41 = .ok (.invokevirtual 318, 3) := by decide +kernel
theorem dX12_setsActs_44 : decode cX12_setsActs 44 = .ok (.aload_n 0, 1) := by decide +kernel
theorem dX12_setsActs_45 : decode cX12_setsActs 45 = .ok (.getfield 309, 3) := by decide +kernel
theorem dX12_setsActs_48 : decode cX12_setsActs 48 = .ok (.ixor, 1) := by decide +kernel
theorem dX12_setsActs_49 : decode cX12_setsActs 49 = .ok (.ireturn, 1) := by decide +kernel
theorem dX12_setsActs_50 : decode cX12_setsActs 50 = .ok (.aload_n 0, 1) := by decide +kernel
theorem dX12_setsActs_51 : decode cX12_setsActs 51 = .ok (.iload_n 1, 1) := by decide +kernel
theorem dX12_setsActs_52 : decode cX12_setsActs 52 = .ok (.invokevirtual 318, 3) := by decide +kernel
theorem dX12_setsActs_55 : decode cX12_setsActs 55 = .ok (.ireturn, 1) := by decide +kernel
theorem dX12_plainTurns_0 : decode cX12_plainTurns 0 = .ok (.aload_n 0, 1) := by decide +kernel
theorem dX12_plainTurns_1 : decode cX12_plainTurns 1 = .ok (.iconst 2, 1) := by decide +kernel
theorem dX12_plainTurns_2 : decode cX12_plainTurns 2 = .ok (.invokevirtual 306, 3) := by decide +kernel
theorem dX12_plainTurns_5 : decode cX12_plainTurns 5 = .ok (.aload_n 0, 1) := by decide +kernel
theorem dX12_plainTurns_6 : decode cX12_plainTurns 6 = .ok (.iload_n 1, 1) := by decide +kernel
theorem dX12_plainTurns_7 : decode cX12_plainTurns 7 = .ok (.invokevirtual 321, 3) := by decide +kernel
theorem dX12_plainTurns_10 : decode cX12_plainTurns 10 = .ok (.aload_n 0, 1) := by decide +kernel
theorem dX12_plainTurns_11 : decode cX12_plainTurns 11 = .ok (.getfield 324, 3) := by decide +kernel
theorem dX12_plainTurns_14 : decode cX12_plainTurns 14 = .ok (.isub, 1) := by decide +kernel
theorem dX12_plainTurns_15 : decode cX12_plainTurns 15 = .ok (.ireturn, 1) := by decide +kernel
theorem dX12_turnsActs_0 : decode cX12_turnsActs 0 = .ok (.aload_n 0, 1) := by decide +kernel
theorem dX12_turnsActs_1 : decode cX12_turnsActs 1 = .ok (.getfield 312, 3) := by decide +kernel
theorem dX12_turnsActs_4 : decode cX12_turnsActs 4 = .ok (.bipush 6, 2) := by decide +kernel
theorem dX12_turnsActs_6 : decode cX12_turnsActs 6 = .ok (.if_icmp .ne 20, 3) := by decide +kernel
theorem dX12_turnsActs_9 : decode cX12_turnsActs 9 = .ok (.aload_n 0, 1) := by decide +kernel
theorem dX12_turnsActs_10 : decode cX12_turnsActs 10 = .ok (.bipush 61, 2) := by decide +kernel
theorem dX12_turnsActs_12 : decode cX12_turnsActs 12 = .ok (.invokevirtual 306, 3) := by decide +kernel
theorem dX12_turnsActs_15 : decode cX12_turnsActs 15 = .ok (.aload_n 0, 1) := by decide +kernel
theorem dX12_turnsActs_16 : decode cX12_turnsActs 16 = .ok (.iload_n 1, 1) := by decide +kernel
theorem dX12_turnsActs_17 : decode cX12_turnsActs 17 = .ok (.invokevirtual 327, 3) := by decide +kernel
theorem dX12_turnsActs_20 : decode cX12_turnsActs 20 = .ok (.aload_n 0, 1) := by decide +kernel
theorem dX12_turnsActs_21 : decode cX12_turnsActs 21 = .ok (.getfield 324, 3) := by decide +kernel
theorem dX12_turnsActs_24 : decode cX12_turnsActs 24 = .ok (.iadd, 1) := by decide +kernel
theorem dX12_turnsActs_25 : decode cX12_turnsActs 25 = .ok (.ireturn, 1) := by decide +kernel
theorem dX12_turnsActs_26 : decode cX12_turnsActs 26 = .ok (.aload_n 0, 1) := by decide +kernel
theorem dX12_turnsActs_27 : decode cX12_turnsActs 27 = .ok (.getfield 312, 3) := by decide +kernel
theorem dX12_turnsActs_30 : decode cX12_turnsActs 30 = .ok (.iconst 3, 1) := by decide +kernel
theorem dX12_turnsActs_31 : decode cX12_turnsActs 31 = .ok (.invokestatic 315, 3) := by decide +kernel
theorem dX12_turnsActs_34 : decode cX12_turnsActs 34 = .ok (.ifCond .eq 16, 3) := by decide +kernel
theorem dX12_turnsActs_37 : decode cX12_turnsActs 37 = .ok (.aload_n 0, 1) := by decide +kernel
theorem dX12_turnsActs_38 : decode cX12_turnsActs 38 = .ok (.bipush 31, 2) := by decide +kernel
theorem dX12_turnsActs_40 : decode cX12_turnsActs 40 = .ok (.invokevirtual 306, 3) := by decide +kernel
theorem dX12_turnsActs_43 : decode cX12_turnsActs 43 = .ok (.aload_n 0, 1) := by decide +kernel
theorem dX12_turnsActs_44 : decode cX12_turnsActs 44 = .ok (.iload_n 1, 1) := by decide +kernel
theorem dX12_turnsActs_45 : decode cX12_turnsActs 45 = .ok (.invokevirtual 327, 3) := by decide +kernel
theorem dX12_turnsActs_48 : decode cX12_turnsActs 48 = .ok (.ineg, 1) := by decide +kernel
theorem dX12_turnsActs_49 : decode cX12_turnsActs 49 = .ok (.ireturn, 1) := by decide +kernel
theorem dX12_turnsActs_50 : decode cX12_turnsActs 50 = .ok (.aload_n 0, 1) := by decide +kernel
theorem dX12_turnsActs_51 : decode cX12_turnsActs 51 = .ok (.iload_n 1, 1) := by decide +kernel
theorem dX12_turnsActs_52 : decode cX12_turnsActs 52 = .ok (.invokevirtual 327, 3) := by decide +kernel
theorem dX12_turnsActs_55 : decode cX12_turnsActs 55 = .ok (.ireturn, 1) := by decide +kernel
theorem dX12_plainTells_0 : decode cX12_plainTells 0 = .ok (.aload_n 0, 1) := by decide +kernel
theorem dX12_plainTells_1 : decode cX12_plainTells 1 = .ok (.iconst 3, 1) := by decide +kernel
theorem dX12_plainTells_2 : decode cX12_plainTells 2 = .ok (.invokevirtual 306, 3) := by decide +kernel
theorem dX12_plainTells_5 : decode cX12_plainTells 5 = .ok (.aload_n 0, 1) := by decide +kernel
theorem dX12_plainTells_6 : decode cX12_plainTells 6 = .ok (.iload_n 1, 1) := by decide +kernel
theorem dX12_plainTells_7 : decode cX12_plainTells 7 = .ok (.invokevirtual 330, 3) := by decide +kernel
theorem dX12_plainTells_10 : decode cX12_plainTells 10 = .ok (.iconst 2, 1) := by decide +kernel
theorem dX12_plainTells_11 : decode cX12_plainTells 11 = .ok (.imul, 1) := by decide +kernel
theorem dX12_plainTells_12 : decode cX12_plainTells 12 = .ok (.ireturn, 1) := by decide +kernel
theorem dX12_tellsActs_0 : decode cX12_tellsActs 0 = .ok (.aload_n 0, 1) := by decide +kernel
theorem dX12_tellsActs_1 : decode cX12_tellsActs 1 = .ok (.getfield 312, 3) := by decide +kernel
theorem dX12_tellsActs_4 : decode cX12_tellsActs 4 = .ok (.iconst 2, 1) := by decide +kernel
theorem dX12_tellsActs_5 : decode cX12_tellsActs 5 = .ok (.if_icmp .ne 18, 3) := by decide +kernel
theorem dX12_tellsActs_8 : decode cX12_tellsActs 8 = .ok (.aload_n 0, 1) := by decide +kernel
theorem dX12_tellsActs_9 : decode cX12_tellsActs 9 = .ok (.bipush 21, 2) := by decide +kernel
theorem dX12_tellsActs_11 : decode cX12_tellsActs 11 = .ok (.invokevirtual 306, 3) := by decide +kernel
theorem dX12_tellsActs_14 : decode cX12_tellsActs 14 = .ok (.aload_n 0, 1) := by decide +kernel
theorem dX12_tellsActs_15 : decode cX12_tellsActs 15 = .ok (.iload_n 1, 1) := by decide +kernel
theorem dX12_tellsActs_16 : decode cX12_tellsActs 16 = .ok (.invokevirtual 333, 3) := by decide +kernel
theorem dX12_tellsActs_19 : decode cX12_tellsActs 19 = .ok (.bipush 7, 2) := by decide +kernel
theorem dX12_tellsActs_21 : decode cX12_tellsActs 21 = .ok (.ixor, 1) := by decide +kernel
theorem dX12_tellsActs_22 : decode cX12_tellsActs 22 = .ok (.ireturn, 1) := by decide +kernel
theorem dX12_tellsActs_23 : decode cX12_tellsActs 23 = .ok (.aload_n 0, 1) := by decide +kernel
theorem dX12_tellsActs_24 : decode cX12_tellsActs 24 = .ok (.getfield 312, 3) := by decide +kernel
theorem dX12_tellsActs_27 : decode cX12_tellsActs 27 = .ok (.iconst 4, 1) := by decide +kernel
theorem dX12_tellsActs_28 : decode cX12_tellsActs 28 = .ok (.invokestatic 315, 3) := by decide +kernel
theorem dX12_tellsActs_31 : decode cX12_tellsActs 31 = .ok (.ifCond .eq 25, 3) := by decide +kernel
theorem dX12_tellsActs_34 : decode cX12_tellsActs 34 = .ok (.aload_n 0, 1) := by decide +kernel
theorem dX12_tellsActs_35 : decode cX12_tellsActs 35 = .ok (.bipush 41, 2) := by decide +kernel
theorem dX12_tellsActs_37 : decode cX12_tellsActs 37 = .ok (.invokevirtual 306, 3) := by decide +kernel
theorem dX12_tellsActs_40 : decode cX12_tellsActs 40 = .ok (.aload_n 0, 1) := by decide +kernel
theorem dX12_tellsActs_41 : decode cX12_tellsActs 41 = .ok (.iload_n 1, 1) := by decide +kernel
theorem dX12_tellsActs_42 : decode cX12_tellsActs 42 = .ok (.iconst 1, 1) := by decide +kernel
theorem dX12_tellsActs_43 : decode cX12_tellsActs 43 = .ok (.isub, 1) := by decide +kernel
theorem dX12_tellsActs_44 : decode cX12_tellsActs 44 = .ok (.invokevirtual 333, 3) := by decide +kernel
theorem dX12_tellsActs_47 : decode cX12_tellsActs 47 = .ok (.istore_n 2, 1) := by decide +kernel
theorem dX12_tellsActs_48 : decode cX12_tellsActs 48 = .ok (.iload_n 2, 1) := by decide +kernel
theorem dX12_tellsActs_49 : decode cX12_tellsActs 49 = .ok (.aload_n 0, 1) := by decide +kernel
theorem dX12_tellsActs_50 : decode cX12_tellsActs 50 = .ok (.iconst 2, 1) := by decide +kernel
theorem dX12_tellsActs_51 : decode cX12_tellsActs 51 = .ok (.invokevirtual 321, 3) := by decide +kernel
theorem dX12_tellsActs_54 : decode cX12_tellsActs 54 = .ok (.iadd, 1) := by decide +kernel
theorem dX12_tellsActs_55 : decode cX12_tellsActs 55 = .ok (.ireturn, 1) := by decide +kernel
theorem dX12_tellsActs_56 : decode cX12_tellsActs 56 = .ok (.aload_n 0, 1) := by decide +kernel
theorem dX12_tellsActs_57 : decode cX12_tellsActs 57 = .ok (.iload_n 1, 1) := by decide +kernel
theorem dX12_tellsActs_58 : decode cX12_tellsActs 58 = .ok (.invokevirtual 333, 3) := by decide +kernel
theorem dX12_tellsActs_61 : decode cX12_tellsActs 61 = .ok (.ireturn, 1) := by decide +kernel
theorem dX12_act_0 : decode cX12_act 0 = .ok (.aload_n 0, 1) := by decide +kernel
theorem dX12_act_1 : decode cX12_act 1 = .ok (.iconst 0, 1) := by decide +kernel
theorem dX12_act_2 : decode cX12_act 2 = .ok (.putfield 303, 3) := by decide +kernel
theorem dX12_act_5 : decode cX12_act 5 = .ok (.aload_n 0, 1) := by decide +kernel
theorem dX12_act_6 : decode cX12_act 6 = .ok (.iload_n 1, 1) := by decide +kernel
theorem dX12_act_7 : decode cX12_act 7 = .ok (.invokevirtual 225, 3) := by decide +kernel
theorem dX12_act_10 : decode cX12_act 10 = .ok (.ifCond .eq 12, 3) := by decide +kernel
theorem dX12_act_13 : decode cX12_act 13 = .ok (.iload_n 2, 1) := by decide +kernel
theorem dX12_act_14 : decode cX12_act 14 = .ok (.iconst 0, 1) := by decide +kernel
theorem dX12_act_15 : decode cX12_act 15 = .ok (.iconst 2, 1) := by decide +kernel
theorem dX12_act_16 : decode cX12_act 16 = .ok (.invokestatic 63, 3) := by decide +kernel
theorem dX12_act_19 : decode cX12_act 19 = .ok (.ifCond .ne 5, 3) := by decide +kernel
theorem dX12_act_22 : decode cX12_act 22 = .ok (.iconst 0, 1) := by decide +kernel
theorem dX12_act_23 : decode cX12_act 23 = .ok (.ireturn, 1) := by decide +kernel
theorem dX12_act_24 : decode cX12_act 24 = .ok (.aload_n 0, 1) := by decide +kernel
theorem dX12_act_25 : decode cX12_act 25 = .ok (.aload_n 0, 1) := by decide +kernel
theorem dX12_act_26 : decode cX12_act 26 = .ok (.getfield 9, 3) := by decide +kernel
theorem dX12_act_29 : decode cX12_act 29 = .ok (.sipush 887, 3) := by decide +kernel
theorem dX12_act_32 : decode cX12_act 32 = .ok (.iload_n 1, 1) := by decide +kernel
theorem dX12_act_33 : decode cX12_act 33 = .ok (.iadd, 1) := by decide +kernel
theorem dX12_act_34 : decode cX12_act 34 = .ok (.iaload, 1) := by decide +kernel
theorem dX12_act_35 : decode cX12_act 35 = .ok (.putfield 312, 3) := by decide +kernel
theorem dX12_act_38 : decode cX12_act 38 = .ok (.aload_n 0, 1) := by decide +kernel
theorem dX12_act_39 : decode cX12_act 39 = .ok (.iload_n 1, 1) := by decide +kernel
theorem dX12_act_40 : decode cX12_act 40 = .ok (.putfield 309, 3) := by decide +kernel
theorem dX12_act_43 : decode cX12_act 43 = .ok (.aload_n 0, 1) := by decide +kernel
theorem dX12_act_44 : decode cX12_act 44 = .ok (.aload_n 0, 1) := by decide +kernel
theorem dX12_act_45 : decode cX12_act 45 = .ok (.getfield 9, 3) := by decide +kernel
theorem dX12_act_48 : decode cX12_act 48 = .ok (.sipush 897, 3) := by decide +kernel
theorem dX12_act_51 : decode cX12_act 51 = .ok (.iload_n 1, 1) := by decide +kernel
theorem dX12_act_52 : decode cX12_act 52 = .ok (.iadd, 1) := by decide +kernel
theorem dX12_act_53 : decode cX12_act 53 = .ok (.iaload, 1) := by decide +kernel
theorem dX12_act_54 : decode cX12_act 54 = .ok (.putfield 324, 3) := by decide +kernel
theorem dX12_act_57 : decode cX12_act 57 = .ok (.iload_n 2, 1) := by decide +kernel
theorem dX12_act_58 : decode cX12_act 58 = .ok (.ifCond .ne 11, 3) := by decide +kernel
theorem dX12_act_61 : decode cX12_act 61 = .ok (.aload_n 0, 1) := by decide +kernel
theorem dX12_act_62 : decode cX12_act 62 = .ok (.iload_n 3, 1) := by decide +kernel
theorem dX12_act_63 : decode cX12_act 63 = .ok (.invokevirtual 321, 3) := by decide +kernel
theorem dX12_act_66 : decode cX12_act 66 = .ok (.goto 21, 3) := by decide +kernel
theorem dX12_act_69 : decode cX12_act 69 = .ok (.iload_n 2, 1) := by decide +kernel
theorem dX12_act_70 : decode cX12_act 70 = .ok (.iconst 1, 1) := by decide +kernel
theorem dX12_act_71 : decode cX12_act 71 = .ok (.if_icmp .ne 11, 3) := by decide +kernel
theorem dX12_act_74 : decode cX12_act 74 = .ok (.aload_n 0, 1) := by decide +kernel
theorem dX12_act_75 : decode cX12_act 75 = .ok (.iload_n 3, 1) := by decide +kernel
theorem dX12_act_76 : decode cX12_act 76 = .ok (.invokevirtual 330, 3) := by decide +kernel
theorem dX12_act_79 : decode cX12_act 79 = .ok (.goto 8, 3) := by decide +kernel
theorem dX12_act_82 : decode cX12_act 82 = .ok (.aload_n 0, 1) := by decide +kernel
theorem dX12_act_83 : decode cX12_act 83 = .ok (.iload_n 3, 1) := by decide +kernel
theorem dX12_act_84 : decode cX12_act 84 = .ok (.invokevirtual 336, 3) := by decide +kernel
theorem dX12_act_87 : decode cX12_act 87 = .ok (.ireturn, 1) := by decide +kernel
theorem dX12_trace_0 : decode cX12_trace 0 = .ok (.iload_n 1, 1) := by decide +kernel
theorem dX12_trace_1 : decode cX12_trace 1 = .ok (.iconst 0, 1) := by decide +kernel
theorem dX12_trace_2 : decode cX12_trace 2 = .ok (.aload_n 0, 1) := by decide +kernel
theorem dX12_trace_3 : decode cX12_trace 3 = .ok (.getfield 303, 3) := by decide +kernel
theorem dX12_trace_6 : decode cX12_trace 6 = .ok (.bipush 20, 2) := by decide +kernel
theorem dX12_trace_8 : decode cX12_trace 8 = .ok (.if_icmp .ge 10, 3) := by decide +kernel
theorem dX12_trace_11 : decode cX12_trace 11 = .ok (.aload_n 0, 1) := by decide +kernel
theorem dX12_trace_12 : decode cX12_trace 12 = .ok (.getfield 303, 3) := by decide +kernel
theorem dX12_trace_15 : decode cX12_trace 15 = .ok (.goto 5, 3) := by decide +kernel
theorem dX12_trace_18 : decode cX12_trace 18 = .ok (.bipush 20, 2) := by decide +kernel
theorem dX12_trace_20 : decode cX12_trace 20 = .ok (.iconst 1, 1) := by decide +kernel
theorem dX12_trace_21 : decode cX12_trace 21 = .ok (.isub, 1) := by decide +kernel
theorem dX12_trace_22 : decode cX12_trace 22 = .ok (.invokestatic 63, 3) := by decide +kernel
theorem dX12_trace_25 : decode cX12_trace 25 = .ok (.ifCond .eq 12, 3) := by decide +kernel
theorem dX12_trace_28 : decode cX12_trace 28 = .ok (.aload_n 0, 1) := by decide +kernel
theorem dX12_trace_29 : decode cX12_trace 29 = .ok (.getfield 56, 3) := by decide +kernel
theorem dX12_trace_32 : decode cX12_trace 32 = .ok (.iload_n 1, 1) := by decide +kernel
theorem dX12_trace_33 : decode cX12_trace 33 = .ok (.iaload, 1) := by decide +kernel
theorem dX12_trace_34 : decode cX12_trace 34 = .ok (.goto 4, 3) := by decide +kernel
theorem dX12_trace_37 : decode cX12_trace 37 = .ok (.iconst (-1), 1) := by decide +kernel
theorem dX12_trace_38 : decode cX12_trace 38 = .ok (.ireturn, 1) := by decide +kernel
theorem dX12_as_0 : decode cX12_as 0 = .ok (.aload_n 0, 1) := by decide +kernel
theorem dX12_as_1 : decode cX12_as 1 = .ok (.iload_n 1, 1) := by decide +kernel
theorem dX12_as_2 : decode cX12_as 2 = .ok (.invokevirtual 225, 3) := by decide +kernel
theorem dX12_as_5 : decode cX12_as 5 = .ok (.ifCond .eq 13, 3) := by decide +kernel
theorem dX12_as_8 : decode cX12_as 8 = .ok (.iload_n 2, 1) := by decide +kernel
theorem dX12_as_9 : decode cX12_as 9 = .ok (.iconst 0, 1) := by decide +kernel
theorem dX12_as_10 : decode cX12_as 10 = .ok (.bipush 6, 2) := by decide +kernel
theorem dX12_as_12 : decode cX12_as 12 = .ok (.invokestatic 63, 3) := by decide +kernel
theorem dX12_as_15 : decode cX12_as 15 = .ok (.ifCond .ne 5, 3) := by decide +kernel
theorem dX12_as_18 : decode cX12_as 18 = .ok (.iconst (-1), 1) := by decide +kernel
theorem dX12_as_19 : decode cX12_as 19 = .ok (.ireturn, 1) := by decide +kernel
theorem dX12_as_20 : decode cX12_as 20 = .ok (.aload_n 0, 1) := by decide +kernel
theorem dX12_as_21 : decode cX12_as 21 = .ok (.getfield 9, 3) := by decide +kernel
theorem dX12_as_24 : decode cX12_as 24 = .ok (.sipush 887, 3) := by decide +kernel
theorem dX12_as_27 : decode cX12_as 27 = .ok (.iload_n 1, 1) := by decide +kernel
theorem dX12_as_28 : decode cX12_as 28 = .ok (.iadd, 1) := by decide +kernel
theorem dX12_as_29 : decode cX12_as 29 = .ok (.iaload, 1) := by decide +kernel
theorem dX12_as_30 : decode cX12_as 30 = .ok (.iload_n 2, 1) := by decide +kernel
theorem dX12_as_31 : decode cX12_as 31 = .ok (.invokestatic 315, 3) := by decide +kernel
theorem dX12_as_34 : decode cX12_as 34 = .ok (.ifCond .eq 16, 3) := by decide +kernel
theorem dX12_as_37 : decode cX12_as 37 = .ok (.aload_n 0, 1) := by decide +kernel
theorem dX12_as_38 : decode cX12_as 38 = .ok (.getfield 9, 3) := by decide +kernel
theorem dX12_as_41 : decode cX12_as 41 = .ok (.sipush 897, 3) := by decide +kernel
theorem dX12_as_44 : decode cX12_as 44 = .ok (.iload_n 1, 1) := by decide +kernel
theorem dX12_as_45 : decode cX12_as 45 = .ok (.iadd, 1) := by decide +kernel
theorem dX12_as_46 : decode cX12_as 46 = .ok (.iaload, 1) := by decide +kernel
theorem dX12_as_47 : decode cX12_as 47 = .ok (.goto 5, 3) := by decide +kernel
theorem dX12_as_50 : decode cX12_as 50 = .ok (.bipush (-6), 2) := by decide +kernel
theorem dX12_as_52 : decode cX12_as 52 = .ok (.ireturn, 1) := by decide +kernel
theorem dX12_image_0 : decode cX12_image 0 = .ok (.iconst 0, 1) := by decide +kernel
theorem dX12_image_1 : decode cX12_image 1 = .ok (.istore_n 1, 1) := by decide +kernel
theorem dX12_image_2 : decode cX12_image 2 = .ok (.iload_n 1, 1) := by decide +kernel
theorem dX12_image_3 : decode cX12_image 3 = .ok (.sipush 1055, 3) := by decide +kernel
theorem dX12_image_6 : decode cX12_image 6 = .ok (.if_icmp .ge 21, 3) := by decide +kernel
theorem dX12_image_9 : decode cX12_image 9 = .ok (.aload_n 0, 1) := by decide +kernel
theorem dX12_image_10 : decode cX12_image 10 = .ok (.getfield 15, 3) := by decide +kernel
theorem dX12_image_13 : decode cX12_image 13 = .ok (.iload_n 1, 1) := by decide +kernel
theorem dX12_image_14 : decode cX12_image 14 = .ok (.aload_n 0, 1) := by decide +kernel
theorem dX12_image_15 : decode cX12_image 15 = .ok (.getfield 9, 3) := by decide +kernel
theorem dX12_image_18 : decode cX12_image 18 = .ok (.iload_n 1, 1) := by decide +kernel
theorem dX12_image_19 : decode cX12_image 19 = .ok (.iaload, 1) := by decide +kernel
theorem dX12_image_20 : decode cX12_image 20 = .ok (.iastore, 1) := by decide +kernel
theorem dX12_image_21 : decode cX12_image 21 = .ok (.iinc 1 1, 3) := by decide +kernel
theorem dX12_image_24 : decode cX12_image 24 = .ok (.goto (-22), 3) := by decide +kernel
theorem dX12_image_27 : decode cX12_image 27 = .ok (.aload_n 0, 1) := by decide +kernel
theorem dX12_image_28 : decode cX12_image 28 = .ok (.iconst 1, 1) := by decide +kernel
theorem dX12_image_29 : decode cX12_image 29 = .ok (.putfield 339, 3) := by decide +kernel
theorem dX12_image_32 : decode cX12_image 32 = .ok (.aload_n 0, 1) := by decide +kernel
theorem dX12_image_33 : decode cX12_image 33 = .ok (.getfield 9, 3) := by decide +kernel
theorem dX12_image_36 : decode cX12_image 36 = .ok (.iconst 0, 1) := by decide +kernel
theorem dX12_image_37 : decode cX12_image 37 = .ok (.iaload, 1) := by decide +kernel
theorem dX12_image_38 : decode cX12_image 38 = .ok (.ireturn, 1) := by decide +kernel
theorem dX12_undo_0 : decode cX12_undo 0 = .ok (.aload_n 0, 1) := by decide +kernel
theorem dX12_undo_1 : decode cX12_undo 1 = .ok (.getfield 339, 3) := by decide +kernel
theorem dX12_undo_4 : decode cX12_undo 4 = .ok (.ifCond .ne 6, 3) := by decide +kernel
theorem dX12_undo_7 : decode cX12_undo 7 = .ok (.bipush (-3), 2) := by decide +kernel
theorem dX12_undo_9 : decode cX12_undo 9 = .ok (.ireturn, 1) := by decide +kernel
theorem dX12_undo_10 : decode cX12_undo 10 = .ok (.iconst 0, 1) := by decide +kernel
theorem dX12_undo_11 : decode cX12_undo 11 = .ok (.istore_n 1, 1) := by decide +kernel
theorem dX12_undo_12 : decode cX12_undo 12 = .ok (.iload_n 1, 1) := by decide +kernel
theorem dX12_undo_13 : decode cX12_undo 13 = .ok (.sipush 1055, 3) := by decide +kernel
theorem dX12_undo_16 : decode cX12_undo 16 = .ok (.if_icmp .ge 21, 3) := by decide +kernel
theorem dX12_undo_19 : decode cX12_undo 19 = .ok (.aload_n 0, 1) := by decide +kernel
theorem dX12_undo_20 : decode cX12_undo 20 = .ok (.getfield 9, 3) := by decide +kernel
theorem dX12_undo_23 : decode cX12_undo 23 = .ok (.iload_n 1, 1) := by decide +kernel
theorem dX12_undo_24 : decode cX12_undo 24 = .ok (.aload_n 0, 1) := by decide +kernel
theorem dX12_undo_25 : decode cX12_undo 25 = .ok (.getfield 15, 3) := by decide +kernel
theorem dX12_undo_28 : decode cX12_undo 28 = .ok (.iload_n 1, 1) := by decide +kernel
theorem dX12_undo_29 : decode cX12_undo 29 = .ok (.iaload, 1) := by decide +kernel
theorem dX12_undo_30 : decode cX12_undo 30 = .ok (.iastore, 1) := by decide +kernel
theorem dX12_undo_31 : decode cX12_undo 31 = .ok (.iinc 1 1, 3) := by decide +kernel
theorem dX12_undo_34 : decode cX12_undo 34 = .ok (.goto (-22), 3) := by decide +kernel
theorem dX12_undo_37 : decode cX12_undo 37 = .ok (.aload_n 0, 1) := by decide +kernel
theorem dX12_undo_38 : decode cX12_undo 38 = .ok (.getfield 9, 3) := by decide +kernel
theorem dX12_undo_41 : decode cX12_undo 41 = .ok (.iconst 0, 1) := by decide +kernel
theorem dX12_undo_42 : decode cX12_undo 42 = .ok (.iaload, 1) := by decide +kernel
theorem dX12_undo_43 : decode cX12_undo 43 = .ok (.ireturn, 1) := by decide +kernel
theorem dX12_count_0 : decode cX12_count 0 = .ok (.iload_n 1, 1) := by decide +kernel
theorem dX12_count_1 : decode cX12_count 1 = .ok (.tableswitch 79 0 5 #[39, 46, 53, 60, 67, 74], 39) := by decide +kernel
theorem dX12_count_40 : decode cX12_count 40 = .ok (.aload_n 0, 1) := by decide +kernel
theorem dX12_count_41 : decode cX12_count 41 = .ok (.getfield 9, 3) := by decide +kernel
theorem dX12_count_44 : decode cX12_count 44 = .ok (.iconst 0, 1) := by decide +kernel
theorem dX12_count_45 : decode cX12_count 45 = .ok (.iaload, 1) := by decide +kernel
theorem dX12_count_46 : decode cX12_count 46 = .ok (.ireturn, 1) := by decide +kernel
theorem dX12_count_47 : decode cX12_count 47 = .ok (.aload_n 0, 1) := by decide +kernel
theorem dX12_count_48 : decode cX12_count 48 = .ok (.getfield 9, 3) := by decide +kernel
theorem dX12_count_51 : decode cX12_count 51 = .ok (.iconst 1, 1) := by decide +kernel
theorem dX12_count_52 : decode cX12_count 52 = .ok (.iaload, 1) := by decide +kernel
theorem dX12_count_53 : decode cX12_count 53 = .ok (.ireturn, 1) := by decide +kernel
theorem dX12_count_54 : decode cX12_count 54 = .ok (.aload_n 0, 1) := by decide +kernel
theorem dX12_count_55 : decode cX12_count 55 = .ok (.getfield 9, 3) := by decide +kernel
theorem dX12_count_58 : decode cX12_count 58 = .ok (.iconst 2, 1) := by decide +kernel
theorem dX12_count_59 : decode cX12_count 59 = .ok (.iaload, 1) := by decide +kernel
theorem dX12_count_60 : decode cX12_count 60 = .ok (.ireturn, 1) := by decide +kernel
theorem dX12_count_61 : decode cX12_count 61 = .ok (.aload_n 0, 1) := by decide +kernel
theorem dX12_count_62 : decode cX12_count 62 = .ok (.getfield 9, 3) := by decide +kernel
theorem dX12_count_65 : decode cX12_count 65 = .ok (.iconst 3, 1) := by decide +kernel
theorem dX12_count_66 : decode cX12_count 66 = .ok (.iaload, 1) := by decide +kernel
theorem dX12_count_67 : decode cX12_count 67 = .ok (.ireturn, 1) := by decide +kernel
theorem dX12_count_68 : decode cX12_count 68 = .ok (.aload_n 0, 1) := by decide +kernel
theorem dX12_count_69 : decode cX12_count 69 = .ok (.getfield 9, 3) := by decide +kernel
theorem dX12_count_72 : decode cX12_count 72 = .ok (.iconst 4, 1) := by decide +kernel
theorem dX12_count_73 : decode cX12_count 73 = .ok (.iaload, 1) := by decide +kernel
theorem dX12_count_74 : decode cX12_count 74 = .ok (.ireturn, 1) := by decide +kernel
theorem dX12_count_75 : decode cX12_count 75 = .ok (.aload_n 0, 1) := by decide +kernel
theorem dX12_count_76 : decode cX12_count 76 = .ok (.getfield 303, 3) := by decide +kernel
theorem dX12_count_79 : decode cX12_count 79 = .ok (.ireturn, 1) := by decide +kernel
theorem dX12_count_80 : decode cX12_count 80 = .ok (.iconst (-1), 1) := by decide +kernel
theorem dX12_count_81 : decode cX12_count 81 = .ok (.ireturn, 1) := by decide +kernel
