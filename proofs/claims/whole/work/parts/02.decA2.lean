theorem dX11_go_10 : decode cX11_go 10 = .ok (.iload_n 2, 1) := by decide +kernel
theorem dX11_go_11 : decode cX11_go 11 = .ok (.invokestatic 80, 3) := by decide +kernel
theorem dX11_go_14 : decode cX11_go 14 = .ok (.ifCond .ne 6, 3) := by decide +kernel
theorem dX11_go_17 : decode cX11_go 17 = .ok (.bipush (-12), 2) := by decide +kernel
theorem dX11_go_19 : decode cX11_go 19 = .ok (.ireturn, 1) := by decide +kernel
theorem dX11_go_20 : decode cX11_go 20 = .ok (.aload_n 0, 1) := by decide +kernel
theorem dX11_go_21 : decode cX11_go 21 = .ok (.invokevirtual 136, 3) := by decide +kernel
theorem dX11_go_24 : decode cX11_go 24 = .ok (.ifCond .eq 19, 3) := by decide +kernel
theorem dX11_go_27 : decode cX11_go 27 = .ok (.aload_n 0, 1) := by decide +kernel
theorem dX11_go_28 : decode cX11_go 28 = .ok (.getfield 20, 3) := by decide +kernel
theorem dX11_go_31 : decode cX11_go 31 = .ok (.getfield 126, 3) := by decide +kernel
theorem dX11_go_34 : decode cX11_go 34 = .ok (.getfield 143, 3) := by decide +kernel
theorem dX11_go_37 : decode cX11_go 37 = .ok (.sipush 999, 3) := by decide +kernel
theorem dX11_go_40 : decode cX11_go 40 = .ok (.if_icmp .lt 6, 3) := by decide +kernel
theorem dX11_go_43 : decode cX11_go 43 = .ok (.bipush (-13), 2) := by decide +kernel
theorem dX11_go_45 : decode cX11_go 45 = .ok (.ireturn, 1) := by decide +kernel
theorem dX11_go_46 : decode cX11_go 46 = .ok (.aload_n 0, 1) := by decide +kernel
theorem dX11_go_47 : decode cX11_go 47 = .ok (.getfield 20, 3) := by decide +kernel
theorem dX11_go_50 : decode cX11_go 50 = .ok (.getfield 126, 3) := by decide +kernel
theorem dX11_go_53 : decode cX11_go 53 = .ok (.aload_n 0, 1) := by decide +kernel
theorem dX11_go_54 : decode cX11_go 54 = .ok (.getfield 13, 3) := by decide +kernel
theorem dX11_go_57 : decode cX11_go 57 = .ok (.aload_n 0, 1) := by decide +kernel
theorem dX11_go_58 : decode cX11_go 58 = .ok (.getfield 20, 3) := by decide +kernel
theorem dX11_go_61 : decode cX11_go 61 = .ok (.getfield 126, 3) := by decide +kernel
theorem dX11_go_64 : decode cX11_go 64 = .ok (.getfield 140, 3) := by decide +kernel
theorem dX11_go_67 : decode cX11_go 67 = .ok (.aaload, 1) := by decide +kernel
theorem dX11_go_68 : decode cX11_go 68 = .ok (.iload_n 1, 1) := by decide +kernel
theorem dX11_go_69 : decode cX11_go 69 = .ok (.iload_n 2, 1) := by decide +kernel
theorem dX11_go_70 : decode cX11_go 70 = .ok (.invokevirtual 159, 3) := by decide +kernel
theorem dX11_go_73 : decode cX11_go 73 = .ok (.ireturn, 1) := by decide +kernel
theorem dX11_rule_0 : decode cX11_rule 0 = .ok (.iload_n 1, 1) := by decide +kernel
theorem dX11_rule_1 : decode cX11_rule 1 = .ok (.iconst 0, 1) := by decide +kernel
theorem dX11_rule_2 : decode cX11_rule 2 = .ok (.bipush 6, 2) := by decide +kernel
theorem dX11_rule_4 : decode cX11_rule 4 = .ok (.invokestatic 49, 3) := by decide +kernel
theorem dX11_rule_7 : decode cX11_rule 7 = .ok (.ifCond .ne 5, 3) := by decide +kernel
theorem dX11_rule_10 : decode cX11_rule 10 = .ok (.iconst (-1), 1) := by decide +kernel
theorem dX11_rule_11 : decode cX11_rule 11 = .ok (.ireturn, 1) := by decide +kernel
theorem dX11_rule_12 : decode cX11_rule 12 = .ok (.iload_n 2, 1) := by decide +kernel
theorem dX11_rule_13 : decode cX11_rule 13 = .ok (.iconst 0, 1) := by decide +kernel
theorem dX11_rule_14 : decode cX11_rule 14 = .ok (.bipush 7, 2) := by decide +kernel
theorem dX11_rule_16 : decode cX11_rule 16 = .ok (.invokestatic 49, 3) := by decide +kernel
theorem dX11_rule_19 : decode cX11_rule 19 = .ok (.ifCond .ne 6, 3) := by decide +kernel
theorem dX11_rule_22 : decode cX11_rule 22 = .ok (.bipush (-2), 2) := by decide +kernel
theorem dX11_rule_24 : decode cX11_rule 24 = .ok (.ireturn, 1) := by decide +kernel
theorem dX11_rule_25 : decode cX11_rule 25 = .ok (.aload_n 0, 1) := by decide +kernel
theorem dX11_rule_26 : decode cX11_rule 26 = .ok (.getfield 20, 3) := by decide +kernel
theorem dX11_rule_29 : decode cX11_rule 29 = .ok (.getfield 165, 3) := by decide +kernel
theorem dX11_rule_32 : decode cX11_rule 32 = .ok (.getfield 169, 3) := by decide +kernel
theorem dX11_rule_35 : decode cX11_rule 35 = .ok (.bipush 10, 2) := by decide +kernel
theorem dX11_rule_37 : decode cX11_rule 37 = .ok (.if_icmp .lt 6, 3) := by decide +kernel
theorem dX11_rule_40 : decode cX11_rule 40 = .ok (.bipush (-4), 2) := by decide +kernel
theorem dX11_rule_42 : decode cX11_rule 42 = .ok (.ireturn, 1) := by decide +kernel
theorem dX11_rule_43 : decode cX11_rule 43 = .ok (.aload_n 0, 1) := by decide +kernel
theorem dX11_rule_44 : decode cX11_rule 44 = .ok (.getfield 20, 3) := by decide +kernel
theorem dX11_rule_47 : decode cX11_rule 47 = .ok (.getfield 165, 3) := by decide +kernel
theorem dX11_rule_50 : decode cX11_rule 50 = .ok (.iload_n 1, 1) := by decide +kernel
theorem dX11_rule_51 : decode cX11_rule 51 = .ok (.iload_n 2, 1) := by decide +kernel
theorem dX11_rule_52 : decode cX11_rule 52 = .ok (.invokevirtual 170, 3) := by decide +kernel
theorem dX11_rule_55 : decode cX11_rule 55 = .ok (.ireturn, 1) := by decide +kernel
theorem dX11_row_0 : decode cX11_row 0 = .ok (.aload_n 0, 1) := by decide +kernel
theorem dX11_row_1 : decode cX11_row 1 = .ok (.iload_n 1, 1) := by decide +kernel
theorem dX11_row_2 : decode cX11_row 2 = .ok (.invokevirtual 172, 3) := by decide +kernel
theorem dX11_row_5 : decode cX11_row 5 = .ok (.ifCond .ne 5, 3) := by decide +kernel
theorem dX11_row_8 : decode cX11_row 8 = .ok (.iconst (-1), 1) := by decide +kernel
theorem dX11_row_9 : decode cX11_row 9 = .ok (.ireturn, 1) := by decide +kernel
theorem dX11_row_10 : decode cX11_row 10 = .ok (.iload_n 2, 1) := by decide +kernel
theorem dX11_row_11 : decode cX11_row 11 = .ok (.invokestatic 80, 3) := by decide +kernel
theorem dX11_row_14 : decode cX11_row 14 = .ok (.ifCond .ne 6, 3) := by decide +kernel
theorem dX11_row_17 : decode cX11_row 17 = .ok (.bipush (-2), 2) := by decide +kernel
theorem dX11_row_19 : decode cX11_row 19 = .ok (.ireturn, 1) := by decide +kernel
theorem dX11_row_20 : decode cX11_row 20 = .ok (.aload_n 0, 1) := by decide +kernel
theorem dX11_row_21 : decode cX11_row 21 = .ok (.getfield 20, 3) := by decide +kernel
theorem dX11_row_24 : decode cX11_row 24 = .ok (.getfield 165, 3) := by decide +kernel
theorem dX11_row_27 : decode cX11_row 27 = .ok (.getfield 175, 3) := by decide +kernel
theorem dX11_row_30 : decode cX11_row 30 = .ok (.iload_n 1, 1) := by decide +kernel
theorem dX11_row_31 : decode cX11_row 31 = .ok (.iaload, 1) := by decide +kernel
theorem dX11_row_32 : decode cX11_row 32 = .ok (.bipush 6, 2) := by decide +kernel
theorem dX11_row_34 : decode cX11_row 34 = .ok (.if_icmp .eq 6, 3) := by decide +kernel
theorem dX11_row_37 : decode cX11_row 37 = .ok (.bipush (-3), 2) := by decide +kernel
theorem dX11_row_39 : decode cX11_row 39 = .ok (.ireturn, 1) := by decide +kernel
theorem dX11_row_40 : decode cX11_row 40 = .ok (.aload_n 0, 1) := by decide +kernel
theorem dX11_row_41 : decode cX11_row 41 = .ok (.getfield 20, 3) := by decide +kernel
theorem dX11_row_44 : decode cX11_row 44 = .ok (.getfield 165, 3) := by decide +kernel
theorem dX11_row_47 : decode cX11_row 47 = .ok (.getfield 179, 3) := by decide +kernel
theorem dX11_row_50 : decode cX11_row 50 = .ok (.iload_n 1, 1) := by decide +kernel
theorem dX11_row_51 : decode cX11_row 51 = .ok (.iaload, 1) := by decide +kernel
theorem dX11_row_52 : decode cX11_row 52 = .ok (.bipush 10, 2) := by decide +kernel
theorem dX11_row_54 : decode cX11_row 54 = .ok (.if_icmp .lt 6, 3) := by decide +kernel
theorem dX11_row_57 : decode cX11_row 57 = .ok (.bipush (-4), 2) := by decide +kernel
theorem dX11_row_59 : decode cX11_row 59 = .ok (.ireturn, 1) := by decide +kernel
theorem dX11_row_60 : decode cX11_row 60 = .ok (.aload_n 0, 1) := by decide +kernel
theorem dX11_row_61 : decode cX11_row 61 = .ok (.getfield 20, 3) := by decide +kernel
theorem dX11_row_64 : decode cX11_row 64 = .ok (.getfield 165, 3) := by decide +kernel
theorem dX11_row_67 : decode cX11_row 67 = .ok (.iload_n 1, 1) := by decide +kernel
theorem dX11_row_68 : decode cX11_row 68 = .ok (.iload_n 2, 1) := by decide +kernel
theorem dX11_row_69 : decode cX11_row 69 = .ok (.invokevirtual 182, 3) := by decide +kernel
theorem dX11_row_72 : decode cX11_row 72 = .ok (.ireturn, 1) := by decide +kernel
theorem dX11_sets_0 : decode cX11_sets 0 = .ok (.aload_n 0, 1) := by decide +kernel
theorem dX11_sets_1 : decode cX11_sets 1 = .ok (.iload_n 1, 1) := by decide +kernel
theorem dX11_sets_2 : decode cX11_sets 2 = .ok (.invokevirtual 172, 3) := by decide +kernel
theorem dX11_sets_5 : decode cX11_sets 5 = .ok (.ifCond .eq 19, 3) := by decide +kernel
theorem dX11_sets_8 : decode cX11_sets 8 = .ok (.iload 4, 2) := by decide +kernel
theorem dX11_sets_10 : decode cX11_sets 10 = .ok (.invokestatic 77, 3) := by decide +kernel
theorem dX11_sets_13 : decode cX11_sets 13 = .ok (.ifCond .eq 11, 3) := by decide +kernel
theorem dX11_sets_16 : decode cX11_sets 16 = .ok (.iload 5, 2) := by decide +kernel
theorem dX11_sets_18 : decode cX11_sets 18 = .ok (.invokestatic 77, 3) := by decide +kernel
theorem dX11_sets_21 : decode cX11_sets 21 = .ok (.ifCond .ne 5, 3) := by decide +kernel
theorem dX11_sets_24 : decode cX11_sets 24 = .ok (.iconst (-1), 1) := by decide +kernel
theorem dX11_sets_25 : decode cX11_sets 25 = .ok (.ireturn, 1) := by decide +kernel
theorem dX11_sets_26 : decode cX11_sets 26 = .ok (.iload_n 2, 1) := by decide +kernel
theorem dX11_sets_27 : decode cX11_sets 27 = .ok (.iconst 0, 1) := by decide +kernel
theorem dX11_sets_28 : decode cX11_sets 28 = .ok (.bipush 9, 2) := by decide +kernel
theorem dX11_sets_30 : decode cX11_sets 30 = .ok (.invokestatic 49, 3) := by decide +kernel
theorem dX11_sets_33 : decode cX11_sets 33 = .ok (.ifCond .eq 13, 3) := by decide +kernel
theorem dX11_sets_36 : decode cX11_sets 36 = .ok (.iload_n 3, 1) := by decide +kernel
theorem dX11_sets_37 : decode cX11_sets 37 = .ok (.iconst 1, 1) := by decide +kernel
theorem dX11_sets_38 : decode cX11_sets 38 = .ok (.bipush 6, 2) := by decide +kernel
theorem dX11_sets_40 : decode cX11_sets 40 = .ok (.invokestatic 49, 3) := by decide +kernel
theorem dX11_sets_43 : decode cX11_sets 43 = .ok (.ifCond .ne 6, 3) := by decide +kernel
theorem dX11_sets_46 : decode cX11_sets 46 = .ok (.bipush (-2), 2) := by decide +kernel
theorem dX11_sets_48 : decode cX11_sets 48 = .ok (.ireturn, 1) := by decide +kernel
theorem dX11_sets_49 : decode cX11_sets 49 = .ok (.aload_n 0, 1) := by decide +kernel
theorem dX11_sets_50 : decode cX11_sets 50 = .ok (.invokevirtual 136, 3) := by decide +kernel
theorem dX11_sets_53 : decode cX11_sets 53 = .ok (.ifCond .ne 6, 3) := by decide +kernel
theorem dX11_sets_56 : decode cX11_sets 56 = .ok (.bipush (-3), 2) := by decide +kernel
theorem dX11_sets_58 : decode cX11_sets 58 = .ok (.ireturn, 1) := by decide +kernel
theorem dX11_sets_59 : decode cX11_sets 59 = .ok (.aload_n 0, 1) := by decide +kernel
theorem dX11_sets_60 : decode cX11_sets 60 = .ok (.getfield 37, 3) := by decide +kernel
theorem dX11_sets_63 : decode cX11_sets 63 = .ok (.aload_n 0, 1) := by decide +kernel
theorem dX11_sets_64 : decode cX11_sets 64 = .ok (.getfield 13, 3) := by decide +kernel
theorem dX11_sets_67 : decode cX11_sets 67 = .ok (.aload_n 0, 1) := by decide +kernel
theorem dX11_sets_68 : decode cX11_sets 68 = .ok (.getfield 20, 3) := by decide +kernel
theorem dX11_sets_71 : decode cX11_sets 71 = .ok (.getfield 126, 3) := by decide +kernel
theorem dX11_sets_74 : decode cX11_sets 74 = .ok (.getfield 140, 3) := by decide +kernel
theorem dX11_sets_77 : decode cX11_sets 77 = .ok (.aaload, 1) := by decide +kernel
theorem dX11_sets_78 : decode cX11_sets 78 = .ok (.aload_n 0, 1) := by decide +kernel
theorem dX11_sets_79 : decode cX11_sets 79 = .ok (.getfield 20, 3) := by decide +kernel
theorem dX11_sets_82 : decode cX11_sets 82 = .ok (.getfield 111, 3) := by decide +kernel
theorem dX11_sets_85 : decode cX11_sets 85 = .ok (.invokevirtual 185, 3) := by decide +kernel
theorem dX11_sets_88 : decode cX11_sets 88 = .ok (.aload_n 0, 1) := by decide +kernel
theorem dX11_sets_89 : decode cX11_sets 89 = .ok (.getfield 37, 3) := by decide +kernel
theorem dX11_sets_92 : decode cX11_sets 92 = .ok (.aload_n 0, 1) := by decide +kernel
theorem dX11_sets_93 : decode cX11_sets 93 = .ok (.getfield 20, 3) := by decide +kernel
theorem dX11_sets_96 : decode cX11_sets 96 = .ok (.getfield 165, 3) := by decide +kernel
theorem dX11_sets_99 : decode cX11_sets 99 = .ok (.iload_n 1, 1) := by decide +kernel
theorem dX11_sets_100 : decode cX11_sets 100 = .ok (.invokevirtual 188, 3) := by decide +kernel
theorem dX11_sets_103 : decode cX11_sets 103 = .ok (.aload_n 0, 1) := by decide +kernel
theorem dX11_sets_104 : decode cX11_sets 104 = .ok (.getfield 37, 3) := by decide +kernel
theorem dX11_sets_107 : decode cX11_sets 107 = .ok (.iload_n 2, 1) := by decide +kernel
theorem dX11_sets_108 : decode cX11_sets 108 = .ok (.iload_n 3, 1) := by decide +kernel
theorem dX11_sets_109 : decode cX11_sets 109 = .ok (.iload 4, 2) := by decide +kernel
theorem dX11_sets_111 : decode cX11_sets 111 = .ok (.iload 5, 2) := by decide +kernel
theorem dX11_sets_113 : decode cX11_sets 113 = .ok (.aload_n 0, 1) := by decide +kernel
theorem dX11_sets_114 : decode cX11_sets 114 = .ok (.getfield 20, 3) := by decide +kernel
theorem dX11_sets_117 : decode cX11_sets 117 = .ok (.getfield 126, 3) := by decide +kernel
theorem dX11_sets_120 : decode cX11_sets 120 = .ok (.getfield 146, 3) := by decide +kernel
theorem dX11_sets_123 : decode cX11_sets 123 = .ok (.aload_n 0, 1) := by decide +kernel
theorem dX11_sets_124 : decode cX11_sets 124 = .ok (.getfield 20, 3) := by decide +kernel
theorem dX11_sets_127 : decode cX11_sets 127 = .ok (.getfield 126, 3) := by decide +kernel
theorem dX11_sets_130 : decode cX11_sets 130 = .ok (.getfield 149, 3) := by decide +kernel
theorem dX11_sets_133 : decode cX11_sets 133 = .ok (.invokevirtual 192, 3) := by decide +kernel
theorem dX11_sets_136 : decode cX11_sets 136 = .ok (.ireturn, 1) := by decide +kernel
theorem dX11_mean_0 : decode cX11_mean 0 = .ok (.aload_n 0, 1) := by decide +kernel
theorem dX11_mean_1 : decode cX11_mean 1 = .ok (.iload_n 1, 1) := by decide +kernel
theorem dX11_mean_2 : decode cX11_mean 2 = .ok (.invokevirtual 172, 3) := by decide +kernel
theorem dX11_mean_5 : decode cX11_mean 5 = .ok (.ifCond .eq 20, 3) := by decide +kernel
theorem dX11_mean_8 : decode cX11_mean 8 = .ok (.iload_n 2, 1) := by decide +kernel
theorem dX11_mean_9 : decode cX11_mean 9 = .ok (.iconst 1, 1) := by decide +kernel
theorem dX11_mean_10 : decode cX11_mean 10 = .ok (.bipush 6, 2) := by decide +kernel
theorem dX11_mean_12 : decode cX11_mean 12 = .ok (.invokestatic 49, 3) := by decide +kernel
theorem dX11_mean_15 : decode cX11_mean 15 = .ok (.ifCond .eq 10, 3) := by decide +kernel
theorem dX11_mean_18 : decode cX11_mean 18 = .ok (.iload_n 3, 1) := by decide +kernel
theorem dX11_mean_19 : decode cX11_mean 19 = .ok (.invokestatic 77, 3) := by decide +kernel
theorem dX11_mean_22 : decode cX11_mean 22 = .ok (.ifCond .ne 7, 3) := by decide +kernel
theorem dX11_mean_25 : decode cX11_mean 25 = .ok (.ldc2_w 196, 3) := by decide +kernel
theorem dX11_mean_28 : decode cX11_mean 28 = .ok (.lreturn, 1) := by decide +kernel
theorem dX11_mean_29 : decode cX11_mean 29 = .ok (.iload 4, 2) := by decide +kernel
theorem dX11_mean_31 : decode cX11_mean 31 = .ok (.iconst 0, 1) := by decide +kernel
theorem dX11_mean_32 : decode cX11_mean 32 = .ok (.iconst 1, 1) := by decide +kernel
theorem dX11_mean_33 : decode cX11_mean 33 = .ok (.invokestatic 49, 3) := by decide +kernel
theorem dX11_mean_36 : decode cX11_mean 36 = .ok (.ifCond .eq 10, 3) := by decide +kernel
theorem dX11_mean_39 : decode cX11_mean 39 = .ok (.aload_n 0, 1) := by decide +kernel
theorem dX11_mean_40 : decode cX11_mean 40 = .ok (.invokevirtual 136, 3) := by decide +kernel
theorem dX11_mean_43 : decode cX11_mean 43 = .ok (.ifCond .ne 7, 3) := by decide +kernel
theorem dX11_mean_46 : decode cX11_mean 46 = .ok (.ldc2_w 196, 3) := by decide +kernel
theorem dX11_mean_49 : decode cX11_mean 49 = .ok (.lreturn, 1) := by decide +kernel
theorem dX11_mean_50 : decode cX11_mean 50 = .ok (.aload_n 0, 1) := by decide +kernel
theorem dX11_mean_51 : decode cX11_mean 51 = .ok (.getfield 20, 3) := by decide +kernel
theorem dX11_mean_54 : decode cX11_mean 54 = .ok (.getfield 126, 3) := by decide +kernel
theorem dX11_mean_57 : decode cX11_mean 57 = .ok (.getfield 155, 3) := by decide +kernel
theorem dX11_mean_60 : decode cX11_mean 60 = .ok (.ifCond .eq 5, 3) := by decide +kernel
theorem dX11_mean_63 : decode cX11_mean 63 = .ok (.lconst 0, 1) := by decide +kernel
theorem dX11_mean_64 : decode cX11_mean 64 = .ok (.lreturn, 1) := by decide +kernel
theorem dX11_mean_65 : decode cX11_mean 65 = .ok (.aload_n 0, 1) := by decide +kernel
theorem dX11_mean_66 : decode cX11_mean 66 = .ok (.getfield 37, 3) := by decide +kernel
theorem dX11_mean_69 : decode cX11_mean 69 = .ok (.aload_n 0, 1) := by decide +kernel
theorem dX11_mean_70 : decode cX11_mean 70 = .ok (.getfield 13, 3) := by decide +kernel
theorem dX11_mean_73 : decode cX11_mean 73 = .ok (.aload_n 0, 1) := by decide +kernel
theorem dX11_mean_74 : decode cX11_mean 74 = .ok (.getfield 20, 3) := by decide +kernel
theorem dX11_mean_77 : decode cX11_mean 77 = .ok (.getfield 126, 3) := by decide +kernel
theorem dX11_mean_80 : decode cX11_mean 80 = .ok (.getfield 140, 3) := by decide +kernel
theorem dX11_mean_83 : decode cX11_mean 83 = .ok (.aaload, 1) := by decide +kernel
theorem dX11_mean_84 : decode cX11_mean 84 = .ok (.aload_n 0, 1) := by decide +kernel
theorem dX11_mean_85 : decode cX11_mean 85 = .ok (.getfield 20, 3) := by decide +kernel
theorem dX11_mean_88 : decode cX11_mean 88 = .ok (.getfield 111, 3) := by decide +kernel
theorem dX11_mean_91 : decode cX11_mean 91 = .ok (.invokevirtual 185, 3) := by decide +kernel
theorem dX11_mean_94 : decode cX11_mean 94 = .ok (.aload_n 0, 1) := by decide +kernel
theorem dX11_mean_95 : decode cX11_mean 95 = .ok (.getfield 37, 3) := by decide +kernel
theorem dX11_mean_98 : decode cX11_mean 98 = .ok (.aload_n 0, 1) := by decide +kernel
theorem dX11_mean_99 : decode cX11_mean 99 = .ok (.getfield 20, 3) := by decide +kernel
theorem dX11_mean_102 : decode cX11_mean 102 = .ok (.getfield 165, 3) := by decide +kernel
theorem dX11_mean_105 : decode cX11_mean 105 = .ok (.iload_n 1, 1) := by decide +kernel
theorem dX11_mean_106 : decode cX11_mean 106 = .ok (.invokevirtual 188, 3) := by decide +kernel
theorem dX11_mean_109 : decode cX11_mean 109 = .ok (.iload 4, 2) := by decide +kernel
theorem dX11_mean_111 : decode cX11_mean 111 = .ok (.ifCond .ne 36, 3) := by decide +kernel
theorem dX11_mean_114 : decode cX11_mean 114 = .ok (.aload_n 0, 1) := by decide +kernel
theorem dX11_mean_115 : decode cX11_mean 115 = .ok (.getfield 37, 3) := by decide +kernel
theorem dX11_mean_118 : decode cX11_mean 118 = .ok (.iload_n 2, 1) := by decide +kernel
theorem dX11_mean_119 : decode cX11_mean 119 = .ok (.iload_n 3, 1) := by decide +kernel
theorem dX11_mean_120 : decode cX11_mean 120 = .ok (.aload_n 0, 1) := by decide +kernel
theorem dX11_mean_121 : decode cX11_mean 121 = .ok (.getfield 20, 3) := by decide +kernel
theorem dX11_mean_124 : decode cX11_mean 124 = .ok (.getfield 126, 3) := by decide +kernel
theorem dX11_mean_127 : decode cX11_mean 127 = .ok (.getfield 146, 3) := by decide +kernel
theorem dX11_mean_130 : decode cX11_mean 130 = .ok (.aload_n 0, 1) := by decide +kernel
theorem dX11_mean_131 : decode cX11_mean 131 = .ok (.getfield 20, 3) := by decide +kernel
theorem dX11_mean_134 : decode cX11_mean 134 = .ok (.getfield 126, 3) := by decide +kernel
theorem dX11_mean_137 : decode cX11_mean 137 = .ok (.getfield 149, 3) := by decide +kernel
theorem dX11_mean_140 : decode cX11_mean 140 = .ok (.invokevirtual 198, 3) := by decide +kernel
theorem dX11_mean_143 : decode cX11_mean 143 = .ok (.i2l, 1) := by decide +kernel
theorem dX11_mean_144 : decode cX11_mean 144 = .ok (.goto 33, 3) := by decide +kernel
theorem dX11_mean_147 : decode cX11_mean 147 = .ok (.aload_n 0, 1) := by decide +kernel
theorem dX11_mean_148 : decode cX11_mean 148 = .ok (.getfield 37, 3) := by decide +kernel
theorem dX11_mean_151 : decode cX11_mean 151 = .ok (.iload_n 2, 1) := by decide +kernel
theorem dX11_mean_152 : decode cX11_mean 152 = .ok (.iload_n 3, 1) := by decide +kernel
theorem dX11_mean_153 : decode cX11_mean 153 = .ok (.aload_n 0, 1) := by decide +kernel
theorem dX11_mean_154 : decode cX11_mean 154 = .ok (.getfield 20, 3) := by decide +kernel
theorem dX11_mean_157 : decode cX11_mean 157 = .ok (.getfield 126, 3) := by decide +kernel
theorem dX11_mean_160 : decode cX11_mean 160 = .ok (.getfield 146, 3) := by decide +kernel
theorem dX11_mean_163 : decode cX11_mean 163 = .ok (.aload_n 0, 1) := by decide +kernel
theorem dX11_mean_164 : decode cX11_mean 164 = .ok (.getfield 20, 3) := by decide +kernel
theorem dX11_mean_167 : decode cX11_mean 167 = .ok (.getfield 126, 3) := by decide +kernel
theorem dX11_mean_170 : decode cX11_mean 170 = .ok (.getfield 149, 3) := by decide +kernel
theorem dX11_mean_173 : decode cX11_mean 173 = .ok (.invokevirtual 201, 3) := by decide +kernel
theorem dX11_mean_176 : decode cX11_mean 176 = .ok (.i2l, 1) := by decide +kernel
theorem dX11_mean_177 : decode cX11_mean 177 = .ok (.lreturn, 1) := by decide +kernel
theorem dX11_best_0 : decode cX11_best 0 = .ok (.iload_n 1, 1) := by decide +kernel
theorem dX11_best_1 : decode cX11_best 1 = .ok (.iconst 1, 1) := by decide +kernel
theorem dX11_best_2 : decode cX11_best 2 = .ok (.bipush 6, 2) := by decide +kernel
theorem dX11_best_4 : decode cX11_best 4 = .ok (.invokestatic 49, 3) := by decide +kernel
theorem dX11_best_7 : decode cX11_best 7 = .ok (.ifCond .eq 26, 3) := by decide +kernel
theorem dX11_best_10 : decode cX11_best 10 = .ok (.iload_n 2, 1) := by decide +kernel
theorem dX11_best_11 : decode cX11_best 11 = .ok (.invokestatic 77, 3) := by decide +kernel
theorem dX11_best_14 : decode cX11_best 14 = .ok (.ifCond .eq 19, 3) := by decide +kernel
theorem dX11_best_17 : decode cX11_best 17 = .ok (.iload_n 3, 1) := by decide +kernel
theorem dX11_best_18 : decode cX11_best 18 = .ok (.iconst 0, 1) := by decide +kernel
theorem dX11_best_19 : decode cX11_best 19 = .ok (.iconst 2, 1) := by decide +kernel
theorem dX11_best_20 : decode cX11_best 20 = .ok (.invokestatic 49, 3) := by decide +kernel
theorem dX11_best_23 : decode cX11_best 23 = .ok (.ifCond .eq 10, 3) := by decide +kernel
theorem dX11_best_26 : decode cX11_best 26 = .ok (.aload_n 0, 1) := by decide +kernel
theorem dX11_best_27 : decode cX11_best 27 = .ok (.invokevirtual 136, 3) := by decide +kernel
theorem dX11_best_30 : decode cX11_best 30 = .ok (.ifCond .ne 7, 3) := by decide +kernel
theorem dX11_best_33 : decode cX11_best 33 = .ok (.ldc2_w 196, 3) := by decide +kernel
theorem dX11_best_36 : decode cX11_best 36 = .ok (.lreturn, 1) := by decide +kernel
theorem dX11_best_37 : decode cX11_best 37 = .ok (.aload_n 0, 1) := by decide +kernel
theorem dX11_best_38 : decode cX11_best 38 = .ok (.getfield 20, 3) := by decide +kernel
theorem dX11_best_41 : decode cX11_best 41 = .ok (.getfield 126, 3) := by decide +kernel
theorem dX11_best_44 : decode cX11_best 44 = .ok (.getfield 155, 3) := by decide +kernel
theorem dX11_best_47 : decode cX11_best 47 = .ok (.ifCond .eq 5, 3) := by decide +kernel
theorem dX11_best_50 : decode cX11_best 50 = .ok (.lconst 0, 1) := by decide +kernel
theorem dX11_best_51 : decode cX11_best 51 = .ok (.lreturn, 1) := by decide +kernel
theorem dX11_best_52 : decode cX11_best 52 = .ok (.aload_n 0, 1) := by decide +kernel
theorem dX11_best_53 : decode cX11_best 53 = .ok (.getfield 20, 3) := by decide +kernel
theorem dX11_best_56 : decode cX11_best 56 = .ok (.getfield 126, 3) := by decide +kernel
theorem dX11_best_59 : decode cX11_best 59 = .ok (.getfield 146, 3) := by decide +kernel
theorem dX11_best_62 : decode cX11_best 62 = .ok (.istore 4, 2) := by decide +kernel
theorem dX11_best_64 : decode cX11_best 64 = .ok (.aload_n 0, 1) := by decide +kernel
theorem dX11_best_65 : decode cX11_best 65 = .ok (.getfield 20, 3) := by decide +kernel
theorem dX11_best_68 : decode cX11_best 68 = .ok (.getfield 126, 3) := by decide +kernel
theorem dX11_best_71 : decode cX11_best 71 = .ok (.getfield 149, 3) := by decide +kernel
theorem dX11_best_74 : decode cX11_best 74 = .ok (.istore 5, 2) := by decide +kernel
theorem dX11_best_76 : decode cX11_best 76 = .ok (.aload_n 0, 1) := by decide +kernel
theorem dX11_best_77 : decode cX11_best 77 = .ok (.getfield 37, 3) := by decide +kernel
theorem dX11_best_80 : decode cX11_best 80 = .ok (.aload_n 0, 1) := by decide +kernel
theorem dX11_best_81 : decode cX11_best 81 = .ok (.getfield 13, 3) := by decide +kernel
theorem dX11_best_84 : decode cX11_best 84 = .ok (.aload_n 0, 1) := by decide +kernel
theorem dX11_best_85 : decode cX11_best 85 = .ok (.getfield 20, 3) := by decide +kernel
theorem dX11_best_88 : decode cX11_best 88 = .ok (.getfield 126, 3) := by decide +kernel
theorem dX11_best_91 : decode cX11_best 91 = .ok (.getfield 140, 3) := by decide +kernel
theorem dX11_best_94 : decode cX11_best 94 = .ok (.aaload, 1) := by decide +kernel
theorem dX11_best_95 : decode cX11_best 95 = .ok (.aload_n 0, 1) := by decide +kernel
theorem dX11_best_96 : decode cX11_best 96 = .ok (.getfield 20, 3) := by decide +kernel
theorem dX11_best_99 : decode cX11_best 99 = .ok (.getfield 111, 3) := by decide +kernel
theorem dX11_best_102 : decode cX11_best 102 = .ok (.invokevirtual 185, 3) := by decide +kernel
theorem dX11_best_105 : decode cX11_best 105 = .ok (.iload_n 3, 1) := by decide +kernel
theorem dX11_best_106 : decode cX11_best 106 = .ok (.lookupswitch 56 #[(0, 26), (1, 41)], 26) := by decide +kernel
theorem dX11_best_132 : decode cX11_best 132 = .ok (.aload_n 0, 1) := by decide +kernel
theorem dX11_best_133 : decode cX11_best 133 = .ok (.getfield 37, 3) := by decide +kernel
theorem dX11_best_136 : decode cX11_best 136 = .ok (.iload_n 1, 1) := by decide +kernel
theorem dX11_best_137 : decode cX11_best 137 = .ok (.iload_n 2, 1) := by decide +kernel
theorem dX11_best_138 : decode cX11_best 138 = .ok (.iload 4, 2) := by decide +kernel
theorem dX11_best_140 : decode cX11_best 140 = .ok (.iload 5, 2) := by decide +kernel
theorem dX11_best_142 : decode cX11_best 142 = .ok (.invokevirtual 204, 3) := by decide +kernel
theorem dX11_best_145 : decode cX11_best 145 = .ok (.i2l, 1) := by decide +kernel
theorem dX11_best_146 : decode cX11_best 146 = .ok (.lreturn, 1) := by decide +kernel
theorem dX11_best_147 : decode cX11_best 147 = .ok (.aload_n 0, 1) := by decide +kernel
theorem dX11_best_148 : decode cX11_best 148 = .ok (.getfield 37, 3) := by decide +kernel
theorem dX11_best_151 : decode cX11_best 151 = .ok (.iload_n 1, 1) := by decide +kernel
theorem dX11_best_152 : decode cX11_best 152 = .ok (.iload_n 2, 1) := by decide +kernel
theorem dX11_best_153 : decode cX11_best 153 = .ok (.iload 4, 2) := by decide +kernel
theorem dX11_best_155 : decode cX11_best 155 = .ok (.iload 5, 2) := by decide +kernel
theorem dX11_best_157 : decode cX11_best 157 = .ok (.invokevirtual 207, 3) := by decide +kernel
theorem dX11_best_160 : decode cX11_best 160 = .ok (.i2l, 1) := by decide +kernel
theorem dX11_best_161 : decode cX11_best 161 = .ok (.lreturn, 1) := by decide +kernel
theorem dX11_best_162 : decode cX11_best 162 = .ok (.aload_n 0, 1) := by decide +kernel
theorem dX11_best_163 : decode cX11_best 163 = .ok (.getfield 37, 3) := by decide +kernel
theorem dX11_best_166 : decode cX11_best 166 = .ok (.iload_n 1, 1) := by decide +kernel
theorem dX11_best_167 : decode cX11_best 167 = .ok (.iload_n 2, 1) := by decide +kernel
theorem dX11_best_168 : decode cX11_best 168 = .ok (.iload 4, 2) := by decide +kernel
theorem dX11_best_170 : decode cX11_best 170 = .ok (.iload 5, 2) := by decide +kernel
theorem dX11_best_172 : decode cX11_best 172 = .ok (.invokevirtual 210, 3) := by decide +kernel
theorem dX11_best_175 : decode cX11_best 175 = .ok (.i2l, 1) := by decide +kernel
theorem dX11_best_176 : decode cX11_best 176 = .ok (.lreturn, 1) := by decide +kernel
theorem dX11_dress_0 : decode cX11_dress 0 = .ok (.iload_n 2, 1) := by decide +kernel
theorem dX11_dress_1 : decode cX11_dress 1 = .ok (.invokestatic 77, 3) := by decide +kernel
theorem dX11_dress_4 : decode cX11_dress 4 = .ok (.ifCond .ne 5, 3) := by decide +kernel
theorem dX11_dress_7 : decode cX11_dress 7 = .ok (.iconst (-1), 1) := by decide +kernel
theorem dX11_dress_8 : decode cX11_dress 8 = .ok (.ireturn, 1) := by decide +kernel
theorem dX11_dress_9 : decode cX11_dress 9 = .ok (.iload_n 1, 1) := by decide +kernel
theorem dX11_dress_10 : decode cX11_dress 10 = .ok (.iconst 1, 1) := by decide +kernel
theorem dX11_dress_11 : decode cX11_dress 11 = .ok (.iconst 4, 1) := by decide +kernel
theorem dX11_dress_12 : decode cX11_dress 12 = .ok (.invokestatic 49, 3) := by decide +kernel
theorem dX11_dress_15 : decode cX11_dress 15 = .ok (.ifCond .ne 6, 3) := by decide +kernel
theorem dX11_dress_18 : decode cX11_dress 18 = .ok (.bipush (-2), 2) := by decide +kernel
theorem dX11_dress_20 : decode cX11_dress 20 = .ok (.ireturn, 1) := by decide +kernel
theorem dX11_dress_21 : decode cX11_dress 21 = .ok (.aload_n 0, 1) := by decide +kernel
theorem dX11_dress_22 : decode cX11_dress 22 = .ok (.invokevirtual 136, 3) := by decide +kernel
theorem dX11_dress_25 : decode cX11_dress 25 = .ok (.ifCond .ne 6, 3) := by decide +kernel
theorem dX11_dress_28 : decode cX11_dress 28 = .ok (.bipush (-3), 2) := by decide +kernel
theorem dX11_dress_30 : decode cX11_dress 30 = .ok (.ireturn, 1) := by decide +kernel
theorem dX11_dress_31 : decode cX11_dress 31 = .ok (.aload_n 0, 1) := by decide +kernel
theorem dX11_dress_32 : decode cX11_dress 32 = .ok (.getfield 20, 3) := by decide +kernel
theorem dX11_dress_35 : decode cX11_dress 35 = .ok (.getfield 126, 3) := by decide +kernel
theorem dX11_dress_38 : decode cX11_dress 38 = .ok (.getfield 155, 3) := by decide +kernel
theorem dX11_dress_41 : decode cX11_dress 41 = .ok (.ifCond .eq 6, 3) := by decide +kernel
theorem dX11_dress_44 : decode cX11_dress 44 = .ok (.bipush (-5), 2) := by decide +kernel
theorem dX11_dress_46 : decode cX11_dress 46 = .ok (.ireturn, 1) := by decide +kernel
theorem dX11_dress_47 : decode cX11_dress 47 = .ok (.aload_n 0, 1) := by decide +kernel
theorem dX11_dress_48 : decode cX11_dress 48 = .ok (.getfield 37, 3) := by decide +kernel
theorem dX11_dress_51 : decode cX11_dress 51 = .ok (.aload_n 0, 1) := by decide +kernel
theorem dX11_dress_52 : decode cX11_dress 52 = .ok (.getfield 13, 3) := by decide +kernel
theorem dX11_dress_55 : decode cX11_dress 55 = .ok (.aload_n 0, 1) := by decide +kernel
theorem dX11_dress_56 : decode cX11_dress 56 = .ok (.getfield 20, 3) := by decide +kernel
theorem dX11_dress_59 : decode cX11_dress 59 = .ok (.getfield 126, 3) := by decide +kernel
theorem dX11_dress_62 : decode cX11_dress 62 = .ok (.getfield 140, 3) := by decide +kernel
theorem dX11_dress_65 : decode cX11_dress 65 = .ok (.aaload, 1) := by decide +kernel
theorem dX11_dress_66 : decode cX11_dress 66 = .ok (.aload_n 0, 1) := by decide +kernel
theorem dX11_dress_67 : decode cX11_dress 67 = .ok (.getfield 20, 3) := by decide +kernel
theorem dX11_dress_70 : decode cX11_dress 70 = .ok (.getfield 111, 3) := by decide +kernel
theorem dX11_dress_73 : decode cX11_dress 73 = .ok (.invokevirtual 185, 3) := by decide +kernel
theorem dX11_dress_76 : decode cX11_dress 76 = .ok (.aload_n 0, 1) := by decide +kernel
theorem dX11_dress_77 : decode cX11_dress 77 = .ok (.getfield 37, 3) := by decide +kernel
theorem dX11_dress_80 : decode cX11_dress 80 = .ok (.iload_n 1, 1) := by decide +kernel
theorem dX11_dress_81 : decode cX11_dress 81 = .ok (.iload_n 2, 1) := by decide +kernel
theorem dX11_dress_82 : decode cX11_dress 82 = .ok (.aload_n 0, 1) := by decide +kernel
theorem dX11_dress_83 : decode cX11_dress 83 = .ok (.getfield 20, 3) := by decide +kernel
theorem dX11_dress_86 : decode cX11_dress 86 = .ok (.getfield 126, 3) := by decide +kernel
theorem dX11_dress_89 : decode cX11_dress 89 = .ok (.getfield 146, 3) := by decide +kernel
theorem dX11_dress_92 : decode cX11_dress 92 = .ok (.aload_n 0, 1) := by decide +kernel
theorem dX11_dress_93 : decode cX11_dress 93 = .ok (.getfield 20, 3) := by decide +kernel
theorem dX11_dress_96 : decode cX11_dress 96 = .ok (.getfield 126, 3) := by decide +kernel
theorem dX11_dress_99 : decode cX11_dress 99 = .ok (.getfield 149, 3) := by decide +kernel
theorem dX11_dress_102 : decode cX11_dress 102 = .ok (.invokevirtual 213, 3) := by decide +kernel
theorem dX11_dress_105 : decode cX11_dress 105 = .ok (.ireturn, 1) := by decide +kernel
theorem dX11_day_0 : decode cX11_day 0 = .ok (.iload_n 1, 1) := by decide +kernel
theorem dX11_day_1 : decode cX11_day 1 = .ok (.iconst (-1), 1) := by decide +kernel
theorem dX11_day_2 : decode cX11_day 2 = .ok (.if_icmp .ne 16, 3) := by decide +kernel
theorem dX11_day_5 : decode cX11_day 5 = .ok (.aload_n 0, 1) := by decide +kernel
theorem dX11_day_6 : decode cX11_day 6 = .ok (.getfield 20, 3) := by decide +kernel
theorem dX11_day_9 : decode cX11_day 9 = .ok (.getfield 216, 3) := by decide +kernel
theorem dX11_day_12 : decode cX11_day 12 = .ok (.iconst 0, 1) := by decide +kernel
theorem dX11_day_13 : decode cX11_day 13 = .ok (.putfield 220, 3) := by decide +kernel
theorem dX11_day_16 : decode cX11_day 16 = .ok (.iconst 0, 1) := by decide +kernel
theorem dX11_day_17 : decode cX11_day 17 = .ok (.ireturn, 1) := by decide +kernel
theorem dX11_day_18 : decode cX11_day 18 = .ok (.iload_n 1, 1) := by decide +kernel
theorem dX11_day_19 : decode cX11_day 19 = .ok (.invokestatic 77, 3) := by decide +kernel
theorem dX11_day_22 : decode cX11_day 22 = .ok (.ifCond .ne 5, 3) := by decide +kernel
theorem dX11_day_25 : decode cX11_day 25 = .ok (.iconst (-1), 1) := by decide +kernel
theorem dX11_day_26 : decode cX11_day 26 = .ok (.ireturn, 1) := by decide +kernel
theorem dX11_day_27 : decode cX11_day 27 = .ok (.iload_n 2, 1) := by decide +kernel
theorem dX11_day_28 : decode cX11_day 28 = .ok (.invokestatic 80, 3) := by decide +kernel
theorem dX11_day_31 : decode cX11_day 31 = .ok (.ifCond .ne 6, 3) := by decide +kernel
theorem dX11_day_34 : decode cX11_day 34 = .ok (.bipush (-2), 2) := by decide +kernel
theorem dX11_day_36 : decode cX11_day 36 = .ok (.ireturn, 1) := by decide +kernel
theorem dX11_day_37 : decode cX11_day 37 = .ok (.aload_n 0, 1) := by decide +kernel
theorem dX11_day_38 : decode cX11_day 38 = .ok (.getfield 20, 3) := by decide +kernel
theorem dX11_day_41 : decode cX11_day 41 = .ok (.getfield 216, 3) := by decide +kernel
theorem dX11_day_44 : decode cX11_day 44 = .ok (.getfield 220, 3) := by decide +kernel
theorem dX11_day_47 : decode cX11_day 47 = .ok (.bipush 10, 2) := by decide +kernel
theorem dX11_day_49 : decode cX11_day 49 = .ok (.if_icmp .lt 6, 3) := by decide +kernel
theorem dX11_day_52 : decode cX11_day 52 = .ok (.bipush (-4), 2) := by decide +kernel
theorem dX11_day_54 : decode cX11_day 54 = .ok (.ireturn, 1) := by decide +kernel
theorem dX11_day_55 : decode cX11_day 55 = .ok (.aload_n 0, 1) := by decide +kernel
theorem dX11_day_56 : decode cX11_day 56 = .ok (.getfield 20, 3) := by decide +kernel
theorem dX11_day_59 : decode cX11_day 59 = .ok (.getfield 216, 3) := by decide +kernel
theorem dX11_day_62 : decode cX11_day 62 = .ok (.iload_n 1, 1) := by decide +kernel
theorem dX11_day_63 : decode cX11_day 63 = .ok (.iload_n 2, 1) := by decide +kernel
theorem dX11_day_64 : decode cX11_day 64 = .ok (.invokevirtual 223, 3) := by decide +kernel
theorem dX11_day_67 : decode cX11_day 67 = .ok (.ireturn, 1) := by decide +kernel
theorem dX11_judged_0 : decode cX11_judged 0 = .ok (.iload_n 1, 1) := by decide +kernel
theorem dX11_judged_1 : decode cX11_judged 1 = .ok (.iconst 0, 1) := by decide +kernel
theorem dX11_judged_2 : decode cX11_judged 2 = .ok (.iconst 3, 1) := by decide +kernel
theorem dX11_judged_3 : decode cX11_judged 3 = .ok (.invokestatic 49, 3) := by decide +kernel
theorem dX11_judged_6 : decode cX11_judged 6 = .ok (.ifCond .ne 5, 3) := by decide +kernel
theorem dX11_judged_9 : decode cX11_judged 9 = .ok (.iconst (-1), 1) := by decide +kernel
theorem dX11_judged_10 : decode cX11_judged 10 = .ok (.ireturn, 1) := by decide +kernel
theorem dX11_judged_11 : decode cX11_judged 11 = .ok (.aload_n 0, 1) := by decide +kernel
theorem dX11_judged_12 : decode cX11_judged 12 = .ok (.invokevirtual 136, 3) := by decide +kernel
theorem dX11_judged_15 : decode cX11_judged 15 = .ok (.ifCond .eq 16, 3) := by decide +kernel
theorem dX11_judged_18 : decode cX11_judged 18 = .ok (.aload_n 0, 1) := by decide +kernel
theorem dX11_judged_19 : decode cX11_judged 19 = .ok (.getfield 20, 3) := by decide +kernel
theorem dX11_judged_22 : decode cX11_judged 22 = .ok (.getfield 126, 3) := by decide +kernel
theorem dX11_judged_25 : decode cX11_judged 25 = .ok (.getfield 155, 3) := by decide +kernel
theorem dX11_judged_28 : decode cX11_judged 28 = .ok (.ifCond .eq 6, 3) := by decide +kernel
theorem dX11_judged_31 : decode cX11_judged 31 = .ok (.bipush (-3), 2) := by decide +kernel
theorem dX11_judged_33 : decode cX11_judged 33 = .ok (.ireturn, 1) := by decide +kernel
theorem dX11_judged_34 : decode cX11_judged 34 = .ok (.aload_n 0, 1) := by decide +kernel
theorem dX11_judged_35 : decode cX11_judged 35 = .ok (.getfield 20, 3) := by decide +kernel
theorem dX11_judged_38 : decode cX11_judged 38 = .ok (.getfield 216, 3) := by decide +kernel
theorem dX11_judged_41 : decode cX11_judged 41 = .ok (.aload_n 0, 1) := by decide +kernel
theorem dX11_judged_42 : decode cX11_judged 42 = .ok (.getfield 13, 3) := by decide +kernel
theorem dX11_judged_45 : decode cX11_judged 45 = .ok (.aload_n 0, 1) := by decide +kernel
theorem dX11_judged_46 : decode cX11_judged 46 = .ok (.getfield 20, 3) := by decide +kernel
theorem dX11_judged_49 : decode cX11_judged 49 = .ok (.getfield 126, 3) := by decide +kernel
theorem dX11_judged_52 : decode cX11_judged 52 = .ok (.getfield 140, 3) := by decide +kernel
theorem dX11_judged_55 : decode cX11_judged 55 = .ok (.aaload, 1) := by decide +kernel
theorem dX11_judged_56 : decode cX11_judged 56 = .ok (.aload_n 0, 1) := by decide +kernel
theorem dX11_judged_57 : decode cX11_judged 57 = .ok (.getfield 20, 3) := by decide +kernel
theorem dX11_judged_60 : decode cX11_judged 60 = .ok (.getfield 126, 3) := by decide +kernel
theorem dX11_judged_63 : decode cX11_judged 63 = .ok (.getfield 146, 3) := by decide +kernel
theorem dX11_judged_66 : decode cX11_judged 66 = .ok (.aload_n 0, 1) := by decide +kernel
theorem dX11_judged_67 : decode cX11_judged 67 = .ok (.getfield 20, 3) := by decide +kernel
theorem dX11_judged_70 : decode cX11_judged 70 = .ok (.getfield 126, 3) := by decide +kernel
theorem dX11_judged_73 : decode cX11_judged 73 = .ok (.getfield 149, 3) := by decide +kernel
theorem dX11_judged_76 : decode cX11_judged 76 = .ok (.iload_n 1, 1) := by decide +kernel
theorem dX11_judged_77 : decode cX11_judged 77 = .ok (.invokevirtual 224, 3) := by decide +kernel
theorem dX11_judged_80 : decode cX11_judged 80 = .ok (.ireturn, 1) := by decide +kernel
theorem dX11_order_0 : decode cX11_order 0 = .ok (.iload_n 1, 1) := by decide +kernel
theorem dX11_order_1 : decode cX11_order 1 = .ok (.iconst 1, 1) := by decide +kernel
theorem dX11_order_2 : decode cX11_order 2 = .ok (.bipush 20, 2) := by decide +kernel
theorem dX11_order_4 : decode cX11_order 4 = .ok (.invokestatic 49, 3) := by decide +kernel
theorem dX11_order_7 : decode cX11_order 7 = .ok (.ifCond .eq 23, 3) := by decide +kernel
theorem dX11_order_10 : decode cX11_order 10 = .ok (.iload_n 2, 1) := by decide +kernel
theorem dX11_order_11 : decode cX11_order 11 = .ok (.iconst 1, 1) := by decide +kernel
theorem dX11_order_12 : decode cX11_order 12 = .ok (.bipush 99, 2) := by decide +kernel
theorem dX11_order_14 : decode cX11_order 14 = .ok (.invokestatic 49, 3) := by decide +kernel
theorem dX11_order_17 : decode cX11_order 17 = .ok (.ifCond .eq 13, 3) := by decide +kernel
theorem dX11_order_20 : decode cX11_order 20 = .ok (.iload_n 3, 1) := by decide +kernel
theorem dX11_order_21 : decode cX11_order 21 = .ok (.iconst 0, 1) := by decide +kernel
theorem dX11_order_22 : decode cX11_order 22 = .ok (.bipush 99, 2) := by decide +kernel
theorem dX11_order_24 : decode cX11_order 24 = .ok (.invokestatic 49, 3) := by decide +kernel
theorem dX11_order_27 : decode cX11_order 27 = .ok (.ifCond .ne 6, 3) := by decide +kernel
theorem dX11_order_30 : decode cX11_order 30 = .ok (.bipush (-2), 2) := by decide +kernel
theorem dX11_order_32 : decode cX11_order 32 = .ok (.ireturn, 1) := by decide +kernel
theorem dX11_order_33 : decode cX11_order 33 = .ok (.aload_n 0, 1) := by decide +kernel
theorem dX11_order_34 : decode cX11_order 34 = .ok (.getfield 20, 3) := by decide +kernel
theorem dX11_order_37 : decode cX11_order 37 = .ok (.getfield 228, 3) := by decide +kernel
theorem dX11_order_40 : decode cX11_order 40 = .ok (.getfield 232, 3) := by decide +kernel
theorem dX11_order_43 : decode cX11_order 43 = .ok (.bipush 6, 2) := by decide +kernel
theorem dX11_order_45 : decode cX11_order 45 = .ok (.if_icmp .lt 6, 3) := by decide +kernel
theorem dX11_order_48 : decode cX11_order 48 = .ok (.bipush (-4), 2) := by decide +kernel
theorem dX11_order_50 : decode cX11_order 50 = .ok (.ireturn, 1) := by decide +kernel
theorem dX11_order_51 : decode cX11_order 51 = .ok (.aload_n 0, 1) := by decide +kernel
theorem dX11_order_52 : decode cX11_order 52 = .ok (.getfield 20, 3) := by decide +kernel
theorem dX11_order_55 : decode cX11_order 55 = .ok (.getfield 228, 3) := by decide +kernel
theorem dX11_order_58 : decode cX11_order 58 = .ok (.iload_n 1, 1) := by decide +kernel
theorem dX11_order_59 : decode cX11_order 59 = .ok (.iload_n 2, 1) := by decide +kernel
theorem dX11_order_60 : decode cX11_order 60 = .ok (.iload_n 3, 1) := by decide +kernel
theorem dX11_order_61 : decode cX11_order 61 = .ok (.invokevirtual 235, 3) := by decide +kernel
theorem dX11_order_64 : decode cX11_order 64 = .ok (.ireturn, 1) := by decide +kernel
theorem dX11_take_0 : decode cX11_take 0 = .ok (.aload_n 0, 1) := by decide +kernel
theorem dX11_take_1 : decode cX11_take 1 = .ok (.getfield 20, 3) := by decide +kernel
theorem dX11_take_4 : decode cX11_take 4 = .ok (.getfield 228, 3) := by decide +kernel
theorem dX11_take_7 : decode cX11_take 7 = .ok (.invokevirtual 238, 3) := by decide +kernel
theorem dX11_take_10 : decode cX11_take 10 = .ok (.ireturn, 1) := by decide +kernel
theorem dX11_late_0 : decode cX11_late 0 = .ok (.iload_n 1, 1) := by decide +kernel
theorem dX11_late_1 : decode cX11_late 1 = .ok (.iconst 0, 1) := by decide +kernel
theorem dX11_late_2 : decode cX11_late 2 = .ok (.iconst 1, 1) := by decide +kernel
theorem dX11_late_3 : decode cX11_late 3 = .ok (.aload_n 0, 1) := by decide +kernel
theorem dX11_late_4 : decode cX11_late 4 = .ok (.getfield 20, 3) := by decide +kernel
theorem dX11_late_7 : decode cX11_late 7 = .ok (.getfield 228, 3) := by decide +kernel
theorem dX11_late_10 : decode cX11_late 10 = .ok (.getfield 232, 3) := by decide +kernel
theorem dX11_late_13 : decode cX11_late 13 = .ok (.ishl, 1) := by decide +kernel
theorem dX11_late_14 : decode cX11_late 14 = .ok (.iconst 1, 1) := by decide +kernel
theorem dX11_late_15 : decode cX11_late 15 = .ok (.isub, 1) := by decide +kernel
theorem dX11_late_16 : decode cX11_late 16 = .ok (.invokestatic 49, 3) := by decide +kernel
theorem dX11_late_19 : decode cX11_late 19 = .ok (.ifCond .ne 6, 3) := by decide +kernel
theorem dX11_late_22 : decode cX11_late 22 = .ok (.bipush (-2), 2) := by decide +kernel
theorem dX11_late_24 : decode cX11_late 24 = .ok (.ireturn, 1) := by decide +kernel
theorem dX11_late_25 : decode cX11_late 25 = .ok (.aload_n 0, 1) := by decide +kernel
theorem dX11_late_26 : decode cX11_late 26 = .ok (.getfield 20, 3) := by decide +kernel
theorem dX11_late_29 : decode cX11_late 29 = .ok (.getfield 228, 3) := by decide +kernel
theorem dX11_late_32 : decode cX11_late 32 = .ok (.iload_n 1, 1) := by decide +kernel
theorem dX11_late_33 : decode cX11_late 33 = .ok (.invokevirtual 242, 3) := by decide +kernel
theorem dX11_late_36 : decode cX11_late 36 = .ok (.ireturn, 1) := by decide +kernel
theorem dX11_ridge_0 : decode cX11_ridge 0 = .ok (.aload_n 0, 1) := by decide +kernel
theorem dX11_ridge_1 : decode cX11_ridge 1 = .ok (.iload_n 1, 1) := by decide +kernel
theorem dX11_ridge_2 : decode cX11_ridge 2 = .ok (.invokevirtual 73, 3) := by decide +kernel
theorem dX11_ridge_5 : decode cX11_ridge 5 = .ok (.ifCond .eq 37, 3) := by decide +kernel
theorem dX11_ridge_8 : decode cX11_ridge 8 = .ok (.aload_n 0, 1) := by decide +kernel
theorem dX11_ridge_9 : decode cX11_ridge 9 = .ok (.iload_n 2, 1) := by decide +kernel
theorem dX11_ridge_10 : decode cX11_ridge 10 = .ok (.invokevirtual 73, 3) := by decide +kernel
theorem dX11_ridge_13 : decode cX11_ridge 13 = .ok (.ifCond .eq 29, 3) := by decide +kernel
theorem dX11_ridge_16 : decode cX11_ridge 16 = .ok (.aload_n 0, 1) := by decide +kernel
theorem dX11_ridge_17 : decode cX11_ridge 17 = .ok (.iload_n 3, 1) := by decide +kernel
theorem dX11_ridge_18 : decode cX11_ridge 18 = .ok (.invokevirtual 73, 3) := by decide +kernel
theorem dX11_ridge_21 : decode cX11_ridge 21 = .ok (.ifCond .eq 21, 3) := by decide +kernel
theorem dX11_ridge_24 : decode cX11_ridge 24 = .ok (.iload 4, 2) := by decide +kernel
theorem dX11_ridge_26 : decode cX11_ridge 26 = .ok (.invokestatic 77, 3) := by decide +kernel
theorem dX11_ridge_29 : decode cX11_ridge 29 = .ok (.ifCond .eq 13, 3) := by decide +kernel
theorem dX11_ridge_32 : decode cX11_ridge 32 = .ok (.iload 5, 2) := by decide +kernel
theorem dX11_ridge_34 : decode cX11_ridge 34 = .ok (.iconst 0, 1) := by decide +kernel
theorem dX11_ridge_35 : decode cX11_ridge 35 = .ok (.iconst 1, 1) := by decide +kernel
theorem dX11_ridge_36 : decode cX11_ridge 36 = .ok (.invokestatic 49, 3) := by decide +kernel
theorem dX11_ridge_39 : decode cX11_ridge 39 = .ok (.ifCond .ne 5, 3) := by decide +kernel
theorem dX11_ridge_42 : decode cX11_ridge 42 = .ok (.iconst (-1), 1) := by decide +kernel
theorem dX11_ridge_43 : decode cX11_ridge 43 = .ok (.ireturn, 1) := by decide +kernel
theorem dX11_ridge_44 : decode cX11_ridge 44 = .ok (.bipush (-3), 2) := by decide +kernel
theorem dX11_ridge_46 : decode cX11_ridge 46 = .ok (.istore 6, 2) := by decide +kernel
theorem dX11_ridge_48 : decode cX11_ridge 48 = .ok (.bipush (-5), 2) := by decide +kernel
theorem dX11_ridge_50 : decode cX11_ridge 50 = .ok (.istore 7, 2) := by decide +kernel
theorem dX11_ridge_52 : decode cX11_ridge 52 = .ok (.iconst 0, 1) := by decide +kernel
theorem dX11_ridge_53 : decode cX11_ridge 53 = .ok (.istore 8, 2) := by decide +kernel
theorem dX11_ridge_55 : decode cX11_ridge 55 = .ok (.iconst 0, 1) := by decide +kernel
theorem dX11_ridge_56 : decode cX11_ridge 56 = .ok (.istore 9, 2) := by decide +kernel
theorem dX11_ridge_58 : decode cX11_ridge 58 = .ok (.iload 9, 2) := by decide +kernel
theorem dX11_ridge_60 : decode cX11_ridge 60 = .ok (.bipush 64, 2) := by decide +kernel
theorem dX11_ridge_62 : decode cX11_ridge 62 = .ok (.if_icmp .ge 158, 3) := by decide +kernel
theorem dX11_ridge_65 : decode cX11_ridge 65 = .ok (.iload 9, 2) := by decide +kernel
theorem dX11_ridge_67 : decode cX11_ridge 67 = .ok (.bipush 16, 2) := by decide +kernel
theorem dX11_ridge_69 : decode cX11_ridge 69 = .ok (.idiv, 1) := by decide +kernel
theorem dX11_ridge_70 : decode cX11_ridge 70 = .ok (.istore 10, 2) := by decide +kernel
theorem dX11_ridge_72 : decode cX11_ridge 72 = .ok (.iload 9, 2) := by decide +kernel
theorem dX11_ridge_74 : decode cX11_ridge 74 = .ok (.iconst 4, 1) := by decide +kernel
theorem dX11_ridge_75 : decode cX11_ridge 75 = .ok (.idiv, 1) := by decide +kernel
theorem dX11_ridge_76 : decode cX11_ridge 76 = .ok (.iconst 4, 1) := by decide +kernel
theorem dX11_ridge_77 : decode cX11_ridge 77 = .ok (.irem, 1) := by decide +kernel
theorem dX11_ridge_78 : decode cX11_ridge 78 = .ok (.istore 11, 2) := by decide +kernel
theorem dX11_ridge_80 : decode cX11_ridge 80 = .ok (.iload 9, 2) := by decide +kernel
theorem dX11_ridge_82 : decode cX11_ridge 82 = .ok (.iconst 4, 1) := by decide +kernel
theorem dX11_ridge_83 : decode cX11_ridge 83 = .ok (.irem, 1) := by decide +kernel
theorem dX11_ridge_84 : decode cX11_ridge 84 = .ok (.istore 12, 2) := by decide +kernel
theorem dX11_ridge_86 : decode cX11_ridge 86 = .ok (.iconst 0, 1) := by decide +kernel
theorem dX11_ridge_87 : decode cX11_ridge 87 = .ok (.iload 4, 2) := by decide +kernel
theorem dX11_ridge_89 : decode cX11_ridge 89 = .ok (.iload 10, 2) := by decide +kernel
theorem dX11_ridge_91 : decode cX11_ridge 91 = .ok (.isub, 1) := by decide +kernel
theorem dX11_ridge_92 : decode cX11_ridge 92 = .ok (.invokestatic 245, 3) := by decide +kernel
theorem dX11_ridge_95 : decode cX11_ridge 95 = .ok (.istore 13, 2) := by decide +kernel
theorem dX11_ridge_97 : decode cX11_ridge 97 = .ok (.iconst 0, 1) := by decide +kernel
theorem dX11_ridge_98 : decode cX11_ridge 98 = .ok (.iload 4, 2) := by decide +kernel
theorem dX11_ridge_100 : decode cX11_ridge 100 = .ok (.iload 10, 2) := by decide +kernel
theorem dX11_ridge_102 : decode cX11_ridge 102 = .ok (.isub, 1) := by decide +kernel
theorem dX11_ridge_103 : decode cX11_ridge 103 = .ok (.iload 11, 2) := by decide +kernel
theorem dX11_ridge_105 : decode cX11_ridge 105 = .ok (.isub, 1) := by decide +kernel
theorem dX11_ridge_106 : decode cX11_ridge 106 = .ok (.invokestatic 245, 3) := by decide +kernel
theorem dX11_ridge_109 : decode cX11_ridge 109 = .ok (.istore 14, 2) := by decide +kernel
theorem dX11_ridge_111 : decode cX11_ridge 111 = .ok (.aload_n 0, 1) := by decide +kernel
theorem dX11_ridge_112 : decode cX11_ridge 112 = .ok (.iload_n 1, 1) := by decide +kernel
theorem dX11_ridge_113 : decode cX11_ridge 113 = .ok (.iload 4, 2) := by decide +kernel
theorem dX11_ridge_115 : decode cX11_ridge 115 = .ok (.iload 10, 2) := by decide +kernel
theorem dX11_ridge_117 : decode cX11_ridge 117 = .ok (.invokevirtual 250, 3) := by decide +kernel
theorem dX11_ridge_120 : decode cX11_ridge 120 = .ok (.aload_n 0, 1) := by decide +kernel
theorem dX11_ridge_121 : decode cX11_ridge 121 = .ok (.iload_n 2, 1) := by decide +kernel
theorem dX11_ridge_122 : decode cX11_ridge 122 = .ok (.iload 13, 2) := by decide +kernel
theorem dX11_ridge_124 : decode cX11_ridge 124 = .ok (.iload 11, 2) := by decide +kernel
theorem dX11_ridge_126 : decode cX11_ridge 126 = .ok (.invokevirtual 250, 3) := by decide +kernel
theorem dX11_ridge_129 : decode cX11_ridge 129 = .ok (.iadd, 1) := by decide +kernel
theorem dX11_ridge_130 : decode cX11_ridge 130 = .ok (.aload_n 0, 1) := by decide +kernel
theorem dX11_ridge_131 : decode cX11_ridge 131 = .ok (.iload_n 3, 1) := by decide +kernel
theorem dX11_ridge_132 : decode cX11_ridge 132 = .ok (.iload 14, 2) := by decide +kernel
theorem dX11_ridge_134 : decode cX11_ridge 134 = .ok (.iload 12, 2) := by decide +kernel
theorem dX11_ridge_136 : decode cX11_ridge 136 = .ok (.invokevirtual 250, 3) := by decide +kernel
theorem dX11_ridge_139 : decode cX11_ridge 139 = .ok (.iadd, 1) := by decide +kernel
theorem dX11_ridge_140 : decode cX11_ridge 140 = .ok (.istore 15, 2) := by decide +kernel
theorem dX11_ridge_142 : decode cX11_ridge 142 = .ok (.iload 6, 2) := by decide +kernel
theorem dX11_ridge_144 : decode cX11_ridge 144 = .ok (.iload 15, 2) := by decide +kernel
theorem dX11_ridge_146 : decode cX11_ridge 146 = .ok (.invokestatic 245, 3) := by decide +kernel
theorem dX11_ridge_149 : decode cX11_ridge 149 = .ok (.istore 6, 2) := by decide +kernel
theorem dX11_ridge_151 : decode cX11_ridge 151 = .ok (.iload 7, 2) := by decide +kernel
theorem dX11_ridge_153 : decode cX11_ridge 153 = .ok (.bipush (-5), 2) := by decide +kernel
theorem dX11_ridge_155 : decode cX11_ridge 155 = .ok (.if_icmp .ne 59, 3) := by decide +kernel
theorem dX11_ridge_158 : decode cX11_ridge 158 = .ok (.aload_n 0, 1) := by decide +kernel
theorem dX11_ridge_159 : decode cX11_ridge 159 = .ok (.iload_n 1, 1) := by decide +kernel
theorem dX11_ridge_160 : decode cX11_ridge 160 = .ok (.iload 4, 2) := by decide +kernel
theorem dX11_ridge_162 : decode cX11_ridge 162 = .ok (.iload 10, 2) := by decide +kernel
theorem dX11_ridge_164 : decode cX11_ridge 164 = .ok (.invokevirtual 253, 3) := by decide +kernel
theorem dX11_ridge_167 : decode cX11_ridge 167 = .ok (.ifCond .eq 47, 3) := by decide +kernel
theorem dX11_ridge_170 : decode cX11_ridge 170 = .ok (.aload_n 0, 1) := by decide +kernel
theorem dX11_ridge_171 : decode cX11_ridge 171 = .ok (.iload_n 2, 1) := by decide +kernel
theorem dX11_ridge_172 : decode cX11_ridge 172 = .ok (.iload 13, 2) := by decide +kernel
theorem dX11_ridge_174 : decode cX11_ridge 174 = .ok (.iload 11, 2) := by decide +kernel
theorem dX11_ridge_176 : decode cX11_ridge 176 = .ok (.invokevirtual 253, 3) := by decide +kernel
theorem dX11_ridge_179 : decode cX11_ridge 179 = .ok (.ifCond .eq 35, 3) := by decide +kernel
theorem dX11_ridge_182 : decode cX11_ridge 182 = .ok (.aload_n 0, 1) := by decide +kernel
theorem dX11_ridge_183 : decode cX11_ridge 183 = .ok (.iload_n 3, 1) := by decide +kernel
theorem dX11_ridge_184 : decode cX11_ridge 184 = .ok (.iload 14, 2) := by decide +kernel
theorem dX11_ridge_186 : decode cX11_ridge 186 = .ok (.iload 12, 2) := by decide +kernel
theorem dX11_ridge_188 : decode cX11_ridge 188 = .ok (.invokevirtual 253, 3) := by decide +kernel
theorem dX11_ridge_191 : decode cX11_ridge 191 = .ok (.ifCond .eq 23, 3) := by decide +kernel
theorem dX11_ridge_194 : decode cX11_ridge 194 = .ok (.bipush 100, 2) := by decide +kernel
theorem dX11_ridge_196 : decode cX11_ridge 196 = .ok (.iload 10, 2) := by decide +kernel
theorem dX11_ridge_198 : decode cX11_ridge 198 = .ok (.imul, 1) := by decide +kernel
theorem dX11_ridge_199 : decode cX11_ridge 199 = .ok (.bipush 10, 2) := by decide +kernel
theorem dX11_ridge_201 : decode cX11_ridge 201 = .ok (.iload 11, 2) := by decide +kernel
theorem dX11_ridge_203 : decode cX11_ridge 203 = .ok (.imul, 1) := by decide +kernel
theorem dX11_ridge_204 : decode cX11_ridge 204 = .ok (.iadd, 1) := by decide +kernel
theorem dX11_ridge_205 : decode cX11_ridge 205 = .ok (.iload 12, 2) := by decide +kernel
theorem dX11_ridge_207 : decode cX11_ridge 207 = .ok (.iadd, 1) := by decide +kernel
theorem dX11_ridge_208 : decode cX11_ridge 208 = .ok (.istore 7, 2) := by decide +kernel
theorem dX11_ridge_210 : decode cX11_ridge 210 = .ok (.iload 15, 2) := by decide +kernel
theorem dX11_ridge_212 : decode cX11_ridge 212 = .ok (.istore 8, 2) := by decide +kernel
theorem dX11_ridge_214 : decode cX11_ridge 214 = .ok (.iinc 9 1, 3) := by decide +kernel
theorem dX11_ridge_217 : decode cX11_ridge 217 = .ok (.goto (-159), 3) := by decide +kernel
theorem dX11_ridge_220 : decode cX11_ridge 220 = .ok (.iload 5, 2) := by decide +kernel
theorem dX11_ridge_222 : decode cX11_ridge 222 = .ok (.ifCond .ne 6, 3) := by decide +kernel
theorem dX11_ridge_225 : decode cX11_ridge 225 = .ok (.iload 7, 2) := by decide +kernel
theorem dX11_ridge_227 : decode cX11_ridge 227 = .ok (.ireturn, 1) := by decide +kernel
theorem dX11_ridge_228 : decode cX11_ridge 228 = .ok (.iload 7, 2) := by decide +kernel
theorem dX11_ridge_230 : decode cX11_ridge 230 = .ok (.bipush (-5), 2) := by decide +kernel
theorem dX11_ridge_232 : decode cX11_ridge 232 = .ok (.if_icmp .ne 7, 3) := by decide +kernel
theorem dX11_ridge_235 : decode cX11_ridge 235 = .ok (.iconst 1, 1) := by decide +kernel
theorem dX11_ridge_236 : decode cX11_ridge 236 = .ok (.goto 8, 3) := by decide +kernel
theorem dX11_ridge_239 : decode cX11_ridge 239 = .ok (.iload 8, 2) := by decide +kernel
theorem dX11_ridge_241 : decode cX11_ridge 241 = .ok (.iload 6, 2) := by decide +kernel
theorem dX11_ridge_243 : decode cX11_ridge 243 = .ok (.isub, 1) := by decide +kernel
theorem dX11_ridge_244 : decode cX11_ridge 244 = .ok (.ireturn, 1) := by decide +kernel
theorem dX11_run_0 : decode cX11_run 0 = .ok (.aload_n 0, 1) := by decide +kernel
theorem dX11_run_1 : decode cX11_run 1 = .ok (.iload_n 1, 1) := by decide +kernel
theorem dX11_run_2 : decode cX11_run 2 = .ok (.invokevirtual 172, 3) := by decide +kernel
theorem dX11_run_5 : decode cX11_run 5 = .ok (.ifCond .eq 32, 3) := by decide +kernel
theorem dX11_run_8 : decode cX11_run 8 = .ok (.iload_n 2, 1) := by decide +kernel
theorem dX11_run_9 : decode cX11_run 9 = .ok (.iconst 1, 1) := by decide +kernel
theorem dX11_run_10 : decode cX11_run 10 = .ok (.bipush 30, 2) := by decide +kernel
theorem dX11_run_12 : decode cX11_run 12 = .ok (.invokestatic 49, 3) := by decide +kernel
theorem dX11_run_15 : decode cX11_run 15 = .ok (.ifCond .eq 22, 3) := by decide +kernel
theorem dX11_run_18 : decode cX11_run 18 = .ok (.iload_n 3, 1) := by decide +kernel
theorem dX11_run_19 : decode cX11_run 19 = .ok (.iconst 0, 1) := by decide +kernel
theorem dX11_run_20 : decode cX11_run 20 = .ok (.sipush 999, 3) := by decide +kernel
theorem dX11_run_23 : decode cX11_run 23 = .ok (.invokestatic 49, 3) := by decide +kernel
theorem dX11_run_26 : decode cX11_run 26 = .ok (.ifCond .eq 11, 3) := by decide +kernel
theorem dX11_run_29 : decode cX11_run 29 = .ok (.iload 4, 2) := by decide +kernel
theorem dX11_run_31 : decode cX11_run 31 = .ok (.invokestatic 77, 3) := by decide +kernel
theorem dX11_run_34 : decode cX11_run 34 = .ok (.ifCond .ne 7, 3) := by decide +kernel
theorem dX11_run_37 : decode cX11_run 37 = .ok (.ldc2_w 196, 3) := by decide +kernel
theorem dX11_run_40 : decode cX11_run 40 = .ok (.lreturn, 1) := by decide +kernel
theorem dX11_run_41 : decode cX11_run 41 = .ok (.aload_n 0, 1) := by decide +kernel
theorem dX11_run_42 : decode cX11_run 42 = .ok (.invokevirtual 136, 3) := by decide +kernel
theorem dX11_run_45 : decode cX11_run 45 = .ok (.ifCond .eq 21, 3) := by decide +kernel
theorem dX11_run_48 : decode cX11_run 48 = .ok (.aload_n 0, 1) := by decide +kernel
theorem dX11_run_49 : decode cX11_run 49 = .ok (.getfield 20, 3) := by decide +kernel
theorem dX11_run_52 : decode cX11_run 52 = .ok (.getfield 126, 3) := by decide +kernel
theorem dX11_run_55 : decode cX11_run 55 = .ok (.getfield 143, 3) := by decide +kernel
theorem dX11_run_58 : decode cX11_run 58 = .ok (.iload_n 2, 1) := by decide +kernel
theorem dX11_run_59 : decode cX11_run 59 = .ok (.iadd, 1) := by decide +kernel
theorem dX11_run_60 : decode cX11_run 60 = .ok (.sipush 999, 3) := by decide +kernel
theorem dX11_run_63 : decode cX11_run 63 = .ok (.if_icmp .le 7, 3) := by decide +kernel
theorem dX11_run_66 : decode cX11_run 66 = .ok (.ldc2_w 196, 3) := by decide +kernel
theorem dX11_run_69 : decode cX11_run 69 = .ok (.lreturn, 1) := by decide +kernel
theorem dX11_run_70 : decode cX11_run 70 = .ok (.aload_n 0, 1) := by decide +kernel
theorem dX11_run_71 : decode cX11_run 71 = .ok (.getfield 13, 3) := by decide +kernel
theorem dX11_run_74 : decode cX11_run 74 = .ok (.aload_n 0, 1) := by decide +kernel
theorem dX11_run_75 : decode cX11_run 75 = .ok (.getfield 20, 3) := by decide +kernel
theorem dX11_run_78 : decode cX11_run 78 = .ok (.getfield 126, 3) := by decide +kernel
theorem dX11_run_81 : decode cX11_run 81 = .ok (.getfield 140, 3) := by decide +kernel
theorem dX11_run_84 : decode cX11_run 84 = .ok (.aaload, 1) := by decide +kernel
theorem dX11_run_85 : decode cX11_run 85 = .ok (.astore 5, 2) := by decide +kernel
theorem dX11_run_87 : decode cX11_run 87 = .ok (.aload_n 0, 1) := by decide +kernel
theorem dX11_run_88 : decode cX11_run 88 = .ok (.getfield 37, 3) := by decide +kernel
theorem dX11_run_91 : decode cX11_run 91 = .ok (.aload 5, 2) := by decide +kernel
theorem dX11_run_93 : decode cX11_run 93 = .ok (.aload_n 0, 1) := by decide +kernel
theorem dX11_run_94 : decode cX11_run 94 = .ok (.getfield 20, 3) := by decide +kernel
theorem dX11_run_97 : decode cX11_run 97 = .ok (.getfield 111, 3) := by decide +kernel
theorem dX11_run_100 : decode cX11_run 100 = .ok (.invokevirtual 185, 3) := by decide +kernel
theorem dX11_run_103 : decode cX11_run 103 = .ok (.aload_n 0, 1) := by decide +kernel
theorem dX11_run_104 : decode cX11_run 104 = .ok (.getfield 37, 3) := by decide +kernel
theorem dX11_run_107 : decode cX11_run 107 = .ok (.aload_n 0, 1) := by decide +kernel
theorem dX11_run_108 : decode cX11_run 108 = .ok (.getfield 20, 3) := by decide +kernel
theorem dX11_run_111 : decode cX11_run 111 = .ok (.getfield 165, 3) := by decide +kernel
theorem dX11_run_114 : decode cX11_run 114 = .ok (.iload_n 1, 1) := by decide +kernel
theorem dX11_run_115 : decode cX11_run 115 = .ok (.invokevirtual 188, 3) := by decide +kernel
theorem dX11_run_118 : decode cX11_run 118 = .ok (.aload_n 0, 1) := by decide +kernel
theorem dX11_run_119 : decode cX11_run 119 = .ok (.getfield 20, 3) := by decide +kernel
theorem dX11_run_122 : decode cX11_run 122 = .ok (.getfield 126, 3) := by decide +kernel
theorem dX11_run_125 : decode cX11_run 125 = .ok (.getfield 152, 3) := by decide +kernel
theorem dX11_run_128 : decode cX11_run 128 = .ok (.istore 6, 2) := by decide +kernel
theorem dX11_run_130 : decode cX11_run 130 = .ok (.iload 4, 2) := by decide +kernel
theorem dX11_run_132 : decode cX11_run 132 = .ok (.istore 7, 2) := by decide +kernel
theorem dX11_run_134 : decode cX11_run 134 = .ok (.iload 4, 2) := by decide +kernel
theorem dX11_run_136 : decode cX11_run 136 = .ok (.istore 8, 2) := by decide +kernel
theorem dX11_run_138 : decode cX11_run 138 = .ok (.iconst 0, 1) := by decide +kernel
theorem dX11_run_139 : decode cX11_run 139 = .ok (.istore 9, 2) := by decide +kernel
theorem dX11_run_141 : decode cX11_run 141 = .ok (.iload 9, 2) := by decide +kernel
theorem dX11_run_143 : decode cX11_run 143 = .ok (.iload_n 2, 1) := by decide +kernel
theorem dX11_run_144 : decode cX11_run 144 = .ok (.if_icmp .ge 108, 3) := by decide +kernel
theorem dX11_run_147 : decode cX11_run 147 = .ok (.aload_n 0, 1) := by decide +kernel
theorem dX11_run_148 : decode cX11_run 148 = .ok (.getfield 37, 3) := by decide +kernel
theorem dX11_run_151 : decode cX11_run 151 = .ok (.iload 9, 2) := by decide +kernel
theorem dX11_run_153 : decode cX11_run 153 = .ok (.iload_n 2, 1) := by decide +kernel
theorem dX11_run_154 : decode cX11_run 154 = .ok (.iload 9, 2) := by decide +kernel
theorem dX11_run_156 : decode cX11_run 156 = .ok (.isub, 1) := by decide +kernel
theorem dX11_run_157 : decode cX11_run 157 = .ok (.iload 8, 2) := by decide +kernel
theorem dX11_run_159 : decode cX11_run 159 = .ok (.iload 7, 2) := by decide +kernel
theorem dX11_run_161 : decode cX11_run 161 = .ok (.aload_n 0, 1) := by decide +kernel
theorem dX11_run_162 : decode cX11_run 162 = .ok (.getfield 20, 3) := by decide +kernel
theorem dX11_run_165 : decode cX11_run 165 = .ok (.getfield 126, 3) := by decide +kernel
theorem dX11_run_168 : decode cX11_run 168 = .ok (.getfield 146, 3) := by decide +kernel
theorem dX11_run_171 : decode cX11_run 171 = .ok (.aload_n 0, 1) := by decide +kernel
theorem dX11_run_172 : decode cX11_run 172 = .ok (.getfield 20, 3) := by decide +kernel
theorem dX11_run_175 : decode cX11_run 175 = .ok (.getfield 126, 3) := by decide +kernel
theorem dX11_run_178 : decode cX11_run 178 = .ok (.getfield 149, 3) := by decide +kernel
theorem dX11_run_181 : decode cX11_run 181 = .ok (.invokevirtual 192, 3) := by decide +kernel
theorem dX11_run_184 : decode cX11_run 184 = .ok (.istore 10, 2) := by decide +kernel
theorem dX11_run_186 : decode cX11_run 186 = .ok (.aload_n 0, 1) := by decide +kernel
theorem dX11_run_187 : decode cX11_run 187 = .ok (.getfield 20, 3) := by decide +kernel
theorem dX11_run_190 : decode cX11_run 190 = .ok (.getfield 126, 3) := by decide +kernel
theorem dX11_run_193 : decode cX11_run 193 = .ok (.aload 5, 2) := by decide +kernel
theorem dX11_run_195 : decode cX11_run 195 = .ok (.iload 8, 2) := by decide +kernel
theorem dX11_run_197 : decode cX11_run 197 = .ok (.iload 10, 2) := by decide +kernel
theorem dX11_run_199 : decode cX11_run 199 = .ok (.invokevirtual 159, 3) := by decide +kernel
theorem dX11_run_202 : decode cX11_run 202 = .ok (.pop, 1) := by decide +kernel
theorem dX11_run_203 : decode cX11_run 203 = .ok (.iload 8, 2) := by decide +kernel
theorem dX11_run_205 : decode cX11_run 205 = .ok (.istore 7, 2) := by decide +kernel
theorem dX11_run_207 : decode cX11_run 207 = .ok (.aload_n 0, 1) := by decide +kernel
theorem dX11_run_208 : decode cX11_run 208 = .ok (.getfield 20, 3) := by decide +kernel
theorem dX11_run_211 : decode cX11_run 211 = .ok (.getfield 111, 3) := by decide +kernel
theorem dX11_run_214 : decode cX11_run 214 = .ok (.iload 8, 2) := by decide +kernel
theorem dX11_run_216 : decode cX11_run 216 = .ok (.iload_n 3, 1) := by decide +kernel
theorem dX11_run_217 : decode cX11_run 217 = .ok (.bipush 31, 2) := by decide +kernel
theorem dX11_run_219 : decode cX11_run 219 = .ok (.imul, 1) := by decide +kernel
theorem dX11_run_220 : decode cX11_run 220 = .ok (.aload_n 0, 1) := by decide +kernel
theorem dX11_run_221 : decode cX11_run 221 = .ok (.getfield 20, 3) := by decide +kernel
theorem dX11_run_224 : decode cX11_run 224 = .ok (.getfield 126, 3) := by decide +kernel
theorem dX11_run_227 : decode cX11_run 227 = .ok (.getfield 143, 3) := by decide +kernel
theorem dX11_run_230 : decode cX11_run 230 = .ok (.bipush 17, 2) := by decide +kernel
theorem dX11_run_232 : decode cX11_run 232 = .ok (.imul, 1) := by decide +kernel
theorem dX11_run_233 : decode cX11_run 233 = .ok (.iadd, 1) := by decide +kernel
theorem dX11_run_234 : decode cX11_run 234 = .ok (.bipush 7, 2) := by decide +kernel
theorem dX11_run_236 : decode cX11_run 236 = .ok (.imul, 1) := by decide +kernel
theorem dX11_run_237 : decode cX11_run 237 = .ok (.sipush 1000, 3) := by decide +kernel
theorem dX11_run_240 : decode cX11_run 240 = .ok (.irem, 1) := by decide +kernel
theorem dX11_run_241 : decode cX11_run 241 = .ok (.invokevirtual 256, 3) := by decide +kernel
theorem dX11_run_244 : decode cX11_run 244 = .ok (.istore 8, 2) := by decide +kernel
theorem dX11_run_246 : decode cX11_run 246 = .ok (.iinc 9 1, 3) := by decide +kernel
theorem dX11_run_249 : decode cX11_run 249 = .ok (.goto (-108), 3) := by decide +kernel
theorem dX11_run_252 : decode cX11_run 252 = .ok (.aload_n 0, 1) := by decide +kernel
theorem dX11_run_253 : decode cX11_run 253 = .ok (.getfield 20, 3) := by decide +kernel
theorem dX11_run_256 : decode cX11_run 256 = .ok (.getfield 126, 3) := by decide +kernel
theorem dX11_run_259 : decode cX11_run 259 = .ok (.getfield 152, 3) := by decide +kernel
theorem dX11_run_262 : decode cX11_run 262 = .ok (.iload 6, 2) := by decide +kernel
theorem dX11_run_264 : decode cX11_run 264 = .ok (.isub, 1) := by decide +kernel
theorem dX11_run_265 : decode cX11_run 265 = .ok (.i2l, 1) := by decide +kernel
theorem dX11_run_266 : decode cX11_run 266 = .ok (.lreturn, 1) := by decide +kernel
theorem dX11_act_0 : decode cX11_act 0 = .ok (.aload_n 0, 1) := by decide +kernel
theorem dX11_act_1 : decode cX11_act 1 = .ok (.getfield 44, 3) := by decide +kernel
theorem dX11_act_4 : decode cX11_act 4 = .ok (.invokevirtual 259, 3) := by decide +kernel
theorem dX11_act_7 : decode cX11_act 7 = .ok (.aload_n 0, 1) := by decide +kernel
theorem dX11_act_8 : decode cX11_act 8 = .ok (.iload_n 1, 1) := by decide +kernel
theorem dX11_act_9 : decode cX11_act 9 = .ok (.invokevirtual 172, 3) := by decide +kernel
theorem dX11_act_12 : decode cX11_act 12 = .ok (.ifCond .eq 12, 3) := by decide +kernel
theorem dX11_act_15 : decode cX11_act 15 = .ok (.iload_n 2, 1) := by decide +kernel
theorem dX11_act_16 : decode cX11_act 16 = .ok (.iconst 0, 1) := by decide +kernel
theorem dX11_act_17 : decode cX11_act 17 = .ok (.iconst 2, 1) := by decide +kernel
theorem dX11_act_18 : decode cX11_act 18 = .ok (.invokestatic 49, 3) := by decide +kernel
theorem dX11_act_21 : decode cX11_act 21 = .ok (.ifCond .ne 5, 3) := by decide +kernel
theorem dX11_act_24 : decode cX11_act 24 = .ok (.iconst 0, 1) := by decide +kernel
theorem dX11_act_25 : decode cX11_act 25 = .ok (.ireturn, 1) := by decide +kernel
theorem dX11_act_26 : decode cX11_act 26 = .ok (.aload_n 0, 1) := by decide +kernel
theorem dX11_act_27 : decode cX11_act 27 = .ok (.getfield 44, 3) := by decide +kernel
theorem dX11_act_30 : decode cX11_act 30 = .ok (.aload_n 0, 1) := by decide +kernel
theorem dX11_act_31 : decode cX11_act 31 = .ok (.getfield 20, 3) := by decide +kernel
theorem dX11_act_34 : decode cX11_act 34 = .ok (.getfield 165, 3) := by decide +kernel
theorem dX11_act_37 : decode cX11_act 37 = .ok (.iload_n 1, 1) := by decide +kernel
theorem dX11_act_38 : decode cX11_act 38 = .ok (.iload_n 2, 1) := by decide +kernel
theorem dX11_act_39 : decode cX11_act 39 = .ok (.iload_n 3, 1) := by decide +kernel
theorem dX11_act_40 : decode cX11_act 40 = .ok (.invokevirtual 262, 3) := by decide +kernel
theorem dX11_act_43 : decode cX11_act 43 = .ok (.ireturn, 1) := by decide +kernel
theorem dX11_trace_0 : decode cX11_trace 0 = .ok (.iload_n 1, 1) := by decide +kernel
theorem dX11_trace_1 : decode cX11_trace 1 = .ok (.iconst 0, 1) := by decide +kernel
theorem dX11_trace_2 : decode cX11_trace 2 = .ok (.aload_n 0, 1) := by decide +kernel
theorem dX11_trace_3 : decode cX11_trace 3 = .ok (.getfield 44, 3) := by decide +kernel
theorem dX11_trace_6 : decode cX11_trace 6 = .ok (.invokevirtual 265, 3) := by decide +kernel
theorem dX11_trace_9 : decode cX11_trace 9 = .ok (.iconst 1, 1) := by decide +kernel
theorem dX11_trace_10 : decode cX11_trace 10 = .ok (.isub, 1) := by decide +kernel
theorem dX11_trace_11 : decode cX11_trace 11 = .ok (.invokestatic 49, 3) := by decide +kernel
theorem dX11_trace_14 : decode cX11_trace 14 = .ok (.ifCond .eq 15, 3) := by decide +kernel
theorem dX11_trace_17 : decode cX11_trace 17 = .ok (.aload_n 0, 1) := by decide +kernel
theorem dX11_trace_18 : decode cX11_trace 18 = .ok (.getfield 44, 3) := by decide +kernel
theorem dX11_trace_21 : decode cX11_trace 21 = .ok (.getfield 268, 3) := by decide +kernel
theorem dX11_trace_24 : decode cX11_trace 24 = .ok (.iload_n 1, 1) := by decide +kernel
theorem dX11_trace_25 : decode cX11_trace 25 = .ok (.iaload, 1) := by decide +kernel
theorem dX11_trace_26 : decode cX11_trace 26 = .ok (.goto 4, 3) := by decide +kernel
theorem dX11_trace_29 : decode cX11_trace 29 = .ok (.iconst (-1), 1) := by decide +kernel
theorem dX11_trace_30 : decode cX11_trace 30 = .ok (.ireturn, 1) := by decide +kernel
theorem dX11_as_0 : decode cX11_as 0 = .ok (.aload_n 0, 1) := by decide +kernel
theorem dX11_as_1 : decode cX11_as 1 = .ok (.iload_n 1, 1) := by decide +kernel
theorem dX11_as_2 : decode cX11_as 2 = .ok (.invokevirtual 172, 3) := by decide +kernel
theorem dX11_as_5 : decode cX11_as 5 = .ok (.ifCond .eq 13, 3) := by decide +kernel
theorem dX11_as_8 : decode cX11_as 8 = .ok (.iload_n 2, 1) := by decide +kernel
theorem dX11_as_9 : decode cX11_as 9 = .ok (.iconst 0, 1) := by decide +kernel
theorem dX11_as_10 : decode cX11_as 10 = .ok (.bipush 6, 2) := by decide +kernel
theorem dX11_as_12 : decode cX11_as 12 = .ok (.invokestatic 49, 3) := by decide +kernel
theorem dX11_as_15 : decode cX11_as 15 = .ok (.ifCond .ne 5, 3) := by decide +kernel
theorem dX11_as_18 : decode cX11_as 18 = .ok (.iconst (-1), 1) := by decide +kernel
theorem dX11_as_19 : decode cX11_as 19 = .ok (.ireturn, 1) := by decide +kernel
theorem dX11_as_20 : decode cX11_as 20 = .ok (.aload_n 0, 1) := by decide +kernel
theorem dX11_as_21 : decode cX11_as 21 = .ok (.getfield 20, 3) := by decide +kernel
theorem dX11_as_24 : decode cX11_as 24 = .ok (.getfield 165, 3) := by decide +kernel
theorem dX11_as_27 : decode cX11_as 27 = .ok (.getfield 175, 3) := by decide +kernel
theorem dX11_as_30 : decode cX11_as 30 = .ok (.iload_n 1, 1) := by decide +kernel
theorem dX11_as_31 : decode cX11_as 31 = .ok (.iaload, 1) := by decide +kernel
theorem dX11_as_32 : decode cX11_as 32 = .ok (.iload_n 2, 1) := by decide +kernel
theorem dX11_as_33 : decode cX11_as 33 = .ok (.invokestatic 271, 3) := by decide +kernel
theorem dX11_as_36 : decode cX11_as 36 = .ok (.ifCond .eq 18, 3) := by decide +kernel
theorem dX11_as_39 : decode cX11_as 39 = .ok (.aload_n 0, 1) := by decide +kernel
theorem dX11_as_40 : decode cX11_as 40 = .ok (.getfield 20, 3) := by decide +kernel
theorem dX11_as_43 : decode cX11_as 43 = .ok (.getfield 165, 3) := by decide +kernel
theorem dX11_as_46 : decode cX11_as 46 = .ok (.getfield 275, 3) := by decide +kernel
theorem dX11_as_49 : decode cX11_as 49 = .ok (.iload_n 1, 1) := by decide +kernel
theorem dX11_as_50 : decode cX11_as 50 = .ok (.iaload, 1) := by decide +kernel
theorem dX11_as_51 : decode cX11_as 51 = .ok (.goto 5, 3) := by decide +kernel
theorem dX11_as_54 : decode cX11_as 54 = .ok (.bipush (-6), 2) := by decide +kernel
theorem dX11_as_56 : decode cX11_as 56 = .ok (.ireturn, 1) := by decide +kernel
theorem dX11_image_0 : decode cX11_image 0 = .ok (.aload_n 0, 1) := by decide +kernel
theorem dX11_image_1 : decode cX11_image 1 = .ok (.getfield 24, 3) := by decide +kernel
theorem dX11_image_4 : decode cX11_image 4 = .ok (.aload_n 0, 1) := by decide +kernel
theorem dX11_image_5 : decode cX11_image 5 = .ok (.getfield 20, 3) := by decide +kernel
theorem dX11_image_8 : decode cX11_image 8 = .ok (.invokevirtual 278, 3) := by decide +kernel
theorem dX11_image_11 : decode cX11_image 11 = .ok (.aload_n 0, 1) := by decide +kernel
theorem dX11_image_12 : decode cX11_image 12 = .ok (.iconst 1, 1) := by decide +kernel
theorem dX11_image_13 : decode cX11_image 13 = .ok (.putfield 282, 3) := by decide +kernel
theorem dX11_image_16 : decode cX11_image 16 = .ok (.aload_n 0, 1) := by decide +kernel
theorem dX11_image_17 : decode cX11_image 17 = .ok (.getfield 24, 3) := by decide +kernel
theorem dX11_image_20 : decode cX11_image 20 = .ok (.getfield 67, 3) := by decide +kernel
theorem dX11_image_23 : decode cX11_image 23 = .ok (.ireturn, 1) := by decide +kernel
theorem dX11_undo_0 : decode cX11_undo 0 = .ok (.aload_n 0, 1) := by decide +kernel
theorem dX11_undo_1 : decode cX11_undo 1 = .ok (.getfield 282, 3) := by decide +kernel
theorem dX11_undo_4 : decode cX11_undo 4 = .ok (.ifCond .ne 6, 3) := by decide +kernel
theorem dX11_undo_7 : decode cX11_undo 7 = .ok (.bipush (-3), 2) := by decide +kernel
theorem dX11_undo_9 : decode cX11_undo 9 = .ok (.ireturn, 1) := by decide +kernel
theorem dX11_undo_10 : decode cX11_undo 10 = .ok (.aload_n 0, 1) := by decide +kernel
theorem dX11_undo_11 : decode cX11_undo 11 = .ok (.getfield 20, 3) := by decide +kernel
theorem dX11_undo_14 : decode cX11_undo 14 = .ok (.aload_n 0, 1) := by decide +kernel
theorem dX11_undo_15 : decode cX11_undo 15 = .ok (.getfield 24, 3) := by decide +kernel
theorem dX11_undo_18 : decode cX11_undo 18 = .ok (.invokevirtual 278, 3) := by decide +kernel
theorem dX11_undo_21 : decode cX11_undo 21 = .ok (.aload_n 0, 1) := by decide +kernel
theorem dX11_undo_22 : decode cX11_undo 22 = .ok (.getfield 37, 3) := by decide +kernel
theorem dX11_undo_25 : decode cX11_undo 25 = .ok (.invokevirtual 119, 3) := by decide +kernel
theorem dX11_undo_28 : decode cX11_undo 28 = .ok (.aload_n 0, 1) := by decide +kernel
theorem dX11_undo_29 : decode cX11_undo 29 = .ok (.getfield 20, 3) := by decide +kernel
theorem dX11_undo_32 : decode cX11_undo 32 = .ok (.getfield 67, 3) := by decide +kernel
theorem dX11_undo_35 : decode cX11_undo 35 = .ok (.ireturn, 1) := by decide +kernel
theorem dX11_count_0 : decode cX11_count 0 = .ok (.iload_n 1, 1) := by decide +kernel
theorem dX11_count_1 : decode cX11_count 1 = .ok (.tableswitch 99 0 5 #[39, 47, 58, 69, 80, 91], 39) := by decide +kernel
theorem dX11_count_40 : decode cX11_count 40 = .ok (.aload_n 0, 1) := by decide +kernel
theorem dX11_count_41 : decode cX11_count 41 = .ok (.getfield 20, 3) := by decide +kernel
theorem dX11_count_44 : decode cX11_count 44 = .ok (.getfield 67, 3) := by decide +kernel
theorem dX11_count_47 : decode cX11_count 47 = .ok (.ireturn, 1) := by decide +kernel
theorem dX11_count_48 : decode cX11_count 48 = .ok (.aload_n 0, 1) := by decide +kernel
theorem dX11_count_49 : decode cX11_count 49 = .ok (.getfield 20, 3) := by decide +kernel
theorem dX11_count_52 : decode cX11_count 52 = .ok (.getfield 165, 3) := by decide +kernel
theorem dX11_count_55 : decode cX11_count 55 = .ok (.getfield 169, 3) := by decide +kernel
theorem dX11_count_58 : decode cX11_count 58 = .ok (.ireturn, 1) := by decide +kernel
theorem dX11_count_59 : decode cX11_count 59 = .ok (.aload_n 0, 1) := by decide +kernel
theorem dX11_count_60 : decode cX11_count 60 = .ok (.getfield 20, 3) := by decide +kernel
theorem dX11_count_63 : decode cX11_count 63 = .ok (.getfield 216, 3) := by decide +kernel
theorem dX11_count_66 : decode cX11_count 66 = .ok (.getfield 220, 3) := by decide +kernel
theorem dX11_count_69 : decode cX11_count 69 = .ok (.ireturn, 1) := by decide +kernel
theorem dX11_count_70 : decode cX11_count 70 = .ok (.aload_n 0, 1) := by decide +kernel
theorem dX11_count_71 : decode cX11_count 71 = .ok (.getfield 20, 3) := by decide +kernel
theorem dX11_count_74 : decode cX11_count 74 = .ok (.getfield 228, 3) := by decide +kernel
theorem dX11_count_77 : decode cX11_count 77 = .ok (.getfield 232, 3) := by decide +kernel
theorem dX11_count_80 : decode cX11_count 80 = .ok (.ireturn, 1) := by decide +kernel
theorem dX11_count_81 : decode cX11_count 81 = .ok (.aload_n 0, 1) := by decide +kernel
theorem dX11_count_82 : decode cX11_count 82 = .ok (.getfield 20, 3) := by decide +kernel
theorem dX11_count_85 : decode cX11_count 85 = .ok (.getfield 53, 3) := by decide +kernel
theorem dX11_count_88 : decode cX11_count 88 = .ok (.getfield 57, 3) := by decide +kernel
theorem dX11_count_91 : decode cX11_count 91 = .ok (.ireturn, 1) := by decide +kernel
theorem dX11_count_92 : decode cX11_count 92 = .ok (.aload_n 0, 1) := by decide +kernel
theorem dX11_count_93 : decode cX11_count 93 = .ok (.getfield 44, 3) := by decide +kernel
theorem dX11_count_96 : decode cX11_count 96 = .ok (.getfield 285, 3) := by decide +kernel
theorem dX11_count_99 : decode cX11_count 99 = .ok (.ireturn, 1) := by decide +kernel
theorem dX11_count_100 : decode cX11_count 100 = .ok (.iconst (-1), 1) := by decide +kernel
theorem dX11_count_101 : decode cX11_count 101 = .ok (.ireturn, 1) := by decide +kernel
theorem dX11_within_0 : decode cX11_within 0 = .ok (.iload_n 0, 1) := by decide +kernel
theorem dX11_within_1 : decode cX11_within 1 = .ok (.iload_n 1, 1) := by decide +kernel
theorem dX11_within_2 : decode cX11_within 2 = .ok (.if_icmp .lt 12, 3) := by decide +kernel
theorem dX11_within_5 : decode cX11_within 5 = .ok (.iload_n 0, 1) := by decide +kernel
theorem dX11_within_6 : decode cX11_within 6 = .ok (.iload_n 2, 1) := by decide +kernel
theorem dX11_within_7 : decode cX11_within 7 = .ok (.if_icmp .gt 7, 3) := by decide +kernel
theorem dX11_within_10 : decode cX11_within 10 = .ok (.iconst 1, 1) := by decide +kernel
theorem dX11_within_11 : decode cX11_within 11 = .ok (.goto 4, 3) := by decide +kernel
theorem dX11_within_14 : decode cX11_within 14 = .ok (.iconst 0, 1) := by decide +kernel
theorem dX11_within_15 : decode cX11_within 15 = .ok (.ireturn, 1) := by decide +kernel
theorem dX11_isWind_0 : decode cX11_isWind 0 = .ok (.iload_n 0, 1) := by decide +kernel
theorem dX11_isWind_1 : decode cX11_isWind 1 = .ok (.iconst 0, 1) := by decide +kernel
theorem dX11_isWind_2 : decode cX11_isWind 2 = .ok (.iconst 5, 1) := by decide +kernel
theorem dX11_isWind_3 : decode cX11_isWind 3 = .ok (.invokestatic 49, 3) := by decide +kernel
theorem dX11_isWind_6 : decode cX11_isWind 6 = .ok (.ireturn, 1) := by decide +kernel
theorem dX11_isSetting_0 : decode cX11_isSetting 0 = .ok (.iload_n 0, 1) := by decide +kernel
theorem dX11_isSetting_1 : decode cX11_isSetting 1 = .ok (.iconst 0, 1) := by decide +kernel
theorem dX11_isSetting_2 : decode cX11_isSetting 2 = .ok (.bipush 7, 2) := by decide +kernel
theorem dX11_isSetting_4 : decode cX11_isSetting 4 = .ok (.invokestatic 49, 3) := by decide +kernel
theorem dX11_isSetting_7 : decode cX11_isSetting 7 = .ok (.ireturn, 1) := by decide +kernel
theorem dX11_isChance_0 : decode cX11_isChance 0 = .ok (.iload_n 0, 1) := by decide +kernel
theorem dX11_isChance_1 : decode cX11_isChance 1 = .ok (.iconst 0, 1) := by decide +kernel
theorem dX11_isChance_2 : decode cX11_isChance 2 = .ok (.sipush 1000, 3) := by decide +kernel
theorem dX11_isChance_5 : decode cX11_isChance 5 = .ok (.invokestatic 49, 3) := by decide +kernel
theorem dX11_isChance_8 : decode cX11_isChance 8 = .ok (.ireturn, 1) := by decide +kernel
theorem dX11_isMill_0 : decode cX11_isMill 0 = .ok (.iload_n 1, 1) := by decide +kernel
theorem dX11_isMill_1 : decode cX11_isMill 1 = .ok (.iconst 0, 1) := by decide +kernel
theorem dX11_isMill_2 : decode cX11_isMill 2 = .ok (.aload_n 0, 1) := by decide +kernel
theorem dX11_isMill_3 : decode cX11_isMill 3 = .ok (.getfield 20, 3) := by decide +kernel
theorem dX11_isMill_6 : decode cX11_isMill 6 = .ok (.getfield 67, 3) := by decide +kernel
theorem dX11_isMill_9 : decode cX11_isMill 9 = .ok (.iconst 1, 1) := by decide +kernel
theorem dX11_isMill_10 : decode cX11_isMill 10 = .ok (.isub, 1) := by decide +kernel
theorem dX11_isMill_11 : decode cX11_isMill 11 = .ok (.invokestatic 49, 3) := by decide +kernel
theorem dX11_isMill_14 : decode cX11_isMill 14 = .ok (.ireturn, 1) := by decide +kernel
theorem dX11_isRule_0 : decode cX11_isRule 0 = .ok (.iload_n 1, 1) := by decide +kernel
theorem dX11_isRule_1 : decode cX11_isRule 1 = .ok (.iconst 0, 1) := by decide +kernel
theorem dX11_isRule_2 : decode cX11_isRule 2 = .ok (.aload_n 0, 1) := by decide +kernel
theorem dX11_isRule_3 : decode cX11_isRule 3 = .ok (.getfield 20, 3) := by decide +kernel
theorem dX11_isRule_6 : decode cX11_isRule 6 = .ok (.getfield 165, 3) := by decide +kernel
theorem dX11_isRule_9 : decode cX11_isRule 9 = .ok (.getfield 169, 3) := by decide +kernel
theorem dX11_isRule_12 : decode cX11_isRule 12 = .ok (.iconst 1, 1) := by decide +kernel
theorem dX11_isRule_13 : decode cX11_isRule 13 = .ok (.isub, 1) := by decide +kernel
theorem dX11_isRule_14 : decode cX11_isRule 14 = .ok (.invokestatic 49, 3) := by decide +kernel
theorem dX11_isRule_17 : decode cX11_isRule 17 = .ok (.ireturn, 1) := by decide +kernel
theorem dX11_isLed_0 : decode cX11_isLed 0 = .ok (.aload_n 0, 1) := by decide +kernel
theorem dX11_isLed_1 : decode cX11_isLed 1 = .ok (.aload_n 0, 1) := by decide +kernel
theorem dX11_isLed_2 : decode cX11_isLed 2 = .ok (.getfield 20, 3) := by decide +kernel
theorem dX11_isLed_5 : decode cX11_isLed 5 = .ok (.getfield 126, 3) := by decide +kernel
theorem dX11_isLed_8 : decode cX11_isLed 8 = .ok (.getfield 140, 3) := by decide +kernel
theorem dX11_isLed_11 : decode cX11_isLed 11 = .ok (.invokevirtual 73, 3) := by decide +kernel
theorem dX11_isLed_14 : decode cX11_isLed 14 = .ok (.ireturn, 1) := by decide +kernel
theorem dX11_ground_0 : decode cX11_ground 0 = .ok (.aload_n 0, 1) := by decide +kernel
theorem dX11_ground_1 : decode cX11_ground 1 = .ok (.getfield 13, 3) := by decide +kernel
theorem dX11_ground_4 : decode cX11_ground 4 = .ok (.iload_n 1, 1) := by decide +kernel
theorem dX11_ground_5 : decode cX11_ground 5 = .ok (.aaload, 1) := by decide +kernel
theorem dX11_ground_6 : decode cX11_ground 6 = .ok (.iload_n 2, 1) := by decide +kernel
theorem dX11_ground_7 : decode cX11_ground 7 = .ok (.iload_n 3, 1) := by decide +kernel
theorem dX11_ground_8 : decode cX11_ground 8 = .ok (.iconst 2, 1) := by decide +kernel
theorem dX11_ground_9 : decode cX11_ground 9 = .ok (.imul, 1) := by decide +kernel
theorem dX11_ground_10 : decode cX11_ground 10 = .ok (.iconst 0, 1) := by decide +kernel
theorem dX11_ground_11 : decode cX11_ground 11 = .ok (.iconst 0, 1) := by decide +kernel
theorem dX11_ground_12 : decode cX11_ground 12 = .ok (.invokevirtual 83, 3) := by decide +kernel
theorem dX11_ground_15 : decode cX11_ground 15 = .ok (.invokestatic 91, 3) := by decide +kernel
theorem dX11_ground_18 : decode cX11_ground 18 = .ok (.ireturn, 1) := by decide +kernel
theorem dX11_rests_0 : decode cX11_rests 0 = .ok (.aload_n 0, 1) := by decide +kernel
theorem dX11_rests_1 : decode cX11_rests 1 = .ok (.iload_n 1, 1) := by decide +kernel
theorem dX11_rests_2 : decode cX11_rests 2 = .ok (.iload_n 2, 1) := by decide +kernel
theorem dX11_rests_3 : decode cX11_rests 3 = .ok (.iload_n 3, 1) := by decide +kernel
theorem dX11_rests_4 : decode cX11_rests 4 = .ok (.invokevirtual 250, 3) := by decide +kernel
theorem dX11_rests_7 : decode cX11_rests 7 = .ok (.istore 4, 2) := by decide +kernel
theorem dX11_rests_9 : decode cX11_rests 9 = .ok (.iconst 0, 1) := by decide +kernel
theorem dX11_rests_10 : decode cX11_rests 10 = .ok (.istore 5, 2) := by decide +kernel
theorem dX11_rests_12 : decode cX11_rests 12 = .ok (.iload 5, 2) := by decide +kernel
theorem dX11_rests_14 : decode cX11_rests 14 = .ok (.iconst 4, 1) := by decide +kernel
theorem dX11_rests_15 : decode cX11_rests 15 = .ok (.if_icmp .ge 24, 3) := by decide +kernel
theorem dX11_rests_18 : decode cX11_rests 18 = .ok (.aload_n 0, 1) := by decide +kernel
theorem dX11_rests_19 : decode cX11_rests 19 = .ok (.iload_n 1, 1) := by decide +kernel
theorem dX11_rests_20 : decode cX11_rests 20 = .ok (.iload_n 2, 1) := by decide +kernel
theorem dX11_rests_21 : decode cX11_rests 21 = .ok (.iload 5, 2) := by decide +kernel
theorem dX11_rests_23 : decode cX11_rests 23 = .ok (.invokevirtual 250, 3) := by decide +kernel
theorem dX11_rests_26 : decode cX11_rests 26 = .ok (.iload 4, 2) := by decide +kernel
theorem dX11_rests_28 : decode cX11_rests 28 = .ok (.if_icmp .le 5, 3) := by decide +kernel
theorem dX11_rests_31 : decode cX11_rests 31 = .ok (.iconst 0, 1) := by decide +kernel
theorem dX11_rests_32 : decode cX11_rests 32 = .ok (.ireturn, 1) := by decide +kernel
theorem dX11_rests_33 : decode cX11_rests 33 = .ok (.iinc 5 1, 3) := by decide +kernel
theorem dX11_rests_36 : decode cX11_rests 36 = .ok (.goto (-24), 3) := by decide +kernel
theorem dX11_rests_39 : decode cX11_rests 39 = .ok (.iconst 1, 1) := by decide +kernel
theorem dX11_rests_40 : decode cX11_rests 40 = .ok (.ireturn, 1) := by decide +kernel
