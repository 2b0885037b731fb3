theorem dX12_init_0 : decode cX12_init 0 = .ok (.aload_n 0, 1) := by decide +kernel
theorem dX12_init_1 : decode cX12_init 1 = .ok (.invokespecial 3, 3) := by decide +kernel
theorem dX12_init_4 : decode cX12_init 4 = .ok (.aload_n 0, 1) := by decide +kernel
theorem dX12_init_5 : decode cX12_init 5 = .ok (.sipush 1055, 3) := by decide +kernel
theorem dX12_init_8 : decode cX12_init 8 = .ok (.newarray .int, 2) := by decide +kernel
theorem dX12_init_10 : decode cX12_init 10 = .ok (.putfield 9, 3) := by decide +kernel
theorem dX12_init_13 : decode cX12_init 13 = .ok (.aload_n 0, 1) := by decide +kernel
theorem dX12_init_14 : decode cX12_init 14 = .ok (.sipush 1055, 3) := by decide +kernel
theorem dX12_init_17 : decode cX12_init 17 = .ok (.newarray .int, 2) := by decide +kernel
theorem dX12_init_19 : decode cX12_init 19 = .ok (.putfield 15, 3) := by decide +kernel
theorem dX12_init_22 : decode cX12_init 22 = .ok (.aload_n 0, 1) := by decide +kernel
theorem dX12_init_23 : decode cX12_init 23 = .ok (.bipush 6, 2) := by decide +kernel
theorem dX12_init_25 : decode cX12_init 25 = .ok (.newarray .int, 2) := by decide +kernel
theorem dX12_init_27 : decode cX12_init 27 = .ok (.putfield 18, 3) := by decide +kernel
theorem dX12_init_30 : decode cX12_init 30 = .ok (.aload_n 0, 1) := by decide +kernel
theorem dX12_init_31 : decode cX12_init 31 = .ok (.bipush 64, 2) := by decide +kernel
theorem dX12_init_33 : decode cX12_init 33 = .ok (.newarray .boolean, 2) := by decide +kernel
theorem dX12_init_35 : decode cX12_init 35 = .ok (.putfield 21, 3) := by decide +kernel
theorem dX12_init_38 : decode cX12_init 38 = .ok (.aload_n 0, 1) := by decide +kernel
theorem dX12_init_39 : decode cX12_init 39 = .ok (.sipush 4800, 3) := by decide +kernel
theorem dX12_init_42 : decode cX12_init 42 = .ok (.newarray .int, 2) := by decide +kernel
theorem dX12_init_44 : decode cX12_init 44 = .ok (.putfield 25, 3) := by decide +kernel
theorem dX12_init_47 : decode cX12_init 47 = .ok (.aload_n 0, 1) := by decide +kernel
theorem dX12_init_48 : decode cX12_init 48 = .ok (.sipush 4800, 3) := by decide +kernel
theorem dX12_init_51 : decode cX12_init 51 = .ok (.newarray .int, 2) := by decide +kernel
theorem dX12_init_53 : decode cX12_init 53 = .ok (.putfield 28, 3) := by decide +kernel
theorem dX12_init_56 : decode cX12_init 56 = .ok (.aload_n 0, 1) := by decide +kernel
theorem dX12_init_57 : decode cX12_init 57 = .ok (.sipush 4800, 3) := by decide +kernel
theorem dX12_init_60 : decode cX12_init 60 = .ok (.newarray .int, 2) := by decide +kernel
theorem dX12_init_62 : decode cX12_init 62 = .ok (.putfield 31, 3) := by decide +kernel
theorem dX12_init_65 : decode cX12_init 65 = .ok (.aload_n 0, 1) := by decide +kernel
theorem dX12_init_66 : decode cX12_init 66 = .ok (.sipush 4800, 3) := by decide +kernel
theorem dX12_init_69 : decode cX12_init 69 = .ok (.newarray .int, 2) := by decide +kernel
theorem dX12_init_71 : decode cX12_init 71 = .ok (.putfield 34, 3) := by decide +kernel
theorem dX12_init_74 : decode cX12_init 74 = .ok (.aload_n 0, 1) := by decide +kernel
theorem dX12_init_75 : decode cX12_init 75 = .ok (.sipush 4800, 3) := by decide +kernel
theorem dX12_init_78 : decode cX12_init 78 = .ok (.newarray .boolean, 2) := by decide +kernel
theorem dX12_init_80 : decode cX12_init 80 = .ok (.putfield 37, 3) := by decide +kernel
theorem dX12_init_83 : decode cX12_init 83 = .ok (.aload_n 0, 1) := by decide +kernel
theorem dX12_init_84 : decode cX12_init 84 = .ok (.sipush 4200, 3) := by decide +kernel
theorem dX12_init_87 : decode cX12_init 87 = .ok (.newarray .int, 2) := by decide +kernel
theorem dX12_init_89 : decode cX12_init 89 = .ok (.putfield 40, 3) := by decide +kernel
theorem dX12_init_92 : decode cX12_init 92 = .ok (.aload_n 0, 1) := by decide +kernel
theorem dX12_init_93 : decode cX12_init 93 = .ok (.sipush 21600, 3) := by decide +kernel
theorem dX12_init_96 : decode cX12_init 96 = .ok (.newarray .int, 2) := by decide +kernel
theorem dX12_init_98 : decode cX12_init 98 = .ok (.putfield 43, 3) := by decide +kernel
theorem dX12_init_101 : decode cX12_init 101 = .ok (.aload_n 0, 1) := by decide +kernel
theorem dX12_init_102 : decode cX12_init 102 = .ok (.sipush 4200, 3) := by decide +kernel
theorem dX12_init_105 : decode cX12_init 105 = .ok (.newarray .long, 2) := by decide +kernel
theorem dX12_init_107 : decode cX12_init 107 = .ok (.putfield 46, 3) := by decide +kernel
theorem dX12_init_110 : decode cX12_init 110 = .ok (.aload_n 0, 1) := by decide +kernel
theorem dX12_init_111 : decode cX12_init 111 = .ok (.sipush 21600, 3) := by decide +kernel
theorem dX12_init_114 : decode cX12_init 114 = .ok (.newarray .long, 2) := by decide +kernel
theorem dX12_init_116 : decode cX12_init 116 = .ok (.putfield 50, 3) := by decide +kernel
theorem dX12_init_119 : decode cX12_init 119 = .ok (.aload_n 0, 1) := by decide +kernel
theorem dX12_init_120 : decode cX12_init 120 = .ok (.bipush 72, 2) := by decide +kernel
theorem dX12_init_122 : decode cX12_init 122 = .ok (.newarray .int, 2) := by decide +kernel
theorem dX12_init_124 : decode cX12_init 124 = .ok (.putfield 53, 3) := by decide +kernel
theorem dX12_init_127 : decode cX12_init 127 = .ok (.aload_n 0, 1) := by decide +kernel
theorem dX12_init_128 : decode cX12_init 128 = .ok (.bipush 20, 2) := by decide +kernel
theorem dX12_init_130 : decode cX12_init 130 = .ok (.newarray .int, 2) := by decide +kernel
theorem dX12_init_132 : decode cX12_init 132 = .ok (.putfield 56, 3) := by decide +kernel
theorem dX12_init_135 : decode cX12_init 135 = .ok (.aload_n 0, 1) := by decide +kernel
theorem dX12_init_136 : decode cX12_init 136 = .ok (.getfield 9, 3) := by decide +kernel
theorem dX12_init_139 : decode cX12_init 139 = .ok (.iconst 5, 1) := by decide +kernel
theorem dX12_init_140 : decode cX12_init 140 = .ok (.iconst (-1), 1) := by decide +kernel
theorem dX12_init_141 : decode cX12_init 141 = .ok (.iastore, 1) := by decide +kernel
theorem dX12_init_142 : decode cX12_init 142 = .ok (.iconst 0, 1) := by decide +kernel
theorem dX12_init_143 : decode cX12_init 143 = .ok (.istore_n 1, 1) := by decide +kernel
theorem dX12_init_144 : decode cX12_init 144 = .ok (.iload_n 1, 1) := by decide +kernel
theorem dX12_init_145 : decode cX12_init 145 = .ok (.bipush 6, 2) := by decide +kernel
theorem dX12_init_147 : decode cX12_init 147 = .ok (.if_icmp .ge 25, 3) := by decide +kernel
theorem dX12_init_150 : decode cX12_init 150 = .ok (.aload_n 0, 1) := by decide +kernel
theorem dX12_init_151 : decode cX12_init 151 = .ok (.getfield 9, 3) := by decide +kernel
theorem dX12_init_154 : decode cX12_init 154 = .ok (.sipush 851, 3) := by decide +kernel
theorem dX12_init_157 : decode cX12_init 157 = .ok (.bipush 7, 2) := by decide +kernel
theorem dX12_init_159 : decode cX12_init 159 = .ok (.iload_n 1, 1) := by decide +kernel
theorem dX12_init_160 : decode cX12_init 160 = .ok (.imul, 1) := by decide +kernel
theorem dX12_init_161 : decode cX12_init 161 = .ok (.iadd, 1) := by decide +kernel
theorem dX12_init_162 : decode cX12_init 162 = .ok (.sipush 1000, 3) := by decide +kernel
theorem dX12_init_165 : decode cX12_init 165 = .ok (.iastore, 1) := by decide +kernel
theorem dX12_init_166 : decode cX12_init 166 = .ok (.iinc 1 1, 3) := by decide +kernel
theorem dX12_init_169 : decode cX12_init 169 = .ok (.goto (-25), 3) := by decide +kernel
theorem dX12_init_172 : decode cX12_init 172 = .ok (.return_, 1) := by decide +kernel
theorem dX12_in_0 : decode cX12_in 0 = .ok (.iload_n 0, 1) := by decide +kernel
theorem dX12_in_1 : decode cX12_in 1 = .ok (.iload_n 1, 1) := by decide +kernel
theorem dX12_in_2 : decode cX12_in 2 = .ok (.if_icmp .lt 12, 3) := by decide +kernel
theorem dX12_in_5 : decode cX12_in 5 = .ok (.iload_n 0, 1) := by decide +kernel
theorem dX12_in_6 : decode cX12_in 6 = .ok (.iload_n 2, 1) := by decide +kernel
theorem dX12_in_7 : decode cX12_in 7 = .ok (.if_icmp .gt 7, 3) := by decide +kernel
theorem dX12_in_10 : decode cX12_in 10 = .ok (.iconst 1, 1) := by decide +kernel
theorem dX12_in_11 : decode cX12_in 11 = .ok (.goto 4, 3) := by decide +kernel
theorem dX12_in_14 : decode cX12_in 14 = .ok (.iconst 0, 1) := by decide +kernel
theorem dX12_in_15 : decode cX12_in 15 = .ok (.ireturn, 1) := by decide +kernel
theorem dX12_isWind_0 : decode cX12_isWind 0 = .ok (.iload_n 0, 1) := by decide +kernel
theorem dX12_isWind_1 : decode cX12_isWind 1 = .ok (.iconst 0, 1) := by decide +kernel
theorem dX12_isWind_2 : decode cX12_isWind 2 = .ok (.iconst 5, 1) := by decide +kernel
theorem dX12_isWind_3 : decode cX12_isWind 3 = .ok (.invokestatic 63, 3) := by decide +kernel
theorem dX12_isWind_6 : decode cX12_isWind 6 = .ok (.ireturn, 1) := by decide +kernel
theorem dX12_isMill_0 : decode cX12_isMill 0 = .ok (.iload_n 1, 1) := by decide +kernel
theorem dX12_isMill_1 : decode cX12_isMill 1 = .ok (.iconst 0, 1) := by decide +kernel
theorem dX12_isMill_2 : decode cX12_isMill 2 = .ok (.aload_n 0, 1) := by decide +kernel
theorem dX12_isMill_3 : decode cX12_isMill 3 = .ok (.getfield 9, 3) := by decide +kernel
theorem dX12_isMill_6 : decode cX12_isMill 6 = .ok (.iconst 0, 1) := by decide +kernel
theorem dX12_isMill_7 : decode cX12_isMill 7 = .ok (.iaload, 1) := by decide +kernel
theorem dX12_isMill_8 : decode cX12_isMill 8 = .ok (.iconst 1, 1) := by decide +kernel
theorem dX12_isMill_9 : decode cX12_isMill 9 = .ok (.isub, 1) := by decide +kernel
theorem dX12_isMill_10 : decode cX12_isMill 10 = .ok (.invokestatic 63, 3) := by decide +kernel
theorem dX12_isMill_13 : decode cX12_isMill 13 = .ok (.ireturn, 1) := by decide +kernel
theorem dX12_isRule_0 : decode cX12_isRule 0 = .ok (.iload_n 1, 1) := by decide +kernel
theorem dX12_isRule_1 : decode cX12_isRule 1 = .ok (.iconst 0, 1) := by decide +kernel
theorem dX12_isRule_2 : decode cX12_isRule 2 = .ok (.aload_n 0, 1) := by decide +kernel
theorem dX12_isRule_3 : decode cX12_isRule 3 = .ok (.getfield 9, 3) := by decide +kernel
theorem dX12_isRule_6 : decode cX12_isRule 6 = .ok (.iconst 1, 1) := by decide +kernel
theorem dX12_isRule_7 : decode cX12_isRule 7 = .ok (.iaload, 1) := by decide +kernel
theorem dX12_isRule_8 : decode cX12_isRule 8 = .ok (.iconst 1, 1) := by decide +kernel
theorem dX12_isRule_9 : decode cX12_isRule 9 = .ok (.isub, 1) := by decide +kernel
theorem dX12_isRule_10 : decode cX12_isRule 10 = .ok (.invokestatic 63, 3) := by decide +kernel
theorem dX12_isRule_13 : decode cX12_isRule 13 = .ok (.ireturn, 1) := by decide +kernel
theorem dX12_isLed_0 : decode cX12_isLed 0 = .ok (.aload_n 0, 1) := by decide +kernel
theorem dX12_isLed_1 : decode cX12_isLed 1 = .ok (.getfield 9, 3) := by decide +kernel
theorem dX12_isLed_4 : decode cX12_isLed 4 = .ok (.iconst 5, 1) := by decide +kernel
theorem dX12_isLed_5 : decode cX12_isLed 5 = .ok (.iaload, 1) := by decide +kernel
theorem dX12_isLed_6 : decode cX12_isLed 6 = .ok (.iconst (-1), 1) := by decide +kernel
theorem dX12_isLed_7 : decode cX12_isLed 7 = .ok (.if_icmp .eq 7, 3) := by decide +kernel
theorem dX12_isLed_10 : decode cX12_isLed 10 = .ok (.iconst 1, 1) := by decide +kernel
theorem dX12_isLed_11 : decode cX12_isLed 11 = .ok (.goto 4, 3) := by decide +kernel
theorem dX12_isLed_14 : decode cX12_isLed 14 = .ok (.iconst 0, 1) := by decide +kernel
theorem dX12_isLed_15 : decode cX12_isLed 15 = .ok (.ireturn, 1) := by decide +kernel
theorem dX12_feed_0 : decode cX12_feed 0 = .ok (.iload_n 3, 1) := by decide +kernel
theorem dX12_feed_1 : decode cX12_feed 1 = .ok (.iconst 1, 1) := by decide +kernel
theorem dX12_feed_2 : decode cX12_feed 2 = .ok (.bipush 8, 2) := by decide +kernel
theorem dX12_feed_4 : decode cX12_feed 4 = .ok (.invokestatic 63, 3) := by decide +kernel
theorem dX12_feed_7 : decode cX12_feed 7 = .ok (.ifCond .ne 6, 3) := by decide +kernel
theorem dX12_feed_10 : decode cX12_feed 10 = .ok (.bipush (-2), 2) := by decide +kernel
theorem dX12_feed_12 : decode cX12_feed 12 = .ok (.ireturn, 1) := by decide +kernel
theorem dX12_feed_13 : decode cX12_feed 13 = .ok (.aload_n 0, 1) := by decide +kernel
theorem dX12_feed_14 : decode cX12_feed 14 = .ok (.getfield 9, 3) := by decide +kernel
theorem dX12_feed_17 : decode cX12_feed 17 = .ok (.iconst 4, 1) := by decide +kernel
theorem dX12_feed_18 : decode cX12_feed 18 = .ok (.iaload, 1) := by decide +kernel
theorem dX12_feed_19 : decode cX12_feed 19 = .ok (.iload_n 3, 1) := by decide +kernel
theorem dX12_feed_20 : decode cX12_feed 20 = .ok (.iadd, 1) := by decide +kernel
theorem dX12_feed_21 : decode cX12_feed 21 = .ok (.bipush 120, 2) := by decide +kernel
theorem dX12_feed_23 : decode cX12_feed 23 = .ok (.if_icmp .le 6, 3) := by decide +kernel
theorem dX12_feed_26 : decode cX12_feed 26 = .ok (.bipush (-4), 2) := by decide +kernel
theorem dX12_feed_28 : decode cX12_feed 28 = .ok (.ireturn, 1) := by decide +kernel
theorem dX12_feed_29 : decode cX12_feed 29 = .ok (.iload_n 3, 1) := by decide +kernel
theorem dX12_feed_30 : decode cX12_feed 30 = .ok (.iconst 1, 1) := by decide +kernel
theorem dX12_feed_31 : decode cX12_feed 31 = .ok (.isub, 1) := by decide +kernel
theorem dX12_feed_32 : decode cX12_feed 32 = .ok (.istore 4, 2) := by decide +kernel
theorem dX12_feed_34 : decode cX12_feed 34 = .ok (.iload 4, 2) := by decide +kernel
theorem dX12_feed_36 : decode cX12_feed 36 = .ok (.ifCond .lt 45, 3) := by decide +kernel
theorem dX12_feed_39 : decode cX12_feed 39 = .ok (.aload_n 0, 1) := by decide +kernel
theorem dX12_feed_40 : decode cX12_feed 40 = .ok (.getfield 9, 3) := by decide +kernel
theorem dX12_feed_43 : decode cX12_feed 43 = .ok (.bipush 11, 2) := by decide +kernel
theorem dX12_feed_45 : decode cX12_feed 45 = .ok (.aload_n 0, 1) := by decide +kernel
theorem dX12_feed_46 : decode cX12_feed 46 = .ok (.getfield 9, 3) := by decide +kernel
theorem dX12_feed_49 : decode cX12_feed 49 = .ok (.iconst 4, 1) := by decide +kernel
theorem dX12_feed_50 : decode cX12_feed 50 = .ok (.iaload, 1) := by decide +kernel
theorem dX12_feed_51 : decode cX12_feed 51 = .ok (.iadd, 1) := by decide +kernel
theorem dX12_feed_52 : decode cX12_feed 52 = .ok (.lload_n 1, 1) := by decide +kernel
theorem dX12_feed_53 : decode cX12_feed 53 = .ok (.bipush 8, 2) := by decide +kernel
theorem dX12_feed_55 : decode cX12_feed 55 = .ok (.iload 4, 2) := by decide +kernel
theorem dX12_feed_57 : decode cX12_feed 57 = .ok (.imul, 1) := by decide +kernel
theorem dX12_feed_58 : decode cX12_feed 58 = .ok (.lshr, 1) := by decide +kernel
theorem dX12_feed_59 : decode cX12_feed 59 = .ok (.ldc2_w 67, 3) := by decide +kernel
theorem dX12_feed_62 : decode cX12_feed 62 = .ok (.land, 1) := by decide +kernel
theorem dX12_feed_63 : decode cX12_feed 63 = .ok (.l2i, 1) := by decide +kernel
theorem dX12_feed_64 : decode cX12_feed 64 = .ok (.iastore, 1) := by decide +kernel
theorem dX12_feed_65 : decode cX12_feed 65 = .ok (.aload_n 0, 1) := by decide +kernel
theorem dX12_feed_66 : decode cX12_feed 66 = .ok (.getfield 9, 3) := by decide +kernel
theorem dX12_feed_69 : decode cX12_feed 69 = .ok (.iconst 4, 1) := by decide +kernel
theorem dX12_feed_70 : decode cX12_feed 70 = .ok (.dup2, 1) := by decide +kernel
theorem dX12_feed_71 : decode cX12_feed 71 = .ok (.iaload, 1) := by decide +kernel
theorem dX12_feed_72 : decode cX12_feed 72 = .ok (.iconst 1, 1) := by decide +kernel
theorem dX12_feed_73 : decode cX12_feed 73 = .ok (.iadd, 1) := by decide +kernel
theorem dX12_feed_74 : decode cX12_feed 74 = .ok (.iastore, 1) := by decide +kernel
theorem dX12_feed_75 : decode cX12_feed 75 = .ok (.iinc 4 (-1), 3) := by decide +kernel
theorem dX12_feed_78 : decode cX12_feed 78 = .ok (.goto (-44), 3) := by decide +kernel
theorem dX12_feed_81 : decode cX12_feed 81 = .ok (.aload_n 0, 1) := by decide +kernel
theorem dX12_feed_82 : decode cX12_feed 82 = .ok (.getfield 9, 3) := by decide +kernel
theorem dX12_feed_85 : decode cX12_feed 85 = .ok (.iconst 4, 1) := by decide +kernel
theorem dX12_feed_86 : decode cX12_feed 86 = .ok (.iaload, 1) := by decide +kernel
theorem dX12_feed_87 : decode cX12_feed 87 = .ok (.ireturn, 1) := by decide +kernel
theorem dX12_here_0 : decode cX12_here 0 = .ok (.aload_n 0, 1) := by decide +kernel
theorem dX12_here_1 : decode cX12_here 1 = .ok (.getfield 69, 3) := by decide +kernel
theorem dX12_here_4 : decode cX12_here 4 = .ok (.aload_n 0, 1) := by decide +kernel
theorem dX12_here_5 : decode cX12_here 5 = .ok (.getfield 72, 3) := by decide +kernel
theorem dX12_here_8 : decode cX12_here 8 = .ok (.if_icmp .ge 18, 3) := by decide +kernel
theorem dX12_here_11 : decode cX12_here 11 = .ok (.aload_n 0, 1) := by decide +kernel
theorem dX12_here_12 : decode cX12_here 12 = .ok (.getfield 9, 3) := by decide +kernel
theorem dX12_here_15 : decode cX12_here 15 = .ok (.bipush 11, 2) := by decide +kernel
theorem dX12_here_17 : decode cX12_here 17 = .ok (.aload_n 0, 1) := by decide +kernel
theorem dX12_here_18 : decode cX12_here 18 = .ok (.getfield 69, 3) := by decide +kernel
theorem dX12_here_21 : decode cX12_here 21 = .ok (.iadd, 1) := by decide +kernel
theorem dX12_here_22 : decode cX12_here 22 = .ok (.iaload, 1) := by decide +kernel
theorem dX12_here_23 : decode cX12_here 23 = .ok (.goto 4, 3) := by decide +kernel
theorem dX12_here_26 : decode cX12_here 26 = .ok (.iconst (-1), 1) := by decide +kernel
theorem dX12_here_27 : decode cX12_here 27 = .ok (.ireturn, 1) := by decide +kernel
theorem dX12_must_0 : decode cX12_must 0 = .ok (.aload_n 0, 1) := by decide +kernel
theorem dX12_must_1 : decode cX12_must 1 = .ok (.aload_n 0, 1) := by decide +kernel
theorem dX12_must_2 : decode cX12_must 2 = .ok (.getfield 75, 3) := by decide +kernel
theorem dX12_must_5 : decode cX12_must 5 = .ok (.ifCond .ne 11, 3) := by decide +kernel
theorem dX12_must_8 : decode cX12_must 8 = .ok (.aload_n 0, 1) := by decide +kernel
theorem dX12_must_9 : decode cX12_must 9 = .ok (.invokevirtual 79, 3) := by decide +kernel
theorem dX12_must_12 : decode cX12_must 12 = .ok (.iload_n 1, 1) := by decide +kernel
theorem dX12_must_13 : decode cX12_must 13 = .ok (.if_icmp .eq 7, 3) := by decide +kernel
theorem dX12_must_16 : decode cX12_must 16 = .ok (.iconst 1, 1) := by decide +kernel
theorem dX12_must_17 : decode cX12_must 17 = .ok (.goto 4, 3) := by decide +kernel
theorem dX12_must_20 : decode cX12_must 20 = .ok (.iconst 0, 1) := by decide +kernel
theorem dX12_must_21 : decode cX12_must 21 = .ok (.putfield 75, 3) := by decide +kernel
theorem dX12_must_24 : decode cX12_must 24 = .ok (.aload_n 0, 1) := by decide +kernel
theorem dX12_must_25 : decode cX12_must 25 = .ok (.dup, 1) := by decide +kernel
theorem dX12_must_26 : decode cX12_must 26 = .ok (.getfield 69, 3) := by decide +kernel
theorem dX12_must_29 : decode cX12_must 29 = .ok (.aload_n 0, 1) := by decide +kernel
theorem dX12_must_30 : decode cX12_must 30 = .ok (.getfield 75, 3) := by decide +kernel
theorem dX12_must_33 : decode cX12_must 33 = .ok (.ifCond .eq 7, 3) := by decide +kernel
theorem dX12_must_36 : decode cX12_must 36 = .ok (.iconst 0, 1) := by decide +kernel
theorem dX12_must_37 : decode cX12_must 37 = .ok (.goto 4, 3) := by decide +kernel
theorem dX12_must_40 : decode cX12_must 40 = .ok (.iconst 1, 1) := by decide +kernel
theorem dX12_must_41 : decode cX12_must 41 = .ok (.iadd, 1) := by decide +kernel
theorem dX12_must_42 : decode cX12_must 42 = .ok (.putfield 69, 3) := by decide +kernel
theorem dX12_must_45 : decode cX12_must 45 = .ok (.return_, 1) := by decide +kernel
theorem dX12_spells_0 : decode cX12_spells 0 = .ok (.iconst 0, 1) := by decide +kernel
theorem dX12_spells_1 : decode cX12_spells 1 = .ok (.istore_n 2, 1) := by decide +kernel
theorem dX12_spells_2 : decode cX12_spells 2 = .ok (.iload_n 2, 1) := by decide +kernel
theorem dX12_spells_3 : decode cX12_spells 3 = .ok (.aload_n 1, 1) := by decide +kernel
theorem dX12_spells_4 : decode cX12_spells 4 = .ok (.invokevirtual 83, 3) := by decide +kernel
theorem dX12_spells_7 : decode cX12_spells 7 = .ok (.if_icmp .ge 18, 3) := by decide +kernel
theorem dX12_spells_10 : decode cX12_spells 10 = .ok (.aload_n 0, 1) := by decide +kernel
theorem dX12_spells_11 : decode cX12_spells 11 = .ok (.aload_n 1, 1) := by decide +kernel
theorem dX12_spells_12 : decode cX12_spells 12 = .ok (.iload_n 2, 1) := by decide +kernel
theorem dX12_spells_13 : decode cX12_spells 13 = .ok (.invokevirtual 88, 3) := by decide +kernel
theorem dX12_spells_16 : decode cX12_spells 16 = .ok (.invokevirtual 92, 3) := by decide +kernel
theorem dX12_spells_19 : decode cX12_spells 19 = .ok (.iinc 2 1, 3) := by decide +kernel
theorem dX12_spells_22 : decode cX12_spells 22 = .ok (.goto (-20), 3) := by decide +kernel
theorem dX12_spells_25 : decode cX12_spells 25 = .ok (.return_, 1) := by decide +kernel
theorem dX12_figures_0 : decode cX12_figures 0 = .ok (.aload_n 0, 1) := by decide +kernel
theorem dX12_figures_1 : decode cX12_figures 1 = .ok (.aload_n 0, 1) := by decide +kernel
theorem dX12_figures_2 : decode cX12_figures 2 = .ok (.getfield 75, 3) := by decide +kernel
theorem dX12_figures_5 : decode cX12_figures 5 = .ok (.ifCond .ne 17, 3) := by decide +kernel
theorem dX12_figures_8 : decode cX12_figures 8 = .ok (.aload_n 0, 1) := by decide +kernel
theorem dX12_figures_9 : decode cX12_figures 9 = .ok (.invokevirtual 79, 3) := by decide +kernel
theorem dX12_figures_12 : decode cX12_figures 12 = .ok (.bipush 48, 2) := by decide +kernel
theorem dX12_figures_14 : decode cX12_figures 14 = .ok (.bipush 57, 2) := by decide +kernel
theorem dX12_figures_16 : decode cX12_figures 16 = .ok (.invokestatic 63, 3) := by decide +kernel
theorem dX12_figures_19 : decode cX12_figures 19 = .ok (.ifCond .ne 7, 3) := by decide +kernel
theorem dX12_figures_22 : decode cX12_figures 22 = .ok (.iconst 1, 1) := by decide +kernel
theorem dX12_figures_23 : decode cX12_figures 23 = .ok (.goto 4, 3) := by decide +kernel
theorem dX12_figures_26 : decode cX12_figures 26 = .ok (.iconst 0, 1) := by decide +kernel
theorem dX12_figures_27 : decode cX12_figures 27 = .ok (.putfield 75, 3) := by decide +kernel
theorem dX12_figures_30 : decode cX12_figures 30 = .ok (.iconst 0, 1) := by decide +kernel
theorem dX12_figures_31 : decode cX12_figures 31 = .ok (.istore_n 1, 1) := by decide +kernel
theorem dX12_figures_32 : decode cX12_figures 32 = .ok (.iconst 0, 1) := by decide +kernel
theorem dX12_figures_33 : decode cX12_figures 33 = .ok (.istore_n 2, 1) := by decide +kernel
theorem dX12_figures_34 : decode cX12_figures 34 = .ok (.iload_n 2, 1) := by decide +kernel
theorem dX12_figures_35 : decode cX12_figures 35 = .ok (.iconst 2, 1) := by decide +kernel
theorem dX12_figures_36 : decode cX12_figures 36 = .ok (.if_icmp .ge 61, 3) := by decide +kernel
theorem dX12_figures_39 : decode cX12_figures 39 = .ok (.aload_n 0, 1) := by decide +kernel
theorem dX12_figures_40 : decode cX12_figures 40 = .ok (.getfield 75, 3) := by decide +kernel
theorem dX12_figures_43 : decode cX12_figures 43 = .ok (.ifCond .ne 54, 3) := by decide +kernel
theorem dX12_figures_46 : decode cX12_figures 46 = .ok (.aload_n 0, 1) := by decide +kernel
theorem dX12_figures_47 : decode cX12_figures 47 = .ok (.invokevirtual 79, 3) := by decide +kernel
theorem dX12_figures_50 : decode cX12_figures 50 = .ok (.bipush 48, 2) := by decide +kernel
theorem dX12_figures_52 : decode cX12_figures 52 = .ok (.bipush 57, 2) := by decide +kernel
theorem dX12_figures_54 : decode cX12_figures 54 = .ok (.invokestatic 63, 3) := by decide +kernel
theorem dX12_figures_57 : decode cX12_figures 57 = .ok (.ifCond .eq 40, 3) := by decide +kernel
theorem dX12_figures_60 : decode cX12_figures 60 = .ok (.iload_n 2, 1) := by decide +kernel
theorem dX12_figures_61 : decode cX12_figures 61 = .ok (.ifCond .eq 7, 3) := by decide +kernel
theorem dX12_figures_64 : decode cX12_figures 64 = .ok (.iload_n 1, 1) := by decide +kernel
theorem dX12_figures_65 : decode cX12_figures 65 = .ok (.ifCond .le 32, 3) := by decide +kernel
theorem dX12_figures_68 : decode cX12_figures 68 = .ok (.bipush 10, 2) := by decide +kernel
theorem dX12_figures_70 : decode cX12_figures 70 = .ok (.iload_n 1, 1) := by decide +kernel
theorem dX12_figures_71 : decode cX12_figures 71 = .ok (.imul, 1) := by decide +kernel
theorem dX12_figures_72 : decode cX12_figures 72 = .ok (.aload_n 0, 1) := by decide +kernel
theorem dX12_figures_73 : decode cX12_figures 73 = .ok (.invokevirtual 79, 3) := by decide +kernel
theorem dX12_figures_76 : decode cX12_figures 76 = .ok (.iadd, 1) := by decide +kernel
theorem dX12_figures_77 : decode cX12_figures 77 = .ok (.bipush 48, 2) := by decide +kernel
theorem dX12_figures_79 : decode cX12_figures 79 = .ok (.isub, 1) := by decide +kernel
theorem dX12_figures_80 : decode cX12_figures 80 = .ok (.istore_n 1, 1) := by decide +kernel
theorem dX12_figures_81 : decode cX12_figures 81 = .ok (.aload_n 0, 1) := by decide +kernel
theorem dX12_figures_82 : decode cX12_figures 82 = .ok (.dup, 1) := by decide +kernel
theorem dX12_figures_83 : decode cX12_figures 83 = .ok (.getfield 69, 3) := by decide +kernel
theorem dX12_figures_86 : decode cX12_figures 86 = .ok (.iconst 1, 1) := by decide +kernel
theorem dX12_figures_87 : decode cX12_figures 87 = .ok (.iadd, 1) := by decide +kernel
theorem dX12_figures_88 : decode cX12_figures 88 = .ok (.putfield 69, 3) := by decide +kernel
theorem dX12_figures_91 : decode cX12_figures 91 = .ok (.iinc 2 1, 3) := by decide +kernel
theorem dX12_figures_94 : decode cX12_figures 94 = .ok (.goto (-60), 3) := by decide +kernel
theorem dX12_figures_97 : decode cX12_figures 97 = .ok (.iload_n 1, 1) := by decide +kernel
theorem dX12_figures_98 : decode cX12_figures 98 = .ok (.ireturn, 1) := by decide +kernel
theorem dX12_among_0 : decode cX12_among 0 = .ok (.iconst 0, 1) := by decide +kernel
theorem dX12_among_1 : decode cX12_among 1 = .ok (.istore_n 2, 1) := by decide +kernel
theorem dX12_among_2 : decode cX12_among 2 = .ok (.iload_n 2, 1) := by decide +kernel
theorem dX12_among_3 : decode cX12_among 3 = .ok (.aload_n 1, 1) := by decide +kernel
theorem dX12_among_4 : decode cX12_among 4 = .ok (.invokevirtual 83, 3) := by decide +kernel
theorem dX12_among_7 : decode cX12_among 7 = .ok (.if_icmp .ge 33, 3) := by decide +kernel
theorem dX12_among_10 : decode cX12_among 10 = .ok (.aload_n 0, 1) := by decide +kernel
theorem dX12_among_11 : decode cX12_among 11 = .ok (.invokevirtual 79, 3) := by decide +kernel
theorem dX12_among_14 : decode cX12_among 14 = .ok (.aload_n 1, 1) := by decide +kernel
theorem dX12_among_15 : decode cX12_among 15 = .ok (.iload_n 2, 1) := by decide +kernel
theorem dX12_among_16 : decode cX12_among 16 = .ok (.invokevirtual 88, 3) := by decide +kernel
theorem dX12_among_19 : decode cX12_among 19 = .ok (.if_icmp .ne 15, 3) := by decide +kernel
theorem dX12_among_22 : decode cX12_among 22 = .ok (.aload_n 0, 1) := by decide +kernel
theorem dX12_among_23 : decode cX12_among 23 = .ok (.dup, 1) := by decide +kernel
theorem dX12_among_24 : decode cX12_among 24 = .ok (.getfield 69, 3) := by decide +kernel
theorem dX12_among_27 : decode cX12_among 27 = .ok (.iconst 1, 1) := by decide +kernel
theorem dX12_among_28 : decode cX12_among 28 = .ok (.iadd, 1) := by decide +kernel
theorem dX12_among_29 : decode cX12_among 29 = .ok (.putfield 69, 3) := by decide +kernel
theorem dX12_among_32 : decode cX12_among 32 = .ok (.iload_n 2, 1) := by decide +kernel
theorem dX12_among_33 : decode cX12_among 33 = .ok (.ireturn, 1) := by decide +kernel
theorem dX12_among_34 : decode cX12_among 34 = .ok (.iinc 2 1, 3) := by decide +kernel
theorem dX12_among_37 : decode cX12_among 37 = .ok (.goto (-35), 3) := by decide +kernel
theorem dX12_among_40 : decode cX12_among 40 = .ok (.iconst (-1), 1) := by decide +kernel
theorem dX12_among_41 : decode cX12_among 41 = .ok (.ireturn, 1) := by decide +kernel
theorem dX12_emits_0 : decode cX12_emits 0 = .ok (.aload_n 0, 1) := by decide +kernel
theorem dX12_emits_1 : decode cX12_emits 1 = .ok (.getfield 75, 3) := by decide +kernel
theorem dX12_emits_4 : decode cX12_emits 4 = .ok (.ifCond .ne 52, 3) := by decide +kernel
theorem dX12_emits_7 : decode cX12_emits 7 = .ok (.aload_n 0, 1) := by decide +kernel
theorem dX12_emits_8 : decode cX12_emits 8 = .ok (.getfield 9, 3) := by decide +kernel
theorem dX12_emits_11 : decode cX12_emits 11 = .ok (.sipush 151, 3) := by decide +kernel
theorem dX12_emits_14 : decode cX12_emits 14 = .ok (.sipush 140, 3) := by decide +kernel
theorem dX12_emits_17 : decode cX12_emits 17 = .ok (.aload_n 0, 1) := by decide +kernel
theorem dX12_emits_18 : decode cX12_emits 18 = .ok (.getfield 96, 3) := by decide +kernel
theorem dX12_emits_21 : decode cX12_emits 21 = .ok (.imul, 1) := by decide +kernel
theorem dX12_emits_22 : decode cX12_emits 22 = .ok (.iadd, 1) := by decide +kernel
theorem dX12_emits_23 : decode cX12_emits 23 = .ok (.aload_n 0, 1) := by decide +kernel
theorem dX12_emits_24 : decode cX12_emits 24 = .ok (.getfield 9, 3) := by decide +kernel
theorem dX12_emits_27 : decode cX12_emits 27 = .ok (.sipush 146, 3) := by decide +kernel
theorem dX12_emits_30 : decode cX12_emits 30 = .ok (.aload_n 0, 1) := by decide +kernel
theorem dX12_emits_31 : decode cX12_emits 31 = .ok (.getfield 96, 3) := by decide +kernel
theorem dX12_emits_34 : decode cX12_emits 34 = .ok (.iadd, 1) := by decide +kernel
theorem dX12_emits_35 : decode cX12_emits 35 = .ok (.iaload, 1) := by decide +kernel
theorem dX12_emits_36 : decode cX12_emits 36 = .ok (.iadd, 1) := by decide +kernel
theorem dX12_emits_37 : decode cX12_emits 37 = .ok (.iload_n 1, 1) := by decide +kernel
theorem dX12_emits_38 : decode cX12_emits 38 = .ok (.iastore, 1) := by decide +kernel
theorem dX12_emits_39 : decode cX12_emits 39 = .ok (.aload_n 0, 1) := by decide +kernel
theorem dX12_emits_40 : decode cX12_emits 40 = .ok (.getfield 9, 3) := by decide +kernel
theorem dX12_emits_43 : decode cX12_emits 43 = .ok (.sipush 146, 3) := by decide +kernel
theorem dX12_emits_46 : decode cX12_emits 46 = .ok (.aload_n 0, 1) := by decide +kernel
theorem dX12_emits_47 : decode cX12_emits 47 = .ok (.getfield 96, 3) := by decide +kernel
theorem dX12_emits_50 : decode cX12_emits 50 = .ok (.iadd, 1) := by decide +kernel
theorem dX12_emits_51 : decode cX12_emits 51 = .ok (.dup2, 1) := by decide +kernel
theorem dX12_emits_52 : decode cX12_emits 52 = .ok (.iaload, 1) := by decide +kernel
theorem dX12_emits_53 : decode cX12_emits 53 = .ok (.iconst 1, 1) := by decide +kernel
theorem dX12_emits_54 : decode cX12_emits 54 = .ok (.iadd, 1) := by decide +kernel
theorem dX12_emits_55 : decode cX12_emits 55 = .ok (.iastore, 1) := by decide +kernel
theorem dX12_emits_56 : decode cX12_emits 56 = .ok (.return_, 1) := by decide +kernel
theorem dX12_factor_0 : decode cX12_factor 0 = .ok (.aload_n 0, 1) := by decide +kernel
theorem dX12_factor_1 : decode cX12_factor 1 = .ok (.getfield 75, 3) := by decide +kernel
theorem dX12_factor_4 : decode cX12_factor 4 = .ok (.ifCond .eq 4, 3) := by decide +kernel
theorem dX12_factor_7 : decode cX12_factor 7 = .ok (.return_, 1) := by decide +kernel
theorem dX12_factor_8 : decode cX12_factor 8 = .ok (.aload_n 0, 1) := by decide +kernel
theorem dX12_factor_9 : decode cX12_factor 9 = .ok (.invokevirtual 79, 3) := by decide +kernel
theorem dX12_factor_12 : decode cX12_factor 12 = .ok (.istore_n 1, 1) := by decide +kernel
theorem dX12_factor_13 : decode cX12_factor 13 = .ok (.iload_n 1, 1) := by decide +kernel
theorem dX12_factor_14 : decode cX12_factor 14 = .ok (.bipush 33, 2) := by decide +kernel
theorem dX12_factor_16 : decode cX12_factor 16 = .ok (.if_icmp .eq 9, 3) := by decide +kernel
theorem dX12_factor_19 : decode cX12_factor 19 = .ok (.iload_n 1, 1) := by decide +kernel
theorem dX12_factor_20 : decode cX12_factor 20 = .ok (.bipush 40, 2) := by decide +kernel
theorem dX12_factor_22 : decode cX12_factor 22 = .ok (.if_icmp .ne 90, 3) := by decide +kernel
theorem dX12_factor_25 : decode cX12_factor 25 = .ok (.aload_n 0, 1) := by decide +kernel
theorem dX12_factor_26 : decode cX12_factor 26 = .ok (.aload_n 0, 1) := by decide +kernel
theorem dX12_factor_27 : decode cX12_factor 27 = .ok (.getfield 99, 3) := by decide +kernel
theorem dX12_factor_30 : decode cX12_factor 30 = .ok (.iconst 5, 1) := by decide +kernel
theorem dX12_factor_31 : decode cX12_factor 31 = .ok (.if_icmp .ne 7, 3) := by decide +kernel
theorem dX12_factor_34 : decode cX12_factor 34 = .ok (.iconst 1, 1) := by decide +kernel
theorem dX12_factor_35 : decode cX12_factor 35 = .ok (.goto 4, 3) := by decide +kernel
theorem dX12_factor_38 : decode cX12_factor 38 = .ok (.iconst 0, 1) := by decide +kernel
theorem dX12_factor_39 : decode cX12_factor 39 = .ok (.putfield 75, 3) := by decide +kernel
theorem dX12_factor_42 : decode cX12_factor 42 = .ok (.aload_n 0, 1) := by decide +kernel
theorem dX12_factor_43 : decode cX12_factor 43 = .ok (.dup, 1) := by decide +kernel
theorem dX12_factor_44 : decode cX12_factor 44 = .ok (.getfield 99, 3) := by decide +kernel
theorem dX12_factor_47 : decode cX12_factor 47 = .ok (.iconst 1, 1) := by decide +kernel
theorem dX12_factor_48 : decode cX12_factor 48 = .ok (.iadd, 1) := by decide +kernel
theorem dX12_factor_49 : decode cX12_factor 49 = .ok (.putfield 99, 3) := by decide +kernel
theorem dX12_factor_52 : decode cX12_factor 52 = .ok (.aload_n 0, 1) := by decide +kernel
theorem dX12_factor_53 : decode cX12_factor 53 = .ok (.dup, 1) := by decide +kernel
theorem dX12_factor_54 : decode cX12_factor 54 = .ok (.getfield 69, 3) := by decide +kernel
theorem dX12_factor_57 : decode cX12_factor 57 = .ok (.aload_n 0, 1) := by decide +kernel
theorem dX12_factor_58 : decode cX12_factor 58 = .ok (.getfield 75, 3) := by decide +kernel
theorem dX12_factor_61 : decode cX12_factor 61 = .ok (.ifCond .eq 7, 3) := by decide +kernel
theorem dX12_factor_64 : decode cX12_factor 64 = .ok (.iconst 0, 1) := by decide +kernel
theorem dX12_factor_65 : decode cX12_factor 65 = .ok (.goto 4, 3) := by decide +kernel
theorem dX12_factor_68 : decode cX12_factor 68 = .ok (.iconst 1, 1) := by decide +kernel
theorem dX12_factor_69 : decode cX12_factor 69 = .ok (.iadd, 1) := by decide +kernel
theorem dX12_factor_70 : decode cX12_factor 70 = .ok (.putfield 69, 3) := by decide +kernel
theorem dX12_factor_73 : decode cX12_factor 73 = .ok (.iload_n 1, 1) := by decide +kernel
theorem dX12_factor_74 : decode cX12_factor 74 = .ok (.bipush 33, 2) := by decide +kernel
theorem dX12_factor_76 : decode cX12_factor 76 = .ok (.if_icmp .ne 15, 3) := by decide +kernel
theorem dX12_factor_79 : decode cX12_factor 79 = .ok (.aload_n 0, 1) := by decide +kernel
theorem dX12_factor_80 : decode cX12_factor 80 = .ok (.invokevirtual 102, 3) := by decide +kernel
theorem dX12_factor_83 : decode cX12_factor 83 = .ok (.aload_n 0, 1) := by decide +kernel
theorem dX12_factor_84 : decode cX12_factor 84 = .ok (.iconst (-1), 1) := by decide +kernel
theorem dX12_factor_85 : decode cX12_factor 85 = .ok (.invokevirtual 105, 3) := by decide +kernel
theorem dX12_factor_88 : decode cX12_factor 88 = .ok (.goto 13, 3) := by decide +kernel
theorem dX12_factor_91 : decode cX12_factor 91 = .ok (.aload_n 0, 1) := by decide +kernel
theorem dX12_factor_92 : decode cX12_factor 92 = .ok (.invokevirtual 108, 3) := by decide +kernel
theorem dX12_factor_95 : decode cX12_factor 95 = .ok (.aload_n 0, 1) := by decide +kernel
theorem dX12_factor_96 : decode cX12_factor 96 = .ok (.bipush 41, 2) := by decide +kernel
theorem dX12_factor_98 : decode cX12_factor 98 = .ok (.invokevirtual 92, 3) := by decide +kernel
theorem dX12_factor_101 : decode cX12_factor 101 = .ok (.aload_n 0, 1) := by decide +kernel
theorem dX12_factor_102 : decode cX12_factor 102 = .ok (.dup, 1) := by decide +kernel
theorem dX12_factor_103 : decode cX12_factor 103 = .ok (.getfield 99, 3) := by decide +kernel
theorem dX12_factor_106 : decode cX12_factor 106 = .ok (.iconst 1, 1) := by decide +kernel
theorem dX12_factor_107 : decode cX12_factor 107 = .ok (.isub, 1) := by decide +kernel
theorem dX12_factor_108 : decode cX12_factor 108 = .ok (.putfield 99, 3) := by decide +kernel
theorem dX12_factor_111 : decode cX12_factor 111 = .ok (.return_, 1) := by decide +kernel
theorem dX12_factor_112 : decode cX12_factor 112 = .ok (.aload_n 0, 1) := by decide +kernel
theorem dX12_factor_113 : decode cX12_factor 113 = .ok (.ldc 111, 2) := by decide +kernel
theorem dX12_factor_115 : decode cX12_factor 115 = .ok (.invokevirtual 113, 3) := by decide +kernel
theorem dX12_factor_118 : decode cX12_factor 118 = .ok (.istore_n 2, 1) := by decide +kernel
theorem dX12_factor_119 : decode cX12_factor 119 = .ok (.aload_n 0, 1) := by decide +kernel
theorem dX12_factor_120 : decode cX12_factor 120 = .ok (.iload_n 2, 1) := by decide +kernel
theorem dX12_factor_121 : decode cX12_factor 121 = .ok (.iconst (-1), 1) := by decide +kernel
theorem dX12_factor_122 : decode cX12_factor 122 = .ok (.if_icmp .ne 7, 3) := by decide +kernel
theorem dX12_factor_125 : decode cX12_factor 125 = .ok (.iconst 1, 1) := by decide +kernel
theorem dX12_factor_126 : decode cX12_factor 126 = .ok (.goto 4, 3) := by decide +kernel
theorem dX12_factor_129 : decode cX12_factor 129 = .ok (.iconst 0, 1) := by decide +kernel
theorem dX12_factor_130 : decode cX12_factor 130 = .ok (.putfield 75, 3) := by decide +kernel
theorem dX12_factor_133 : decode cX12_factor 133 = .ok (.aload_n 0, 1) := by decide +kernel
theorem dX12_factor_134 : decode cX12_factor 134 = .ok (.getfield 75, 3) := by decide +kernel
theorem dX12_factor_137 : decode cX12_factor 137 = .ok (.ifCond .eq 7, 3) := by decide +kernel
theorem dX12_factor_140 : decode cX12_factor 140 = .ok (.iconst 0, 1) := by decide +kernel
theorem dX12_factor_141 : decode cX12_factor 141 = .ok (.goto 9, 3) := by decide +kernel
theorem dX12_factor_144 : decode cX12_factor 144 = .ok (.aload_n 0, 1) := by decide +kernel
theorem dX12_factor_145 : decode cX12_factor 145 = .ok (.ldc 117, 2) := by decide +kernel
theorem dX12_factor_147 : decode cX12_factor 147 = .ok (.invokevirtual 113, 3) := by decide +kernel
theorem dX12_factor_150 : decode cX12_factor 150 = .ok (.istore_n 3, 1) := by decide +kernel
theorem dX12_factor_151 : decode cX12_factor 151 = .ok (.aload_n 0, 1) := by decide +kernel
theorem dX12_factor_152 : decode cX12_factor 152 = .ok (.aload_n 0, 1) := by decide +kernel
theorem dX12_factor_153 : decode cX12_factor 153 = .ok (.getfield 75, 3) := by decide +kernel
theorem dX12_factor_156 : decode cX12_factor 156 = .ok (.ifCond .ne 8, 3) := by decide +kernel
theorem dX12_factor_159 : decode cX12_factor 159 = .ok (.iload_n 3, 1) := by decide +kernel
theorem dX12_factor_160 : decode cX12_factor 160 = .ok (.iconst (-1), 1) := by decide +kernel
theorem dX12_factor_161 : decode cX12_factor 161 = .ok (.if_icmp .ne 7, 3) := by decide +kernel
theorem dX12_factor_164 : decode cX12_factor 164 = .ok (.iconst 1, 1) := by decide +kernel
theorem dX12_factor_165 : decode cX12_factor 165 = .ok (.goto 4, 3) := by decide +kernel
theorem dX12_factor_168 : decode cX12_factor 168 = .ok (.iconst 0, 1) := by decide +kernel
theorem dX12_factor_169 : decode cX12_factor 169 = .ok (.putfield 75, 3) := by decide +kernel
theorem dX12_factor_172 : decode cX12_factor 172 = .ok (.aload_n 0, 1) := by decide +kernel
theorem dX12_factor_173 : decode cX12_factor 173 = .ok (.invokevirtual 119, 3) := by decide +kernel
theorem dX12_factor_176 : decode cX12_factor 176 = .ok (.istore 4, 2) := by decide +kernel
theorem dX12_factor_178 : decode cX12_factor 178 = .ok (.aload_n 0, 1) := by decide +kernel
theorem dX12_factor_179 : decode cX12_factor 179 = .ok (.iload_n 2, 1) := by decide +kernel
theorem dX12_factor_180 : decode cX12_factor 180 = .ok (.bipush 8, 2) := by decide +kernel
theorem dX12_factor_182 : decode cX12_factor 182 = .ok (.iload_n 3, 1) := by decide +kernel
theorem dX12_factor_183 : decode cX12_factor 183 = .ok (.imul, 1) := by decide +kernel
theorem dX12_factor_184 : decode cX12_factor 184 = .ok (.iadd, 1) := by decide +kernel
theorem dX12_factor_185 : decode cX12_factor 185 = .ok (.bipush 32, 2) := by decide +kernel
theorem dX12_factor_187 : decode cX12_factor 187 = .ok (.iload 4, 2) := by decide +kernel
theorem dX12_factor_189 : decode cX12_factor 189 = .ok (.imul, 1) := by decide +kernel
theorem dX12_factor_190 : decode cX12_factor 190 = .ok (.iadd, 1) := by decide +kernel
theorem dX12_factor_191 : decode cX12_factor 191 = .ok (.invokevirtual 105, 3) := by decide +kernel
theorem dX12_factor_194 : decode cX12_factor 194 = .ok (.return_, 1) := by decide +kernel
theorem dX12_every_0 : decode cX12_every 0 = .ok (.aload_n 0, 1) := by decide +kernel
theorem dX12_every_1 : decode cX12_every 1 = .ok (.invokevirtual 102, 3) := by decide +kernel
theorem dX12_every_4 : decode cX12_every 4 = .ok (.aload_n 0, 1) := by decide +kernel
theorem dX12_every_5 : decode cX12_every 5 = .ok (.getfield 75, 3) := by decide +kernel
theorem dX12_every_8 : decode cX12_every 8 = .ok (.ifCond .ne 35, 3) := by decide +kernel
theorem dX12_every_11 : decode cX12_every 11 = .ok (.aload_n 0, 1) := by decide +kernel
theorem dX12_every_12 : decode cX12_every 12 = .ok (.invokevirtual 79, 3) := by decide +kernel
theorem dX12_every_15 : decode cX12_every 15 = .ok (.bipush 38, 2) := by decide +kernel
theorem dX12_every_17 : decode cX12_every 17 = .ok (.if_icmp .ne 26, 3) := by decide +kernel
theorem dX12_every_20 : decode cX12_every 20 = .ok (.aload_n 0, 1) := by decide +kernel
theorem dX12_every_21 : decode cX12_every 21 = .ok (.dup, 1) := by decide +kernel
theorem dX12_every_22 : decode cX12_every 22 = .ok (.getfield 69, 3) := by decide +kernel
theorem dX12_every_25 : decode cX12_every 25 = .ok (.iconst 1, 1) := by decide +kernel
theorem dX12_every_26 : decode cX12_every 26 = .ok (.iadd, 1) := by decide +kernel
theorem dX12_every_27 : decode cX12_every 27 = .ok (.putfield 69, 3) := by decide +kernel
theorem dX12_every_30 : decode cX12_every 30 = .ok (.aload_n 0, 1) := by decide +kernel
theorem dX12_every_31 : decode cX12_every 31 = .ok (.invokevirtual 102, 3) := by decide +kernel
theorem dX12_every_34 : decode cX12_every 34 = .ok (.aload_n 0, 1) := by decide +kernel
theorem dX12_every_35 : decode cX12_every 35 = .ok (.bipush (-2), 2) := by decide +kernel
theorem dX12_every_37 : decode cX12_every 37 = .ok (.invokevirtual 105, 3) := by decide +kernel
theorem dX12_every_40 : decode cX12_every 40 = .ok (.goto (-36), 3) := by decide +kernel
theorem dX12_every_43 : decode cX12_every 43 = .ok (.return_, 1) := by decide +kernel
theorem dX12_some_0 : decode cX12_some 0 = .ok (.aload_n 0, 1) := by decide +kernel
theorem dX12_some_1 : decode cX12_some 1 = .ok (.invokevirtual 122, 3) := by decide +kernel
theorem dX12_some_4 : decode cX12_some 4 = .ok (.aload_n 0, 1) := by decide +kernel
theorem dX12_some_5 : decode cX12_some 5 = .ok (.getfield 75, 3) := by decide +kernel
theorem dX12_some_8 : decode cX12_some 8 = .ok (.ifCond .ne 35, 3) := by decide +kernel
theorem dX12_some_11 : decode cX12_some 11 = .ok (.aload_n 0, 1) := by decide +kernel
theorem dX12_some_12 : decode cX12_some 12 = .ok (.invokevirtual 79, 3) := by decide +kernel
theorem dX12_some_15 : decode cX12_some 15 = .ok (.bipush 124, 2) := by decide +kernel
theorem dX12_some_17 : decode cX12_some 17 = .ok (.if_icmp .ne 26, 3) := by decide +kernel
theorem dX12_some_20 : decode cX12_some 20 = .ok (.aload_n 0, 1) := by decide +kernel
theorem dX12_some_21 : decode cX12_some 21 = .ok (.dup, 1) := by decide +kernel
theorem dX12_some_22 : decode cX12_some 22 = .ok (.getfield 69, 3) := by decide +kernel
theorem dX12_some_25 : decode cX12_some 25 = .ok (.iconst 1, 1) := by decide +kernel
theorem dX12_some_26 : decode cX12_some 26 = .ok (.iadd, 1) := by decide +kernel
theorem dX12_some_27 : decode cX12_some 27 = .ok (.putfield 69, 3) := by decide +kernel
theorem dX12_some_30 : decode cX12_some 30 = .ok (.aload_n 0, 1) := by decide +kernel
theorem dX12_some_31 : decode cX12_some 31 = .ok (.invokevirtual 122, 3) := by decide +kernel
theorem dX12_some_34 : decode cX12_some 34 = .ok (.aload_n 0, 1) := by decide +kernel
theorem dX12_some_35 : decode cX12_some 35 = .ok (.bipush (-3), 2) := by decide +kernel
theorem dX12_some_37 : decode cX12_some 37 = .ok (.invokevirtual 105, 3) := by decide +kernel
theorem dX12_some_40 : decode cX12_some 40 = .ok (.goto (-36), 3) := by decide +kernel
theorem dX12_some_43 : decode cX12_some 43 = .ok (.return_, 1) := by decide +kernel
theorem dX12_much_0 : decode cX12_much 0 = .ok (.aload_n 0, 1) := by decide +kernel
theorem dX12_much_1 : decode cX12_much 1 = .ok (.aload_n 2, 1) := by decide +kernel
theorem dX12_much_2 : decode cX12_much 2 = .ok (.invokevirtual 125, 3) := by decide +kernel
theorem dX12_much_5 : decode cX12_much 5 = .ok (.aload_n 0, 1) := by decide +kernel
theorem dX12_much_6 : decode cX12_much 6 = .ok (.invokevirtual 119, 3) := by decide +kernel
theorem dX12_much_9 : decode cX12_much 9 = .ok (.istore_n 3, 1) := by decide +kernel
theorem dX12_much_10 : decode cX12_much 10 = .ok (.aload_n 0, 1) := by decide +kernel
theorem dX12_much_11 : decode cX12_much 11 = .ok (.bipush 32, 2) := by decide +kernel
theorem dX12_much_13 : decode cX12_much 13 = .ok (.invokevirtual 92, 3) := by decide +kernel
theorem dX12_much_16 : decode cX12_much 16 = .ok (.aload_n 0, 1) := by decide +kernel
theorem dX12_much_17 : decode cX12_much 17 = .ok (.invokevirtual 108, 3) := by decide +kernel
theorem dX12_much_20 : decode cX12_much 20 = .ok (.aload_n 0, 1) := by decide +kernel
theorem dX12_much_21 : decode cX12_much 21 = .ok (.bipush (-10), 2) := by decide +kernel
theorem dX12_much_23 : decode cX12_much 23 = .ok (.bipush 100, 2) := by decide +kernel
theorem dX12_much_25 : decode cX12_much 25 = .ok (.iload_n 1, 1) := by decide +kernel
theorem dX12_much_26 : decode cX12_much 26 = .ok (.imul, 1) := by decide +kernel
theorem dX12_much_27 : decode cX12_much 27 = .ok (.isub, 1) := by decide +kernel
theorem dX12_much_28 : decode cX12_much 28 = .ok (.iload_n 3, 1) := by decide +kernel
theorem dX12_much_29 : decode cX12_much 29 = .ok (.isub, 1) := by decide +kernel
theorem dX12_much_30 : decode cX12_much 30 = .ok (.invokevirtual 105, 3) := by decide +kernel
theorem dX12_much_33 : decode cX12_much 33 = .ok (.return_, 1) := by decide +kernel
theorem dX12_tells_0 : decode cX12_tells 0 = .ok (.aload_n 0, 1) := by decide +kernel
theorem dX12_tells_1 : decode cX12_tells 1 = .ok (.aload_n 2, 1) := by decide +kernel
theorem dX12_tells_2 : decode cX12_tells 2 = .ok (.invokevirtual 125, 3) := by decide +kernel
theorem dX12_tells_5 : decode cX12_tells 5 = .ok (.aload_n 0, 1) := by decide +kernel
theorem dX12_tells_6 : decode cX12_tells 6 = .ok (.invokevirtual 119, 3) := by decide +kernel
theorem dX12_tells_9 : decode cX12_tells 9 = .ok (.istore_n 3, 1) := by decide +kernel
theorem dX12_tells_10 : decode cX12_tells 10 = .ok (.aload_n 0, 1) := by decide +kernel
theorem dX12_tells_11 : decode cX12_tells 11 = .ok (.getfield 75, 3) := by decide +kernel
theorem dX12_tells_14 : decode cX12_tells 14 = .ok (.ifCond .ne 15, 3) := by decide +kernel
theorem dX12_tells_17 : decode cX12_tells 17 = .ok (.aload_n 0, 1) := by decide +kernel
theorem dX12_tells_18 : decode cX12_tells 18 = .ok (.getfield 9, 3) := by decide +kernel
theorem dX12_tells_21 : decode cX12_tells 21 = .ok (.iload_n 1, 1) := by decide +kernel
theorem dX12_tells_22 : decode cX12_tells 22 = .ok (.aload_n 0, 1) := by decide +kernel
theorem dX12_tells_23 : decode cX12_tells 23 = .ok (.getfield 96, 3) := by decide +kernel
theorem dX12_tells_26 : decode cX12_tells 26 = .ok (.iadd, 1) := by decide +kernel
theorem dX12_tells_27 : decode cX12_tells 27 = .ok (.iload_n 3, 1) := by decide +kernel
theorem dX12_tells_28 : decode cX12_tells 28 = .ok (.iastore, 1) := by decide +kernel
theorem dX12_tells_29 : decode cX12_tells 29 = .ok (.return_, 1) := by decide +kernel
theorem dX12_clauseHere_0 : decode cX12_clauseHere 0 = .ok (.aload_n 0, 1) := by decide +kernel
theorem dX12_clauseHere_1 : decode cX12_clauseHere 1 = .ok (.invokevirtual 79, 3) := by decide +kernel
theorem dX12_clauseHere_4 : decode cX12_clauseHere 4 = .ok (.tableswitch 180 98 119 #[168, 144, 180, 156, 104, 180, 124, 180, 180, 180, 180, 114, 180, 180, 180, 180, 180, 180, 180, 180, 180, 134], 104) := by decide +kernel
theorem dX12_clauseHere_108 : decode cX12_clauseHere 108 = .ok (.aload_n 0, 1) := by decide +kernel
theorem dX12_clauseHere_109 : decode cX12_clauseHere 109 = .ok (.iconst 0, 1) := by decide +kernel
theorem dX12_clauseHere_110 : decode cX12_clauseHere 110 = .ok (.ldc 129, 2) := by decide +kernel
theorem dX12_clauseHere_112 : decode cX12_clauseHere 112 = .ok (.invokevirtual 131, 3) := by decide +kernel
theorem dX12_clauseHere_115 : decode cX12_clauseHere 115 = .ok (.goto 74, 3) := by decide +kernel
theorem dX12_clauseHere_118 : decode cX12_clauseHere 118 = .ok (.aload_n 0, 1) := by decide +kernel
theorem dX12_clauseHere_119 : decode cX12_clauseHere 119 = .ok (.iconst 1, 1) := by decide +kernel
theorem dX12_clauseHere_120 : decode cX12_clauseHere 120 = .ok (.ldc 135, 2) := by decide +kernel
theorem dX12_clauseHere_122 : decode cX12_clauseHere 122 = .ok (.invokevirtual 131, 3) := by decide +kernel
theorem dX12_clauseHere_125 : decode cX12_clauseHere 125 = .ok (.goto 64, 3) := by decide +kernel
theorem dX12_clauseHere_128 : decode cX12_clauseHere 128 = .ok (.aload_n 0, 1) := by decide +kernel
theorem dX12_clauseHere_129 : decode cX12_clauseHere 129 = .ok (.iconst 2, 1) := by decide +kernel
theorem dX12_clauseHere_130 : decode cX12_clauseHere 130 = .ok (.ldc 137, 2) := by decide +kernel
theorem dX12_clauseHere_132 : decode cX12_clauseHere 132 = .ok (.invokevirtual 131, 3) := by decide +kernel
theorem dX12_clauseHere_135 : decode cX12_clauseHere 135 = .ok (.goto 54, 3) := by decide +kernel
theorem dX12_clauseHere_138 : decode cX12_clauseHere 138 = .ok (.aload_n 0, 1) := by decide +kernel
theorem dX12_clauseHere_139 : decode cX12_clauseHere 139 = .ok (.iconst 3, 1) := by decide +kernel
theorem dX12_clauseHere_140 : decode cX12_clauseHere 140 = .ok (.ldc 139, 2) := by decide +kernel
theorem dX12_clauseHere_142 : decode cX12_clauseHere 142 = .ok (.invokevirtual 131, 3) := by decide +kernel
theorem dX12_clauseHere_145 : decode cX12_clauseHere 145 = .ok (.goto 44, 3) := by decide +kernel
theorem dX12_clauseHere_148 : decode cX12_clauseHere 148 = .ok (.aload_n 0, 1) := by decide +kernel
theorem dX12_clauseHere_149 : decode cX12_clauseHere 149 = .ok (.sipush 131, 3) := by decide +kernel
theorem dX12_clauseHere_152 : decode cX12_clauseHere 152 = .ok (.ldc 141, 2) := by decide +kernel
theorem dX12_clauseHere_154 : decode cX12_clauseHere 154 = .ok (.invokevirtual 143, 3) := by decide +kernel
theorem dX12_clauseHere_157 : decode cX12_clauseHere 157 = .ok (.goto 32, 3) := by decide +kernel
theorem dX12_clauseHere_160 : decode cX12_clauseHere 160 = .ok (.aload_n 0, 1) := by decide +kernel
theorem dX12_clauseHere_161 : decode cX12_clauseHere 161 = .ok (.sipush 136, 3) := by decide +kernel
theorem dX12_clauseHere_164 : decode cX12_clauseHere 164 = .ok (.ldc 146, 2) := by decide +kernel
theorem dX12_clauseHere_166 : decode cX12_clauseHere 166 = .ok (.invokevirtual 143, 3) := by decide +kernel
theorem dX12_clauseHere_169 : decode cX12_clauseHere 169 = .ok (.goto 20, 3) := by decide +kernel
theorem dX12_clauseHere_172 : decode cX12_clauseHere 172 = .ok (.aload_n 0, 1) := by decide +kernel
theorem dX12_clauseHere_173 : decode cX12_clauseHere 173 = .ok (.sipush 141, 3) := by decide +kernel
theorem dX12_clauseHere_176 : decode cX12_clauseHere 176 = .ok (.ldc 148, 2) := by decide +kernel
theorem dX12_clauseHere_178 : decode cX12_clauseHere 178 = .ok (.invokevirtual 143, 3) := by decide +kernel
theorem dX12_clauseHere_181 : decode cX12_clauseHere 181 = .ok (.goto 8, 3) := by decide +kernel
theorem dX12_clauseHere_184 : decode cX12_clauseHere 184 = .ok (.aload_n 0, 1) := by decide +kernel
theorem dX12_clauseHere_185 : decode cX12_clauseHere 185 = .ok (.iconst 1, 1) := by decide +kernel
theorem dX12_clauseHere_186 : decode cX12_clauseHere 186 = .ok (.putfield 75, 3) := by decide +kernel
theorem dX12_clauseHere_189 : decode cX12_clauseHere 189 = .ok (.return_, 1) := by decide +kernel
theorem dX12_mill_0 : decode cX12_mill 0 = .ok (.aload_n 0, 1) := by decide +kernel
theorem dX12_mill_1 : decode cX12_mill 1 = .ok (.getfield 9, 3) := by decide +kernel
theorem dX12_mill_4 : decode cX12_mill 4 = .ok (.iconst 0, 1) := by decide +kernel
theorem dX12_mill_5 : decode cX12_mill 5 = .ok (.iaload, 1) := by decide +kernel
theorem dX12_mill_6 : decode cX12_mill 6 = .ok (.iconst 5, 1) := by decide +kernel
theorem dX12_mill_7 : decode cX12_mill 7 = .ok (.if_icmp .ne 6, 3) := by decide +kernel
theorem dX12_mill_10 : decode cX12_mill 10 = .ok (.bipush (-4), 2) := by decide +kernel
theorem dX12_mill_12 : decode cX12_mill 12 = .ok (.ireturn, 1) := by decide +kernel
theorem dX12_mill_13 : decode cX12_mill 13 = .ok (.aload_n 0, 1) := by decide +kernel
theorem dX12_mill_14 : decode cX12_mill 14 = .ok (.aload_n 0, 1) := by decide +kernel
theorem dX12_mill_15 : decode cX12_mill 15 = .ok (.getfield 9, 3) := by decide +kernel
theorem dX12_mill_18 : decode cX12_mill 18 = .ok (.iconst 0, 1) := by decide +kernel
theorem dX12_mill_19 : decode cX12_mill 19 = .ok (.iaload, 1) := by decide +kernel
theorem dX12_mill_20 : decode cX12_mill 20 = .ok (.putfield 96, 3) := by decide +kernel
theorem dX12_mill_23 : decode cX12_mill 23 = .ok (.aload_n 0, 1) := by decide +kernel
theorem dX12_mill_24 : decode cX12_mill 24 = .ok (.aload_n 0, 1) := by decide +kernel
theorem dX12_mill_25 : decode cX12_mill 25 = .ok (.getfield 9, 3) := by decide +kernel
theorem dX12_mill_28 : decode cX12_mill 28 = .ok (.iconst 4, 1) := by decide +kernel
theorem dX12_mill_29 : decode cX12_mill 29 = .ok (.iaload, 1) := by decide +kernel
theorem dX12_mill_30 : decode cX12_mill 30 = .ok (.putfield 72, 3) := by decide +kernel
theorem dX12_mill_33 : decode cX12_mill 33 = .ok (.aload_n 0, 1) := by decide +kernel
theorem dX12_mill_34 : decode cX12_mill 34 = .ok (.getfield 9, 3) := by decide +kernel
theorem dX12_mill_37 : decode cX12_mill 37 = .ok (.iconst 4, 1) := by decide +kernel
theorem dX12_mill_38 : decode cX12_mill 38 = .ok (.iconst 0, 1) := by decide +kernel
theorem dX12_mill_39 : decode cX12_mill 39 = .ok (.iastore, 1) := by decide +kernel
theorem dX12_mill_40 : decode cX12_mill 40 = .ok (.aload_n 0, 1) := by decide +kernel
theorem dX12_mill_41 : decode cX12_mill 41 = .ok (.getfield 9, 3) := by decide +kernel
theorem dX12_mill_44 : decode cX12_mill 44 = .ok (.sipush 131, 3) := by decide +kernel
theorem dX12_mill_47 : decode cX12_mill 47 = .ok (.aload_n 0, 1) := by decide +kernel
theorem dX12_mill_48 : decode cX12_mill 48 = .ok (.getfield 96, 3) := by decide +kernel
theorem dX12_mill_51 : decode cX12_mill 51 = .ok (.iadd, 1) := by decide +kernel
theorem dX12_mill_52 : decode cX12_mill 52 = .ok (.iconst 0, 1) := by decide +kernel
theorem dX12_mill_53 : decode cX12_mill 53 = .ok (.iastore, 1) := by decide +kernel
theorem dX12_mill_54 : decode cX12_mill 54 = .ok (.aload_n 0, 1) := by decide +kernel
theorem dX12_mill_55 : decode cX12_mill 55 = .ok (.getfield 9, 3) := by decide +kernel
theorem dX12_mill_58 : decode cX12_mill 58 = .ok (.sipush 136, 3) := by decide +kernel
theorem dX12_mill_61 : decode cX12_mill 61 = .ok (.aload_n 0, 1) := by decide +kernel
theorem dX12_mill_62 : decode cX12_mill 62 = .ok (.getfield 96, 3) := by decide +kernel
theorem dX12_mill_65 : decode cX12_mill 65 = .ok (.iadd, 1) := by decide +kernel
theorem dX12_mill_66 : decode cX12_mill 66 = .ok (.bipush 99, 2) := by decide +kernel
theorem dX12_mill_68 : decode cX12_mill 68 = .ok (.iastore, 1) := by decide +kernel
theorem dX12_mill_69 : decode cX12_mill 69 = .ok (.aload_n 0, 1) := by decide +kernel
theorem dX12_mill_70 : decode cX12_mill 70 = .ok (.getfield 9, 3) := by decide +kernel
theorem dX12_mill_73 : decode cX12_mill 73 = .ok (.sipush 141, 3) := by decide +kernel
theorem dX12_mill_76 : decode cX12_mill 76 = .ok (.aload_n 0, 1) := by decide +kernel
theorem dX12_mill_77 : decode cX12_mill 77 = .ok (.getfield 96, 3) := by decide +kernel
theorem dX12_mill_80 : decode cX12_mill 80 = .ok (.iadd, 1) := by decide +kernel
theorem dX12_mill_81 : decode cX12_mill 81 = .ok (.bipush 99, 2) := by decide +kernel
theorem dX12_mill_83 : decode cX12_mill 83 = .ok (.iastore, 1) := by decide +kernel
theorem dX12_mill_84 : decode cX12_mill 84 = .ok (.aload_n 0, 1) := by decide +kernel
theorem dX12_mill_85 : decode cX12_mill 85 = .ok (.getfield 9, 3) := by decide +kernel
theorem dX12_mill_88 : decode cX12_mill 88 = .ok (.sipush 146, 3) := by decide +kernel
theorem dX12_mill_91 : decode cX12_mill 91 = .ok (.aload_n 0, 1) := by decide +kernel
theorem dX12_mill_92 : decode cX12_mill 92 = .ok (.getfield 96, 3) := by decide +kernel
theorem dX12_mill_95 : decode cX12_mill 95 = .ok (.iadd, 1) := by decide +kernel
theorem dX12_mill_96 : decode cX12_mill 96 = .ok (.iconst 0, 1) := by decide +kernel
theorem dX12_mill_97 : decode cX12_mill 97 = .ok (.iastore, 1) := by decide +kernel
theorem dX12_mill_98 : decode cX12_mill 98 = .ok (.aload_n 0, 1) := by decide +kernel
theorem dX12_mill_99 : decode cX12_mill 99 = .ok (.iconst 0, 1) := by decide +kernel
theorem dX12_mill_100 : decode cX12_mill 100 = .ok (.putfield 69, 3) := by decide +kernel
theorem dX12_mill_103 : decode cX12_mill 103 = .ok (.aload_n 0, 1) := by decide +kernel
theorem dX12_mill_104 : decode cX12_mill 104 = .ok (.iconst 0, 1) := by decide +kernel
theorem dX12_mill_105 : decode cX12_mill 105 = .ok (.putfield 75, 3) := by decide +kernel
theorem dX12_mill_108 : decode cX12_mill 108 = .ok (.aload_n 0, 1) := by decide +kernel
theorem dX12_mill_109 : decode cX12_mill 109 = .ok (.iconst 0, 1) := by decide +kernel
theorem dX12_mill_110 : decode cX12_mill 110 = .ok (.putfield 99, 3) := by decide +kernel
theorem dX12_mill_113 : decode cX12_mill 113 = .ok (.iconst 1, 1) := by decide +kernel
theorem dX12_mill_114 : decode cX12_mill 114 = .ok (.istore_n 1, 1) := by decide +kernel
theorem dX12_mill_115 : decode cX12_mill 115 = .ok (.aload_n 0, 1) := by decide +kernel
theorem dX12_mill_116 : decode cX12_mill 116 = .ok (.invokevirtual 150, 3) := by decide +kernel
theorem dX12_mill_119 : decode cX12_mill 119 = .ok (.aload_n 0, 1) := by decide +kernel
theorem dX12_mill_120 : decode cX12_mill 120 = .ok (.getfield 75, 3) := by decide +kernel
theorem dX12_mill_123 : decode cX12_mill 123 = .ok (.ifCond .ne 38, 3) := by decide +kernel
theorem dX12_mill_126 : decode cX12_mill 126 = .ok (.iload_n 1, 1) := by decide +kernel
theorem dX12_mill_127 : decode cX12_mill 127 = .ok (.bipush 10, 2) := by decide +kernel
theorem dX12_mill_129 : decode cX12_mill 129 = .ok (.if_icmp .ge 32, 3) := by decide +kernel
theorem dX12_mill_132 : decode cX12_mill 132 = .ok (.aload_n 0, 1) := by decide +kernel
theorem dX12_mill_133 : decode cX12_mill 133 = .ok (.invokevirtual 79, 3) := by decide +kernel
theorem dX12_mill_136 : decode cX12_mill 136 = .ok (.bipush 59, 2) := by decide +kernel
theorem dX12_mill_138 : decode cX12_mill 138 = .ok (.if_icmp .ne 23, 3) := by decide +kernel
theorem dX12_mill_141 : decode cX12_mill 141 = .ok (.aload_n 0, 1) := by decide +kernel
theorem dX12_mill_142 : decode cX12_mill 142 = .ok (.dup, 1) := by decide +kernel
theorem dX12_mill_143 : decode cX12_mill 143 = .ok (.getfield 69, 3) := by decide +kernel
theorem dX12_mill_146 : decode cX12_mill 146 = .ok (.iconst 1, 1) := by decide +kernel
theorem dX12_mill_147 : decode cX12_mill 147 = .ok (.iadd, 1) := by decide +kernel
theorem dX12_mill_148 : decode cX12_mill 148 = .ok (.putfield 69, 3) := by decide +kernel
theorem dX12_mill_151 : decode cX12_mill 151 = .ok (.aload_n 0, 1) := by decide +kernel
theorem dX12_mill_152 : decode cX12_mill 152 = .ok (.invokevirtual 150, 3) := by decide +kernel
theorem dX12_mill_155 : decode cX12_mill 155 = .ok (.iinc 1 1, 3) := by decide +kernel
theorem dX12_mill_158 : decode cX12_mill 158 = .ok (.goto (-39), 3) := by decide +kernel
theorem dX12_mill_161 : decode cX12_mill 161 = .ok (.aload_n 0, 1) := by decide +kernel
theorem dX12_mill_162 : decode cX12_mill 162 = .ok (.getfield 75, 3) := by decide +kernel
theorem dX12_mill_165 : decode cX12_mill 165 = .ok (.ifCond .ne 14, 3) := by decide +kernel
theorem dX12_mill_168 : decode cX12_mill 168 = .ok (.aload_n 0, 1) := by decide +kernel
theorem dX12_mill_169 : decode cX12_mill 169 = .ok (.getfield 69, 3) := by decide +kernel
theorem dX12_mill_172 : decode cX12_mill 172 = .ok (.aload_n 0, 1) := by decide +kernel
theorem dX12_mill_173 : decode cX12_mill 173 = .ok (.getfield 72, 3) := by decide +kernel
theorem dX12_mill_176 : decode cX12_mill 176 = .ok (.if_icmp .eq 11, 3) := by decide +kernel
theorem dX12_mill_179 : decode cX12_mill 179 = .ok (.bipush (-10), 2) := by decide +kernel
theorem dX12_mill_181 : decode cX12_mill 181 = .ok (.aload_n 0, 1) := by decide +kernel
theorem dX12_mill_182 : decode cX12_mill 182 = .ok (.getfield 69, 3) := by decide +kernel
theorem dX12_mill_185 : decode cX12_mill 185 = .ok (.isub, 1) := by decide +kernel
theorem dX12_mill_186 : decode cX12_mill 186 = .ok (.ireturn, 1) := by decide +kernel
theorem dX12_mill_187 : decode cX12_mill 187 = .ok (.aload_n 0, 1) := by decide +kernel
theorem dX12_mill_188 : decode cX12_mill 188 = .ok (.getfield 9, 3) := by decide +kernel
theorem dX12_mill_191 : decode cX12_mill 191 = .ok (.iconst 0, 1) := by decide +kernel
theorem dX12_mill_192 : decode cX12_mill 192 = .ok (.dup2, 1) := by decide +kernel
theorem dX12_mill_193 : decode cX12_mill 193 = .ok (.iaload, 1) := by decide +kernel
theorem dX12_mill_194 : decode cX12_mill 194 = .ok (.iconst 1, 1) := by decide +kernel
theorem dX12_mill_195 : decode cX12_mill 195 = .ok (.iadd, 1) := by decide +kernel
theorem dX12_mill_196 : decode cX12_mill 196 = .ok (.iastore, 1) := by decide +kernel
theorem dX12_mill_197 : decode cX12_mill 197 = .ok (.aload_n 0, 1) := by decide +kernel
theorem dX12_mill_198 : decode cX12_mill 198 = .ok (.getfield 96, 3) := by decide +kernel
theorem dX12_mill_201 : decode cX12_mill 201 = .ok (.ireturn, 1) := by decide +kernel
theorem dX12_together_0 : decode cX12_together 0 = .ok (.iconst 0, 1) := by decide +kernel
theorem dX12_together_1 : decode cX12_together 1 = .ok (.istore_n 3, 1) := by decide +kernel
theorem dX12_together_2 : decode cX12_together 2 = .ok (.iconst 0, 1) := by decide +kernel
theorem dX12_together_3 : decode cX12_together 3 = .ok (.istore 4, 2) := by decide +kernel
theorem dX12_together_5 : decode cX12_together 5 = .ok (.sipush 151, 3) := by decide +kernel
theorem dX12_together_8 : decode cX12_together 8 = .ok (.sipush 140, 3) := by decide +kernel
theorem dX12_together_11 : decode cX12_together 11 = .ok (.iload_n 1, 1) := by decide +kernel
theorem dX12_together_12 : decode cX12_together 12 = .ok (.imul, 1) := by decide +kernel
theorem dX12_together_13 : decode cX12_together 13 = .ok (.iadd, 1) := by decide +kernel
theorem dX12_together_14 : decode cX12_together 14 = .ok (.istore 5, 2) := by decide +kernel
theorem dX12_together_16 : decode cX12_together 16 = .ok (.iload 5, 2) := by decide +kernel
theorem dX12_together_18 : decode cX12_together 18 = .ok (.sipush 151, 3) := by decide +kernel
theorem dX12_together_21 : decode cX12_together 21 = .ok (.sipush 140, 3) := by decide +kernel
theorem dX12_together_24 : decode cX12_together 24 = .ok (.iload_n 1, 1) := by decide +kernel
theorem dX12_together_25 : decode cX12_together 25 = .ok (.imul, 1) := by decide +kernel
theorem dX12_together_26 : decode cX12_together 26 = .ok (.iadd, 1) := by decide +kernel
theorem dX12_together_27 : decode cX12_together 27 = .ok (.aload_n 0, 1) := by decide +kernel
theorem dX12_together_28 : decode cX12_together 28 = .ok (.getfield 9, 3) := by decide +kernel
theorem dX12_together_31 : decode cX12_together 31 = .ok (.sipush 146, 3) := by decide +kernel
theorem dX12_together_34 : decode cX12_together 34 = .ok (.iload_n 1, 1) := by decide +kernel
theorem dX12_together_35 : decode cX12_together 35 = .ok (.iadd, 1) := by decide +kernel
theorem dX12_together_36 : decode cX12_together 36 = .ok (.iaload, 1) := by decide +kernel
theorem dX12_together_37 : decode cX12_together 37 = .ok (.iadd, 1) := by decide +kernel
theorem dX12_together_38 : decode cX12_together 38 = .ok (.if_icmp .ge 271, 3) := by decide +kernel
theorem dX12_together_41 : decode cX12_together 41 = .ok (.aload_n 0, 1) := by decide +kernel
theorem dX12_together_42 : decode cX12_together 42 = .ok (.getfield 9, 3) := by decide +kernel
theorem dX12_together_45 : decode cX12_together 45 = .ok (.iload 5, 2) := by decide +kernel
theorem dX12_together_47 : decode cX12_together 47 = .ok (.iaload, 1) := by decide +kernel
theorem dX12_together_48 : decode cX12_together 48 = .ok (.istore 6, 2) := by decide +kernel
theorem dX12_together_50 : decode cX12_together 50 = .ok (.iload 6, 2) := by decide +kernel
theorem dX12_together_52 : decode cX12_together 52 = .ok (.ifCond .lt 96, 3) := by decide +kernel
theorem dX12_together_55 : decode cX12_together 55 = .ok (.aload_n 0, 1) := by decide +kernel
theorem dX12_together_56 : decode cX12_together 56 = .ok (.getfield 18, 3) := by decide +kernel
theorem dX12_together_59 : decode cX12_together 59 = .ok (.iload 6, 2) := by decide +kernel
theorem dX12_together_61 : decode cX12_together 61 = .ok (.bipush 8, 2) := by decide +kernel
theorem dX12_together_63 : decode cX12_together 63 = .ok (.irem, 1) := by decide +kernel
theorem dX12_together_64 : decode cX12_together 64 = .ok (.iaload, 1) := by decide +kernel
theorem dX12_together_65 : decode cX12_together 65 = .ok (.istore 7, 2) := by decide +kernel
theorem dX12_together_67 : decode cX12_together 67 = .ok (.iload 6, 2) := by decide +kernel
theorem dX12_together_69 : decode cX12_together 69 = .ok (.bipush 8, 2) := by decide +kernel
theorem dX12_together_71 : decode cX12_together 71 = .ok (.idiv, 1) := by decide +kernel
theorem dX12_together_72 : decode cX12_together 72 = .ok (.iconst 4, 1) := by decide +kernel
theorem dX12_together_73 : decode cX12_together 73 = .ok (.irem, 1) := by decide +kernel
theorem dX12_together_74 : decode cX12_together 74 = .ok (.istore 8, 2) := by decide +kernel
theorem dX12_together_76 : decode cX12_together 76 = .ok (.iload 6, 2) := by decide +kernel
theorem dX12_together_78 : decode cX12_together 78 = .ok (.bipush 32, 2) := by decide +kernel
theorem dX12_together_80 : decode cX12_together 80 = .ok (.idiv, 1) := by decide +kernel
theorem dX12_together_81 : decode cX12_together 81 = .ok (.istore 9, 2) := by decide +kernel
theorem dX12_together_83 : decode cX12_together 83 = .ok (.aload_n 0, 1) := by decide +kernel
theorem dX12_together_84 : decode cX12_together 84 = .ok (.getfield 21, 3) := by decide +kernel
theorem dX12_together_87 : decode cX12_together 87 = .ok (.iload_n 3, 1) := by decide +kernel
theorem dX12_together_88 : decode cX12_together 88 = .ok (.iload 8, 2) := by decide +kernel
theorem dX12_together_90 : decode cX12_together 90 = .ok (.ifCond .ne 18, 3) := by decide +kernel
theorem dX12_together_93 : decode cX12_together 93 = .ok (.iload 7, 2) := by decide +kernel
theorem dX12_together_95 : decode cX12_together 95 = .ok (.iload 9, 2) := by decide +kernel
theorem dX12_together_97 : decode cX12_together 97 = .ok (.if_icmp .ge 7, 3) := by decide +kernel
theorem dX12_together_100 : decode cX12_together 100 = .ok (.iconst 1, 1) := by decide +kernel
theorem dX12_together_101 : decode cX12_together 101 = .ok (.goto 40, 3) := by decide +kernel
theorem dX12_together_104 : decode cX12_together 104 = .ok (.iconst 0, 1) := by decide +kernel
theorem dX12_together_105 : decode cX12_together 105 = .ok (.goto 36, 3) := by decide +kernel
theorem dX12_together_108 : decode cX12_together 108 = .ok (.iload 8, 2) := by decide +kernel
theorem dX12_together_110 : decode cX12_together 110 = .ok (.iconst 1, 1) := by decide +kernel
theorem dX12_together_111 : decode cX12_together 111 = .ok (.if_icmp .ne 18, 3) := by decide +kernel
theorem dX12_together_114 : decode cX12_together 114 = .ok (.iload 7, 2) := by decide +kernel
theorem dX12_together_116 : decode cX12_together 116 = .ok (.iload 9, 2) := by decide +kernel
theorem dX12_together_118 : decode cX12_together 118 = .ok (.if_icmp .ne 7, 3) := by decide +kernel
theorem dX12_together_121 : decode cX12_together 121 = .ok (.iconst 1, 1) := by decide +kernel
theorem dX12_together_122 : decode cX12_together 122 = .ok (.goto 19, 3) := by decide +kernel
theorem dX12_together_125 : decode cX12_together 125 = .ok (.iconst 0, 1) := by decide +kernel
theorem dX12_together_126 : decode cX12_together 126 = .ok (.goto 15, 3) := by decide +kernel
theorem dX12_together_129 : decode cX12_together 129 = .ok (.iload 7, 2) := by decide +kernel
theorem dX12_together_131 : decode cX12_together 131 = .ok (.iload 9, 2) := by decide +kernel
theorem dX12_together_133 : decode cX12_together 133 = .ok (.if_icmp .le 7, 3) := by decide +kernel
theorem dX12_together_136 : decode cX12_together 136 = .ok (.iconst 1, 1) := by decide +kernel
theorem dX12_together_137 : decode cX12_together 137 = .ok (.goto 4, 3) := by decide +kernel
theorem dX12_together_140 : decode cX12_together 140 = .ok (.iconst 0, 1) := by decide +kernel
theorem dX12_together_141 : decode cX12_together 141 = .ok (.bastore, 1) := by decide +kernel
theorem dX12_together_142 : decode cX12_together 142 = .ok (.iinc 3 1, 3) := by decide +kernel
theorem dX12_together_145 : decode cX12_together 145 = .ok (.goto 158, 3) := by decide +kernel
theorem dX12_together_148 : decode cX12_together 148 = .ok (.iload 6, 2) := by decide +kernel
theorem dX12_together_150 : decode cX12_together 150 = .ok (.iconst (-1), 1) := by decide +kernel
theorem dX12_together_151 : decode cX12_together 151 = .ok (.if_icmp .ne 30, 3) := by decide +kernel
theorem dX12_together_154 : decode cX12_together 154 = .ok (.aload_n 0, 1) := by decide +kernel
theorem dX12_together_155 : decode cX12_together 155 = .ok (.getfield 21, 3) := by decide +kernel
theorem dX12_together_158 : decode cX12_together 158 = .ok (.iload_n 3, 1) := by decide +kernel
theorem dX12_together_159 : decode cX12_together 159 = .ok (.iconst 1, 1) := by decide +kernel
theorem dX12_together_160 : decode cX12_together 160 = .ok (.isub, 1) := by decide +kernel
theorem dX12_together_161 : decode cX12_together 161 = .ok (.aload_n 0, 1) := by decide +kernel
theorem dX12_together_162 : decode cX12_together 162 = .ok (.getfield 21, 3) := by decide +kernel
theorem dX12_together_165 : decode cX12_together 165 = .ok (.iload_n 3, 1) := by decide +kernel
theorem dX12_together_166 : decode cX12_together 166 = .ok (.iconst 1, 1) := by decide +kernel
theorem dX12_together_167 : decode cX12_together 167 = .ok (.isub, 1) := by decide +kernel
theorem dX12_together_168 : decode cX12_together 168 = .ok (.baload, 1) := by decide +kernel
theorem dX12_together_169 : decode cX12_together 169 = .ok (.ifCond .ne 7, 3) := by decide +kernel
theorem dX12_together_172 : decode cX12_together 172 = .ok (.iconst 1, 1) := by decide +kernel
theorem dX12_together_173 : decode cX12_together 173 = .ok (.goto 4, 3) := by decide +kernel
theorem dX12_together_176 : decode cX12_together 176 = .ok (.iconst 0, 1) := by decide +kernel
theorem dX12_together_177 : decode cX12_together 177 = .ok (.bastore, 1) := by decide +kernel
theorem dX12_together_178 : decode cX12_together 178 = .ok (.goto 125, 3) := by decide +kernel
theorem dX12_together_181 : decode cX12_together 181 = .ok (.iload 6, 2) := by decide +kernel
theorem dX12_together_183 : decode cX12_together 183 = .ok (.bipush (-10), 2) := by decide +kernel
theorem dX12_together_185 : decode cX12_together 185 = .ok (.if_icmp .le 77, 3) := by decide +kernel
theorem dX12_together_188 : decode cX12_together 188 = .ok (.iinc 3 (-1), 3) := by decide +kernel
theorem dX12_together_191 : decode cX12_together 191 = .ok (.aload_n 0, 1) := by decide +kernel
theorem dX12_together_192 : decode cX12_together 192 = .ok (.getfield 21, 3) := by decide +kernel
theorem dX12_together_195 : decode cX12_together 195 = .ok (.iload_n 3, 1) := by decide +kernel
theorem dX12_together_196 : decode cX12_together 196 = .ok (.iconst 1, 1) := by decide +kernel
theorem dX12_together_197 : decode cX12_together 197 = .ok (.isub, 1) := by decide +kernel
theorem dX12_together_198 : decode cX12_together 198 = .ok (.iload 6, 2) := by decide +kernel
theorem dX12_together_200 : decode cX12_together 200 = .ok (.bipush (-2), 2) := by decide +kernel
theorem dX12_together_202 : decode cX12_together 202 = .ok (.if_icmp .ne 31, 3) := by decide +kernel
theorem dX12_together_205 : decode cX12_together 205 = .ok (.aload_n 0, 1) := by decide +kernel
theorem dX12_together_206 : decode cX12_together 206 = .ok (.getfield 21, 3) := by decide +kernel
theorem dX12_together_209 : decode cX12_together 209 = .ok (.iload_n 3, 1) := by decide +kernel
theorem dX12_together_210 : decode cX12_together 210 = .ok (.iconst 1, 1) := by decide +kernel
theorem dX12_together_211 : decode cX12_together 211 = .ok (.isub, 1) := by decide +kernel
theorem dX12_together_212 : decode cX12_together 212 = .ok (.baload, 1) := by decide +kernel
theorem dX12_together_213 : decode cX12_together 213 = .ok (.ifCond .eq 16, 3) := by decide +kernel
theorem dX12_together_216 : decode cX12_together 216 = .ok (.aload_n 0, 1) := by decide +kernel
theorem dX12_together_217 : decode cX12_together 217 = .ok (.getfield 21, 3) := by decide +kernel
theorem dX12_together_220 : decode cX12_together 220 = .ok (.iload_n 3, 1) := by decide +kernel
theorem dX12_together_221 : decode cX12_together 221 = .ok (.baload, 1) := by decide +kernel
theorem dX12_together_222 : decode cX12_together 222 = .ok (.ifCond .eq 7, 3) := by decide +kernel
theorem dX12_together_225 : decode cX12_together 225 = .ok (.iconst 1, 1) := by decide +kernel
theorem dX12_together_226 : decode cX12_together 226 = .ok (.goto 32, 3) := by decide +kernel
theorem dX12_together_229 : decode cX12_together 229 = .ok (.iconst 0, 1) := by decide +kernel
theorem dX12_together_230 : decode cX12_together 230 = .ok (.goto 28, 3) := by decide +kernel
theorem dX12_together_233 : decode cX12_together 233 = .ok (.aload_n 0, 1) := by decide +kernel
theorem dX12_together_234 : decode cX12_together 234 = .ok (.getfield 21, 3) := by decide +kernel
theorem dX12_together_237 : decode cX12_together 237 = .ok (.iload_n 3, 1) := by decide +kernel
theorem dX12_together_238 : decode cX12_together 238 = .ok (.iconst 1, 1) := by decide +kernel
theorem dX12_together_239 : decode cX12_together 239 = .ok (.isub, 1) := by decide +kernel
theorem dX12_together_240 : decode cX12_together 240 = .ok (.baload, 1) := by decide +kernel
theorem dX12_together_241 : decode cX12_together 241 = .ok (.ifCond .ne 12, 3) := by decide +kernel
theorem dX12_together_244 : decode cX12_together 244 = .ok (.aload_n 0, 1) := by decide +kernel
theorem dX12_together_245 : decode cX12_together 245 = .ok (.getfield 21, 3) := by decide +kernel
theorem dX12_together_248 : decode cX12_together 248 = .ok (.iload_n 3, 1) := by decide +kernel
theorem dX12_together_249 : decode cX12_together 249 = .ok (.baload, 1) := by decide +kernel
theorem dX12_together_250 : decode cX12_together 250 = .ok (.ifCond .eq 7, 3) := by decide +kernel
theorem dX12_together_253 : decode cX12_together 253 = .ok (.iconst 1, 1) := by decide +kernel
theorem dX12_together_254 : decode cX12_together 254 = .ok (.goto 4, 3) := by decide +kernel
theorem dX12_together_257 : decode cX12_together 257 = .ok (.iconst 0, 1) := by decide +kernel
theorem dX12_together_258 : decode cX12_together 258 = .ok (.bastore, 1) := by decide +kernel
theorem dX12_together_259 : decode cX12_together 259 = .ok (.goto 44, 3) := by decide +kernel
theorem dX12_together_262 : decode cX12_together 262 = .ok (.iconst 0, 1) := by decide +kernel
theorem dX12_together_263 : decode cX12_together 263 = .ok (.istore_n 3, 1) := by decide +kernel
theorem dX12_together_264 : decode cX12_together 264 = .ok (.bipush (-10), 2) := by decide +kernel
theorem dX12_together_266 : decode cX12_together 266 = .ok (.iload 6, 2) := by decide +kernel
theorem dX12_together_268 : decode cX12_together 268 = .ok (.isub, 1) := by decide +kernel
theorem dX12_together_269 : decode cX12_together 269 = .ok (.istore 7, 2) := by decide +kernel
theorem dX12_together_271 : decode cX12_together 271 = .ok (.iload 4, 2) := by decide +kernel
theorem dX12_together_273 : decode cX12_together 273 = .ok (.aload_n 0, 1) := by decide +kernel
theorem dX12_together_274 : decode cX12_together 274 = .ok (.getfield 21, 3) := by decide +kernel
theorem dX12_together_277 : decode cX12_together 277 = .ok (.iconst 0, 1) := by decide +kernel
theorem dX12_together_278 : decode cX12_together 278 = .ok (.baload, 1) := by decide +kernel
theorem dX12_together_279 : decode cX12_together 279 = .ok (.ifCond .eq 20, 3) := by decide +kernel
theorem dX12_together_282 : decode cX12_together 282 = .ok (.iload 7, 2) := by decide +kernel
theorem dX12_together_284 : decode cX12_together 284 = .ok (.bipush 100, 2) := by decide +kernel
theorem dX12_together_286 : decode cX12_together 286 = .ok (.idiv, 1) := by decide +kernel
theorem dX12_together_287 : decode cX12_together 287 = .ok (.iload_n 2, 1) := by decide +kernel
theorem dX12_together_288 : decode cX12_together 288 = .ok (.if_icmp .ne 11, 3) := by decide +kernel
theorem dX12_together_291 : decode cX12_together 291 = .ok (.iload 7, 2) := by decide +kernel
theorem dX12_together_293 : decode cX12_together 293 = .ok (.bipush 100, 2) := by decide +kernel
theorem dX12_together_295 : decode cX12_together 295 = .ok (.irem, 1) := by decide +kernel
theorem dX12_together_296 : decode cX12_together 296 = .ok (.goto 4, 3) := by decide +kernel
theorem dX12_together_299 : decode cX12_together 299 = .ok (.iconst 0, 1) := by decide +kernel
theorem dX12_together_300 : decode cX12_together 300 = .ok (.iadd, 1) := by decide +kernel
theorem dX12_together_301 : decode cX12_together 301 = .ok (.istore 4, 2) := by decide +kernel
theorem dX12_together_303 : decode cX12_together 303 = .ok (.iinc 5 1, 3) := by decide +kernel
theorem dX12_together_306 : decode cX12_together 306 = .ok (.goto (-290), 3) := by decide +kernel
theorem dX12_together_309 : decode cX12_together 309 = .ok (.iload 4, 2) := by decide +kernel
theorem dX12_together_311 : decode cX12_together 311 = .ok (.ireturn, 1) := by decide +kernel
theorem dX12_held_0 : decode cX12_held 0 = .ok (.iload_n 0, 1) := by decide +kernel
theorem dX12_held_1 : decode cX12_held 1 = .ok (.ifCond .ge 7, 3) := by decide +kernel
theorem dX12_held_4 : decode cX12_held 4 = .ok (.iconst 0, 1) := by decide +kernel
theorem dX12_held_5 : decode cX12_held 5 = .ok (.goto 15, 3) := by decide +kernel
theorem dX12_held_8 : decode cX12_held 8 = .ok (.iload_n 0, 1) := by decide +kernel
theorem dX12_held_9 : decode cX12_held 9 = .ok (.bipush 9, 2) := by decide +kernel
theorem dX12_held_11 : decode cX12_held 11 = .ok (.if_icmp .le 8, 3) := by decide +kernel
theorem dX12_held_14 : decode cX12_held 14 = .ok (.bipush 9, 2) := by decide +kernel
theorem dX12_held_16 : decode cX12_held 16 = .ok (.goto 4, 3) := by decide +kernel
theorem dX12_held_19 : decode cX12_held 19 = .ok (.iload_n 0, 1) := by decide +kernel
theorem dX12_held_20 : decode cX12_held 20 = .ok (.ireturn, 1) := by decide +kernel
theorem dX12_fast_0 : decode cX12_fast 0 = .ok (.aload_n 0, 1) := by decide +kernel
theorem dX12_fast_1 : decode cX12_fast 1 = .ok (.getfield 18, 3) := by decide +kernel
theorem dX12_fast_4 : decode cX12_fast 4 = .ok (.iconst 0, 1) := by decide +kernel
theorem dX12_fast_5 : decode cX12_fast 5 = .ok (.iload_n 2, 1) := by decide +kernel
theorem dX12_fast_6 : decode cX12_fast 6 = .ok (.iastore, 1) := by decide +kernel
theorem dX12_fast_7 : decode cX12_fast 7 = .ok (.aload_n 0, 1) := by decide +kernel
theorem dX12_fast_8 : decode cX12_fast 8 = .ok (.getfield 18, 3) := by decide +kernel
theorem dX12_fast_11 : decode cX12_fast 11 = .ok (.iconst 1, 1) := by decide +kernel
theorem dX12_fast_12 : decode cX12_fast 12 = .ok (.iload_n 3, 1) := by decide +kernel
theorem dX12_fast_13 : decode cX12_fast 13 = .ok (.iconst 2, 1) := by decide +kernel
theorem dX12_fast_14 : decode cX12_fast 14 = .ok (.idiv, 1) := by decide +kernel
theorem dX12_fast_15 : decode cX12_fast 15 = .ok (.iastore, 1) := by decide +kernel
theorem dX12_fast_16 : decode cX12_fast 16 = .ok (.aload_n 0, 1) := by decide +kernel
theorem dX12_fast_17 : decode cX12_fast 17 = .ok (.getfield 18, 3) := by decide +kernel
theorem dX12_fast_20 : decode cX12_fast 20 = .ok (.iconst 2, 1) := by decide +kernel
theorem dX12_fast_21 : decode cX12_fast 21 = .ok (.iload_n 3, 1) := by decide +kernel
theorem dX12_fast_22 : decode cX12_fast 22 = .ok (.iconst 2, 1) := by decide +kernel
theorem dX12_fast_23 : decode cX12_fast 23 = .ok (.irem, 1) := by decide +kernel
theorem dX12_fast_24 : decode cX12_fast 24 = .ok (.iastore, 1) := by decide +kernel
theorem dX12_fast_25 : decode cX12_fast 25 = .ok (.aload_n 0, 1) := by decide +kernel
theorem dX12_fast_26 : decode cX12_fast 26 = .ok (.getfield 18, 3) := by decide +kernel
theorem dX12_fast_29 : decode cX12_fast 29 = .ok (.iconst 3, 1) := by decide +kernel
theorem dX12_fast_30 : decode cX12_fast 30 = .ok (.iload 4, 2) := by decide +kernel
theorem dX12_fast_32 : decode cX12_fast 32 = .ok (.iastore, 1) := by decide +kernel
theorem dX12_fast_33 : decode cX12_fast 33 = .ok (.aload_n 0, 1) := by decide +kernel
theorem dX12_fast_34 : decode cX12_fast 34 = .ok (.getfield 18, 3) := by decide +kernel
theorem dX12_fast_37 : decode cX12_fast 37 = .ok (.iconst 4, 1) := by decide +kernel
theorem dX12_fast_38 : decode cX12_fast 38 = .ok (.iload 5, 2) := by decide +kernel
theorem dX12_fast_40 : decode cX12_fast 40 = .ok (.iastore, 1) := by decide +kernel
theorem dX12_fast_41 : decode cX12_fast 41 = .ok (.aload_n 0, 1) := by decide +kernel
theorem dX12_fast_42 : decode cX12_fast 42 = .ok (.getfield 18, 3) := by decide +kernel
theorem dX12_fast_45 : decode cX12_fast 45 = .ok (.iconst 5, 1) := by decide +kernel
theorem dX12_fast_46 : decode cX12_fast 46 = .ok (.iconst 0, 1) := by decide +kernel
theorem dX12_fast_47 : decode cX12_fast 47 = .ok (.iastore, 1) := by decide +kernel
theorem dX12_fast_48 : decode cX12_fast 48 = .ok (.aload_n 0, 1) := by decide +kernel
theorem dX12_fast_49 : decode cX12_fast 49 = .ok (.iload_n 1, 1) := by decide +kernel
theorem dX12_fast_50 : decode cX12_fast 50 = .ok (.iconst 0, 1) := by decide +kernel
theorem dX12_fast_51 : decode cX12_fast 51 = .ok (.invokevirtual 153, 3) := by decide +kernel
theorem dX12_fast_54 : decode cX12_fast 54 = .ok (.istore 6, 2) := by decide +kernel
theorem dX12_fast_56 : decode cX12_fast 56 = .ok (.aload_n 0, 1) := by decide +kernel
theorem dX12_fast_57 : decode cX12_fast 57 = .ok (.getfield 18, 3) := by decide +kernel
theorem dX12_fast_60 : decode cX12_fast 60 = .ok (.iconst 5, 1) := by decide +kernel
theorem dX12_fast_61 : decode cX12_fast 61 = .ok (.iload 6, 2) := by decide +kernel
theorem dX12_fast_63 : decode cX12_fast 63 = .ok (.bipush 99, 2) := by decide +kernel
theorem dX12_fast_65 : decode cX12_fast 65 = .ok (.if_icmp .le 8, 3) := by decide +kernel
theorem dX12_fast_68 : decode cX12_fast 68 = .ok (.bipush 99, 2) := by decide +kernel
theorem dX12_fast_70 : decode cX12_fast 70 = .ok (.goto 5, 3) := by decide +kernel
theorem dX12_fast_73 : decode cX12_fast 73 = .ok (.iload 6, 2) := by decide +kernel
theorem dX12_fast_75 : decode cX12_fast 75 = .ok (.iastore, 1) := by decide +kernel
theorem dX12_fast_76 : decode cX12_fast 76 = .ok (.aload_n 0, 1) := by decide +kernel
theorem dX12_fast_77 : decode cX12_fast 77 = .ok (.getfield 18, 3) := by decide +kernel
theorem dX12_fast_80 : decode cX12_fast 80 = .ok (.iconst 5, 1) := by decide +kernel
theorem dX12_fast_81 : decode cX12_fast 81 = .ok (.iaload, 1) := by decide +kernel
theorem dX12_fast_82 : decode cX12_fast 82 = .ok (.ireturn, 1) := by decide +kernel
theorem dX12_hourOf_0 : decode cX12_hourOf 0 = .ok (.aload_n 0, 1) := by decide +kernel
theorem dX12_hourOf_1 : decode cX12_hourOf 1 = .ok (.iload_n 1, 1) := by decide +kernel
theorem dX12_hourOf_2 : decode cX12_hourOf 2 = .ok (.iload_n 2, 1) := by decide +kernel
theorem dX12_hourOf_3 : decode cX12_hourOf 3 = .ok (.iload_n 3, 1) := by decide +kernel
theorem dX12_hourOf_4 : decode cX12_hourOf 4 = .ok (.iload 4, 2) := by decide +kernel
theorem dX12_hourOf_6 : decode cX12_hourOf 6 = .ok (.iload 5, 2) := by decide +kernel
theorem dX12_hourOf_8 : decode cX12_hourOf 8 = .ok (.invokevirtual 157, 3) := by decide +kernel
theorem dX12_hourOf_11 : decode cX12_hourOf 11 = .ok (.istore 6, 2) := by decide +kernel
theorem dX12_hourOf_13 : decode cX12_hourOf 13 = .ok (.aload_n 0, 1) := by decide +kernel
theorem dX12_hourOf_14 : decode cX12_hourOf 14 = .ok (.iload 6, 2) := by decide +kernel
theorem dX12_hourOf_16 : decode cX12_hourOf 16 = .ok (.aload_n 0, 1) := by decide +kernel
theorem dX12_hourOf_17 : decode cX12_hourOf 17 = .ok (.getfield 9, 3) := by decide +kernel
theorem dX12_hourOf_20 : decode cX12_hourOf 20 = .ok (.sipush 136, 3) := by decide +kernel
theorem dX12_hourOf_23 : decode cX12_hourOf 23 = .ok (.iload_n 1, 1) := by decide +kernel
theorem dX12_hourOf_24 : decode cX12_hourOf 24 = .ok (.iadd, 1) := by decide +kernel
theorem dX12_hourOf_25 : decode cX12_hourOf 25 = .ok (.iaload, 1) := by decide +kernel
theorem dX12_hourOf_26 : decode cX12_hourOf 26 = .ok (.if_icmp .le 7, 3) := by decide +kernel
theorem dX12_hourOf_29 : decode cX12_hourOf 29 = .ok (.iconst 1, 1) := by decide +kernel
theorem dX12_hourOf_30 : decode cX12_hourOf 30 = .ok (.goto 4, 3) := by decide +kernel
theorem dX12_hourOf_33 : decode cX12_hourOf 33 = .ok (.iconst 0, 1) := by decide +kernel
theorem dX12_hourOf_34 : decode cX12_hourOf 34 = .ok (.putfield 161, 3) := by decide +kernel
theorem dX12_hourOf_37 : decode cX12_hourOf 37 = .ok (.aload_n 0, 1) := by decide +kernel
theorem dX12_hourOf_38 : decode cX12_hourOf 38 = .ok (.aload_n 0, 1) := by decide +kernel
theorem dX12_hourOf_39 : decode cX12_hourOf 39 = .ok (.getfield 161, 3) := by decide +kernel
theorem dX12_hourOf_42 : decode cX12_hourOf 42 = .ok (.ifCond .ne 22, 3) := by decide +kernel
theorem dX12_hourOf_45 : decode cX12_hourOf 45 = .ok (.iload 4, 2) := by decide +kernel
theorem dX12_hourOf_47 : decode cX12_hourOf 47 = .ok (.aload_n 0, 1) := by decide +kernel
theorem dX12_hourOf_48 : decode cX12_hourOf 48 = .ok (.getfield 9, 3) := by decide +kernel
theorem dX12_hourOf_51 : decode cX12_hourOf 51 = .ok (.sipush 141, 3) := by decide +kernel
theorem dX12_hourOf_54 : decode cX12_hourOf 54 = .ok (.iload_n 1, 1) := by decide +kernel
theorem dX12_hourOf_55 : decode cX12_hourOf 55 = .ok (.iadd, 1) := by decide +kernel
theorem dX12_hourOf_56 : decode cX12_hourOf 56 = .ok (.iaload, 1) := by decide +kernel
theorem dX12_hourOf_57 : decode cX12_hourOf 57 = .ok (.if_icmp .lt 7, 3) := by decide +kernel
theorem dX12_hourOf_60 : decode cX12_hourOf 60 = .ok (.iconst 1, 1) := by decide +kernel
theorem dX12_hourOf_61 : decode cX12_hourOf 61 = .ok (.goto 4, 3) := by decide +kernel
theorem dX12_hourOf_64 : decode cX12_hourOf 64 = .ok (.iconst 0, 1) := by decide +kernel
theorem dX12_hourOf_65 : decode cX12_hourOf 65 = .ok (.putfield 164, 3) := by decide +kernel
theorem dX12_hourOf_68 : decode cX12_hourOf 68 = .ok (.aload_n 0, 1) := by decide +kernel
theorem dX12_hourOf_69 : decode cX12_hourOf 69 = .ok (.aload_n 0, 1) := by decide +kernel
theorem dX12_hourOf_70 : decode cX12_hourOf 70 = .ok (.getfield 161, 3) := by decide +kernel
theorem dX12_hourOf_73 : decode cX12_hourOf 73 = .ok (.ifCond .eq 7, 3) := by decide +kernel
theorem dX12_hourOf_76 : decode cX12_hourOf 76 = .ok (.iconst (-1), 1) := by decide +kernel
theorem dX12_hourOf_77 : decode cX12_hourOf 77 = .ok (.goto 20, 3) := by decide +kernel
theorem dX12_hourOf_80 : decode cX12_hourOf 80 = .ok (.aload_n 0, 1) := by decide +kernel
theorem dX12_hourOf_81 : decode cX12_hourOf 81 = .ok (.getfield 164, 3) := by decide +kernel
theorem dX12_hourOf_84 : decode cX12_hourOf 84 = .ok (.ifCond .eq 7, 3) := by decide +kernel
theorem dX12_hourOf_87 : decode cX12_hourOf 87 = .ok (.iconst 0, 1) := by decide +kernel
theorem dX12_hourOf_88 : decode cX12_hourOf 88 = .ok (.goto 9, 3) := by decide +kernel
theorem dX12_hourOf_91 : decode cX12_hourOf 91 = .ok (.aload_n 0, 1) := by decide +kernel
theorem dX12_hourOf_92 : decode cX12_hourOf 92 = .ok (.iload_n 1, 1) := by decide +kernel
theorem dX12_hourOf_93 : decode cX12_hourOf 93 = .ok (.iconst 1, 1) := by decide +kernel
theorem dX12_hourOf_94 : decode cX12_hourOf 94 = .ok (.invokevirtual 153, 3) := by decide +kernel
theorem dX12_hourOf_97 : decode cX12_hourOf 97 = .ok (.putfield 167, 3) := by decide +kernel
theorem dX12_hourOf_100 : decode cX12_hourOf 100 = .ok (.aload_n 0, 1) := by decide +kernel
theorem dX12_hourOf_101 : decode cX12_hourOf 101 = .ok (.aload_n 0, 1) := by decide +kernel
theorem dX12_hourOf_102 : decode cX12_hourOf 102 = .ok (.getfield 161, 3) := by decide +kernel
theorem dX12_hourOf_105 : decode cX12_hourOf 105 = .ok (.ifCond .eq 8, 3) := by decide +kernel
theorem dX12_hourOf_108 : decode cX12_hourOf 108 = .ok (.iload 4, 2) := by decide +kernel
theorem dX12_hourOf_110 : decode cX12_hourOf 110 = .ok (.goto 26, 3) := by decide +kernel
theorem dX12_hourOf_113 : decode cX12_hourOf 113 = .ok (.iload 4, 2) := by decide +kernel
theorem dX12_hourOf_115 : decode cX12_hourOf 115 = .ok (.aload_n 0, 1) := by decide +kernel
theorem dX12_hourOf_116 : decode cX12_hourOf 116 = .ok (.iload_n 1, 1) := by decide +kernel
theorem dX12_hourOf_117 : decode cX12_hourOf 117 = .ok (.iconst 2, 1) := by decide +kernel
theorem dX12_hourOf_118 : decode cX12_hourOf 118 = .ok (.invokevirtual 153, 3) := by decide +kernel
theorem dX12_hourOf_121 : decode cX12_hourOf 121 = .ok (.iadd, 1) := by decide +kernel
theorem dX12_hourOf_122 : decode cX12_hourOf 122 = .ok (.aload_n 0, 1) := by decide +kernel
theorem dX12_hourOf_123 : decode cX12_hourOf 123 = .ok (.getfield 9, 3) := by decide +kernel
theorem dX12_hourOf_126 : decode cX12_hourOf 126 = .ok (.sipush 131, 3) := by decide +kernel
theorem dX12_hourOf_129 : decode cX12_hourOf 129 = .ok (.iload_n 1, 1) := by decide +kernel
theorem dX12_hourOf_130 : decode cX12_hourOf 130 = .ok (.iadd, 1) := by decide +kernel
theorem dX12_hourOf_131 : decode cX12_hourOf 131 = .ok (.iaload, 1) := by decide +kernel
theorem dX12_hourOf_132 : decode cX12_hourOf 132 = .ok (.isub, 1) := by decide +kernel
theorem dX12_hourOf_133 : decode cX12_hourOf 133 = .ok (.invokestatic 170, 3) := by decide +kernel
theorem dX12_hourOf_136 : decode cX12_hourOf 136 = .ok (.putfield 174, 3) := by decide +kernel
theorem dX12_hourOf_139 : decode cX12_hourOf 139 = .ok (.aload_n 0, 1) := by decide +kernel
theorem dX12_hourOf_140 : decode cX12_hourOf 140 = .ok (.aload_n 0, 1) := by decide +kernel
theorem dX12_hourOf_141 : decode cX12_hourOf 141 = .ok (.getfield 161, 3) := by decide +kernel
theorem dX12_hourOf_144 : decode cX12_hourOf 144 = .ok (.ifCond .eq 8, 3) := by decide +kernel
theorem dX12_hourOf_147 : decode cX12_hourOf 147 = .ok (.iload 5, 2) := by decide +kernel
theorem dX12_hourOf_149 : decode cX12_hourOf 149 = .ok (.goto 15, 3) := by decide +kernel
theorem dX12_hourOf_152 : decode cX12_hourOf 152 = .ok (.iload 5, 2) := by decide +kernel
theorem dX12_hourOf_154 : decode cX12_hourOf 154 = .ok (.aload_n 0, 1) := by decide +kernel
theorem dX12_hourOf_155 : decode cX12_hourOf 155 = .ok (.iload_n 1, 1) := by decide +kernel
theorem dX12_hourOf_156 : decode cX12_hourOf 156 = .ok (.iconst 3, 1) := by decide +kernel
theorem dX12_hourOf_157 : decode cX12_hourOf 157 = .ok (.invokevirtual 153, 3) := by decide +kernel
theorem dX12_hourOf_160 : decode cX12_hourOf 160 = .ok (.iadd, 1) := by decide +kernel
theorem dX12_hourOf_161 : decode cX12_hourOf 161 = .ok (.invokestatic 170, 3) := by decide +kernel
theorem dX12_hourOf_164 : decode cX12_hourOf 164 = .ok (.putfield 177, 3) := by decide +kernel
theorem dX12_hourOf_167 : decode cX12_hourOf 167 = .ok (.return_, 1) := by decide +kernel
theorem dX12_hour_0 : decode cX12_hour 0 = .ok (.aload_n 0, 1) := by decide +kernel
theorem dX12_hour_1 : decode cX12_hour 1 = .ok (.iload_n 1, 1) := by decide +kernel
theorem dX12_hour_2 : decode cX12_hour 2 = .ok (.invokevirtual 180, 3) := by decide +kernel
theorem dX12_hour_5 : decode cX12_hour 5 = .ok (.ifCond .eq 20, 3) := by decide +kernel
theorem dX12_hour_8 : decode cX12_hour 8 = .ok (.iload_n 2, 1) := by decide +kernel
theorem dX12_hour_9 : decode cX12_hour 9 = .ok (.invokestatic 184, 3) := by decide +kernel
theorem dX12_hour_12 : decode cX12_hour 12 = .ok (.ifCond .eq 13, 3) := by decide +kernel
theorem dX12_hour_15 : decode cX12_hour 15 = .ok (.iload 6, 2) := by decide +kernel
theorem dX12_hour_17 : decode cX12_hour 17 = .ok (.iconst 0, 1) := by decide +kernel
theorem dX12_hour_18 : decode cX12_hour 18 = .ok (.iconst 5, 1) := by decide +kernel
theorem dX12_hour_19 : decode cX12_hour 19 = .ok (.invokestatic 63, 3) := by decide +kernel
theorem dX12_hour_22 : decode cX12_hour 22 = .ok (.ifCond .ne 5, 3) := by decide +kernel
theorem dX12_hour_25 : decode cX12_hour 25 = .ok (.iconst (-1), 1) := by decide +kernel
theorem dX12_hour_26 : decode cX12_hour 26 = .ok (.ireturn, 1) := by decide +kernel
theorem dX12_hour_27 : decode cX12_hour 27 = .ok (.iload_n 3, 1) := by decide +kernel
theorem dX12_hour_28 : decode cX12_hour 28 = .ok (.iconst 0, 1) := by decide +kernel
theorem dX12_hour_29 : decode cX12_hour 29 = .ok (.bipush 7, 2) := by decide +kernel
theorem dX12_hour_31 : decode cX12_hour 31 = .ok (.invokestatic 63, 3) := by decide +kernel
theorem dX12_hour_34 : decode cX12_hour 34 = .ok (.ifCond .eq 25, 3) := by decide +kernel
theorem dX12_hour_37 : decode cX12_hour 37 = .ok (.iload 4, 2) := by decide +kernel
theorem dX12_hour_39 : decode cX12_hour 39 = .ok (.iconst 0, 1) := by decide +kernel
theorem dX12_hour_40 : decode cX12_hour 40 = .ok (.bipush 9, 2) := by decide +kernel
theorem dX12_hour_42 : decode cX12_hour 42 = .ok (.invokestatic 63, 3) := by decide +kernel
theorem dX12_hour_45 : decode cX12_hour 45 = .ok (.ifCond .eq 14, 3) := by decide +kernel
theorem dX12_hour_48 : decode cX12_hour 48 = .ok (.iload 5, 2) := by decide +kernel
theorem dX12_hour_50 : decode cX12_hour 50 = .ok (.iconst 0, 1) := by decide +kernel
theorem dX12_hour_51 : decode cX12_hour 51 = .ok (.bipush 9, 2) := by decide +kernel
theorem dX12_hour_53 : decode cX12_hour 53 = .ok (.invokestatic 63, 3) := by decide +kernel
theorem dX12_hour_56 : decode cX12_hour 56 = .ok (.ifCond .ne 6, 3) := by decide +kernel
theorem dX12_hour_59 : decode cX12_hour 59 = .ok (.bipush (-2), 2) := by decide +kernel
theorem dX12_hour_61 : decode cX12_hour 61 = .ok (.ireturn, 1) := by decide +kernel
theorem dX12_hour_62 : decode cX12_hour 62 = .ok (.iload 6, 2) := by decide +kernel
theorem dX12_hour_64 : decode cX12_hour 64 = .ok (.ifCond .ne 15, 3) := by decide +kernel
theorem dX12_hour_67 : decode cX12_hour 67 = .ok (.aload_n 0, 1) := by decide +kernel
theorem dX12_hour_68 : decode cX12_hour 68 = .ok (.iload_n 1, 1) := by decide +kernel
theorem dX12_hour_69 : decode cX12_hour 69 = .ok (.iload_n 2, 1) := by decide +kernel
theorem dX12_hour_70 : decode cX12_hour 70 = .ok (.iload_n 3, 1) := by decide +kernel
theorem dX12_hour_71 : decode cX12_hour 71 = .ok (.iload 4, 2) := by decide +kernel
theorem dX12_hour_73 : decode cX12_hour 73 = .ok (.iload 5, 2) := by decide +kernel
theorem dX12_hour_75 : decode cX12_hour 75 = .ok (.invokevirtual 157, 3) := by decide +kernel
theorem dX12_hour_78 : decode cX12_hour 78 = .ok (.ireturn, 1) := by decide +kernel
theorem dX12_hour_79 : decode cX12_hour 79 = .ok (.aload_n 0, 1) := by decide +kernel
theorem dX12_hour_80 : decode cX12_hour 80 = .ok (.iload_n 1, 1) := by decide +kernel
theorem dX12_hour_81 : decode cX12_hour 81 = .ok (.iload_n 2, 1) := by decide +kernel
theorem dX12_hour_82 : decode cX12_hour 82 = .ok (.iload_n 3, 1) := by decide +kernel
theorem dX12_hour_83 : decode cX12_hour 83 = .ok (.iload 4, 2) := by decide +kernel
theorem dX12_hour_85 : decode cX12_hour 85 = .ok (.iload 5, 2) := by decide +kernel
theorem dX12_hour_87 : decode cX12_hour 87 = .ok (.invokevirtual 187, 3) := by decide +kernel
theorem dX12_hour_90 : decode cX12_hour 90 = .ok (.iload 6, 2) := by decide +kernel
theorem dX12_hour_92 : decode cX12_hour 92 = .ok (.tableswitch 60 1 4 #[32, 37, 42, 47], 32) := by decide +kernel
theorem dX12_hour_124 : decode cX12_hour 124 = .ok (.aload_n 0, 1) := by decide +kernel
theorem dX12_hour_125 : decode cX12_hour 125 = .ok (.getfield 167, 3) := by decide +kernel
theorem dX12_hour_128 : decode cX12_hour 128 = .ok (.ireturn, 1) := by decide +kernel
theorem dX12_hour_129 : decode cX12_hour 129 = .ok (.aload_n 0, 1) := by decide +kernel
theorem dX12_hour_130 : decode cX12_hour 130 = .ok (.getfield 174, 3) := by decide +kernel
theorem dX12_hour_133 : decode cX12_hour 133 = .ok (.ireturn, 1) := by decide +kernel
theorem dX12_hour_134 : decode cX12_hour 134 = .ok (.aload_n 0, 1) := by decide +kernel
theorem dX12_hour_135 : decode cX12_hour 135 = .ok (.getfield 177, 3) := by decide +kernel
theorem dX12_hour_138 : decode cX12_hour 138 = .ok (.ireturn, 1) := by decide +kernel
theorem dX12_hour_139 : decode cX12_hour 139 = .ok (.aload_n 0, 1) := by decide +kernel
theorem dX12_hour_140 : decode cX12_hour 140 = .ok (.getfield 164, 3) := by decide +kernel
theorem dX12_hour_143 : decode cX12_hour 143 = .ok (.ifCond .eq 7, 3) := by decide +kernel
theorem dX12_hour_146 : decode cX12_hour 146 = .ok (.iconst 1, 1) := by decide +kernel
theorem dX12_hour_147 : decode cX12_hour 147 = .ok (.goto 4, 3) := by decide +kernel
theorem dX12_hour_150 : decode cX12_hour 150 = .ok (.iconst 0, 1) := by decide +kernel
theorem dX12_hour_151 : decode cX12_hour 151 = .ok (.ireturn, 1) := by decide +kernel
theorem dX12_hour_152 : decode cX12_hour 152 = .ok (.aload_n 0, 1) := by decide +kernel
theorem dX12_hour_153 : decode cX12_hour 153 = .ok (.getfield 161, 3) := by decide +kernel
theorem dX12_hour_156 : decode cX12_hour 156 = .ok (.ifCond .eq 7, 3) := by decide +kernel
theorem dX12_hour_159 : decode cX12_hour 159 = .ok (.iconst 1, 1) := by decide +kernel
theorem dX12_hour_160 : decode cX12_hour 160 = .ok (.goto 4, 3) := by decide +kernel
theorem dX12_hour_163 : decode cX12_hour 163 = .ok (.iconst 0, 1) := by decide +kernel
theorem dX12_hour_164 : decode cX12_hour 164 = .ok (.ireturn, 1) := by decide +kernel
theorem dX12_wind_0 : decode cX12_wind 0 = .ok (.iload_n 1, 1) := by decide +kernel
theorem dX12_wind_1 : decode cX12_wind 1 = .ok (.invokestatic 184, 3) := by decide +kernel
theorem dX12_wind_4 : decode cX12_wind 4 = .ok (.ifCond .ne 5, 3) := by decide +kernel
theorem dX12_wind_7 : decode cX12_wind 7 = .ok (.iconst (-1), 1) := by decide +kernel
theorem dX12_wind_8 : decode cX12_wind 8 = .ok (.ireturn, 1) := by decide +kernel
theorem dX12_wind_9 : decode cX12_wind 9 = .ok (.iload_n 2, 1) := by decide +kernel
theorem dX12_wind_10 : decode cX12_wind 10 = .ok (.iconst 0, 1) := by decide +kernel
theorem dX12_wind_11 : decode cX12_wind 11 = .ok (.sipush 1000, 3) := by decide +kernel
theorem dX12_wind_14 : decode cX12_wind 14 = .ok (.invokestatic 63, 3) := by decide +kernel
theorem dX12_wind_17 : decode cX12_wind 17 = .ok (.ifCond .eq 68, 3) := by decide +kernel
theorem dX12_wind_20 : decode cX12_wind 20 = .ok (.iload_n 3, 1) := by decide +kernel
theorem dX12_wind_21 : decode cX12_wind 21 = .ok (.iconst 0, 1) := by decide +kernel
theorem dX12_wind_22 : decode cX12_wind 22 = .ok (.sipush 1000, 3) := by decide +kernel
theorem dX12_wind_25 : decode cX12_wind 25 = .ok (.invokestatic 63, 3) := by decide +kernel
theorem dX12_wind_28 : decode cX12_wind 28 = .ok (.ifCond .eq 57, 3) := by decide +kernel
theorem dX12_wind_31 : decode cX12_wind 31 = .ok (.iload 4, 2) := by decide +kernel
theorem dX12_wind_33 : decode cX12_wind 33 = .ok (.iconst 0, 1) := by decide +kernel
theorem dX12_wind_34 : decode cX12_wind 34 = .ok (.sipush 1000, 3) := by decide +kernel
theorem dX12_wind_37 : decode cX12_wind 37 = .ok (.invokestatic 63, 3) := by decide +kernel
theorem dX12_wind_40 : decode cX12_wind 40 = .ok (.ifCond .eq 45, 3) := by decide +kernel
theorem dX12_wind_43 : decode cX12_wind 43 = .ok (.iload 5, 2) := by decide +kernel
theorem dX12_wind_45 : decode cX12_wind 45 = .ok (.iconst 0, 1) := by decide +kernel
theorem dX12_wind_46 : decode cX12_wind 46 = .ok (.sipush 1000, 3) := by decide +kernel
theorem dX12_wind_49 : decode cX12_wind 49 = .ok (.invokestatic 63, 3) := by decide +kernel
theorem dX12_wind_52 : decode cX12_wind 52 = .ok (.ifCond .eq 33, 3) := by decide +kernel
theorem dX12_wind_55 : decode cX12_wind 55 = .ok (.iload 6, 2) := by decide +kernel
theorem dX12_wind_57 : decode cX12_wind 57 = .ok (.iconst 0, 1) := by decide +kernel
theorem dX12_wind_58 : decode cX12_wind 58 = .ok (.sipush 1000, 3) := by decide +kernel
theorem dX12_wind_61 : decode cX12_wind 61 = .ok (.invokestatic 63, 3) := by decide +kernel
theorem dX12_wind_64 : decode cX12_wind 64 = .ok (.ifCond .eq 21, 3) := by decide +kernel
theorem dX12_wind_67 : decode cX12_wind 67 = .ok (.iload_n 2, 1) := by decide +kernel
theorem dX12_wind_68 : decode cX12_wind 68 = .ok (.iload_n 3, 1) := by decide +kernel
theorem dX12_wind_69 : decode cX12_wind 69 = .ok (.iadd, 1) := by decide +kernel
theorem dX12_wind_70 : decode cX12_wind 70 = .ok (.iload 4, 2) := by decide +kernel
theorem dX12_wind_72 : decode cX12_wind 72 = .ok (.iadd, 1) := by decide +kernel
theorem dX12_wind_73 : decode cX12_wind 73 = .ok (.iload 5, 2) := by decide +kernel
theorem dX12_wind_75 : decode cX12_wind 75 = .ok (.iadd, 1) := by decide +kernel
theorem dX12_wind_76 : decode cX12_wind 76 = .ok (.iload 6, 2) := by decide +kernel
theorem dX12_wind_78 : decode cX12_wind 78 = .ok (.iadd, 1) := by decide +kernel
theorem dX12_wind_79 : decode cX12_wind 79 = .ok (.sipush 1000, 3) := by decide +kernel
theorem dX12_wind_82 : decode cX12_wind 82 = .ok (.if_icmp .le 6, 3) := by decide +kernel
theorem dX12_wind_85 : decode cX12_wind 85 = .ok (.bipush (-2), 2) := by decide +kernel
theorem dX12_wind_87 : decode cX12_wind 87 = .ok (.ireturn, 1) := by decide +kernel
theorem dX12_wind_88 : decode cX12_wind 88 = .ok (.sipush 851, 3) := by decide +kernel
theorem dX12_wind_91 : decode cX12_wind 91 = .ok (.bipush 6, 2) := by decide +kernel
theorem dX12_wind_93 : decode cX12_wind 93 = .ok (.iload_n 1, 1) := by decide +kernel
theorem dX12_wind_94 : decode cX12_wind 94 = .ok (.imul, 1) := by decide +kernel
theorem dX12_wind_95 : decode cX12_wind 95 = .ok (.iadd, 1) := by decide +kernel
theorem dX12_wind_96 : decode cX12_wind 96 = .ok (.istore 7, 2) := by decide +kernel
theorem dX12_wind_98 : decode cX12_wind 98 = .ok (.aload_n 0, 1) := by decide +kernel
theorem dX12_wind_99 : decode cX12_wind 99 = .ok (.getfield 9, 3) := by decide +kernel
theorem dX12_wind_102 : decode cX12_wind 102 = .ok (.iload 7, 2) := by decide +kernel
theorem dX12_wind_104 : decode cX12_wind 104 = .ok (.iload_n 2, 1) := by decide +kernel
theorem dX12_wind_105 : decode cX12_wind 105 = .ok (.iastore, 1) := by decide +kernel
theorem dX12_wind_106 : decode cX12_wind 106 = .ok (.aload_n 0, 1) := by decide +kernel
theorem dX12_wind_107 : decode cX12_wind 107 = .ok (.getfield 9, 3) := by decide +kernel
theorem dX12_wind_110 : decode cX12_wind 110 = .ok (.iload 7, 2) := by decide +kernel
theorem dX12_wind_112 : decode cX12_wind 112 = .ok (.iconst 1, 1) := by decide +kernel
theorem dX12_wind_113 : decode cX12_wind 113 = .ok (.iadd, 1) := by decide +kernel
theorem dX12_wind_114 : decode cX12_wind 114 = .ok (.iload_n 3, 1) := by decide +kernel
theorem dX12_wind_115 : decode cX12_wind 115 = .ok (.iastore, 1) := by decide +kernel
theorem dX12_wind_116 : decode cX12_wind 116 = .ok (.aload_n 0, 1) := by decide +kernel
theorem dX12_wind_117 : decode cX12_wind 117 = .ok (.getfield 9, 3) := by decide +kernel
theorem dX12_wind_120 : decode cX12_wind 120 = .ok (.iload 7, 2) := by decide +kernel
theorem dX12_wind_122 : decode cX12_wind 122 = .ok (.iconst 2, 1) := by decide +kernel
theorem dX12_wind_123 : decode cX12_wind 123 = .ok (.iadd, 1) := by decide +kernel
theorem dX12_wind_124 : decode cX12_wind 124 = .ok (.iload 4, 2) := by decide +kernel
theorem dX12_wind_126 : decode cX12_wind 126 = .ok (.iastore, 1) := by decide +kernel
theorem dX12_wind_127 : decode cX12_wind 127 = .ok (.aload_n 0, 1) := by decide +kernel
theorem dX12_wind_128 : decode cX12_wind 128 = .ok (.getfield 9, 3) := by decide +kernel
theorem dX12_wind_131 : decode cX12_wind 131 = .ok (.iload 7, 2) := by decide +kernel
theorem dX12_wind_133 : decode cX12_wind 133 = .ok (.iconst 3, 1) := by decide +kernel
theorem dX12_wind_134 : decode cX12_wind 134 = .ok (.iadd, 1) := by decide +kernel
theorem dX12_wind_135 : decode cX12_wind 135 = .ok (.iload 5, 2) := by decide +kernel
theorem dX12_wind_137 : decode cX12_wind 137 = .ok (.iastore, 1) := by decide +kernel
theorem dX12_wind_138 : decode cX12_wind 138 = .ok (.aload_n 0, 1) := by decide +kernel
theorem dX12_wind_139 : decode cX12_wind 139 = .ok (.getfield 9, 3) := by decide +kernel
theorem dX12_wind_142 : decode cX12_wind 142 = .ok (.iload 7, 2) := by decide +kernel
theorem dX12_wind_144 : decode cX12_wind 144 = .ok (.iconst 4, 1) := by decide +kernel
theorem dX12_wind_145 : decode cX12_wind 145 = .ok (.iadd, 1) := by decide +kernel
theorem dX12_wind_146 : decode cX12_wind 146 = .ok (.iload 6, 2) := by decide +kernel
theorem dX12_wind_148 : decode cX12_wind 148 = .ok (.iastore, 1) := by decide +kernel
theorem dX12_wind_149 : decode cX12_wind 149 = .ok (.aload_n 0, 1) := by decide +kernel
theorem dX12_wind_150 : decode cX12_wind 150 = .ok (.getfield 9, 3) := by decide +kernel
theorem dX12_wind_153 : decode cX12_wind 153 = .ok (.iload 7, 2) := by decide +kernel
theorem dX12_wind_155 : decode cX12_wind 155 = .ok (.iconst 5, 1) := by decide +kernel
theorem dX12_wind_156 : decode cX12_wind 156 = .ok (.iadd, 1) := by decide +kernel
theorem dX12_wind_157 : decode cX12_wind 157 = .ok (.sipush 1000, 3) := by decide +kernel
theorem dX12_wind_160 : decode cX12_wind 160 = .ok (.iload_n 2, 1) := by decide +kernel
theorem dX12_wind_161 : decode cX12_wind 161 = .ok (.isub, 1) := by decide +kernel
theorem dX12_wind_162 : decode cX12_wind 162 = .ok (.iload_n 3, 1) := by decide +kernel
theorem dX12_wind_163 : decode cX12_wind 163 = .ok (.isub, 1) := by decide +kernel
theorem dX12_wind_164 : decode cX12_wind 164 = .ok (.iload 4, 2) := by decide +kernel
theorem dX12_wind_166 : decode cX12_wind 166 = .ok (.isub, 1) := by decide +kernel
theorem dX12_wind_167 : decode cX12_wind 167 = .ok (.iload 5, 2) := by decide +kernel
theorem dX12_wind_169 : decode cX12_wind 169 = .ok (.isub, 1) := by decide +kernel
theorem dX12_wind_170 : decode cX12_wind 170 = .ok (.iload 6, 2) := by decide +kernel
theorem dX12_wind_172 : decode cX12_wind 172 = .ok (.isub, 1) := by decide +kernel
theorem dX12_wind_173 : decode cX12_wind 173 = .ok (.iastore, 1) := by decide +kernel
theorem dX12_wind_174 : decode cX12_wind 174 = .ok (.iconst 1, 1) := by decide +kernel
theorem dX12_wind_175 : decode cX12_wind 175 = .ok (.ireturn, 1) := by decide +kernel
theorem dX12_chance_0 : decode cX12_chance 0 = .ok (.iload_n 1, 1) := by decide +kernel
theorem dX12_chance_1 : decode cX12_chance 1 = .ok (.invokestatic 184, 3) := by decide +kernel
theorem dX12_chance_4 : decode cX12_chance 4 = .ok (.ifCond .eq 28, 3) := by decide +kernel
theorem dX12_chance_7 : decode cX12_chance 7 = .ok (.iload_n 2, 1) := by decide +kernel
theorem dX12_chance_8 : decode cX12_chance 8 = .ok (.invokestatic 184, 3) := by decide +kernel
theorem dX12_chance_11 : decode cX12_chance 11 = .ok (.ifCond .eq 21, 3) := by decide +kernel
theorem dX12_chance_14 : decode cX12_chance 14 = .ok (.aload_n 0, 1) := by decide +kernel
theorem dX12_chance_15 : decode cX12_chance 15 = .ok (.getfield 9, 3) := by decide +kernel
theorem dX12_chance_18 : decode cX12_chance 18 = .ok (.sipush 851, 3) := by decide +kernel
theorem dX12_chance_21 : decode cX12_chance 21 = .ok (.bipush 6, 2) := by decide +kernel
theorem dX12_chance_23 : decode cX12_chance 23 = .ok (.iload_n 1, 1) := by decide +kernel
theorem dX12_chance_24 : decode cX12_chance 24 = .ok (.imul, 1) := by decide +kernel
theorem dX12_chance_25 : decode cX12_chance 25 = .ok (.iadd, 1) := by decide +kernel
theorem dX12_chance_26 : decode cX12_chance 26 = .ok (.iload_n 2, 1) := by decide +kernel
theorem dX12_chance_27 : decode cX12_chance 27 = .ok (.iadd, 1) := by decide +kernel
theorem dX12_chance_28 : decode cX12_chance 28 = .ok (.iaload, 1) := by decide +kernel
theorem dX12_chance_29 : decode cX12_chance 29 = .ok (.goto 4, 3) := by decide +kernel
theorem dX12_chance_32 : decode cX12_chance 32 = .ok (.iconst (-1), 1) := by decide +kernel
theorem dX12_chance_33 : decode cX12_chance 33 = .ok (.ireturn, 1) := by decide +kernel
theorem dX12_lead_0 : decode cX12_lead 0 = .ok (.aload_n 0, 1) := by decide +kernel
theorem dX12_lead_1 : decode cX12_lead 1 = .ok (.iload_n 1, 1) := by decide +kernel
theorem dX12_lead_2 : decode cX12_lead 2 = .ok (.invokevirtual 180, 3) := by decide +kernel
theorem dX12_lead_5 : decode cX12_lead 5 = .ok (.ifCond .ne 5, 3) := by decide +kernel
theorem dX12_lead_8 : decode cX12_lead 8 = .ok (.iconst (-1), 1) := by decide +kernel
theorem dX12_lead_9 : decode cX12_lead 9 = .ok (.ireturn, 1) := by decide +kernel
theorem dX12_lead_10 : decode cX12_lead 10 = .ok (.aload_n 0, 1) := by decide +kernel
theorem dX12_lead_11 : decode cX12_lead 11 = .ok (.getfield 9, 3) := by decide +kernel
theorem dX12_lead_14 : decode cX12_lead 14 = .ok (.iconst 5, 1) := by decide +kernel
theorem dX12_lead_15 : decode cX12_lead 15 = .ok (.iload_n 1, 1) := by decide +kernel
theorem dX12_lead_16 : decode cX12_lead 16 = .ok (.iastore, 1) := by decide +kernel
theorem dX12_lead_17 : decode cX12_lead 17 = .ok (.aload_n 0, 1) := by decide +kernel
theorem dX12_lead_18 : decode cX12_lead 18 = .ok (.getfield 9, 3) := by decide +kernel
theorem dX12_lead_21 : decode cX12_lead 21 = .ok (.bipush 6, 2) := by decide +kernel
theorem dX12_lead_23 : decode cX12_lead 23 = .ok (.iconst 0, 1) := by decide +kernel
theorem dX12_lead_24 : decode cX12_lead 24 = .ok (.iastore, 1) := by decide +kernel
theorem dX12_lead_25 : decode cX12_lead 25 = .ok (.aload_n 0, 1) := by decide +kernel
theorem dX12_lead_26 : decode cX12_lead 26 = .ok (.getfield 9, 3) := by decide +kernel
theorem dX12_lead_29 : decode cX12_lead 29 = .ok (.bipush 7, 2) := by decide +kernel
theorem dX12_lead_31 : decode cX12_lead 31 = .ok (.iconst 0, 1) := by decide +kernel
theorem dX12_lead_32 : decode cX12_lead 32 = .ok (.iastore, 1) := by decide +kernel
theorem dX12_lead_33 : decode cX12_lead 33 = .ok (.aload_n 0, 1) := by decide +kernel
theorem dX12_lead_34 : decode cX12_lead 34 = .ok (.getfield 9, 3) := by decide +kernel
theorem dX12_lead_37 : decode cX12_lead 37 = .ok (.bipush 8, 2) := by decide +kernel
theorem dX12_lead_39 : decode cX12_lead 39 = .ok (.iconst 0, 1) := by decide +kernel
theorem dX12_lead_40 : decode cX12_lead 40 = .ok (.iastore, 1) := by decide +kernel
theorem dX12_lead_41 : decode cX12_lead 41 = .ok (.aload_n 0, 1) := by decide +kernel
theorem dX12_lead_42 : decode cX12_lead 42 = .ok (.getfield 9, 3) := by decide +kernel
theorem dX12_lead_45 : decode cX12_lead 45 = .ok (.bipush 9, 2) := by decide +kernel
theorem dX12_lead_47 : decode cX12_lead 47 = .ok (.iconst 0, 1) := by decide +kernel
theorem dX12_lead_48 : decode cX12_lead 48 = .ok (.iastore, 1) := by decide +kernel
theorem dX12_lead_49 : decode cX12_lead 49 = .ok (.aload_n 0, 1) := by decide +kernel
theorem dX12_lead_50 : decode cX12_lead 50 = .ok (.getfield 9, 3) := by decide +kernel
theorem dX12_lead_53 : decode cX12_lead 53 = .ok (.bipush 10, 2) := by decide +kernel
theorem dX12_lead_55 : decode cX12_lead 55 = .ok (.iconst 0, 1) := by decide +kernel
theorem dX12_lead_56 : decode cX12_lead 56 = .ok (.iastore, 1) := by decide +kernel
theorem dX12_lead_57 : decode cX12_lead 57 = .ok (.iconst 1, 1) := by decide +kernel
theorem dX12_lead_58 : decode cX12_lead 58 = .ok (.ireturn, 1) := by decide +kernel
theorem dX12_led_0 : decode cX12_led 0 = .ok (.iload_n 1, 1) := by decide +kernel
theorem dX12_led_1 : decode cX12_led 1 = .ok (.iconst 0, 1) := by decide +kernel
theorem dX12_led_2 : decode cX12_led 2 = .ok (.iconst 5, 1) := by decide +kernel
theorem dX12_led_3 : decode cX12_led 3 = .ok (.invokestatic 63, 3) := by decide +kernel
theorem dX12_led_6 : decode cX12_led 6 = .ok (.ifCond .ne 5, 3) := by decide +kernel
theorem dX12_led_9 : decode cX12_led 9 = .ok (.iconst (-1), 1) := by decide +kernel
theorem dX12_led_10 : decode cX12_led 10 = .ok (.ireturn, 1) := by decide +kernel
theorem dX12_led_11 : decode cX12_led 11 = .ok (.aload_n 0, 1) := by decide +kernel
theorem dX12_led_12 : decode cX12_led 12 = .ok (.invokevirtual 191, 3) := by decide +kernel
theorem dX12_led_15 : decode cX12_led 15 = .ok (.ifCond .eq 14, 3) := by decide +kernel
theorem dX12_led_18 : decode cX12_led 18 = .ok (.aload_n 0, 1) := by decide +kernel
theorem dX12_led_19 : decode cX12_led 19 = .ok (.getfield 9, 3) := by decide +kernel
theorem dX12_led_22 : decode cX12_led 22 = .ok (.iconst 5, 1) := by decide +kernel
theorem dX12_led_23 : decode cX12_led 23 = .ok (.iload_n 1, 1) := by decide +kernel
theorem dX12_led_24 : decode cX12_led 24 = .ok (.iadd, 1) := by decide +kernel
theorem dX12_led_25 : decode cX12_led 25 = .ok (.iaload, 1) := by decide +kernel
theorem dX12_led_26 : decode cX12_led 26 = .ok (.goto 5, 3) := by decide +kernel
theorem dX12_led_29 : decode cX12_led 29 = .ok (.bipush (-3), 2) := by decide +kernel
theorem dX12_led_31 : decode cX12_led 31 = .ok (.ireturn, 1) := by decide +kernel
theorem dX12_go_0 : decode cX12_go 0 = .ok (.iload_n 1, 1) := by decide +kernel
theorem dX12_go_1 : decode cX12_go 1 = .ok (.invokestatic 184, 3) := by decide +kernel
theorem dX12_go_4 : decode cX12_go 4 = .ok (.ifCond .ne 6, 3) := by decide +kernel
theorem dX12_go_7 : decode cX12_go 7 = .ok (.bipush (-11), 2) := by decide +kernel
theorem dX12_go_9 : decode cX12_go 9 = .ok (.ireturn, 1) := by decide +kernel
theorem dX12_go_10 : decode cX12_go 10 = .ok (.iload_n 2, 1) := by decide +kernel
theorem dX12_go_11 : decode cX12_go 11 = .ok (.iconst 0, 1) := by decide +kernel
theorem dX12_go_12 : decode cX12_go 12 = .ok (.bipush 7, 2) := by decide +kernel
theorem dX12_go_14 : decode cX12_go 14 = .ok (.invokestatic 63, 3) := by decide +kernel
theorem dX12_go_17 : decode cX12_go 17 = .ok (.ifCond .ne 6, 3) := by decide +kernel
theorem dX12_go_20 : decode cX12_go 20 = .ok (.bipush (-12), 2) := by decide +kernel
theorem dX12_go_22 : decode cX12_go 22 = .ok (.ireturn, 1) := by decide +kernel
theorem dX12_go_23 : decode cX12_go 23 = .ok (.aload_n 0, 1) := by decide +kernel
theorem dX12_go_24 : decode cX12_go 24 = .ok (.invokevirtual 191, 3) := by decide +kernel
theorem dX12_go_27 : decode cX12_go 27 = .ok (.ifCond .eq 16, 3) := by decide +kernel
theorem dX12_go_30 : decode cX12_go 30 = .ok (.aload_n 0, 1) := by decide +kernel
theorem dX12_go_31 : decode cX12_go 31 = .ok (.getfield 9, 3) := by decide +kernel
theorem dX12_go_34 : decode cX12_go 34 = .ok (.bipush 6, 2) := by decide +kernel
theorem dX12_go_36 : decode cX12_go 36 = .ok (.iaload, 1) := by decide +kernel
theorem dX12_go_37 : decode cX12_go 37 = .ok (.sipush 999, 3) := by decide +kernel
theorem dX12_go_40 : decode cX12_go 40 = .ok (.if_icmp .ne 6, 3) := by decide +kernel
theorem dX12_go_43 : decode cX12_go 43 = .ok (.bipush (-13), 2) := by decide +kernel
theorem dX12_go_45 : decode cX12_go 45 = .ok (.ireturn, 1) := by decide +kernel
theorem dX12_go_46 : decode cX12_go 46 = .ok (.aload_n 0, 1) := by decide +kernel
theorem dX12_go_47 : decode cX12_go 47 = .ok (.getfield 9, 3) := by decide +kernel
theorem dX12_go_50 : decode cX12_go 50 = .ok (.bipush 6, 2) := by decide +kernel
theorem dX12_go_52 : decode cX12_go 52 = .ok (.dup2, 1) := by decide +kernel
theorem dX12_go_53 : decode cX12_go 53 = .ok (.iaload, 1) := by decide +kernel
theorem dX12_go_54 : decode cX12_go 54 = .ok (.iconst 1, 1) := by decide +kernel
theorem dX12_go_55 : decode cX12_go 55 = .ok (.iadd, 1) := by decide +kernel
theorem dX12_go_56 : decode cX12_go 56 = .ok (.iastore, 1) := by decide +kernel
theorem dX12_go_57 : decode cX12_go 57 = .ok (.aload_n 0, 1) := by decide +kernel
theorem dX12_go_58 : decode cX12_go 58 = .ok (.getfield 9, 3) := by decide +kernel
theorem dX12_go_61 : decode cX12_go 61 = .ok (.bipush 10, 2) := by decide +kernel
theorem dX12_go_63 : decode cX12_go 63 = .ok (.iaload, 1) := by decide +kernel
theorem dX12_go_64 : decode cX12_go 64 = .ok (.iconst 1, 1) := by decide +kernel
theorem dX12_go_65 : decode cX12_go 65 = .ok (.if_icmp .ne 5, 3) := by decide +kernel
theorem dX12_go_68 : decode cX12_go 68 = .ok (.iconst (-1), 1) := by decide +kernel
theorem dX12_go_69 : decode cX12_go 69 = .ok (.ireturn, 1) := by decide +kernel
theorem dX12_go_70 : decode cX12_go 70 = .ok (.aload_n 0, 1) := by decide +kernel
theorem dX12_go_71 : decode cX12_go 71 = .ok (.aload_n 0, 1) := by decide +kernel
theorem dX12_go_72 : decode cX12_go 72 = .ok (.getfield 9, 3) := by decide +kernel
theorem dX12_go_75 : decode cX12_go 75 = .ok (.iconst 5, 1) := by decide +kernel
theorem dX12_go_76 : decode cX12_go 76 = .ok (.iaload, 1) := by decide +kernel
theorem dX12_go_77 : decode cX12_go 77 = .ok (.iload_n 1, 1) := by decide +kernel
theorem dX12_go_78 : decode cX12_go 78 = .ok (.iload_n 2, 1) := by decide +kernel
theorem dX12_go_79 : decode cX12_go 79 = .ok (.aload_n 0, 1) := by decide +kernel
theorem dX12_go_80 : decode cX12_go 80 = .ok (.getfield 9, 3) := by decide +kernel
theorem dX12_go_83 : decode cX12_go 83 = .ok (.bipush 7, 2) := by decide +kernel
theorem dX12_go_85 : decode cX12_go 85 = .ok (.iaload, 1) := by decide +kernel
theorem dX12_go_86 : decode cX12_go 86 = .ok (.aload_n 0, 1) := by decide +kernel
theorem dX12_go_87 : decode cX12_go 87 = .ok (.getfield 9, 3) := by decide +kernel
theorem dX12_go_90 : decode cX12_go 90 = .ok (.bipush 8, 2) := by decide +kernel
theorem dX12_go_92 : decode cX12_go 92 = .ok (.iaload, 1) := by decide +kernel
theorem dX12_go_93 : decode cX12_go 93 = .ok (.invokevirtual 187, 3) := by decide +kernel
theorem dX12_go_96 : decode cX12_go 96 = .ok (.aload_n 0, 1) := by decide +kernel
theorem dX12_go_97 : decode cX12_go 97 = .ok (.getfield 9, 3) := by decide +kernel
theorem dX12_go_100 : decode cX12_go 100 = .ok (.bipush 10, 2) := by decide +kernel
theorem dX12_go_102 : decode cX12_go 102 = .ok (.aload_n 0, 1) := by decide +kernel
theorem dX12_go_103 : decode cX12_go 103 = .ok (.getfield 161, 3) := by decide +kernel
theorem dX12_go_106 : decode cX12_go 106 = .ok (.ifCond .eq 7, 3) := by decide +kernel
theorem dX12_go_109 : decode cX12_go 109 = .ok (.iconst 1, 1) := by decide +kernel
theorem dX12_go_110 : decode cX12_go 110 = .ok (.goto 4, 3) := by decide +kernel
theorem dX12_go_113 : decode cX12_go 113 = .ok (.iconst 0, 1) := by decide +kernel
theorem dX12_go_114 : decode cX12_go 114 = .ok (.iastore, 1) := by decide +kernel
theorem dX12_go_115 : decode cX12_go 115 = .ok (.aload_n 0, 1) := by decide +kernel
theorem dX12_go_116 : decode cX12_go 116 = .ok (.getfield 9, 3) := by decide +kernel
theorem dX12_go_119 : decode cX12_go 119 = .ok (.bipush 7, 2) := by decide +kernel
theorem dX12_go_121 : decode cX12_go 121 = .ok (.aload_n 0, 1) := by decide +kernel
theorem dX12_go_122 : decode cX12_go 122 = .ok (.getfield 174, 3) := by decide +kernel
theorem dX12_go_125 : decode cX12_go 125 = .ok (.iastore, 1) := by decide +kernel
theorem dX12_go_126 : decode cX12_go 126 = .ok (.aload_n 0, 1) := by decide +kernel
theorem dX12_go_127 : decode cX12_go 127 = .ok (.getfield 9, 3) := by decide +kernel
theorem dX12_go_130 : decode cX12_go 130 = .ok (.bipush 8, 2) := by decide +kernel
theorem dX12_go_132 : decode cX12_go 132 = .ok (.aload_n 0, 1) := by decide +kernel
theorem dX12_go_133 : decode cX12_go 133 = .ok (.getfield 177, 3) := by decide +kernel
theorem dX12_go_136 : decode cX12_go 136 = .ok (.iastore, 1) := by decide +kernel
theorem dX12_go_137 : decode cX12_go 137 = .ok (.aload_n 0, 1) := by decide +kernel
theorem dX12_go_138 : decode cX12_go 138 = .ok (.getfield 9, 3) := by decide +kernel
theorem dX12_go_141 : decode cX12_go 141 = .ok (.bipush 9, 2) := by decide +kernel
theorem dX12_go_143 : decode cX12_go 143 = .ok (.dup2, 1) := by decide +kernel
theorem dX12_go_144 : decode cX12_go 144 = .ok (.iaload, 1) := by decide +kernel
theorem dX12_go_145 : decode cX12_go 145 = .ok (.aload_n 0, 1) := by decide +kernel
theorem dX12_go_146 : decode cX12_go 146 = .ok (.getfield 161, 3) := by decide +kernel
theorem dX12_go_149 : decode cX12_go 149 = .ok (.ifCond .eq 7, 3) := by decide +kernel
theorem dX12_go_152 : decode cX12_go 152 = .ok (.iconst 0, 1) := by decide +kernel
theorem dX12_go_153 : decode cX12_go 153 = .ok (.goto 7, 3) := by decide +kernel
theorem dX12_go_156 : decode cX12_go 156 = .ok (.aload_n 0, 1) := by decide +kernel
theorem dX12_go_157 : decode cX12_go 157 = .ok (.getfield 167, 3) := by decide +kernel
theorem dX12_go_160 : decode cX12_go 160 = .ok (.iadd, 1) := by decide +kernel
theorem dX12_go_161 : decode cX12_go 161 = .ok (.iastore, 1) := by decide +kernel
theorem dX12_go_162 : decode cX12_go 162 = .ok (.aload_n 0, 1) := by decide +kernel
theorem dX12_go_163 : decode cX12_go 163 = .ok (.getfield 167, 3) := by decide +kernel
theorem dX12_go_166 : decode cX12_go 166 = .ok (.ireturn, 1) := by decide +kernel
theorem dX12_begins_0 : decode cX12_begins 0 = .ok (.aload_n 0, 1) := by decide +kernel
theorem dX12_begins_1 : decode cX12_begins 1 = .ok (.dup, 1) := by decide +kernel
theorem dX12_begins_2 : decode cX12_begins 2 = .ok (.getfield 195, 3) := by decide +kernel
theorem dX12_begins_5 : decode cX12_begins 5 = .ok (.iconst 1, 1) := by decide +kernel
theorem dX12_begins_6 : decode cX12_begins 6 = .ok (.iadd, 1) := by decide +kernel
theorem dX12_begins_7 : decode cX12_begins 7 = .ok (.putfield 195, 3) := by decide +kernel
theorem dX12_begins_10 : decode cX12_begins 10 = .ok (.aload_n 0, 1) := by decide +kernel
theorem dX12_begins_11 : decode cX12_begins 11 = .ok (.dup, 1) := by decide +kernel
theorem dX12_begins_12 : decode cX12_begins 12 = .ok (.getfield 198, 3) := by decide +kernel
theorem dX12_begins_15 : decode cX12_begins 15 = .ok (.iconst 1, 1) := by decide +kernel
theorem dX12_begins_16 : decode cX12_begins 16 = .ok (.iadd, 1) := by decide +kernel
theorem dX12_begins_17 : decode cX12_begins 17 = .ok (.putfield 198, 3) := by decide +kernel
theorem dX12_begins_20 : decode cX12_begins 20 = .ok (.return_, 1) := by decide +kernel
theorem dX12_hourPlace_0 : decode cX12_hourPlace 0 = .ok (.bipush 8, 2) := by decide +kernel
theorem dX12_hourPlace_2 : decode cX12_hourPlace 2 = .ok (.iload_n 1, 1) := by decide +kernel
theorem dX12_hourPlace_3 : decode cX12_hourPlace 3 = .ok (.imul, 1) := by decide +kernel
theorem dX12_hourPlace_4 : decode cX12_hourPlace 4 = .ok (.iload_n 2, 1) := by decide +kernel
theorem dX12_hourPlace_5 : decode cX12_hourPlace 5 = .ok (.iadd, 1) := by decide +kernel
theorem dX12_hourPlace_6 : decode cX12_hourPlace 6 = .ok (.bipush 10, 2) := by decide +kernel
theorem dX12_hourPlace_8 : decode cX12_hourPlace 8 = .ok (.imul, 1) := by decide +kernel
theorem dX12_hourPlace_9 : decode cX12_hourPlace 9 = .ok (.iload_n 3, 1) := by decide +kernel
theorem dX12_hourPlace_10 : decode cX12_hourPlace 10 = .ok (.iadd, 1) := by decide +kernel
theorem dX12_hourPlace_11 : decode cX12_hourPlace 11 = .ok (.bipush 10, 2) := by decide +kernel
theorem dX12_hourPlace_13 : decode cX12_hourPlace 13 = .ok (.imul, 1) := by decide +kernel
theorem dX12_hourPlace_14 : decode cX12_hourPlace 14 = .ok (.iload 4, 2) := by decide +kernel
theorem dX12_hourPlace_16 : decode cX12_hourPlace 16 = .ok (.iadd, 1) := by decide +kernel
theorem dX12_hourPlace_17 : decode cX12_hourPlace 17 = .ok (.istore 5, 2) := by decide +kernel
theorem dX12_hourPlace_19 : decode cX12_hourPlace 19 = .ok (.aload_n 0, 1) := by decide +kernel
theorem dX12_hourPlace_20 : decode cX12_hourPlace 20 = .ok (.getfield 25, 3) := by decide +kernel
theorem dX12_hourPlace_23 : decode cX12_hourPlace 23 = .ok (.iload 5, 2) := by decide +kernel
theorem dX12_hourPlace_25 : decode cX12_hourPlace 25 = .ok (.iaload, 1) := by decide +kernel
theorem dX12_hourPlace_26 : decode cX12_hourPlace 26 = .ok (.aload_n 0, 1) := by decide +kernel
theorem dX12_hourPlace_27 : decode cX12_hourPlace 27 = .ok (.getfield 195, 3) := by decide +kernel
theorem dX12_hourPlace_30 : decode cX12_hourPlace 30 = .ok (.if_icmp .eq 73, 3) := by decide +kernel
theorem dX12_hourPlace_33 : decode cX12_hourPlace 33 = .ok (.aload_n 0, 1) := by decide +kernel
theorem dX12_hourPlace_34 : decode cX12_hourPlace 34 = .ok (.aload_n 0, 1) := by decide +kernel
theorem dX12_hourPlace_35 : decode cX12_hourPlace 35 = .ok (.getfield 9, 3) := by decide +kernel
theorem dX12_hourPlace_38 : decode cX12_hourPlace 38 = .ok (.iconst 5, 1) := by decide +kernel
theorem dX12_hourPlace_39 : decode cX12_hourPlace 39 = .ok (.iaload, 1) := by decide +kernel
theorem dX12_hourPlace_40 : decode cX12_hourPlace 40 = .ok (.iload_n 1, 1) := by decide +kernel
theorem dX12_hourPlace_41 : decode cX12_hourPlace 41 = .ok (.iload_n 2, 1) := by decide +kernel
theorem dX12_hourPlace_42 : decode cX12_hourPlace 42 = .ok (.iload_n 3, 1) := by decide +kernel
theorem dX12_hourPlace_43 : decode cX12_hourPlace 43 = .ok (.iload 4, 2) := by decide +kernel
theorem dX12_hourPlace_45 : decode cX12_hourPlace 45 = .ok (.invokevirtual 187, 3) := by decide +kernel
theorem dX12_hourPlace_48 : decode cX12_hourPlace 48 = .ok (.aload_n 0, 1) := by decide +kernel
theorem dX12_hourPlace_49 : decode cX12_hourPlace 49 = .ok (.getfield 25, 3) := by decide +kernel
theorem dX12_hourPlace_52 : decode cX12_hourPlace 52 = .ok (.iload 5, 2) := by decide +kernel
theorem dX12_hourPlace_54 : decode cX12_hourPlace 54 = .ok (.aload_n 0, 1) := by decide +kernel
theorem dX12_hourPlace_55 : decode cX12_hourPlace 55 = .ok (.getfield 195, 3) := by decide +kernel
theorem dX12_hourPlace_58 : decode cX12_hourPlace 58 = .ok (.iastore, 1) := by decide +kernel
theorem dX12_hourPlace_59 : decode cX12_hourPlace 59 = .ok (.aload_n 0, 1) := by decide +kernel
theorem dX12_hourPlace_60 : decode cX12_hourPlace 60 = .ok (.getfield 28, 3) := by decide +kernel
theorem dX12_hourPlace_63 : decode cX12_hourPlace 63 = .ok (.iload 5, 2) := by decide +kernel
theorem dX12_hourPlace_65 : decode cX12_hourPlace 65 = .ok (.aload_n 0, 1) := by decide +kernel
theorem dX12_hourPlace_66 : decode cX12_hourPlace 66 = .ok (.getfield 167, 3) := by decide +kernel
theorem dX12_hourPlace_69 : decode cX12_hourPlace 69 = .ok (.iastore, 1) := by decide +kernel
theorem dX12_hourPlace_70 : decode cX12_hourPlace 70 = .ok (.aload_n 0, 1) := by decide +kernel
theorem dX12_hourPlace_71 : decode cX12_hourPlace 71 = .ok (.getfield 31, 3) := by decide +kernel
theorem dX12_hourPlace_74 : decode cX12_hourPlace 74 = .ok (.iload 5, 2) := by decide +kernel
theorem dX12_hourPlace_76 : decode cX12_hourPlace 76 = .ok (.aload_n 0, 1) := by decide +kernel
theorem dX12_hourPlace_77 : decode cX12_hourPlace 77 = .ok (.getfield 174, 3) := by decide +kernel
theorem dX12_hourPlace_80 : decode cX12_hourPlace 80 = .ok (.iastore, 1) := by decide +kernel
theorem dX12_hourPlace_81 : decode cX12_hourPlace 81 = .ok (.aload_n 0, 1) := by decide +kernel
theorem dX12_hourPlace_82 : decode cX12_hourPlace 82 = .ok (.getfield 34, 3) := by decide +kernel
theorem dX12_hourPlace_85 : decode cX12_hourPlace 85 = .ok (.iload 5, 2) := by decide +kernel
theorem dX12_hourPlace_87 : decode cX12_hourPlace 87 = .ok (.aload_n 0, 1) := by decide +kernel
theorem dX12_hourPlace_88 : decode cX12_hourPlace 88 = .ok (.getfield 177, 3) := by decide +kernel
theorem dX12_hourPlace_91 : decode cX12_hourPlace 91 = .ok (.iastore, 1) := by decide +kernel
theorem dX12_hourPlace_92 : decode cX12_hourPlace 92 = .ok (.aload_n 0, 1) := by decide +kernel
theorem dX12_hourPlace_93 : decode cX12_hourPlace 93 = .ok (.getfield 37, 3) := by decide +kernel
theorem dX12_hourPlace_96 : decode cX12_hourPlace 96 = .ok (.iload 5, 2) := by decide +kernel
theorem dX12_hourPlace_98 : decode cX12_hourPlace 98 = .ok (.aload_n 0, 1) := by decide +kernel
theorem dX12_hourPlace_99 : decode cX12_hourPlace 99 = .ok (.getfield 164, 3) := by decide +kernel
theorem dX12_hourPlace_102 : decode cX12_hourPlace 102 = .ok (.bastore, 1) := by decide +kernel
theorem dX12_hourPlace_103 : decode cX12_hourPlace 103 = .ok (.iload 5, 2) := by decide +kernel
theorem dX12_hourPlace_105 : decode cX12_hourPlace 105 = .ok (.ireturn, 1) := by decide +kernel
theorem dX12_bestFrom_0 : decode cX12_bestFrom 0 = .ok (.iload_n 1, 1) := by decide +kernel
theorem dX12_bestFrom_1 : decode cX12_bestFrom 1 = .ok (.ifCond .ne 5, 3) := by decide +kernel
theorem dX12_bestFrom_4 : decode cX12_bestFrom 4 = .ok (.lconst 0, 1) := by decide +kernel
theorem dX12_bestFrom_5 : decode cX12_bestFrom 5 = .ok (.lreturn, 1) := by decide +kernel
theorem dX12_bestFrom_6 : decode cX12_bestFrom 6 = .ok (.bipush 6, 2) := by decide +kernel
theorem dX12_bestFrom_8 : decode cX12_bestFrom 8 = .ok (.iload_n 1, 1) := by decide +kernel
theorem dX12_bestFrom_9 : decode cX12_bestFrom 9 = .ok (.iconst 1, 1) := by decide +kernel
theorem dX12_bestFrom_10 : decode cX12_bestFrom 10 = .ok (.isub, 1) := by decide +kernel
theorem dX12_bestFrom_11 : decode cX12_bestFrom 11 = .ok (.imul, 1) := by decide +kernel
theorem dX12_bestFrom_12 : decode cX12_bestFrom 12 = .ok (.iload_n 2, 1) := by decide +kernel
theorem dX12_bestFrom_13 : decode cX12_bestFrom 13 = .ok (.iadd, 1) := by decide +kernel
theorem dX12_bestFrom_14 : decode cX12_bestFrom 14 = .ok (.bipush 10, 2) := by decide +kernel
theorem dX12_bestFrom_16 : decode cX12_bestFrom 16 = .ok (.imul, 1) := by decide +kernel
theorem dX12_bestFrom_17 : decode cX12_bestFrom 17 = .ok (.iload_n 3, 1) := by decide +kernel
theorem dX12_bestFrom_18 : decode cX12_bestFrom 18 = .ok (.iadd, 1) := by decide +kernel
theorem dX12_bestFrom_19 : decode cX12_bestFrom 19 = .ok (.bipush 10, 2) := by decide +kernel
theorem dX12_bestFrom_21 : decode cX12_bestFrom 21 = .ok (.imul, 1) := by decide +kernel
theorem dX12_bestFrom_22 : decode cX12_bestFrom 22 = .ok (.iload 4, 2) := by decide +kernel
theorem dX12_bestFrom_24 : decode cX12_bestFrom 24 = .ok (.iadd, 1) := by decide +kernel
theorem dX12_bestFrom_25 : decode cX12_bestFrom 25 = .ok (.istore 5, 2) := by decide +kernel
theorem dX12_bestFrom_27 : decode cX12_bestFrom 27 = .ok (.aload_n 0, 1) := by decide +kernel
theorem dX12_bestFrom_28 : decode cX12_bestFrom 28 = .ok (.getfield 40, 3) := by decide +kernel
theorem dX12_bestFrom_31 : decode cX12_bestFrom 31 = .ok (.iload 5, 2) := by decide +kernel
theorem dX12_bestFrom_33 : decode cX12_bestFrom 33 = .ok (.iaload, 1) := by decide +kernel
theorem dX12_bestFrom_34 : decode cX12_bestFrom 34 = .ok (.aload_n 0, 1) := by decide +kernel
theorem dX12_bestFrom_35 : decode cX12_bestFrom 35 = .ok (.getfield 195, 3) := by decide +kernel
theorem dX12_bestFrom_38 : decode cX12_bestFrom 38 = .ok (.if_icmp .eq 72, 3) := by decide +kernel
theorem dX12_bestFrom_41 : decode cX12_bestFrom 41 = .ok (.lconst 0, 1) := by decide +kernel
theorem dX12_bestFrom_42 : decode cX12_bestFrom 42 = .ok (.lstore 6, 2) := by decide +kernel
theorem dX12_bestFrom_44 : decode cX12_bestFrom 44 = .ok (.iconst 0, 1) := by decide +kernel
theorem dX12_bestFrom_45 : decode cX12_bestFrom 45 = .ok (.istore 8, 2) := by decide +kernel
theorem dX12_bestFrom_47 : decode cX12_bestFrom 47 = .ok (.iload 8, 2) := by decide +kernel
theorem dX12_bestFrom_49 : decode cX12_bestFrom 49 = .ok (.bipush 8, 2) := by decide +kernel
theorem dX12_bestFrom_51 : decode cX12_bestFrom 51 = .ok (.if_icmp .ge 39, 3) := by decide +kernel
theorem dX12_bestFrom_54 : decode cX12_bestFrom 54 = .ok (.aload_n 0, 1) := by decide +kernel
theorem dX12_bestFrom_55 : decode cX12_bestFrom 55 = .ok (.iload_n 1, 1) := by decide +kernel
theorem dX12_bestFrom_56 : decode cX12_bestFrom 56 = .ok (.iload_n 2, 1) := by decide +kernel
theorem dX12_bestFrom_57 : decode cX12_bestFrom 57 = .ok (.iload 8, 2) := by decide +kernel
theorem dX12_bestFrom_59 : decode cX12_bestFrom 59 = .ok (.iload_n 3, 1) := by decide +kernel
theorem dX12_bestFrom_60 : decode cX12_bestFrom 60 = .ok (.iload 4, 2) := by decide +kernel
theorem dX12_bestFrom_62 : decode cX12_bestFrom 62 = .ok (.invokevirtual 201, 3) := by decide +kernel
theorem dX12_bestFrom_65 : decode cX12_bestFrom 65 = .ok (.lstore 9, 2) := by decide +kernel
theorem dX12_bestFrom_67 : decode cX12_bestFrom 67 = .ok (.lload 9, 2) := by decide +kernel
theorem dX12_bestFrom_69 : decode cX12_bestFrom 69 = .ok (.lload 6, 2) := by decide +kernel
theorem dX12_bestFrom_71 : decode cX12_bestFrom 71 = .ok (.lcmp, 1) := by decide +kernel
theorem dX12_bestFrom_72 : decode cX12_bestFrom 72 = .ok (.ifCond .le 8, 3) := by decide +kernel
theorem dX12_bestFrom_75 : decode cX12_bestFrom 75 = .ok (.lload 9, 2) := by decide +kernel
theorem dX12_bestFrom_77 : decode cX12_bestFrom 77 = .ok (.goto 5, 3) := by decide +kernel
theorem dX12_bestFrom_80 : decode cX12_bestFrom 80 = .ok (.lload 6, 2) := by decide +kernel
theorem dX12_bestFrom_82 : decode cX12_bestFrom 82 = .ok (.lstore 6, 2) := by decide +kernel
theorem dX12_bestFrom_84 : decode cX12_bestFrom 84 = .ok (.iinc 8 1, 3) := by decide +kernel
theorem dX12_bestFrom_87 : decode cX12_bestFrom 87 = .ok (.goto (-40), 3) := by decide +kernel
theorem dX12_bestFrom_90 : decode cX12_bestFrom 90 = .ok (.aload_n 0, 1) := by decide +kernel
theorem dX12_bestFrom_91 : decode cX12_bestFrom 91 = .ok (.getfield 40, 3) := by decide +kernel
theorem dX12_bestFrom_94 : decode cX12_bestFrom 94 = .ok (.iload 5, 2) := by decide +kernel
theorem dX12_bestFrom_96 : decode cX12_bestFrom 96 = .ok (.aload_n 0, 1) := by decide +kernel
theorem dX12_bestFrom_97 : decode cX12_bestFrom 97 = .ok (.getfield 195, 3) := by decide +kernel
theorem dX12_bestFrom_100 : decode cX12_bestFrom 100 = .ok (.iastore, 1) := by decide +kernel
theorem dX12_bestFrom_101 : decode cX12_bestFrom 101 = .ok (.aload_n 0, 1) := by decide +kernel
theorem dX12_bestFrom_102 : decode cX12_bestFrom 102 = .ok (.getfield 46, 3) := by decide +kernel
theorem dX12_bestFrom_105 : decode cX12_bestFrom 105 = .ok (.iload 5, 2) := by decide +kernel
