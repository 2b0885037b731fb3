theorem dX0_init_0 : decode cX0_init 0 = .ok (.aload_n 0, 1) := by decide +kernel
theorem dX0_init_1 : decode cX0_init 1 = .ok (.invokespecial 1, 3) := by decide +kernel
theorem dX0_init_4 : decode cX0_init 4 = .ok (.aload_n 0, 1) := by decide +kernel
theorem dX0_init_5 : decode cX0_init 5 = .ok (.bipush 20, 2) := by decide +kernel
theorem dX0_init_7 : decode cX0_init 7 = .ok (.newarray .int, 2) := by decide +kernel
theorem dX0_init_9 : decode cX0_init 9 = .ok (.putfield 9, 3) := by decide +kernel
theorem dX0_init_12 : decode cX0_init 12 = .ok (.return_, 1) := by decide +kernel
theorem dX0_clear_0 : decode cX0_clear 0 = .ok (.aload_n 0, 1) := by decide +kernel
theorem dX0_clear_1 : decode cX0_clear 1 = .ok (.iconst 0, 1) := by decide +kernel
theorem dX0_clear_2 : decode cX0_clear 2 = .ok (.putfield 13, 3) := by decide +kernel
theorem dX0_clear_5 : decode cX0_clear 5 = .ok (.return_, 1) := by decide +kernel
theorem dX0_kept_0 : decode cX0_kept 0 = .ok (.aload_n 0, 1) := by decide +kernel
theorem dX0_kept_1 : decode cX0_kept 1 = .ok (.getfield 13, 3) := by decide +kernel
theorem dX0_kept_4 : decode cX0_kept 4 = .ok (.bipush 20, 2) := by decide +kernel
theorem dX0_kept_6 : decode cX0_kept 6 = .ok (.invokestatic 17, 3) := by decide +kernel
theorem dX0_kept_9 : decode cX0_kept 9 = .ok (.ireturn, 1) := by decide +kernel
theorem dX0_begin_0 : decode cX0_begin 0 = .ok (.aload_n 0, 1) := by decide +kernel
theorem dX0_begin_1 : decode cX0_begin 1 = .ok (.iload_n 2, 1) := by decide +kernel
theorem dX0_begin_2 : decode cX0_begin 2 = .ok (.putfield 23, 3) := by decide +kernel
theorem dX0_begin_5 : decode cX0_begin 5 = .ok (.aload_n 0, 1) := by decide +kernel
theorem dX0_begin_6 : decode cX0_begin 6 = .ok (.aload_n 1, 1) := by decide +kernel
theorem dX0_begin_7 : decode cX0_begin 7 = .ok (.getfield 26, 3) := by decide +kernel
theorem dX0_begin_10 : decode cX0_begin 10 = .ok (.iload_n 2, 1) := by decide +kernel
theorem dX0_begin_11 : decode cX0_begin 11 = .ok (.iaload, 1) := by decide +kernel
theorem dX0_begin_12 : decode cX0_begin 12 = .ok (.putfield 31, 3) := by decide +kernel
theorem dX0_begin_15 : decode cX0_begin 15 = .ok (.aload_n 0, 1) := by decide +kernel
theorem dX0_begin_16 : decode cX0_begin 16 = .ok (.aload_n 1, 1) := by decide +kernel
theorem dX0_begin_17 : decode cX0_begin 17 = .ok (.getfield 34, 3) := by decide +kernel
theorem dX0_begin_20 : decode cX0_begin 20 = .ok (.iload_n 2, 1) := by decide +kernel
theorem dX0_begin_21 : decode cX0_begin 21 = .ok (.iaload, 1) := by decide +kernel
theorem dX0_begin_22 : decode cX0_begin 22 = .ok (.putfield 37, 3) := by decide +kernel
theorem dX0_begin_25 : decode cX0_begin 25 = .ok (.aload_n 0, 1) := by decide +kernel
theorem dX0_begin_26 : decode cX0_begin 26 = .ok (.iload_n 3, 1) := by decide +kernel
theorem dX0_begin_27 : decode cX0_begin 27 = .ok (.aload_n 0, 1) := by decide +kernel
theorem dX0_begin_28 : decode cX0_begin 28 = .ok (.getfield 31, 3) := by decide +kernel
theorem dX0_begin_31 : decode cX0_begin 31 = .ok (.iload 4, 2) := by decide +kernel
theorem dX0_begin_33 : decode cX0_begin 33 = .ok (.iconst 0, 1) := by decide +kernel
theorem dX0_begin_34 : decode cX0_begin 34 = .ok (.invokevirtual 40, 3) := by decide +kernel
theorem dX0_begin_37 : decode cX0_begin 37 = .ok (.ireturn, 1) := by decide +kernel
theorem dX0_perform_0 : decode cX0_perform 0 = .ok (.iload_n 2, 1) := by decide +kernel
theorem dX0_perform_1 : decode cX0_perform 1 = .ok (.istore 5, 2) := by decide +kernel
theorem dX0_perform_3 : decode cX0_perform 3 = .ok (.iconst 0, 1) := by decide +kernel
theorem dX0_perform_4 : decode cX0_perform 4 = .ok (.istore 6, 2) := by decide +kernel
theorem dX0_perform_6 : decode cX0_perform 6 = .ok (.iload 6, 2) := by decide +kernel
theorem dX0_perform_8 : decode cX0_perform 8 = .ok (.bipush 7, 2) := by decide +kernel
theorem dX0_perform_10 : decode cX0_perform 10 = .ok (.if_icmp .ge 25, 3) := by decide +kernel
theorem dX0_perform_13 : decode cX0_perform 13 = .ok (.iload 5, 2) := by decide +kernel
theorem dX0_perform_15 : decode cX0_perform 15 = .ok (.iload_n 1, 1) := by decide +kernel
theorem dX0_perform_16 : decode cX0_perform 16 = .ok (.invokestatic 44, 3) := by decide +kernel
theorem dX0_perform_19 : decode cX0_perform 19 = .ok (.ifCond .ne 16, 3) := by decide +kernel
theorem dX0_perform_22 : decode cX0_perform 22 = .ok (.iload 5, 2) := by decide +kernel
theorem dX0_perform_24 : decode cX0_perform 24 = .ok (.invokestatic 47, 3) := by decide +kernel
theorem dX0_perform_27 : decode cX0_perform 27 = .ok (.istore 5, 2) := by decide +kernel
theorem dX0_perform_29 : decode cX0_perform 29 = .ok (.iinc 6 1, 3) := by decide +kernel
theorem dX0_perform_32 : decode cX0_perform 32 = .ok (.goto (-26), 3) := by decide +kernel
theorem dX0_perform_35 : decode cX0_perform 35 = .ok (.iload 5, 2) := by decide +kernel
theorem dX0_perform_37 : decode cX0_perform 37 = .ok (.iload_n 1, 1) := by decide +kernel
theorem dX0_perform_38 : decode cX0_perform 38 = .ok (.invokestatic 44, 3) := by decide +kernel
theorem dX0_perform_41 : decode cX0_perform 41 = .ok (.ifCond .eq 10, 3) := by decide +kernel
theorem dX0_perform_44 : decode cX0_perform 44 = .ok (.iload 4, 2) := by decide +kernel
theorem dX0_perform_46 : decode cX0_perform 46 = .ok (.bipush 40, 2) := by decide +kernel
theorem dX0_perform_48 : decode cX0_perform 48 = .ok (.if_icmp .le 5, 3) := by decide +kernel
theorem dX0_perform_51 : decode cX0_perform 51 = .ok (.iconst 0, 1) := by decide +kernel
theorem dX0_perform_52 : decode cX0_perform 52 = .ok (.ireturn, 1) := by decide +kernel
theorem dX0_perform_53 : decode cX0_perform 53 = .ok (.aload_n 0, 1) := by decide +kernel
theorem dX0_perform_54 : decode cX0_perform 54 = .ok (.iload 5, 2) := by decide +kernel
theorem dX0_perform_56 : decode cX0_perform 56 = .ok (.iload_n 1, 1) := by decide +kernel
theorem dX0_perform_57 : decode cX0_perform 57 = .ok (.invokestatic 44, 3) := by decide +kernel
theorem dX0_perform_60 : decode cX0_perform 60 = .ok (.iload 5, 2) := by decide +kernel
theorem dX0_perform_62 : decode cX0_perform 62 = .ok (.invokestatic 47, 3) := by decide +kernel
theorem dX0_perform_65 : decode cX0_perform 65 = .ok (.iload_n 3, 1) := by decide +kernel
theorem dX0_perform_66 : decode cX0_perform 66 = .ok (.iload 4, 2) := by decide +kernel
theorem dX0_perform_68 : decode cX0_perform 68 = .ok (.iconst 1, 1) := by decide +kernel
theorem dX0_perform_69 : decode cX0_perform 69 = .ok (.iadd, 1) := by decide +kernel
theorem dX0_perform_70 : decode cX0_perform 70 = .ok (.invokevirtual 51, 3) := by decide +kernel
theorem dX0_perform_73 : decode cX0_perform 73 = .ok (.ireturn, 1) := by decide +kernel
theorem dX0_bodyOf_0 : decode cX0_bodyOf 0 = .ok (.iload_n 0, 1) := by decide +kernel
theorem dX0_bodyOf_1 : decode cX0_bodyOf 1 = .ok (.iconst 3, 1) := by decide +kernel
theorem dX0_bodyOf_2 : decode cX0_bodyOf 2 = .ok (.imul, 1) := by decide +kernel
theorem dX0_bodyOf_3 : decode cX0_bodyOf 3 = .ok (.iload_n 1, 1) := by decide +kernel
theorem dX0_bodyOf_4 : decode cX0_bodyOf 4 = .ok (.iadd, 1) := by decide +kernel
theorem dX0_bodyOf_5 : decode cX0_bodyOf 5 = .ok (.istore_n 2, 1) := by decide +kernel
theorem dX0_bodyOf_6 : decode cX0_bodyOf 6 = .ok (.iload_n 2, 1) := by decide +kernel
theorem dX0_bodyOf_7 : decode cX0_bodyOf 7 = .ok (.ifCond .lt 19, 3) := by decide +kernel
theorem dX0_bodyOf_10 : decode cX0_bodyOf 10 = .ok (.iload_n 2, 1) := by decide +kernel
theorem dX0_bodyOf_11 : decode cX0_bodyOf 11 = .ok (.getstatic 54, 3) := by decide +kernel
theorem dX0_bodyOf_14 : decode cX0_bodyOf 14 = .ok (.arraylength, 1) := by decide +kernel
theorem dX0_bodyOf_15 : decode cX0_bodyOf 15 = .ok (.if_icmp .ge 11, 3) := by decide +kernel
theorem dX0_bodyOf_18 : decode cX0_bodyOf 18 = .ok (.getstatic 54, 3) := by decide +kernel
theorem dX0_bodyOf_21 : decode cX0_bodyOf 21 = .ok (.iload_n 2, 1) := by decide +kernel
theorem dX0_bodyOf_22 : decode cX0_bodyOf 22 = .ok (.iaload, 1) := by decide +kernel
theorem dX0_bodyOf_23 : decode cX0_bodyOf 23 = .ok (.goto 4, 3) := by decide +kernel
theorem dX0_bodyOf_26 : decode cX0_bodyOf 26 = .ok (.iconst 0, 1) := by decide +kernel
theorem dX0_bodyOf_27 : decode cX0_bodyOf 27 = .ok (.ireturn, 1) := by decide +kernel
theorem dX0_doBody_0 : decode cX0_doBody 0 = .ok (.aload_n 0, 1) := by decide +kernel
theorem dX0_doBody_1 : decode cX0_doBody 1 = .ok (.getfield 13, 3) := by decide +kernel
theorem dX0_doBody_4 : decode cX0_doBody 4 = .ok (.bipush 20, 2) := by decide +kernel
theorem dX0_doBody_6 : decode cX0_doBody 6 = .ok (.if_icmp .ge 13, 3) := by decide +kernel
theorem dX0_doBody_9 : decode cX0_doBody 9 = .ok (.aload_n 0, 1) := by decide +kernel
theorem dX0_doBody_10 : decode cX0_doBody 10 = .ok (.getfield 9, 3) := by decide +kernel
theorem dX0_doBody_13 : decode cX0_doBody 13 = .ok (.aload_n 0, 1) := by decide +kernel
theorem dX0_doBody_14 : decode cX0_doBody 14 = .ok (.getfield 13, 3) := by decide +kernel
theorem dX0_doBody_17 : decode cX0_doBody 17 = .ok (.iload_n 1, 1) := by decide +kernel
theorem dX0_doBody_18 : decode cX0_doBody 18 = .ok (.iastore, 1) := by decide +kernel
theorem dX0_doBody_19 : decode cX0_doBody 19 = .ok (.aload_n 0, 1) := by decide +kernel
theorem dX0_doBody_20 : decode cX0_doBody 20 = .ok (.dup, 1) := by decide +kernel
theorem dX0_doBody_21 : decode cX0_doBody 21 = .ok (.getfield 13, 3) := by decide +kernel
theorem dX0_doBody_24 : decode cX0_doBody 24 = .ok (.iconst 1, 1) := by decide +kernel
theorem dX0_doBody_25 : decode cX0_doBody 25 = .ok (.iadd, 1) := by decide +kernel
theorem dX0_doBody_26 : decode cX0_doBody 26 = .ok (.putfield 13, 3) := by decide +kernel
theorem dX0_doBody_29 : decode cX0_doBody 29 = .ok (.iload_n 1, 1) := by decide +kernel
theorem dX0_doBody_30 : decode cX0_doBody 30 = .ok (.lookupswitch 190 #[(1, 74), (2, 81), (3, 99), (11, 114), (21, 126), (31, 139), (41, 150), (51, 175)], 74) := by decide +kernel
theorem dX0_doBody_104 : decode cX0_doBody 104 = .ok (.iload_n 3, 1) := by decide +kernel
theorem dX0_doBody_105 : decode cX0_doBody 105 = .ok (.aload_n 0, 1) := by decide +kernel
theorem dX0_doBody_106 : decode cX0_doBody 106 = .ok (.getfield 23, 3) := by decide +kernel
theorem dX0_doBody_109 : decode cX0_doBody 109 = .ok (.iadd, 1) := by decide +kernel
theorem dX0_doBody_110 : decode cX0_doBody 110 = .ok (.ireturn, 1) := by decide +kernel
theorem dX0_doBody_111 : decode cX0_doBody 111 = .ok (.aload_n 0, 1) := by decide +kernel
theorem dX0_doBody_112 : decode cX0_doBody 112 = .ok (.iconst 0, 1) := by decide +kernel
theorem dX0_doBody_113 : decode cX0_doBody 113 = .ok (.aload_n 0, 1) := by decide +kernel
theorem dX0_doBody_114 : decode cX0_doBody 114 = .ok (.getfield 31, 3) := by decide +kernel
theorem dX0_doBody_117 : decode cX0_doBody 117 = .ok (.iload_n 3, 1) := by decide +kernel
theorem dX0_doBody_118 : decode cX0_doBody 118 = .ok (.iload 4, 2) := by decide +kernel
theorem dX0_doBody_120 : decode cX0_doBody 120 = .ok (.invokevirtual 40, 3) := by decide +kernel
theorem dX0_doBody_123 : decode cX0_doBody 123 = .ok (.aload_n 0, 1) := by decide +kernel
theorem dX0_doBody_124 : decode cX0_doBody 124 = .ok (.getfield 37, 3) := by decide +kernel
theorem dX0_doBody_127 : decode cX0_doBody 127 = .ok (.isub, 1) := by decide +kernel
theorem dX0_doBody_128 : decode cX0_doBody 128 = .ok (.ireturn, 1) := by decide +kernel
theorem dX0_doBody_129 : decode cX0_doBody 129 = .ok (.aload_n 0, 1) := by decide +kernel
theorem dX0_doBody_130 : decode cX0_doBody 130 = .ok (.iconst 1, 1) := by decide +kernel
theorem dX0_doBody_131 : decode cX0_doBody 131 = .ok (.aload_n 0, 1) := by decide +kernel
theorem dX0_doBody_132 : decode cX0_doBody 132 = .ok (.getfield 31, 3) := by decide +kernel
theorem dX0_doBody_135 : decode cX0_doBody 135 = .ok (.iload_n 3, 1) := by decide +kernel
theorem dX0_doBody_136 : decode cX0_doBody 136 = .ok (.iload 4, 2) := by decide +kernel
theorem dX0_doBody_138 : decode cX0_doBody 138 = .ok (.invokevirtual 40, 3) := by decide +kernel
theorem dX0_doBody_141 : decode cX0_doBody 141 = .ok (.iconst 2, 1) := by decide +kernel
theorem dX0_doBody_142 : decode cX0_doBody 142 = .ok (.imul, 1) := by decide +kernel
theorem dX0_doBody_143 : decode cX0_doBody 143 = .ok (.ireturn, 1) := by decide +kernel
theorem dX0_doBody_144 : decode cX0_doBody 144 = .ok (.aload_n 0, 1) := by decide +kernel
theorem dX0_doBody_145 : decode cX0_doBody 145 = .ok (.iconst 0, 1) := by decide +kernel
theorem dX0_doBody_146 : decode cX0_doBody 146 = .ok (.iload_n 2, 1) := by decide +kernel
theorem dX0_doBody_147 : decode cX0_doBody 147 = .ok (.iload_n 3, 1) := by decide +kernel
theorem dX0_doBody_148 : decode cX0_doBody 148 = .ok (.iconst 3, 1) := by decide +kernel
theorem dX0_doBody_149 : decode cX0_doBody 149 = .ok (.imul, 1) := by decide +kernel
theorem dX0_doBody_150 : decode cX0_doBody 150 = .ok (.iload 4, 2) := by decide +kernel
theorem dX0_doBody_152 : decode cX0_doBody 152 = .ok (.invokevirtual 40, 3) := by decide +kernel
theorem dX0_doBody_155 : decode cX0_doBody 155 = .ok (.ireturn, 1) := by decide +kernel
theorem dX0_doBody_156 : decode cX0_doBody 156 = .ok (.aload_n 0, 1) := by decide +kernel
theorem dX0_doBody_157 : decode cX0_doBody 157 = .ok (.iconst 2, 1) := by decide +kernel
theorem dX0_doBody_158 : decode cX0_doBody 158 = .ok (.iload_n 2, 1) := by decide +kernel
theorem dX0_doBody_159 : decode cX0_doBody 159 = .ok (.iload_n 3, 1) := by decide +kernel
theorem dX0_doBody_160 : decode cX0_doBody 160 = .ok (.iload 4, 2) := by decide +kernel
theorem dX0_doBody_162 : decode cX0_doBody 162 = .ok (.invokevirtual 40, 3) := by decide +kernel
theorem dX0_doBody_165 : decode cX0_doBody 165 = .ok (.bipush 7, 2) := by decide +kernel
theorem dX0_doBody_167 : decode cX0_doBody 167 = .ok (.ixor, 1) := by decide +kernel
theorem dX0_doBody_168 : decode cX0_doBody 168 = .ok (.ireturn, 1) := by decide +kernel
theorem dX0_doBody_169 : decode cX0_doBody 169 = .ok (.aload_n 0, 1) := by decide +kernel
theorem dX0_doBody_170 : decode cX0_doBody 170 = .ok (.iconst 1, 1) := by decide +kernel
theorem dX0_doBody_171 : decode cX0_doBody 171 = .ok (.iload_n 2, 1) := by decide +kernel
theorem dX0_doBody_172 : decode cX0_doBody 172 = .ok (.iload_n 3, 1) := by decide +kernel
theorem dX0_doBody_173 : decode cX0_doBody 173 = .ok (.iload 4, 2) := by decide +kernel
theorem dX0_doBody_175 : decode cX0_doBody 175 = .ok (.invokevirtual 40, 3) := by decide +kernel
theorem dX0_doBody_178 : decode cX0_doBody 178 = .ok (.ineg, 1) := by decide +kernel
theorem dX0_doBody_179 : decode cX0_doBody 179 = .ok (.ireturn, 1) := by decide +kernel
theorem dX0_doBody_180 : decode cX0_doBody 180 = .ok (.aload_n 0, 1) := by decide +kernel
theorem dX0_doBody_181 : decode cX0_doBody 181 = .ok (.iconst 2, 1) := by decide +kernel
theorem dX0_doBody_182 : decode cX0_doBody 182 = .ok (.iload_n 2, 1) := by decide +kernel
theorem dX0_doBody_183 : decode cX0_doBody 183 = .ok (.iload_n 3, 1) := by decide +kernel
theorem dX0_doBody_184 : decode cX0_doBody 184 = .ok (.iconst 1, 1) := by decide +kernel
theorem dX0_doBody_185 : decode cX0_doBody 185 = .ok (.isub, 1) := by decide +kernel
theorem dX0_doBody_186 : decode cX0_doBody 186 = .ok (.iload 4, 2) := by decide +kernel
theorem dX0_doBody_188 : decode cX0_doBody 188 = .ok (.invokevirtual 40, 3) := by decide +kernel
theorem dX0_doBody_191 : decode cX0_doBody 191 = .ok (.aload_n 0, 1) := by decide +kernel
theorem dX0_doBody_192 : decode cX0_doBody 192 = .ok (.iconst 0, 1) := by decide +kernel
theorem dX0_doBody_193 : decode cX0_doBody 193 = .ok (.aload_n 0, 1) := by decide +kernel
theorem dX0_doBody_194 : decode cX0_doBody 194 = .ok (.getfield 31, 3) := by decide +kernel
theorem dX0_doBody_197 : decode cX0_doBody 197 = .ok (.iconst 2, 1) := by decide +kernel
theorem dX0_doBody_198 : decode cX0_doBody 198 = .ok (.iload 4, 2) := by decide +kernel
theorem dX0_doBody_200 : decode cX0_doBody 200 = .ok (.invokevirtual 40, 3) := by decide +kernel
theorem dX0_doBody_203 : decode cX0_doBody 203 = .ok (.iadd, 1) := by decide +kernel
theorem dX0_doBody_204 : decode cX0_doBody 204 = .ok (.ireturn, 1) := by decide +kernel
theorem dX0_doBody_205 : decode cX0_doBody 205 = .ok (.aload_n 0, 1) := by decide +kernel
theorem dX0_doBody_206 : decode cX0_doBody 206 = .ok (.iconst 0, 1) := by decide +kernel
theorem dX0_doBody_207 : decode cX0_doBody 207 = .ok (.iload_n 2, 1) := by decide +kernel
theorem dX0_doBody_208 : decode cX0_doBody 208 = .ok (.iload_n 3, 1) := by decide +kernel
theorem dX0_doBody_209 : decode cX0_doBody 209 = .ok (.iload 4, 2) := by decide +kernel
theorem dX0_doBody_211 : decode cX0_doBody 211 = .ok (.invokevirtual 40, 3) := by decide +kernel
theorem dX0_doBody_214 : decode cX0_doBody 214 = .ok (.aload_n 0, 1) := by decide +kernel
theorem dX0_doBody_215 : decode cX0_doBody 215 = .ok (.getfield 23, 3) := by decide +kernel
theorem dX0_doBody_218 : decode cX0_doBody 218 = .ok (.ixor, 1) := by decide +kernel
theorem dX0_doBody_219 : decode cX0_doBody 219 = .ok (.ireturn, 1) := by decide +kernel
theorem dX0_doBody_220 : decode cX0_doBody 220 = .ok (.aload_n 0, 1) := by decide +kernel
theorem dX0_doBody_221 : decode cX0_doBody 221 = .ok (.iconst 1, 1) := by decide +kernel
theorem dX0_doBody_222 : decode cX0_doBody 222 = .ok (.iload_n 2, 1) := by decide +kernel
theorem dX0_doBody_223 : decode cX0_doBody 223 = .ok (.iload_n 3, 1) := by decide +kernel
theorem dX0_doBody_224 : decode cX0_doBody 224 = .ok (.iload 4, 2) := by decide +kernel
theorem dX0_doBody_226 : decode cX0_doBody 226 = .ok (.invokevirtual 40, 3) := by decide +kernel
theorem dX0_doBody_229 : decode cX0_doBody 229 = .ok (.aload_n 0, 1) := by decide +kernel
theorem dX0_doBody_230 : decode cX0_doBody 230 = .ok (.getfield 37, 3) := by decide +kernel
theorem dX0_doBody_233 : decode cX0_doBody 233 = .ok (.iadd, 1) := by decide +kernel
theorem dX0_doBody_234 : decode cX0_doBody 234 = .ok (.ireturn, 1) := by decide +kernel
theorem dX1_init_0 : decode cX1_init 0 = .ok (.aload_n 0, 1) := by decide +kernel
theorem dX1_init_1 : decode cX1_init 1 = .ok (.invokespecial 3, 3) := by decide +kernel
theorem dX1_init_4 : decode cX1_init 4 = .ok (.aload_n 0, 1) := by decide +kernel
theorem dX1_init_5 : decode cX1_init 5 = .ok (.bipush 10, 2) := by decide +kernel
theorem dX1_init_7 : decode cX1_init 7 = .ok (.newarray .int, 2) := by decide +kernel
theorem dX1_init_9 : decode cX1_init 9 = .ok (.putfield 11, 3) := by decide +kernel
theorem dX1_init_12 : decode cX1_init 12 = .ok (.aload_n 0, 1) := by decide +kernel
theorem dX1_init_13 : decode cX1_init 13 = .ok (.bipush 10, 2) := by decide +kernel
theorem dX1_init_15 : decode cX1_init 15 = .ok (.newarray .int, 2) := by decide +kernel
theorem dX1_init_17 : decode cX1_init 17 = .ok (.putfield 15, 3) := by decide +kernel
theorem dX1_init_20 : decode cX1_init 20 = .ok (.return_, 1) := by decide +kernel
theorem dX1_append_0 : decode cX1_append 0 = .ok (.aload_n 0, 1) := by decide +kernel
theorem dX1_append_1 : decode cX1_append 1 = .ok (.getfield 18, 3) := by decide +kernel
theorem dX1_append_4 : decode cX1_append 4 = .ok (.bipush 10, 2) := by decide +kernel
theorem dX1_append_6 : decode cX1_append 6 = .ok (.if_icmp .lt 6, 3) := by decide +kernel
theorem dX1_append_9 : decode cX1_append 9 = .ok (.bipush (-4), 2) := by decide +kernel
theorem dX1_append_11 : decode cX1_append 11 = .ok (.ireturn, 1) := by decide +kernel
theorem dX1_append_12 : decode cX1_append 12 = .ok (.aload_n 0, 1) := by decide +kernel
theorem dX1_append_13 : decode cX1_append 13 = .ok (.getfield 11, 3) := by decide +kernel
theorem dX1_append_16 : decode cX1_append 16 = .ok (.aload_n 0, 1) := by decide +kernel
theorem dX1_append_17 : decode cX1_append 17 = .ok (.getfield 18, 3) := by decide +kernel
theorem dX1_append_20 : decode cX1_append 20 = .ok (.iload_n 1, 1) := by decide +kernel
theorem dX1_append_21 : decode cX1_append 21 = .ok (.iastore, 1) := by decide +kernel
theorem dX1_append_22 : decode cX1_append 22 = .ok (.aload_n 0, 1) := by decide +kernel
theorem dX1_append_23 : decode cX1_append 23 = .ok (.getfield 15, 3) := by decide +kernel
theorem dX1_append_26 : decode cX1_append 26 = .ok (.aload_n 0, 1) := by decide +kernel
theorem dX1_append_27 : decode cX1_append 27 = .ok (.getfield 18, 3) := by decide +kernel
theorem dX1_append_30 : decode cX1_append 30 = .ok (.iload_n 2, 1) := by decide +kernel
theorem dX1_append_31 : decode cX1_append 31 = .ok (.iastore, 1) := by decide +kernel
theorem dX1_append_32 : decode cX1_append 32 = .ok (.aload_n 0, 1) := by decide +kernel
theorem dX1_append_33 : decode cX1_append 33 = .ok (.dup, 1) := by decide +kernel
theorem dX1_append_34 : decode cX1_append 34 = .ok (.getfield 18, 3) := by decide +kernel
theorem dX1_append_37 : decode cX1_append 37 = .ok (.iconst 1, 1) := by decide +kernel
theorem dX1_append_38 : decode cX1_append 38 = .ok (.iadd, 1) := by decide +kernel
theorem dX1_append_39 : decode cX1_append 39 = .ok (.putfield 18, 3) := by decide +kernel
theorem dX1_append_42 : decode cX1_append 42 = .ok (.aload_n 0, 1) := by decide +kernel
theorem dX1_append_43 : decode cX1_append 43 = .ok (.getfield 18, 3) := by decide +kernel
theorem dX1_append_46 : decode cX1_append 46 = .ok (.ireturn, 1) := by decide +kernel
theorem dX1_judge_0 : decode cX1_judge 0 = .ok (.iload_n 2, 1) := by decide +kernel
theorem dX1_judge_1 : decode cX1_judge 1 = .ok (.istore 5, 2) := by decide +kernel
theorem dX1_judge_3 : decode cX1_judge 3 = .ok (.iload_n 3, 1) := by decide +kernel
theorem dX1_judge_4 : decode cX1_judge 4 = .ok (.istore 6, 2) := by decide +kernel
theorem dX1_judge_6 : decode cX1_judge 6 = .ok (.bipush (-5), 2) := by decide +kernel
theorem dX1_judge_8 : decode cX1_judge 8 = .ok (.istore 7, 2) := by decide +kernel
theorem dX1_judge_10 : decode cX1_judge 10 = .ok (.iconst 0, 1) := by decide +kernel
theorem dX1_judge_11 : decode cX1_judge 11 = .ok (.istore 8, 2) := by decide +kernel
theorem dX1_judge_13 : decode cX1_judge 13 = .ok (.bipush (-5), 2) := by decide +kernel
theorem dX1_judge_15 : decode cX1_judge 15 = .ok (.istore 9, 2) := by decide +kernel
theorem dX1_judge_17 : decode cX1_judge 17 = .ok (.bipush (-5), 2) := by decide +kernel
theorem dX1_judge_19 : decode cX1_judge 19 = .ok (.istore 10, 2) := by decide +kernel
theorem dX1_judge_21 : decode cX1_judge 21 = .ok (.iconst 0, 1) := by decide +kernel
theorem dX1_judge_22 : decode cX1_judge 22 = .ok (.istore 11, 2) := by decide +kernel
theorem dX1_judge_24 : decode cX1_judge 24 = .ok (.iconst 1, 1) := by decide +kernel
theorem dX1_judge_25 : decode cX1_judge 25 = .ok (.istore 12, 2) := by decide +kernel
theorem dX1_judge_27 : decode cX1_judge 27 = .ok (.iconst 0, 1) := by decide +kernel
theorem dX1_judge_28 : decode cX1_judge 28 = .ok (.istore 13, 2) := by decide +kernel
theorem dX1_judge_30 : decode cX1_judge 30 = .ok (.iload 13, 2) := by decide +kernel
theorem dX1_judge_32 : decode cX1_judge 32 = .ok (.aload_n 0, 1) := by decide +kernel
theorem dX1_judge_33 : decode cX1_judge 33 = .ok (.getfield 18, 3) := by decide +kernel
theorem dX1_judge_36 : decode cX1_judge 36 = .ok (.if_icmp .ge 155, 3) := by decide +kernel
theorem dX1_judge_39 : decode cX1_judge 39 = .ok (.iload 12, 2) := by decide +kernel
theorem dX1_judge_41 : decode cX1_judge 41 = .ok (.ifCond .eq 150, 3) := by decide +kernel
theorem dX1_judge_44 : decode cX1_judge 44 = .ok (.aload_n 1, 1) := by decide +kernel
theorem dX1_judge_45 : decode cX1_judge 45 = .ok (.aload_n 0, 1) := by decide +kernel
theorem dX1_judge_46 : decode cX1_judge 46 = .ok (.getfield 11, 3) := by decide +kernel
theorem dX1_judge_49 : decode cX1_judge 49 = .ok (.iload 13, 2) := by decide +kernel
theorem dX1_judge_51 : decode cX1_judge 51 = .ok (.iaload, 1) := by decide +kernel
theorem dX1_judge_52 : decode cX1_judge 52 = .ok (.aload_n 0, 1) := by decide +kernel
theorem dX1_judge_53 : decode cX1_judge 53 = .ok (.getfield 15, 3) := by decide +kernel
theorem dX1_judge_56 : decode cX1_judge 56 = .ok (.iload 13, 2) := by decide +kernel
theorem dX1_judge_58 : decode cX1_judge 58 = .ok (.iaload, 1) := by decide +kernel
theorem dX1_judge_59 : decode cX1_judge 59 = .ok (.iload 5, 2) := by decide +kernel
theorem dX1_judge_61 : decode cX1_judge 61 = .ok (.iload 6, 2) := by decide +kernel
theorem dX1_judge_63 : decode cX1_judge 63 = .ok (.invokevirtual 22, 3) := by decide +kernel
theorem dX1_judge_66 : decode cX1_judge 66 = .ok (.istore 14, 2) := by decide +kernel
theorem dX1_judge_68 : decode cX1_judge 68 = .ok (.iload 14, 2) := by decide +kernel
theorem dX1_judge_70 : decode cX1_judge 70 = .ok (.invokestatic 28, 3) := by decide +kernel
theorem dX1_judge_73 : decode cX1_judge 73 = .ok (.ifCond .ne 7, 3) := by decide +kernel
theorem dX1_judge_76 : decode cX1_judge 76 = .ok (.iconst 1, 1) := by decide +kernel
theorem dX1_judge_77 : decode cX1_judge 77 = .ok (.goto 4, 3) := by decide +kernel
theorem dX1_judge_80 : decode cX1_judge 80 = .ok (.iconst 0, 1) := by decide +kernel
theorem dX1_judge_81 : decode cX1_judge 81 = .ok (.istore 12, 2) := by decide +kernel
theorem dX1_judge_83 : decode cX1_judge 83 = .ok (.iload 7, 2) := by decide +kernel
theorem dX1_judge_85 : decode cX1_judge 85 = .ok (.bipush (-5), 2) := by decide +kernel
theorem dX1_judge_87 : decode cX1_judge 87 = .ok (.if_icmp .ne 20, 3) := by decide +kernel
theorem dX1_judge_90 : decode cX1_judge 90 = .ok (.iload 12, 2) := by decide +kernel
theorem dX1_judge_92 : decode cX1_judge 92 = .ok (.ifCond .eq 11, 3) := by decide +kernel
theorem dX1_judge_95 : decode cX1_judge 95 = .ok (.iload 14, 2) := by decide +kernel
theorem dX1_judge_97 : decode cX1_judge 97 = .ok (.invokestatic 32, 3) := by decide +kernel
theorem dX1_judge_100 : decode cX1_judge 100 = .ok (.ifCond .eq 7, 3) := by decide +kernel
theorem dX1_judge_103 : decode cX1_judge 103 = .ok (.iload 13, 2) := by decide +kernel
theorem dX1_judge_105 : decode cX1_judge 105 = .ok (.istore 7, 2) := by decide +kernel
theorem dX1_judge_107 : decode cX1_judge 107 = .ok (.iload 8, 2) := by decide +kernel
theorem dX1_judge_109 : decode cX1_judge 109 = .ok (.iload 14, 2) := by decide +kernel
theorem dX1_judge_111 : decode cX1_judge 111 = .ok (.invokestatic 35, 3) := by decide +kernel
theorem dX1_judge_114 : decode cX1_judge 114 = .ok (.iadd, 1) := by decide +kernel
theorem dX1_judge_115 : decode cX1_judge 115 = .ok (.istore 8, 2) := by decide +kernel
theorem dX1_judge_117 : decode cX1_judge 117 = .ok (.aload_n 1, 1) := by decide +kernel
theorem dX1_judge_118 : decode cX1_judge 118 = .ok (.aload_n 0, 1) := by decide +kernel
theorem dX1_judge_119 : decode cX1_judge 119 = .ok (.getfield 11, 3) := by decide +kernel
theorem dX1_judge_122 : decode cX1_judge 122 = .ok (.iload 13, 2) := by decide +kernel
theorem dX1_judge_124 : decode cX1_judge 124 = .ok (.iaload, 1) := by decide +kernel
theorem dX1_judge_125 : decode cX1_judge 125 = .ok (.iload 5, 2) := by decide +kernel
theorem dX1_judge_127 : decode cX1_judge 127 = .ok (.iload 6, 2) := by decide +kernel
theorem dX1_judge_129 : decode cX1_judge 129 = .ok (.invokestatic 39, 3) := by decide +kernel
theorem dX1_judge_132 : decode cX1_judge 132 = .ok (.iload 14, 2) := by decide +kernel
theorem dX1_judge_134 : decode cX1_judge 134 = .ok (.invokestatic 35, 3) := by decide +kernel
theorem dX1_judge_137 : decode cX1_judge 137 = .ok (.isub, 1) := by decide +kernel
theorem dX1_judge_138 : decode cX1_judge 138 = .ok (.istore 15, 2) := by decide +kernel
theorem dX1_judge_140 : decode cX1_judge 140 = .ok (.iload 9, 2) := by decide +kernel
theorem dX1_judge_142 : decode cX1_judge 142 = .ok (.bipush (-5), 2) := by decide +kernel
theorem dX1_judge_144 : decode cX1_judge 144 = .ok (.if_icmp .ne 12, 3) := by decide +kernel
theorem dX1_judge_147 : decode cX1_judge 147 = .ok (.iload 15, 2) := by decide +kernel
theorem dX1_judge_149 : decode cX1_judge 149 = .ok (.ifCond .le 7, 3) := by decide +kernel
theorem dX1_judge_152 : decode cX1_judge 152 = .ok (.iload 13, 2) := by decide +kernel
theorem dX1_judge_154 : decode cX1_judge 154 = .ok (.istore 9, 2) := by decide +kernel
theorem dX1_judge_156 : decode cX1_judge 156 = .ok (.iload 15, 2) := by decide +kernel
theorem dX1_judge_158 : decode cX1_judge 158 = .ok (.iload 11, 2) := by decide +kernel
theorem dX1_judge_160 : decode cX1_judge 160 = .ok (.if_icmp .le 11, 3) := by decide +kernel
theorem dX1_judge_163 : decode cX1_judge 163 = .ok (.iload 15, 2) := by decide +kernel
theorem dX1_judge_165 : decode cX1_judge 165 = .ok (.istore 11, 2) := by decide +kernel
theorem dX1_judge_167 : decode cX1_judge 167 = .ok (.iload 13, 2) := by decide +kernel
theorem dX1_judge_169 : decode cX1_judge 169 = .ok (.istore 10, 2) := by decide +kernel
theorem dX1_judge_171 : decode cX1_judge 171 = .ok (.iload 14, 2) := by decide +kernel
theorem dX1_judge_173 : decode cX1_judge 173 = .ok (.invokestatic 43, 3) := by decide +kernel
theorem dX1_judge_176 : decode cX1_judge 176 = .ok (.istore 5, 2) := by decide +kernel
theorem dX1_judge_178 : decode cX1_judge 178 = .ok (.iload 14, 2) := by decide +kernel
theorem dX1_judge_180 : decode cX1_judge 180 = .ok (.invokestatic 46, 3) := by decide +kernel
theorem dX1_judge_183 : decode cX1_judge 183 = .ok (.istore 6, 2) := by decide +kernel
theorem dX1_judge_185 : decode cX1_judge 185 = .ok (.iinc 13 1, 3) := by decide +kernel
theorem dX1_judge_188 : decode cX1_judge 188 = .ok (.goto (-158), 3) := by decide +kernel
theorem dX1_judge_191 : decode cX1_judge 191 = .ok (.iload 4, 2) := by decide +kernel
theorem dX1_judge_193 : decode cX1_judge 193 = .ok (.tableswitch 36 0 2 #[27, 30, 33], 27) := by decide +kernel
theorem dX1_judge_220 : decode cX1_judge 220 = .ok (.iload 7, 2) := by decide +kernel
theorem dX1_judge_222 : decode cX1_judge 222 = .ok (.ireturn, 1) := by decide +kernel
theorem dX1_judge_223 : decode cX1_judge 223 = .ok (.iload 8, 2) := by decide +kernel
theorem dX1_judge_225 : decode cX1_judge 225 = .ok (.ireturn, 1) := by decide +kernel
theorem dX1_judge_226 : decode cX1_judge 226 = .ok (.iload 9, 2) := by decide +kernel
theorem dX1_judge_228 : decode cX1_judge 228 = .ok (.ireturn, 1) := by decide +kernel
theorem dX1_judge_229 : decode cX1_judge 229 = .ok (.iload 10, 2) := by decide +kernel
theorem dX1_judge_231 : decode cX1_judge 231 = .ok (.ireturn, 1) := by decide +kernel
theorem dX1_mostMeal_0 : decode cX1_mostMeal 0 = .ok (.iconst 0, 1) := by decide +kernel
theorem dX1_mostMeal_1 : decode cX1_mostMeal 1 = .ok (.istore 4, 2) := by decide +kernel
theorem dX1_mostMeal_3 : decode cX1_mostMeal 3 = .ok (.iconst 0, 1) := by decide +kernel
theorem dX1_mostMeal_4 : decode cX1_mostMeal 4 = .ok (.istore 5, 2) := by decide +kernel
theorem dX1_mostMeal_6 : decode cX1_mostMeal 6 = .ok (.iload 5, 2) := by decide +kernel
theorem dX1_mostMeal_8 : decode cX1_mostMeal 8 = .ok (.bipush 8, 2) := by decide +kernel
theorem dX1_mostMeal_10 : decode cX1_mostMeal 10 = .ok (.if_icmp .ge 28, 3) := by decide +kernel
theorem dX1_mostMeal_13 : decode cX1_mostMeal 13 = .ok (.iload 4, 2) := by decide +kernel
theorem dX1_mostMeal_15 : decode cX1_mostMeal 15 = .ok (.aload_n 0, 1) := by decide +kernel
theorem dX1_mostMeal_16 : decode cX1_mostMeal 16 = .ok (.iload_n 1, 1) := by decide +kernel
theorem dX1_mostMeal_17 : decode cX1_mostMeal 17 = .ok (.iload 5, 2) := by decide +kernel
theorem dX1_mostMeal_19 : decode cX1_mostMeal 19 = .ok (.iload_n 2, 1) := by decide +kernel
theorem dX1_mostMeal_20 : decode cX1_mostMeal 20 = .ok (.iload_n 3, 1) := by decide +kernel
theorem dX1_mostMeal_21 : decode cX1_mostMeal 21 = .ok (.invokevirtual 22, 3) := by decide +kernel
theorem dX1_mostMeal_24 : decode cX1_mostMeal 24 = .ok (.invokestatic 35, 3) := by decide +kernel
theorem dX1_mostMeal_27 : decode cX1_mostMeal 27 = .ok (.invokestatic 49, 3) := by decide +kernel
theorem dX1_mostMeal_30 : decode cX1_mostMeal 30 = .ok (.istore 4, 2) := by decide +kernel
theorem dX1_mostMeal_32 : decode cX1_mostMeal 32 = .ok (.iinc 5 1, 3) := by decide +kernel
theorem dX1_mostMeal_35 : decode cX1_mostMeal 35 = .ok (.goto (-29), 3) := by decide +kernel
theorem dX1_mostMeal_38 : decode cX1_mostMeal 38 = .ok (.iload 4, 2) := by decide +kernel
theorem dX1_mostMeal_40 : decode cX1_mostMeal 40 = .ok (.ireturn, 1) := by decide +kernel
theorem dX1_copyFrom_0 : decode cX1_copyFrom 0 = .ok (.aload_n 1, 1) := by decide +kernel
theorem dX1_copyFrom_1 : decode cX1_copyFrom 1 = .ok (.getfield 11, 3) := by decide +kernel
theorem dX1_copyFrom_4 : decode cX1_copyFrom 4 = .ok (.iconst 0, 1) := by decide +kernel
theorem dX1_copyFrom_5 : decode cX1_copyFrom 5 = .ok (.aload_n 0, 1) := by decide +kernel
theorem dX1_copyFrom_6 : decode cX1_copyFrom 6 = .ok (.getfield 11, 3) := by decide +kernel
theorem dX1_copyFrom_9 : decode cX1_copyFrom 9 = .ok (.iconst 0, 1) := by decide +kernel
theorem dX1_copyFrom_10 : decode cX1_copyFrom 10 = .ok (.bipush 10, 2) := by decide +kernel
theorem dX1_copyFrom_12 : decode cX1_copyFrom 12 = .ok (.invokestatic 55, 3) := by decide +kernel
theorem dX1_copyFrom_15 : decode cX1_copyFrom 15 = .ok (.aload_n 1, 1) := by decide +kernel
theorem dX1_copyFrom_16 : decode cX1_copyFrom 16 = .ok (.getfield 15, 3) := by decide +kernel
theorem dX1_copyFrom_19 : decode cX1_copyFrom 19 = .ok (.iconst 0, 1) := by decide +kernel
theorem dX1_copyFrom_20 : decode cX1_copyFrom 20 = .ok (.aload_n 0, 1) := by decide +kernel
theorem dX1_copyFrom_21 : decode cX1_copyFrom 21 = .ok (.getfield 15, 3) := by decide +kernel
theorem dX1_copyFrom_24 : decode cX1_copyFrom 24 = .ok (.iconst 0, 1) := by decide +kernel
theorem dX1_copyFrom_25 : decode cX1_copyFrom 25 = .ok (.bipush 10, 2) := by decide +kernel
theorem dX1_copyFrom_27 : decode cX1_copyFrom 27 = .ok (.invokestatic 55, 3) := by decide +kernel
theorem dX1_copyFrom_30 : decode cX1_copyFrom 30 = .ok (.aload_n 0, 1) := by decide +kernel
theorem dX1_copyFrom_31 : decode cX1_copyFrom 31 = .ok (.aload_n 1, 1) := by decide +kernel
theorem dX1_copyFrom_32 : decode cX1_copyFrom 32 = .ok (.getfield 18, 3) := by decide +kernel
theorem dX1_copyFrom_35 : decode cX1_copyFrom 35 = .ok (.putfield 18, 3) := by decide +kernel
theorem dX1_copyFrom_38 : decode cX1_copyFrom 38 = .ok (.return_, 1) := by decide +kernel
theorem dX2_init_0 : decode cX2_init 0 = .ok (.aload_n 0, 1) := by decide +kernel
theorem dX2_init_1 : decode cX2_init 1 = .ok (.invokespecial 1, 3) := by decide +kernel
theorem dX2_init_4 : decode cX2_init 4 = .ok (.aload_n 0, 1) := by decide +kernel
theorem dX2_init_5 : decode cX2_init 5 = .ok (.iconst (-1), 1) := by decide +kernel
theorem dX2_init_6 : decode cX2_init 6 = .ok (.putfield 7, 3) := by decide +kernel
theorem dX2_init_9 : decode cX2_init 9 = .ok (.return_, 1) := by decide +kernel
theorem dX2_begin_0 : decode cX2_begin 0 = .ok (.aload_n 0, 1) := by decide +kernel
theorem dX2_begin_1 : decode cX2_begin 1 = .ok (.iload_n 1, 1) := by decide +kernel
theorem dX2_begin_2 : decode cX2_begin 2 = .ok (.putfield 7, 3) := by decide +kernel
theorem dX2_begin_5 : decode cX2_begin 5 = .ok (.aload_n 0, 1) := by decide +kernel
theorem dX2_begin_6 : decode cX2_begin 6 = .ok (.iconst 0, 1) := by decide +kernel
theorem dX2_begin_7 : decode cX2_begin 7 = .ok (.putfield 13, 3) := by decide +kernel
theorem dX2_begin_10 : decode cX2_begin 10 = .ok (.aload_n 0, 1) := by decide +kernel
theorem dX2_begin_11 : decode cX2_begin 11 = .ok (.iconst 0, 1) := by decide +kernel
theorem dX2_begin_12 : decode cX2_begin 12 = .ok (.putfield 16, 3) := by decide +kernel
theorem dX2_begin_15 : decode cX2_begin 15 = .ok (.aload_n 0, 1) := by decide +kernel
theorem dX2_begin_16 : decode cX2_begin 16 = .ok (.iconst 0, 1) := by decide +kernel
theorem dX2_begin_17 : decode cX2_begin 17 = .ok (.putfield 19, 3) := by decide +kernel
theorem dX2_begin_20 : decode cX2_begin 20 = .ok (.aload_n 0, 1) := by decide +kernel
theorem dX2_begin_21 : decode cX2_begin 21 = .ok (.iconst 0, 1) := by decide +kernel
theorem dX2_begin_22 : decode cX2_begin 22 = .ok (.putfield 22, 3) := by decide +kernel
theorem dX2_begin_25 : decode cX2_begin 25 = .ok (.aload_n 0, 1) := by decide +kernel
theorem dX2_begin_26 : decode cX2_begin 26 = .ok (.iconst 0, 1) := by decide +kernel
theorem dX2_begin_27 : decode cX2_begin 27 = .ok (.putfield 25, 3) := by decide +kernel
theorem dX2_begin_30 : decode cX2_begin 30 = .ok (.return_, 1) := by decide +kernel
theorem dX2_goOn_0 : decode cX2_goOn 0 = .ok (.aload_n 0, 1) := by decide +kernel
theorem dX2_goOn_1 : decode cX2_goOn 1 = .ok (.dup, 1) := by decide +kernel
theorem dX2_goOn_2 : decode cX2_goOn 2 = .ok (.getfield 13, 3) := by decide +kernel
theorem dX2_goOn_5 : decode cX2_goOn 5 = .ok (.iconst 1, 1) := by decide +kernel
theorem dX2_goOn_6 : decode cX2_goOn 6 = .ok (.iadd, 1) := by decide +kernel
theorem dX2_goOn_7 : decode cX2_goOn 7 = .ok (.putfield 13, 3) := by decide +kernel
theorem dX2_goOn_10 : decode cX2_goOn 10 = .ok (.aload_n 0, 1) := by decide +kernel
theorem dX2_goOn_11 : decode cX2_goOn 11 = .ok (.getfield 25, 3) := by decide +kernel
theorem dX2_goOn_14 : decode cX2_goOn 14 = .ok (.ifCond .eq 5, 3) := by decide +kernel
theorem dX2_goOn_17 : decode cX2_goOn 17 = .ok (.iconst (-1), 1) := by decide +kernel
theorem dX2_goOn_18 : decode cX2_goOn 18 = .ok (.ireturn, 1) := by decide +kernel
theorem dX2_goOn_19 : decode cX2_goOn 19 = .ok (.aload_n 1, 1) := by decide +kernel
theorem dX2_goOn_20 : decode cX2_goOn 20 = .ok (.iload_n 2, 1) := by decide +kernel
theorem dX2_goOn_21 : decode cX2_goOn 21 = .ok (.iload_n 3, 1) := by decide +kernel
theorem dX2_goOn_22 : decode cX2_goOn 22 = .ok (.aload_n 0, 1) := by decide +kernel
theorem dX2_goOn_23 : decode cX2_goOn 23 = .ok (.getfield 16, 3) := by decide +kernel
theorem dX2_goOn_26 : decode cX2_goOn 26 = .ok (.aload_n 0, 1) := by decide +kernel
theorem dX2_goOn_27 : decode cX2_goOn 27 = .ok (.getfield 19, 3) := by decide +kernel
theorem dX2_goOn_30 : decode cX2_goOn 30 = .ok (.invokevirtual 29, 3) := by decide +kernel
theorem dX2_goOn_33 : decode cX2_goOn 33 = .ok (.istore 4, 2) := by decide +kernel
theorem dX2_goOn_35 : decode cX2_goOn 35 = .ok (.aload_n 0, 1) := by decide +kernel
theorem dX2_goOn_36 : decode cX2_goOn 36 = .ok (.iload 4, 2) := by decide +kernel
theorem dX2_goOn_38 : decode cX2_goOn 38 = .ok (.invokestatic 35, 3) := by decide +kernel
theorem dX2_goOn_41 : decode cX2_goOn 41 = .ok (.putfield 25, 3) := by decide +kernel
theorem dX2_goOn_44 : decode cX2_goOn 44 = .ok (.aload_n 0, 1) := by decide +kernel
theorem dX2_goOn_45 : decode cX2_goOn 45 = .ok (.iload 4, 2) := by decide +kernel
theorem dX2_goOn_47 : decode cX2_goOn 47 = .ok (.invokestatic 39, 3) := by decide +kernel
theorem dX2_goOn_50 : decode cX2_goOn 50 = .ok (.putfield 16, 3) := by decide +kernel
theorem dX2_goOn_53 : decode cX2_goOn 53 = .ok (.aload_n 0, 1) := by decide +kernel
theorem dX2_goOn_54 : decode cX2_goOn 54 = .ok (.iload 4, 2) := by decide +kernel
theorem dX2_goOn_56 : decode cX2_goOn 56 = .ok (.invokestatic 43, 3) := by decide +kernel
theorem dX2_goOn_59 : decode cX2_goOn 59 = .ok (.putfield 19, 3) := by decide +kernel
theorem dX2_goOn_62 : decode cX2_goOn 62 = .ok (.aload_n 0, 1) := by decide +kernel
theorem dX2_goOn_63 : decode cX2_goOn 63 = .ok (.dup, 1) := by decide +kernel
theorem dX2_goOn_64 : decode cX2_goOn 64 = .ok (.getfield 22, 3) := by decide +kernel
theorem dX2_goOn_67 : decode cX2_goOn 67 = .ok (.iload 4, 2) := by decide +kernel
theorem dX2_goOn_69 : decode cX2_goOn 69 = .ok (.invokestatic 46, 3) := by decide +kernel
theorem dX2_goOn_72 : decode cX2_goOn 72 = .ok (.iadd, 1) := by decide +kernel
theorem dX2_goOn_73 : decode cX2_goOn 73 = .ok (.putfield 22, 3) := by decide +kernel
theorem dX2_goOn_76 : decode cX2_goOn 76 = .ok (.iload 4, 2) := by decide +kernel
theorem dX2_goOn_78 : decode cX2_goOn 78 = .ok (.invokestatic 49, 3) := by decide +kernel
theorem dX2_goOn_81 : decode cX2_goOn 81 = .ok (.ireturn, 1) := by decide +kernel
theorem dX2_copyFrom_0 : decode cX2_copyFrom 0 = .ok (.aload_n 0, 1) := by decide +kernel
theorem dX2_copyFrom_1 : decode cX2_copyFrom 1 = .ok (.aload_n 1, 1) := by decide +kernel
theorem dX2_copyFrom_2 : decode cX2_copyFrom 2 = .ok (.getfield 7, 3) := by decide +kernel
theorem dX2_copyFrom_5 : decode cX2_copyFrom 5 = .ok (.putfield 7, 3) := by decide +kernel
theorem dX2_copyFrom_8 : decode cX2_copyFrom 8 = .ok (.aload_n 0, 1) := by decide +kernel
theorem dX2_copyFrom_9 : decode cX2_copyFrom 9 = .ok (.aload_n 1, 1) := by decide +kernel
theorem dX2_copyFrom_10 : decode cX2_copyFrom 10 = .ok (.getfield 13, 3) := by decide +kernel
theorem dX2_copyFrom_13 : decode cX2_copyFrom 13 = .ok (.putfield 13, 3) := by decide +kernel
theorem dX2_copyFrom_16 : decode cX2_copyFrom 16 = .ok (.aload_n 0, 1) := by decide +kernel
theorem dX2_copyFrom_17 : decode cX2_copyFrom 17 = .ok (.aload_n 1, 1) := by decide +kernel
theorem dX2_copyFrom_18 : decode cX2_copyFrom 18 = .ok (.getfield 16, 3) := by decide +kernel
theorem dX2_copyFrom_21 : decode cX2_copyFrom 21 = .ok (.putfield 16, 3) := by decide +kernel
theorem dX2_copyFrom_24 : decode cX2_copyFrom 24 = .ok (.aload_n 0, 1) := by decide +kernel
theorem dX2_copyFrom_25 : decode cX2_copyFrom 25 = .ok (.aload_n 1, 1) := by decide +kernel
theorem dX2_copyFrom_26 : decode cX2_copyFrom 26 = .ok (.getfield 19, 3) := by decide +kernel
theorem dX2_copyFrom_29 : decode cX2_copyFrom 29 = .ok (.putfield 19, 3) := by decide +kernel
theorem dX2_copyFrom_32 : decode cX2_copyFrom 32 = .ok (.aload_n 0, 1) := by decide +kernel
theorem dX2_copyFrom_33 : decode cX2_copyFrom 33 = .ok (.aload_n 1, 1) := by decide +kernel
theorem dX2_copyFrom_34 : decode cX2_copyFrom 34 = .ok (.getfield 22, 3) := by decide +kernel
theorem dX2_copyFrom_37 : decode cX2_copyFrom 37 = .ok (.putfield 22, 3) := by decide +kernel
theorem dX2_copyFrom_40 : decode cX2_copyFrom 40 = .ok (.aload_n 0, 1) := by decide +kernel
theorem dX2_copyFrom_41 : decode cX2_copyFrom 41 = .ok (.aload_n 1, 1) := by decide +kernel
theorem dX2_copyFrom_42 : decode cX2_copyFrom 42 = .ok (.getfield 25, 3) := by decide +kernel
theorem dX2_copyFrom_45 : decode cX2_copyFrom 45 = .ok (.putfield 25, 3) := by decide +kernel
theorem dX2_copyFrom_48 : decode cX2_copyFrom 48 = .ok (.return_, 1) := by decide +kernel
theorem dX3_init_0 : decode cX3_init 0 = .ok (.aload_n 0, 1) := by decide +kernel
theorem dX3_init_1 : decode cX3_init 1 = .ok (.invokespecial 3, 3) := by decide +kernel
theorem dX3_init_4 : decode cX3_init 4 = .ok (.aload_n 0, 1) := by decide +kernel
theorem dX3_init_5 : decode cX3_init 5 = .ok (.bipush 10, 2) := by decide +kernel
theorem dX3_init_7 : decode cX3_init 7 = .ok (.newarray .int, 2) := by decide +kernel
theorem dX3_init_9 : decode cX3_init 9 = .ok (.putfield 11, 3) := by decide +kernel
theorem dX3_init_12 : decode cX3_init 12 = .ok (.aload_n 0, 1) := by decide +kernel
theorem dX3_init_13 : decode cX3_init 13 = .ok (.bipush 10, 2) := by decide +kernel
theorem dX3_init_15 : decode cX3_init 15 = .ok (.newarray .int, 2) := by decide +kernel
theorem dX3_init_17 : decode cX3_init 17 = .ok (.putfield 15, 3) := by decide +kernel
theorem dX3_init_20 : decode cX3_init 20 = .ok (.aload_n 0, 1) := by decide +kernel
theorem dX3_init_21 : decode cX3_init 21 = .ok (.bipush 10, 2) := by decide +kernel
theorem dX3_init_23 : decode cX3_init 23 = .ok (.newarray .int, 2) := by decide +kernel
theorem dX3_init_25 : decode cX3_init 25 = .ok (.putfield 18, 3) := by decide +kernel
theorem dX3_init_28 : decode cX3_init 28 = .ok (.aload_n 0, 1) := by decide +kernel
theorem dX3_init_29 : decode cX3_init 29 = .ok (.bipush 120, 2) := by decide +kernel
theorem dX3_init_31 : decode cX3_init 31 = .ok (.newarray .int, 2) := by decide +kernel
theorem dX3_init_33 : decode cX3_init 33 = .ok (.putfield 23, 3) := by decide +kernel
theorem dX3_init_36 : decode cX3_init 36 = .ok (.aload_n 0, 1) := by decide +kernel
theorem dX3_init_37 : decode cX3_init 37 = .ok (.bipush 6, 2) := by decide +kernel
theorem dX3_init_39 : decode cX3_init 39 = .ok (.newarray .int, 2) := by decide +kernel
theorem dX3_init_41 : decode cX3_init 41 = .ok (.putfield 26, 3) := by decide +kernel
theorem dX3_init_44 : decode cX3_init 44 = .ok (.aload_n 0, 1) := by decide +kernel
theorem dX3_init_45 : decode cX3_init 45 = .ok (.sipush 4800, 3) := by decide +kernel
theorem dX3_init_48 : decode cX3_init 48 = .ok (.newarray .int, 2) := by decide +kernel
theorem dX3_init_50 : decode cX3_init 50 = .ok (.putfield 29, 3) := by decide +kernel
theorem dX3_init_53 : decode cX3_init 53 = .ok (.return_, 1) := by decide +kernel
theorem dX3_clear_0 : decode cX3_clear 0 = .ok (.aload_n 0, 1) := by decide +kernel
theorem dX3_clear_1 : decode cX3_clear 1 = .ok (.getfield 29, 3) := by decide +kernel
theorem dX3_clear_4 : decode cX3_clear 4 = .ok (.iconst 0, 1) := by decide +kernel
theorem dX3_clear_5 : decode cX3_clear 5 = .ok (.invokestatic 32, 3) := by decide +kernel
theorem dX3_clear_8 : decode cX3_clear 8 = .ok (.aload_n 0, 1) := by decide +kernel
theorem dX3_clear_9 : decode cX3_clear 9 = .ok (.iconst 0, 1) := by decide +kernel
theorem dX3_clear_10 : decode cX3_clear 10 = .ok (.putfield 38, 3) := by decide +kernel
theorem dX3_clear_13 : decode cX3_clear 13 = .ok (.aload_n 0, 1) := by decide +kernel
theorem dX3_clear_14 : decode cX3_clear 14 = .ok (.iconst 0, 1) := by decide +kernel
theorem dX3_clear_15 : decode cX3_clear 15 = .ok (.putfield 42, 3) := by decide +kernel
theorem dX3_clear_18 : decode cX3_clear 18 = .ok (.aload_n 0, 1) := by decide +kernel
theorem dX3_clear_19 : decode cX3_clear 19 = .ok (.iconst 0, 1) := by decide +kernel
theorem dX3_clear_20 : decode cX3_clear 20 = .ok (.putfield 45, 3) := by decide +kernel
theorem dX3_clear_23 : decode cX3_clear 23 = .ok (.aload_n 0, 1) := by decide +kernel
theorem dX3_clear_24 : decode cX3_clear 24 = .ok (.bipush 99, 2) := by decide +kernel
theorem dX3_clear_26 : decode cX3_clear 26 = .ok (.putfield 48, 3) := by decide +kernel
theorem dX3_clear_29 : decode cX3_clear 29 = .ok (.aload_n 0, 1) := by decide +kernel
theorem dX3_clear_30 : decode cX3_clear 30 = .ok (.bipush 99, 2) := by decide +kernel
theorem dX3_clear_32 : decode cX3_clear 32 = .ok (.putfield 51, 3) := by decide +kernel
theorem dX3_clear_35 : decode cX3_clear 35 = .ok (.return_, 1) := by decide +kernel
theorem dX3_appendCode_0 : decode cX3_appendCode 0 = .ok (.aload_n 0, 1) := by decide +kernel
theorem dX3_appendCode_1 : decode cX3_appendCode 1 = .ok (.getfield 42, 3) := by decide +kernel
theorem dX3_appendCode_4 : decode cX3_appendCode 4 = .ok (.aload_n 0, 1) := by decide +kernel
theorem dX3_appendCode_5 : decode cX3_appendCode 5 = .ok (.getfield 23, 3) := by decide +kernel
theorem dX3_appendCode_8 : decode cX3_appendCode 8 = .ok (.arraylength, 1) := by decide +kernel
theorem dX3_appendCode_9 : decode cX3_appendCode 9 = .ok (.if_icmp .ge 23, 3) := by decide +kernel
theorem dX3_appendCode_12 : decode cX3_appendCode 12 = .ok (.aload_n 0, 1) := by decide +kernel
theorem dX3_appendCode_13 : decode cX3_appendCode 13 = .ok (.getfield 23, 3) := by decide +kernel
theorem dX3_appendCode_16 : decode cX3_appendCode 16 = .ok (.aload_n 0, 1) := by decide +kernel
theorem dX3_appendCode_17 : decode cX3_appendCode 17 = .ok (.getfield 42, 3) := by decide +kernel
theorem dX3_appendCode_20 : decode cX3_appendCode 20 = .ok (.iload_n 1, 1) := by decide +kernel
theorem dX3_appendCode_21 : decode cX3_appendCode 21 = .ok (.iastore, 1) := by decide +kernel
theorem dX3_appendCode_22 : decode cX3_appendCode 22 = .ok (.aload_n 0, 1) := by decide +kernel
theorem dX3_appendCode_23 : decode cX3_appendCode 23 = .ok (.dup, 1) := by decide +kernel
theorem dX3_appendCode_24 : decode cX3_appendCode 24 = .ok (.getfield 42, 3) := by decide +kernel
theorem dX3_appendCode_27 : decode cX3_appendCode 27 = .ok (.iconst 1, 1) := by decide +kernel
theorem dX3_appendCode_28 : decode cX3_appendCode 28 = .ok (.iadd, 1) := by decide +kernel
theorem dX3_appendCode_29 : decode cX3_appendCode 29 = .ok (.putfield 42, 3) := by decide +kernel
theorem dX3_appendCode_32 : decode cX3_appendCode 32 = .ok (.return_, 1) := by decide +kernel
theorem dX3_appendClause_0 : decode cX3_appendClause 0 = .ok (.iload_n 1, 1) := by decide +kernel
theorem dX3_appendClause_1 : decode cX3_appendClause 1 = .ok (.iconst 4, 1) := by decide +kernel
theorem dX3_appendClause_2 : decode cX3_appendClause 2 = .ok (.if_icmp .ne 11, 3) := by decide +kernel
theorem dX3_appendClause_5 : decode cX3_appendClause 5 = .ok (.aload_n 0, 1) := by decide +kernel
theorem dX3_appendClause_6 : decode cX3_appendClause 6 = .ok (.iload_n 2, 1) := by decide +kernel
theorem dX3_appendClause_7 : decode cX3_appendClause 7 = .ok (.putfield 45, 3) := by decide +kernel
theorem dX3_appendClause_10 : decode cX3_appendClause 10 = .ok (.goto 81, 3) := by decide +kernel
theorem dX3_appendClause_13 : decode cX3_appendClause 13 = .ok (.iload_n 1, 1) := by decide +kernel
theorem dX3_appendClause_14 : decode cX3_appendClause 14 = .ok (.iconst 5, 1) := by decide +kernel
theorem dX3_appendClause_15 : decode cX3_appendClause 15 = .ok (.if_icmp .ne 11, 3) := by decide +kernel
theorem dX3_appendClause_18 : decode cX3_appendClause 18 = .ok (.aload_n 0, 1) := by decide +kernel
theorem dX3_appendClause_19 : decode cX3_appendClause 19 = .ok (.iload_n 2, 1) := by decide +kernel
theorem dX3_appendClause_20 : decode cX3_appendClause 20 = .ok (.putfield 48, 3) := by decide +kernel
theorem dX3_appendClause_23 : decode cX3_appendClause 23 = .ok (.goto 68, 3) := by decide +kernel
theorem dX3_appendClause_26 : decode cX3_appendClause 26 = .ok (.iload_n 1, 1) := by decide +kernel
theorem dX3_appendClause_27 : decode cX3_appendClause 27 = .ok (.iconst 5, 1) := by decide +kernel
theorem dX3_appendClause_28 : decode cX3_appendClause 28 = .ok (.if_icmp .le 11, 3) := by decide +kernel
theorem dX3_appendClause_31 : decode cX3_appendClause 31 = .ok (.aload_n 0, 1) := by decide +kernel
theorem dX3_appendClause_32 : decode cX3_appendClause 32 = .ok (.iload_n 2, 1) := by decide +kernel
theorem dX3_appendClause_33 : decode cX3_appendClause 33 = .ok (.putfield 51, 3) := by decide +kernel
theorem dX3_appendClause_36 : decode cX3_appendClause 36 = .ok (.goto 55, 3) := by decide +kernel
theorem dX3_appendClause_39 : decode cX3_appendClause 39 = .ok (.aload_n 0, 1) := by decide +kernel
theorem dX3_appendClause_40 : decode cX3_appendClause 40 = .ok (.getfield 38, 3) := by decide +kernel
theorem dX3_appendClause_43 : decode cX3_appendClause 43 = .ok (.bipush 10, 2) := by decide +kernel
theorem dX3_appendClause_45 : decode cX3_appendClause 45 = .ok (.if_icmp .ge 46, 3) := by decide +kernel
theorem dX3_appendClause_48 : decode cX3_appendClause 48 = .ok (.aload_n 0, 1) := by decide +kernel
theorem dX3_appendClause_49 : decode cX3_appendClause 49 = .ok (.getfield 11, 3) := by decide +kernel
theorem dX3_appendClause_52 : decode cX3_appendClause 52 = .ok (.aload_n 0, 1) := by decide +kernel
theorem dX3_appendClause_53 : decode cX3_appendClause 53 = .ok (.getfield 38, 3) := by decide +kernel
theorem dX3_appendClause_56 : decode cX3_appendClause 56 = .ok (.iload_n 1, 1) := by decide +kernel
theorem dX3_appendClause_57 : decode cX3_appendClause 57 = .ok (.iastore, 1) := by decide +kernel
theorem dX3_appendClause_58 : decode cX3_appendClause 58 = .ok (.aload_n 0, 1) := by decide +kernel
theorem dX3_appendClause_59 : decode cX3_appendClause 59 = .ok (.getfield 15, 3) := by decide +kernel
theorem dX3_appendClause_62 : decode cX3_appendClause 62 = .ok (.aload_n 0, 1) := by decide +kernel
theorem dX3_appendClause_63 : decode cX3_appendClause 63 = .ok (.getfield 38, 3) := by decide +kernel
theorem dX3_appendClause_66 : decode cX3_appendClause 66 = .ok (.iload_n 2, 1) := by decide +kernel
theorem dX3_appendClause_67 : decode cX3_appendClause 67 = .ok (.iastore, 1) := by decide +kernel
theorem dX3_appendClause_68 : decode cX3_appendClause 68 = .ok (.aload_n 0, 1) := by decide +kernel
theorem dX3_appendClause_69 : decode cX3_appendClause 69 = .ok (.getfield 18, 3) := by decide +kernel
theorem dX3_appendClause_72 : decode cX3_appendClause 72 = .ok (.aload_n 0, 1) := by decide +kernel
theorem dX3_appendClause_73 : decode cX3_appendClause 73 = .ok (.getfield 38, 3) := by decide +kernel
theorem dX3_appendClause_76 : decode cX3_appendClause 76 = .ok (.aload_n 0, 1) := by decide +kernel
theorem dX3_appendClause_77 : decode cX3_appendClause 77 = .ok (.getfield 42, 3) := by decide +kernel
theorem dX3_appendClause_80 : decode cX3_appendClause 80 = .ok (.iastore, 1) := by decide +kernel
theorem dX3_appendClause_81 : decode cX3_appendClause 81 = .ok (.aload_n 0, 1) := by decide +kernel
theorem dX3_appendClause_82 : decode cX3_appendClause 82 = .ok (.dup, 1) := by decide +kernel
theorem dX3_appendClause_83 : decode cX3_appendClause 83 = .ok (.getfield 38, 3) := by decide +kernel
theorem dX3_appendClause_86 : decode cX3_appendClause 86 = .ok (.iconst 1, 1) := by decide +kernel
theorem dX3_appendClause_87 : decode cX3_appendClause 87 = .ok (.iadd, 1) := by decide +kernel
theorem dX3_appendClause_88 : decode cX3_appendClause 88 = .ok (.putfield 38, 3) := by decide +kernel
theorem dX3_appendClause_91 : decode cX3_appendClause 91 = .ok (.return_, 1) := by decide +kernel
theorem dX3_hourBy_0 : decode cX3_hourBy 0 = .ok (.iload_n 1, 1) := by decide +kernel
theorem dX3_hourBy_1 : decode cX3_hourBy 1 = .ok (.bipush 8, 2) := by decide +kernel
theorem dX3_hourBy_3 : decode cX3_hourBy 3 = .ok (.imul, 1) := by decide +kernel
theorem dX3_hourBy_4 : decode cX3_hourBy 4 = .ok (.iload_n 2, 1) := by decide +kernel
theorem dX3_hourBy_5 : decode cX3_hourBy 5 = .ok (.iadd, 1) := by decide +kernel
theorem dX3_hourBy_6 : decode cX3_hourBy 6 = .ok (.bipush 10, 2) := by decide +kernel
theorem dX3_hourBy_8 : decode cX3_hourBy 8 = .ok (.imul, 1) := by decide +kernel
theorem dX3_hourBy_9 : decode cX3_hourBy 9 = .ok (.iload_n 3, 1) := by decide +kernel
theorem dX3_hourBy_10 : decode cX3_hourBy 10 = .ok (.iadd, 1) := by decide +kernel
theorem dX3_hourBy_11 : decode cX3_hourBy 11 = .ok (.bipush 10, 2) := by decide +kernel
theorem dX3_hourBy_13 : decode cX3_hourBy 13 = .ok (.imul, 1) := by decide +kernel
theorem dX3_hourBy_14 : decode cX3_hourBy 14 = .ok (.iload 4, 2) := by decide +kernel
theorem dX3_hourBy_16 : decode cX3_hourBy 16 = .ok (.iadd, 1) := by decide +kernel
theorem dX3_hourBy_17 : decode cX3_hourBy 17 = .ok (.istore 5, 2) := by decide +kernel
theorem dX3_hourBy_19 : decode cX3_hourBy 19 = .ok (.iload 5, 2) := by decide +kernel
theorem dX3_hourBy_21 : decode cX3_hourBy 21 = .ok (.ifCond .lt 13, 3) := by decide +kernel
theorem dX3_hourBy_24 : decode cX3_hourBy 24 = .ok (.iload 5, 2) := by decide +kernel
theorem dX3_hourBy_26 : decode cX3_hourBy 26 = .ok (.aload_n 0, 1) := by decide +kernel
theorem dX3_hourBy_27 : decode cX3_hourBy 27 = .ok (.getfield 29, 3) := by decide +kernel
theorem dX3_hourBy_30 : decode cX3_hourBy 30 = .ok (.arraylength, 1) := by decide +kernel
theorem dX3_hourBy_31 : decode cX3_hourBy 31 = .ok (.if_icmp .lt 6, 3) := by decide +kernel
theorem dX3_hourBy_34 : decode cX3_hourBy 34 = .ok (.ldc 54, 2) := by decide +kernel
theorem dX3_hourBy_36 : decode cX3_hourBy 36 = .ok (.ireturn, 1) := by decide +kernel
theorem dX3_hourBy_37 : decode cX3_hourBy 37 = .ok (.aload_n 0, 1) := by decide +kernel
theorem dX3_hourBy_38 : decode cX3_hourBy 38 = .ok (.getfield 29, 3) := by decide +kernel
theorem dX3_hourBy_41 : decode cX3_hourBy 41 = .ok (.iload 5, 2) := by decide +kernel
theorem dX3_hourBy_43 : decode cX3_hourBy 43 = .ok (.iaload, 1) := by decide +kernel
theorem dX3_hourBy_44 : decode cX3_hourBy 44 = .ok (.ifCond .eq 11, 3) := by decide +kernel
theorem dX3_hourBy_47 : decode cX3_hourBy 47 = .ok (.aload_n 0, 1) := by decide +kernel
theorem dX3_hourBy_48 : decode cX3_hourBy 48 = .ok (.getfield 29, 3) := by decide +kernel
theorem dX3_hourBy_51 : decode cX3_hourBy 51 = .ok (.iload 5, 2) := by decide +kernel
theorem dX3_hourBy_53 : decode cX3_hourBy 53 = .ok (.iaload, 1) := by decide +kernel
theorem dX3_hourBy_54 : decode cX3_hourBy 54 = .ok (.ireturn, 1) := by decide +kernel
theorem dX3_hourBy_55 : decode cX3_hourBy 55 = .ok (.aload_n 0, 1) := by decide +kernel
theorem dX3_hourBy_56 : decode cX3_hourBy 56 = .ok (.getfield 26, 3) := by decide +kernel
theorem dX3_hourBy_59 : decode cX3_hourBy 59 = .ok (.iconst 0, 1) := by decide +kernel
theorem dX3_hourBy_60 : decode cX3_hourBy 60 = .ok (.iload_n 1, 1) := by decide +kernel
theorem dX3_hourBy_61 : decode cX3_hourBy 61 = .ok (.iastore, 1) := by decide +kernel
theorem dX3_hourBy_62 : decode cX3_hourBy 62 = .ok (.aload_n 0, 1) := by decide +kernel
theorem dX3_hourBy_63 : decode cX3_hourBy 63 = .ok (.getfield 26, 3) := by decide +kernel
theorem dX3_hourBy_66 : decode cX3_hourBy 66 = .ok (.iconst 1, 1) := by decide +kernel
theorem dX3_hourBy_67 : decode cX3_hourBy 67 = .ok (.iload_n 2, 1) := by decide +kernel
theorem dX3_hourBy_68 : decode cX3_hourBy 68 = .ok (.iconst 2, 1) := by decide +kernel
theorem dX3_hourBy_69 : decode cX3_hourBy 69 = .ok (.idiv, 1) := by decide +kernel
theorem dX3_hourBy_70 : decode cX3_hourBy 70 = .ok (.iastore, 1) := by decide +kernel
theorem dX3_hourBy_71 : decode cX3_hourBy 71 = .ok (.aload_n 0, 1) := by decide +kernel
theorem dX3_hourBy_72 : decode cX3_hourBy 72 = .ok (.getfield 26, 3) := by decide +kernel
theorem dX3_hourBy_75 : decode cX3_hourBy 75 = .ok (.iconst 2, 1) := by decide +kernel
theorem dX3_hourBy_76 : decode cX3_hourBy 76 = .ok (.iload_n 2, 1) := by decide +kernel
theorem dX3_hourBy_77 : decode cX3_hourBy 77 = .ok (.iconst 2, 1) := by decide +kernel
theorem dX3_hourBy_78 : decode cX3_hourBy 78 = .ok (.irem, 1) := by decide +kernel
theorem dX3_hourBy_79 : decode cX3_hourBy 79 = .ok (.iastore, 1) := by decide +kernel
theorem dX3_hourBy_80 : decode cX3_hourBy 80 = .ok (.aload_n 0, 1) := by decide +kernel
theorem dX3_hourBy_81 : decode cX3_hourBy 81 = .ok (.getfield 26, 3) := by decide +kernel
theorem dX3_hourBy_84 : decode cX3_hourBy 84 = .ok (.iconst 3, 1) := by decide +kernel
theorem dX3_hourBy_85 : decode cX3_hourBy 85 = .ok (.iload_n 3, 1) := by decide +kernel
theorem dX3_hourBy_86 : decode cX3_hourBy 86 = .ok (.iastore, 1) := by decide +kernel
theorem dX3_hourBy_87 : decode cX3_hourBy 87 = .ok (.aload_n 0, 1) := by decide +kernel
theorem dX3_hourBy_88 : decode cX3_hourBy 88 = .ok (.getfield 26, 3) := by decide +kernel
theorem dX3_hourBy_91 : decode cX3_hourBy 91 = .ok (.iconst 4, 1) := by decide +kernel
theorem dX3_hourBy_92 : decode cX3_hourBy 92 = .ok (.iload 4, 2) := by decide +kernel
theorem dX3_hourBy_94 : decode cX3_hourBy 94 = .ok (.iastore, 1) := by decide +kernel
theorem dX3_hourBy_95 : decode cX3_hourBy 95 = .ok (.aload_n 0, 1) := by decide +kernel
theorem dX3_hourBy_96 : decode cX3_hourBy 96 = .ok (.getfield 26, 3) := by decide +kernel
theorem dX3_hourBy_99 : decode cX3_hourBy 99 = .ok (.iconst 5, 1) := by decide +kernel
theorem dX3_hourBy_100 : decode cX3_hourBy 100 = .ok (.iconst 0, 1) := by decide +kernel
theorem dX3_hourBy_101 : decode cX3_hourBy 101 = .ok (.iastore, 1) := by decide +kernel
theorem dX3_hourBy_102 : decode cX3_hourBy 102 = .ok (.bipush 99, 2) := by decide +kernel
theorem dX3_hourBy_104 : decode cX3_hourBy 104 = .ok (.aload_n 0, 1) := by decide +kernel
theorem dX3_hourBy_105 : decode cX3_hourBy 105 = .ok (.iconst 0, 1) := by decide +kernel
theorem dX3_hourBy_106 : decode cX3_hourBy 106 = .ok (.invokevirtual 55, 3) := by decide +kernel
theorem dX3_hourBy_109 : decode cX3_hourBy 109 = .ok (.invokestatic 59, 3) := by decide +kernel
theorem dX3_hourBy_112 : decode cX3_hourBy 112 = .ok (.istore 6, 2) := by decide +kernel
theorem dX3_hourBy_114 : decode cX3_hourBy 114 = .ok (.aload_n 0, 1) := by decide +kernel
theorem dX3_hourBy_115 : decode cX3_hourBy 115 = .ok (.getfield 26, 3) := by decide +kernel
theorem dX3_hourBy_118 : decode cX3_hourBy 118 = .ok (.iconst 5, 1) := by decide +kernel
theorem dX3_hourBy_119 : decode cX3_hourBy 119 = .ok (.iload 6, 2) := by decide +kernel
theorem dX3_hourBy_121 : decode cX3_hourBy 121 = .ok (.iastore, 1) := by decide +kernel
theorem dX3_hourBy_122 : decode cX3_hourBy 122 = .ok (.ldc 65, 2) := by decide +kernel
theorem dX3_hourBy_124 : decode cX3_hourBy 124 = .ok (.iload 6, 2) := by decide +kernel
theorem dX3_hourBy_126 : decode cX3_hourBy 126 = .ok (.ior, 1) := by decide +kernel
theorem dX3_hourBy_127 : decode cX3_hourBy 127 = .ok (.istore 7, 2) := by decide +kernel
theorem dX3_hourBy_129 : decode cX3_hourBy 129 = .ok (.iload 6, 2) := by decide +kernel
theorem dX3_hourBy_131 : decode cX3_hourBy 131 = .ok (.aload_n 0, 1) := by decide +kernel
theorem dX3_hourBy_132 : decode cX3_hourBy 132 = .ok (.getfield 48, 3) := by decide +kernel
theorem dX3_hourBy_135 : decode cX3_hourBy 135 = .ok (.if_icmp .le 24, 3) := by decide +kernel
theorem dX3_hourBy_138 : decode cX3_hourBy 138 = .ok (.iload 7, 2) := by decide +kernel
theorem dX3_hourBy_140 : decode cX3_hourBy 140 = .ok (.ldc 54, 2) := by decide +kernel
theorem dX3_hourBy_142 : decode cX3_hourBy 142 = .ok (.iload_n 3, 1) := by decide +kernel
theorem dX3_hourBy_143 : decode cX3_hourBy 143 = .ok (.bipush 17, 2) := by decide +kernel
theorem dX3_hourBy_145 : decode cX3_hourBy 145 = .ok (.ishl, 1) := by decide +kernel
theorem dX3_hourBy_146 : decode cX3_hourBy 146 = .ok (.ior, 1) := by decide +kernel
theorem dX3_hourBy_147 : decode cX3_hourBy 147 = .ok (.iload 4, 2) := by decide +kernel
theorem dX3_hourBy_149 : decode cX3_hourBy 149 = .ok (.bipush 21, 2) := by decide +kernel
theorem dX3_hourBy_151 : decode cX3_hourBy 151 = .ok (.ishl, 1) := by decide +kernel
theorem dX3_hourBy_152 : decode cX3_hourBy 152 = .ok (.ior, 1) := by decide +kernel
theorem dX3_hourBy_153 : decode cX3_hourBy 153 = .ok (.ior, 1) := by decide +kernel
theorem dX3_hourBy_154 : decode cX3_hourBy 154 = .ok (.istore 7, 2) := by decide +kernel
theorem dX3_hourBy_156 : decode cX3_hourBy 156 = .ok (.goto 71, 3) := by decide +kernel
theorem dX3_hourBy_159 : decode cX3_hourBy 159 = .ok (.iload 7, 2) := by decide +kernel
theorem dX3_hourBy_161 : decode cX3_hourBy 161 = .ok (.iload_n 3, 1) := by decide +kernel
theorem dX3_hourBy_162 : decode cX3_hourBy 162 = .ok (.aload_n 0, 1) := by decide +kernel
theorem dX3_hourBy_163 : decode cX3_hourBy 163 = .ok (.iconst 2, 1) := by decide +kernel
theorem dX3_hourBy_164 : decode cX3_hourBy 164 = .ok (.invokevirtual 55, 3) := by decide +kernel
theorem dX3_hourBy_167 : decode cX3_hourBy 167 = .ok (.iadd, 1) := by decide +kernel
theorem dX3_hourBy_168 : decode cX3_hourBy 168 = .ok (.aload_n 0, 1) := by decide +kernel
theorem dX3_hourBy_169 : decode cX3_hourBy 169 = .ok (.getfield 45, 3) := by decide +kernel
theorem dX3_hourBy_172 : decode cX3_hourBy 172 = .ok (.isub, 1) := by decide +kernel
theorem dX3_hourBy_173 : decode cX3_hourBy 173 = .ok (.invokestatic 66, 3) := by decide +kernel
theorem dX3_hourBy_176 : decode cX3_hourBy 176 = .ok (.bipush 17, 2) := by decide +kernel
theorem dX3_hourBy_178 : decode cX3_hourBy 178 = .ok (.ishl, 1) := by decide +kernel
theorem dX3_hourBy_179 : decode cX3_hourBy 179 = .ok (.ior, 1) := by decide +kernel
theorem dX3_hourBy_180 : decode cX3_hourBy 180 = .ok (.istore 7, 2) := by decide +kernel
theorem dX3_hourBy_182 : decode cX3_hourBy 182 = .ok (.iload 7, 2) := by decide +kernel
theorem dX3_hourBy_184 : decode cX3_hourBy 184 = .ok (.iload 4, 2) := by decide +kernel
theorem dX3_hourBy_186 : decode cX3_hourBy 186 = .ok (.aload_n 0, 1) := by decide +kernel
theorem dX3_hourBy_187 : decode cX3_hourBy 187 = .ok (.iconst 3, 1) := by decide +kernel
theorem dX3_hourBy_188 : decode cX3_hourBy 188 = .ok (.invokevirtual 55, 3) := by decide +kernel
theorem dX3_hourBy_191 : decode cX3_hourBy 191 = .ok (.iadd, 1) := by decide +kernel
theorem dX3_hourBy_192 : decode cX3_hourBy 192 = .ok (.invokestatic 66, 3) := by decide +kernel
theorem dX3_hourBy_195 : decode cX3_hourBy 195 = .ok (.bipush 21, 2) := by decide +kernel
theorem dX3_hourBy_197 : decode cX3_hourBy 197 = .ok (.ishl, 1) := by decide +kernel
theorem dX3_hourBy_198 : decode cX3_hourBy 198 = .ok (.ior, 1) := by decide +kernel
theorem dX3_hourBy_199 : decode cX3_hourBy 199 = .ok (.istore 7, 2) := by decide +kernel
theorem dX3_hourBy_201 : decode cX3_hourBy 201 = .ok (.iload 7, 2) := by decide +kernel
theorem dX3_hourBy_203 : decode cX3_hourBy 203 = .ok (.iload_n 3, 1) := by decide +kernel
theorem dX3_hourBy_204 : decode cX3_hourBy 204 = .ok (.aload_n 0, 1) := by decide +kernel
theorem dX3_hourBy_205 : decode cX3_hourBy 205 = .ok (.getfield 51, 3) := by decide +kernel
theorem dX3_hourBy_208 : decode cX3_hourBy 208 = .ok (.if_icmp .lt 8, 3) := by decide +kernel
theorem dX3_hourBy_211 : decode cX3_hourBy 211 = .ok (.ldc 69, 2) := by decide +kernel
theorem dX3_hourBy_213 : decode cX3_hourBy 213 = .ok (.goto 11, 3) := by decide +kernel
theorem dX3_hourBy_216 : decode cX3_hourBy 216 = .ok (.aload_n 0, 1) := by decide +kernel
theorem dX3_hourBy_217 : decode cX3_hourBy 217 = .ok (.iconst 1, 1) := by decide +kernel
theorem dX3_hourBy_218 : decode cX3_hourBy 218 = .ok (.invokevirtual 55, 3) := by decide +kernel
theorem dX3_hourBy_221 : decode cX3_hourBy 221 = .ok (.bipush 7, 2) := by decide +kernel
theorem dX3_hourBy_223 : decode cX3_hourBy 223 = .ok (.ishl, 1) := by decide +kernel
theorem dX3_hourBy_224 : decode cX3_hourBy 224 = .ok (.ior, 1) := by decide +kernel
theorem dX3_hourBy_225 : decode cX3_hourBy 225 = .ok (.istore 7, 2) := by decide +kernel
theorem dX3_hourBy_227 : decode cX3_hourBy 227 = .ok (.aload_n 0, 1) := by decide +kernel
theorem dX3_hourBy_228 : decode cX3_hourBy 228 = .ok (.getfield 29, 3) := by decide +kernel
theorem dX3_hourBy_231 : decode cX3_hourBy 231 = .ok (.iload 5, 2) := by decide +kernel
theorem dX3_hourBy_233 : decode cX3_hourBy 233 = .ok (.iload 7, 2) := by decide +kernel
theorem dX3_hourBy_235 : decode cX3_hourBy 235 = .ok (.iastore, 1) := by decide +kernel
theorem dX3_hourBy_236 : decode cX3_hourBy 236 = .ok (.iload 7, 2) := by decide +kernel
theorem dX3_hourBy_238 : decode cX3_hourBy 238 = .ok (.ireturn, 1) := by decide +kernel
theorem dX3_toStep_0 : decode cX3_toStep 0 = .ok (.iconst 0, 1) := by decide +kernel
theorem dX3_toStep_1 : decode cX3_toStep 1 = .ok (.bipush 9, 2) := by decide +kernel
theorem dX3_toStep_3 : decode cX3_toStep 3 = .ok (.iload_n 0, 1) := by decide +kernel
theorem dX3_toStep_4 : decode cX3_toStep 4 = .ok (.invokestatic 59, 3) := by decide +kernel
theorem dX3_toStep_7 : decode cX3_toStep 7 = .ok (.invokestatic 70, 3) := by decide +kernel
theorem dX3_toStep_10 : decode cX3_toStep 10 = .ok (.ireturn, 1) := by decide +kernel
theorem dX3_together_0 : decode cX3_together 0 = .ok (.iconst 0, 1) := by decide +kernel
theorem dX3_together_1 : decode cX3_together 1 = .ok (.istore_n 2, 1) := by decide +kernel
theorem dX3_together_2 : decode cX3_together 2 = .ok (.iconst 0, 1) := by decide +kernel
theorem dX3_together_3 : decode cX3_together 3 = .ok (.istore_n 3, 1) := by decide +kernel
theorem dX3_together_4 : decode cX3_together 4 = .ok (.iload_n 3, 1) := by decide +kernel
theorem dX3_together_5 : decode cX3_together 5 = .ok (.aload_n 0, 1) := by decide +kernel
theorem dX3_together_6 : decode cX3_together 6 = .ok (.getfield 38, 3) := by decide +kernel
theorem dX3_together_9 : decode cX3_together 9 = .ok (.if_icmp .ge 57, 3) := by decide +kernel
theorem dX3_together_12 : decode cX3_together 12 = .ok (.aload_n 0, 1) := by decide +kernel
theorem dX3_together_13 : decode cX3_together 13 = .ok (.getfield 11, 3) := by decide +kernel
theorem dX3_together_16 : decode cX3_together 16 = .ok (.iload_n 3, 1) := by decide +kernel
theorem dX3_together_17 : decode cX3_together 17 = .ok (.iaload, 1) := by decide +kernel
theorem dX3_together_18 : decode cX3_together 18 = .ok (.iload_n 1, 1) := by decide +kernel
theorem dX3_together_19 : decode cX3_together 19 = .ok (.if_icmp .ne 41, 3) := by decide +kernel
theorem dX3_together_22 : decode cX3_together 22 = .ok (.aload_n 0, 1) := by decide +kernel
theorem dX3_together_23 : decode cX3_together 23 = .ok (.iload_n 3, 1) := by decide +kernel
theorem dX3_together_24 : decode cX3_together 24 = .ok (.ifCond .ne 7, 3) := by decide +kernel
theorem dX3_together_27 : decode cX3_together 27 = .ok (.iconst 0, 1) := by decide +kernel
theorem dX3_together_28 : decode cX3_together 28 = .ok (.goto 11, 3) := by decide +kernel
theorem dX3_together_31 : decode cX3_together 31 = .ok (.aload_n 0, 1) := by decide +kernel
theorem dX3_together_32 : decode cX3_together 32 = .ok (.getfield 18, 3) := by decide +kernel
theorem dX3_together_35 : decode cX3_together 35 = .ok (.iload_n 3, 1) := by decide +kernel
theorem dX3_together_36 : decode cX3_together 36 = .ok (.iconst 1, 1) := by decide +kernel
theorem dX3_together_37 : decode cX3_together 37 = .ok (.isub, 1) := by decide +kernel
theorem dX3_together_38 : decode cX3_together 38 = .ok (.iaload, 1) := by decide +kernel
theorem dX3_together_39 : decode cX3_together 39 = .ok (.aload_n 0, 1) := by decide +kernel
theorem dX3_together_40 : decode cX3_together 40 = .ok (.getfield 18, 3) := by decide +kernel
theorem dX3_together_43 : decode cX3_together 43 = .ok (.iload_n 3, 1) := by decide +kernel
theorem dX3_together_44 : decode cX3_together 44 = .ok (.iaload, 1) := by decide +kernel
theorem dX3_together_45 : decode cX3_together 45 = .ok (.invokevirtual 73, 3) := by decide +kernel
theorem dX3_together_48 : decode cX3_together 48 = .ok (.ifCond .eq 12, 3) := by decide +kernel
theorem dX3_together_51 : decode cX3_together 51 = .ok (.iload_n 2, 1) := by decide +kernel
theorem dX3_together_52 : decode cX3_together 52 = .ok (.aload_n 0, 1) := by decide +kernel
theorem dX3_together_53 : decode cX3_together 53 = .ok (.getfield 15, 3) := by decide +kernel
theorem dX3_together_56 : decode cX3_together 56 = .ok (.iload_n 3, 1) := by decide +kernel
theorem dX3_together_57 : decode cX3_together 57 = .ok (.iaload, 1) := by decide +kernel
theorem dX3_together_58 : decode cX3_together 58 = .ok (.iadd, 1) := by decide +kernel
theorem dX3_together_59 : decode cX3_together 59 = .ok (.istore_n 2, 1) := by decide +kernel
theorem dX3_together_60 : decode cX3_together 60 = .ok (.iinc 3 1, 3) := by decide +kernel
theorem dX3_together_63 : decode cX3_together 63 = .ok (.goto (-59), 3) := by decide +kernel
theorem dX3_together_66 : decode cX3_together 66 = .ok (.iload_n 2, 1) := by decide +kernel
theorem dX3_together_67 : decode cX3_together 67 = .ok (.ireturn, 1) := by decide +kernel
theorem dX3_holds_0 : decode cX3_holds 0 = .ok (.iconst 0, 1) := by decide +kernel
theorem dX3_holds_1 : decode cX3_holds 1 = .ok (.istore_n 3, 1) := by decide +kernel
theorem dX3_holds_2 : decode cX3_holds 2 = .ok (.iload_n 1, 1) := by decide +kernel
theorem dX3_holds_3 : decode cX3_holds 3 = .ok (.istore 4, 2) := by decide +kernel
theorem dX3_holds_5 : decode cX3_holds 5 = .ok (.iload 4, 2) := by decide +kernel
theorem dX3_holds_7 : decode cX3_holds 7 = .ok (.iload_n 2, 1) := by decide +kernel
theorem dX3_holds_8 : decode cX3_holds 8 = .ok (.if_icmp .ge 155, 3) := by decide +kernel
theorem dX3_holds_11 : decode cX3_holds 11 = .ok (.aload_n 0, 1) := by decide +kernel
theorem dX3_holds_12 : decode cX3_holds 12 = .ok (.getfield 23, 3) := by decide +kernel
theorem dX3_holds_15 : decode cX3_holds 15 = .ok (.iload 4, 2) := by decide +kernel
theorem dX3_holds_17 : decode cX3_holds 17 = .ok (.iaload, 1) := by decide +kernel
theorem dX3_holds_18 : decode cX3_holds 18 = .ok (.istore 5, 2) := by decide +kernel
theorem dX3_holds_20 : decode cX3_holds 20 = .ok (.iload 5, 2) := by decide +kernel
theorem dX3_holds_22 : decode cX3_holds 22 = .ok (.iconst (-1), 1) := by decide +kernel
theorem dX3_holds_23 : decode cX3_holds 23 = .ok (.if_icmp .ne 10, 3) := by decide +kernel
theorem dX3_holds_26 : decode cX3_holds 26 = .ok (.iload_n 3, 1) := by decide +kernel
theorem dX3_holds_27 : decode cX3_holds 27 = .ok (.iconst 1, 1) := by decide +kernel
theorem dX3_holds_28 : decode cX3_holds 28 = .ok (.ixor, 1) := by decide +kernel
theorem dX3_holds_29 : decode cX3_holds 29 = .ok (.istore_n 3, 1) := by decide +kernel
theorem dX3_holds_30 : decode cX3_holds 30 = .ok (.goto 127, 3) := by decide +kernel
theorem dX3_holds_33 : decode cX3_holds 33 = .ok (.iload 5, 2) := by decide +kernel
theorem dX3_holds_35 : decode cX3_holds 35 = .ok (.bipush (-2), 2) := by decide +kernel
theorem dX3_holds_37 : decode cX3_holds 37 = .ok (.if_icmp .ne 15, 3) := by decide +kernel
theorem dX3_holds_40 : decode cX3_holds 40 = .ok (.iload_n 3, 1) := by decide +kernel
theorem dX3_holds_41 : decode cX3_holds 41 = .ok (.iconst 1, 1) := by decide +kernel
theorem dX3_holds_42 : decode cX3_holds 42 = .ok (.iushr, 1) := by decide +kernel
theorem dX3_holds_43 : decode cX3_holds 43 = .ok (.iload_n 3, 1) := by decide +kernel
theorem dX3_holds_44 : decode cX3_holds 44 = .ok (.bipush (-2), 2) := by decide +kernel
theorem dX3_holds_46 : decode cX3_holds 46 = .ok (.ior, 1) := by decide +kernel
theorem dX3_holds_47 : decode cX3_holds 47 = .ok (.iand, 1) := by decide +kernel
theorem dX3_holds_48 : decode cX3_holds 48 = .ok (.istore_n 3, 1) := by decide +kernel
theorem dX3_holds_49 : decode cX3_holds 49 = .ok (.goto 108, 3) := by decide +kernel
theorem dX3_holds_52 : decode cX3_holds 52 = .ok (.iload 5, 2) := by decide +kernel
theorem dX3_holds_54 : decode cX3_holds 54 = .ok (.bipush (-3), 2) := by decide +kernel
theorem dX3_holds_56 : decode cX3_holds 56 = .ok (.if_icmp .ne 14, 3) := by decide +kernel
theorem dX3_holds_59 : decode cX3_holds 59 = .ok (.iload_n 3, 1) := by decide +kernel
theorem dX3_holds_60 : decode cX3_holds 60 = .ok (.iconst 1, 1) := by decide +kernel
theorem dX3_holds_61 : decode cX3_holds 61 = .ok (.iushr, 1) := by decide +kernel
theorem dX3_holds_62 : decode cX3_holds 62 = .ok (.iload_n 3, 1) := by decide +kernel
theorem dX3_holds_63 : decode cX3_holds 63 = .ok (.iconst 1, 1) := by decide +kernel
theorem dX3_holds_64 : decode cX3_holds 64 = .ok (.iand, 1) := by decide +kernel
theorem dX3_holds_65 : decode cX3_holds 65 = .ok (.ior, 1) := by decide +kernel
theorem dX3_holds_66 : decode cX3_holds 66 = .ok (.istore_n 3, 1) := by decide +kernel
theorem dX3_holds_67 : decode cX3_holds 67 = .ok (.goto 90, 3) := by decide +kernel
theorem dX3_holds_70 : decode cX3_holds 70 = .ok (.iload 5, 2) := by decide +kernel
theorem dX3_holds_72 : decode cX3_holds 72 = .ok (.sipush 300, 3) := by decide +kernel
theorem dX3_holds_75 : decode cX3_holds 75 = .ok (.idiv, 1) := by decide +kernel
theorem dX3_holds_76 : decode cX3_holds 76 = .ok (.istore 6, 2) := by decide +kernel
theorem dX3_holds_78 : decode cX3_holds 78 = .ok (.iload 6, 2) := by decide +kernel
theorem dX3_holds_80 : decode cX3_holds 80 = .ok (.ifCond .lt 20, 3) := by decide +kernel
theorem dX3_holds_83 : decode cX3_holds 83 = .ok (.iload 6, 2) := by decide +kernel
theorem dX3_holds_85 : decode cX3_holds 85 = .ok (.bipush 6, 2) := by decide +kernel
theorem dX3_holds_87 : decode cX3_holds 87 = .ok (.if_icmp .ge 13, 3) := by decide +kernel
theorem dX3_holds_90 : decode cX3_holds 90 = .ok (.aload_n 0, 1) := by decide +kernel
theorem dX3_holds_91 : decode cX3_holds 91 = .ok (.getfield 26, 3) := by decide +kernel
theorem dX3_holds_94 : decode cX3_holds 94 = .ok (.iload 6, 2) := by decide +kernel
theorem dX3_holds_96 : decode cX3_holds 96 = .ok (.iaload, 1) := by decide +kernel
theorem dX3_holds_97 : decode cX3_holds 97 = .ok (.goto 4, 3) := by decide +kernel
theorem dX3_holds_100 : decode cX3_holds 100 = .ok (.iconst 0, 1) := by decide +kernel
theorem dX3_holds_101 : decode cX3_holds 101 = .ok (.istore 7, 2) := by decide +kernel
theorem dX3_holds_103 : decode cX3_holds 103 = .ok (.iload 5, 2) := by decide +kernel
theorem dX3_holds_105 : decode cX3_holds 105 = .ok (.bipush 100, 2) := by decide +kernel
theorem dX3_holds_107 : decode cX3_holds 107 = .ok (.irem, 1) := by decide +kernel
theorem dX3_holds_108 : decode cX3_holds 108 = .ok (.istore 8, 2) := by decide +kernel
theorem dX3_holds_110 : decode cX3_holds 110 = .ok (.iload 7, 2) := by decide +kernel
theorem dX3_holds_112 : decode cX3_holds 112 = .ok (.iload 8, 2) := by decide +kernel
theorem dX3_holds_114 : decode cX3_holds 114 = .ok (.if_icmp .ge 7, 3) := by decide +kernel
theorem dX3_holds_117 : decode cX3_holds 117 = .ok (.iconst 0, 1) := by decide +kernel
theorem dX3_holds_118 : decode cX3_holds 118 = .ok (.goto 15, 3) := by decide +kernel
theorem dX3_holds_121 : decode cX3_holds 121 = .ok (.iload 7, 2) := by decide +kernel
theorem dX3_holds_123 : decode cX3_holds 123 = .ok (.iload 8, 2) := by decide +kernel
theorem dX3_holds_125 : decode cX3_holds 125 = .ok (.if_icmp .ne 7, 3) := by decide +kernel
theorem dX3_holds_128 : decode cX3_holds 128 = .ok (.iconst 1, 1) := by decide +kernel
theorem dX3_holds_129 : decode cX3_holds 129 = .ok (.goto 4, 3) := by decide +kernel
theorem dX3_holds_132 : decode cX3_holds 132 = .ok (.iconst 2, 1) := by decide +kernel
theorem dX3_holds_133 : decode cX3_holds 133 = .ok (.istore 9, 2) := by decide +kernel
theorem dX3_holds_135 : decode cX3_holds 135 = .ok (.iload_n 3, 1) := by decide +kernel
theorem dX3_holds_136 : decode cX3_holds 136 = .ok (.iconst 1, 1) := by decide +kernel
theorem dX3_holds_137 : decode cX3_holds 137 = .ok (.ishl, 1) := by decide +kernel
theorem dX3_holds_138 : decode cX3_holds 138 = .ok (.iload 9, 2) := by decide +kernel
theorem dX3_holds_140 : decode cX3_holds 140 = .ok (.iload 5, 2) := by decide +kernel
theorem dX3_holds_142 : decode cX3_holds 142 = .ok (.bipush 100, 2) := by decide +kernel
theorem dX3_holds_144 : decode cX3_holds 144 = .ok (.idiv, 1) := by decide +kernel
theorem dX3_holds_145 : decode cX3_holds 145 = .ok (.iconst 3, 1) := by decide +kernel
theorem dX3_holds_146 : decode cX3_holds 146 = .ok (.irem, 1) := by decide +kernel
theorem dX3_holds_147 : decode cX3_holds 147 = .ok (.if_icmp .ne 7, 3) := by decide +kernel
theorem dX3_holds_150 : decode cX3_holds 150 = .ok (.iconst 1, 1) := by decide +kernel
theorem dX3_holds_151 : decode cX3_holds 151 = .ok (.goto 4, 3) := by decide +kernel
theorem dX3_holds_154 : decode cX3_holds 154 = .ok (.iconst 0, 1) := by decide +kernel
theorem dX3_holds_155 : decode cX3_holds 155 = .ok (.ior, 1) := by decide +kernel
theorem dX3_holds_156 : decode cX3_holds 156 = .ok (.istore_n 3, 1) := by decide +kernel
theorem dX3_holds_157 : decode cX3_holds 157 = .ok (.iinc 4 1, 3) := by decide +kernel
theorem dX3_holds_160 : decode cX3_holds 160 = .ok (.goto (-155), 3) := by decide +kernel
theorem dX3_holds_163 : decode cX3_holds 163 = .ok (.iload_n 3, 1) := by decide +kernel
theorem dX3_holds_164 : decode cX3_holds 164 = .ok (.iconst 1, 1) := by decide +kernel
theorem dX3_holds_165 : decode cX3_holds 165 = .ok (.iand, 1) := by decide +kernel
theorem dX3_holds_166 : decode cX3_holds 166 = .ok (.iconst 1, 1) := by decide +kernel
theorem dX3_holds_167 : decode cX3_holds 167 = .ok (.if_icmp .ne 7, 3) := by decide +kernel
theorem dX3_holds_170 : decode cX3_holds 170 = .ok (.iconst 1, 1) := by decide +kernel
theorem dX3_holds_171 : decode cX3_holds 171 = .ok (.goto 4, 3) := by decide +kernel
theorem dX3_holds_174 : decode cX3_holds 174 = .ok (.iconst 0, 1) := by decide +kernel
theorem dX3_holds_175 : decode cX3_holds 175 = .ok (.ireturn, 1) := by decide +kernel
theorem dX3_fastOf_0 : decode cX3_fastOf 0 = .ok (.iload_n 0, 1) := by decide +kernel
theorem dX3_fastOf_1 : decode cX3_fastOf 1 = .ok (.bipush 127, 2) := by decide +kernel
theorem dX3_fastOf_3 : decode cX3_fastOf 3 = .ok (.iand, 1) := by decide +kernel
theorem dX3_fastOf_4 : decode cX3_fastOf 4 = .ok (.ireturn, 1) := by decide +kernel
theorem dX3_mealOf_0 : decode cX3_mealOf 0 = .ok (.iload_n 0, 1) := by decide +kernel
theorem dX3_mealOf_1 : decode cX3_mealOf 1 = .ok (.bipush 7, 2) := by decide +kernel
theorem dX3_mealOf_3 : decode cX3_mealOf 3 = .ok (.iushr, 1) := by decide +kernel
theorem dX3_mealOf_4 : decode cX3_mealOf 4 = .ok (.sipush 1023, 3) := by decide +kernel
theorem dX3_mealOf_7 : decode cX3_mealOf 7 = .ok (.iand, 1) := by decide +kernel
theorem dX3_mealOf_8 : decode cX3_mealOf 8 = .ok (.ireturn, 1) := by decide +kernel
theorem dX3_gainOf_0 : decode cX3_gainOf 0 = .ok (.iload_n 0, 1) := by decide +kernel
theorem dX3_gainOf_1 : decode cX3_gainOf 1 = .ok (.invokestatic 77, 3) := by decide +kernel
theorem dX3_gainOf_4 : decode cX3_gainOf 4 = .ok (.ifCond .eq 7, 3) := by decide +kernel
theorem dX3_gainOf_7 : decode cX3_gainOf 7 = .ok (.iconst (-1), 1) := by decide +kernel
theorem dX3_gainOf_8 : decode cX3_gainOf 8 = .ok (.goto 7, 3) := by decide +kernel
theorem dX3_gainOf_11 : decode cX3_gainOf 11 = .ok (.iload_n 0, 1) := by decide +kernel
theorem dX3_gainOf_12 : decode cX3_gainOf 12 = .ok (.invokestatic 81, 3) := by decide +kernel
theorem dX3_gainOf_15 : decode cX3_gainOf 15 = .ok (.ireturn, 1) := by decide +kernel
theorem dX3_heatOf_0 : decode cX3_heatOf 0 = .ok (.iload_n 0, 1) := by decide +kernel
theorem dX3_heatOf_1 : decode cX3_heatOf 1 = .ok (.bipush 17, 2) := by decide +kernel
theorem dX3_heatOf_3 : decode cX3_heatOf 3 = .ok (.iushr, 1) := by decide +kernel
theorem dX3_heatOf_4 : decode cX3_heatOf 4 = .ok (.bipush 15, 2) := by decide +kernel
theorem dX3_heatOf_6 : decode cX3_heatOf 6 = .ok (.iand, 1) := by decide +kernel
theorem dX3_heatOf_7 : decode cX3_heatOf 7 = .ok (.ireturn, 1) := by decide +kernel
theorem dX3_dullOf_0 : decode cX3_dullOf 0 = .ok (.iload_n 0, 1) := by decide +kernel
theorem dX3_dullOf_1 : decode cX3_dullOf 1 = .ok (.bipush 21, 2) := by decide +kernel
theorem dX3_dullOf_3 : decode cX3_dullOf 3 = .ok (.iushr, 1) := by decide +kernel
theorem dX3_dullOf_4 : decode cX3_dullOf 4 = .ok (.bipush 15, 2) := by decide +kernel
theorem dX3_dullOf_6 : decode cX3_dullOf 6 = .ok (.iand, 1) := by decide +kernel
theorem dX3_dullOf_7 : decode cX3_dullOf 7 = .ok (.ireturn, 1) := by decide +kernel
theorem dX3_isBurnt_0 : decode cX3_isBurnt 0 = .ok (.iload_n 0, 1) := by decide +kernel
theorem dX3_isBurnt_1 : decode cX3_isBurnt 1 = .ok (.ldc 69, 2) := by decide +kernel
theorem dX3_isBurnt_3 : decode cX3_isBurnt 3 = .ok (.iand, 1) := by decide +kernel
theorem dX3_isBurnt_4 : decode cX3_isBurnt 4 = .ok (.ifCond .eq 7, 3) := by decide +kernel
theorem dX3_isBurnt_7 : decode cX3_isBurnt 7 = .ok (.iconst 1, 1) := by decide +kernel
theorem dX3_isBurnt_8 : decode cX3_isBurnt 8 = .ok (.goto 4, 3) := by decide +kernel
theorem dX3_isBurnt_11 : decode cX3_isBurnt 11 = .ok (.iconst 0, 1) := by decide +kernel
theorem dX3_isBurnt_12 : decode cX3_isBurnt 12 = .ok (.ireturn, 1) := by decide +kernel
theorem dX3_isAway_0 : decode cX3_isAway 0 = .ok (.iload_n 0, 1) := by decide +kernel
theorem dX3_isAway_1 : decode cX3_isAway 1 = .ok (.ldc 54, 2) := by decide +kernel
theorem dX3_isAway_3 : decode cX3_isAway 3 = .ok (.iand, 1) := by decide +kernel
theorem dX3_isAway_4 : decode cX3_isAway 4 = .ok (.ifCond .eq 7, 3) := by decide +kernel
theorem dX3_isAway_7 : decode cX3_isAway 7 = .ok (.iconst 1, 1) := by decide +kernel
theorem dX3_isAway_8 : decode cX3_isAway 8 = .ok (.goto 4, 3) := by decide +kernel
theorem dX3_isAway_11 : decode cX3_isAway 11 = .ok (.iconst 0, 1) := by decide +kernel
theorem dX3_isAway_12 : decode cX3_isAway 12 = .ok (.ireturn, 1) := by decide +kernel
theorem dX4_init_0 : decode cX4_init 0 = .ok (.aload_n 0, 1) := by decide +kernel
theorem dX4_init_1 : decode cX4_init 1 = .ok (.invokespecial 3, 3) := by decide +kernel
theorem dX4_init_4 : decode cX4_init 4 = .ok (.aload_n 0, 1) := by decide +kernel
theorem dX4_init_5 : decode cX4_init 5 = .ok (.bipush 6, 2) := by decide +kernel
theorem dX4_init_7 : decode cX4_init 7 = .ok (.newarray .int, 2) := by decide +kernel
theorem dX4_init_9 : decode cX4_init 9 = .ok (.putfield 11, 3) := by decide +kernel
theorem dX4_init_12 : decode cX4_init 12 = .ok (.aload_n 0, 1) := by decide +kernel
theorem dX4_init_13 : decode cX4_init 13 = .ok (.bipush 6, 2) := by decide +kernel
theorem dX4_init_15 : decode cX4_init 15 = .ok (.newarray .int, 2) := by decide +kernel
theorem dX4_init_17 : decode cX4_init 17 = .ok (.putfield 15, 3) := by decide +kernel
theorem dX4_init_20 : decode cX4_init 20 = .ok (.aload_n 0, 1) := by decide +kernel
theorem dX4_init_21 : decode cX4_init 21 = .ok (.bipush 6, 2) := by decide +kernel
theorem dX4_init_23 : decode cX4_init 23 = .ok (.newarray .int, 2) := by decide +kernel
theorem dX4_init_25 : decode cX4_init 25 = .ok (.putfield 18, 3) := by decide +kernel
theorem dX4_init_28 : decode cX4_init 28 = .ok (.aload_n 0, 1) := by decide +kernel
theorem dX4_init_29 : decode cX4_init 29 = .ok (.bipush 6, 2) := by decide +kernel
theorem dX4_init_31 : decode cX4_init 31 = .ok (.newarray .int, 2) := by decide +kernel
theorem dX4_init_33 : decode cX4_init 33 = .ok (.putfield 21, 3) := by decide +kernel
theorem dX4_init_36 : decode cX4_init 36 = .ok (.return_, 1) := by decide +kernel
theorem dX4_append_0 : decode cX4_append 0 = .ok (.aload_n 0, 1) := by decide +kernel
theorem dX4_append_1 : decode cX4_append 1 = .ok (.getfield 24, 3) := by decide +kernel
theorem dX4_append_4 : decode cX4_append 4 = .ok (.bipush 6, 2) := by decide +kernel
theorem dX4_append_6 : decode cX4_append 6 = .ok (.if_icmp .lt 6, 3) := by decide +kernel
theorem dX4_append_9 : decode cX4_append 9 = .ok (.bipush (-4), 2) := by decide +kernel
theorem dX4_append_11 : decode cX4_append 11 = .ok (.ireturn, 1) := by decide +kernel
theorem dX4_append_12 : decode cX4_append 12 = .ok (.aload_n 0, 1) := by decide +kernel
theorem dX4_append_13 : decode cX4_append 13 = .ok (.getfield 11, 3) := by decide +kernel
theorem dX4_append_16 : decode cX4_append 16 = .ok (.aload_n 0, 1) := by decide +kernel
theorem dX4_append_17 : decode cX4_append 17 = .ok (.getfield 24, 3) := by decide +kernel
theorem dX4_append_20 : decode cX4_append 20 = .ok (.iload_n 1, 1) := by decide +kernel
theorem dX4_append_21 : decode cX4_append 21 = .ok (.iastore, 1) := by decide +kernel
theorem dX4_append_22 : decode cX4_append 22 = .ok (.aload_n 0, 1) := by decide +kernel
theorem dX4_append_23 : decode cX4_append 23 = .ok (.getfield 15, 3) := by decide +kernel
theorem dX4_append_26 : decode cX4_append 26 = .ok (.aload_n 0, 1) := by decide +kernel
theorem dX4_append_27 : decode cX4_append 27 = .ok (.getfield 24, 3) := by decide +kernel
theorem dX4_append_30 : decode cX4_append 30 = .ok (.iload_n 2, 1) := by decide +kernel
theorem dX4_append_31 : decode cX4_append 31 = .ok (.iastore, 1) := by decide +kernel
theorem dX4_append_32 : decode cX4_append 32 = .ok (.aload_n 0, 1) := by decide +kernel
theorem dX4_append_33 : decode cX4_append 33 = .ok (.getfield 18, 3) := by decide +kernel
theorem dX4_append_36 : decode cX4_append 36 = .ok (.aload_n 0, 1) := by decide +kernel
theorem dX4_append_37 : decode cX4_append 37 = .ok (.getfield 24, 3) := by decide +kernel
theorem dX4_append_40 : decode cX4_append 40 = .ok (.iload_n 3, 1) := by decide +kernel
theorem dX4_append_41 : decode cX4_append 41 = .ok (.iastore, 1) := by decide +kernel
theorem dX4_append_42 : decode cX4_append 42 = .ok (.aload_n 0, 1) := by decide +kernel
theorem dX4_append_43 : decode cX4_append 43 = .ok (.getfield 24, 3) := by decide +kernel
theorem dX4_append_46 : decode cX4_append 46 = .ok (.istore 4, 2) := by decide +kernel
theorem dX4_append_48 : decode cX4_append 48 = .ok (.aload_n 0, 1) := by decide +kernel
theorem dX4_append_49 : decode cX4_append 49 = .ok (.getfield 24, 3) := by decide +kernel
theorem dX4_append_52 : decode cX4_append 52 = .ok (.istore 5, 2) := by decide +kernel
theorem dX4_append_54 : decode cX4_append 54 = .ok (.iload 5, 2) := by decide +kernel
theorem dX4_append_56 : decode cX4_append 56 = .ok (.ifCond .le 49, 3) := by decide +kernel
theorem dX4_append_59 : decode cX4_append 59 = .ok (.aload_n 0, 1) := by decide +kernel
theorem dX4_append_60 : decode cX4_append 60 = .ok (.getfield 15, 3) := by decide +kernel
theorem dX4_append_63 : decode cX4_append 63 = .ok (.aload_n 0, 1) := by decide +kernel
theorem dX4_append_64 : decode cX4_append 64 = .ok (.getfield 21, 3) := by decide +kernel
theorem dX4_append_67 : decode cX4_append 67 = .ok (.iload 5, 2) := by decide +kernel
theorem dX4_append_69 : decode cX4_append 69 = .ok (.iconst 1, 1) := by decide +kernel
theorem dX4_append_70 : decode cX4_append 70 = .ok (.isub, 1) := by decide +kernel
theorem dX4_append_71 : decode cX4_append 71 = .ok (.iaload, 1) := by decide +kernel
theorem dX4_append_72 : decode cX4_append 72 = .ok (.iaload, 1) := by decide +kernel
theorem dX4_append_73 : decode cX4_append 73 = .ok (.iload_n 2, 1) := by decide +kernel
theorem dX4_append_74 : decode cX4_append 74 = .ok (.if_icmp .le 31, 3) := by decide +kernel
theorem dX4_append_77 : decode cX4_append 77 = .ok (.aload_n 0, 1) := by decide +kernel
theorem dX4_append_78 : decode cX4_append 78 = .ok (.getfield 21, 3) := by decide +kernel
theorem dX4_append_81 : decode cX4_append 81 = .ok (.iload 5, 2) := by decide +kernel
theorem dX4_append_83 : decode cX4_append 83 = .ok (.aload_n 0, 1) := by decide +kernel
theorem dX4_append_84 : decode cX4_append 84 = .ok (.getfield 21, 3) := by decide +kernel
theorem dX4_append_87 : decode cX4_append 87 = .ok (.iload 5, 2) := by decide +kernel
theorem dX4_append_89 : decode cX4_append 89 = .ok (.iconst 1, 1) := by decide +kernel
theorem dX4_append_90 : decode cX4_append 90 = .ok (.isub, 1) := by decide +kernel
theorem dX4_append_91 : decode cX4_append 91 = .ok (.iaload, 1) := by decide +kernel
theorem dX4_append_92 : decode cX4_append 92 = .ok (.iastore, 1) := by decide +kernel
theorem dX4_append_93 : decode cX4_append 93 = .ok (.iload 5, 2) := by decide +kernel
theorem dX4_append_95 : decode cX4_append 95 = .ok (.iconst 1, 1) := by decide +kernel
theorem dX4_append_96 : decode cX4_append 96 = .ok (.isub, 1) := by decide +kernel
theorem dX4_append_97 : decode cX4_append 97 = .ok (.istore 4, 2) := by decide +kernel
theorem dX4_append_99 : decode cX4_append 99 = .ok (.iinc 5 (-1), 3) := by decide +kernel
theorem dX4_append_102 : decode cX4_append 102 = .ok (.goto (-48), 3) := by decide +kernel
theorem dX4_append_105 : decode cX4_append 105 = .ok (.aload_n 0, 1) := by decide +kernel
theorem dX4_append_106 : decode cX4_append 106 = .ok (.getfield 21, 3) := by decide +kernel
theorem dX4_append_109 : decode cX4_append 109 = .ok (.iload 4, 2) := by decide +kernel
theorem dX4_append_111 : decode cX4_append 111 = .ok (.aload_n 0, 1) := by decide +kernel
theorem dX4_append_112 : decode cX4_append 112 = .ok (.getfield 24, 3) := by decide +kernel
theorem dX4_append_115 : decode cX4_append 115 = .ok (.iastore, 1) := by decide +kernel
theorem dX4_append_116 : decode cX4_append 116 = .ok (.aload_n 0, 1) := by decide +kernel
theorem dX4_append_117 : decode cX4_append 117 = .ok (.dup, 1) := by decide +kernel
theorem dX4_append_118 : decode cX4_append 118 = .ok (.getfield 24, 3) := by decide +kernel
theorem dX4_append_121 : decode cX4_append 121 = .ok (.iconst 1, 1) := by decide +kernel
theorem dX4_append_122 : decode cX4_append 122 = .ok (.iadd, 1) := by decide +kernel
theorem dX4_append_123 : decode cX4_append 123 = .ok (.putfield 24, 3) := by decide +kernel
theorem dX4_append_126 : decode cX4_append 126 = .ok (.aload_n 0, 1) := by decide +kernel
theorem dX4_append_127 : decode cX4_append 127 = .ok (.getfield 24, 3) := by decide +kernel
theorem dX4_append_130 : decode cX4_append 130 = .ok (.iconst 1, 1) := by decide +kernel
theorem dX4_append_131 : decode cX4_append 131 = .ok (.isub, 1) := by decide +kernel
theorem dX4_append_132 : decode cX4_append 132 = .ok (.ireturn, 1) := by decide +kernel
theorem dX4_lateOf_0 : decode cX4_lateOf 0 = .ok (.iconst 0, 1) := by decide +kernel
theorem dX4_lateOf_1 : decode cX4_lateOf 1 = .ok (.istore_n 2, 1) := by decide +kernel
theorem dX4_lateOf_2 : decode cX4_lateOf 2 = .ok (.iconst 0, 1) := by decide +kernel
theorem dX4_lateOf_3 : decode cX4_lateOf 3 = .ok (.istore_n 3, 1) := by decide +kernel
theorem dX4_lateOf_4 : decode cX4_lateOf 4 = .ok (.iconst 0, 1) := by decide +kernel
theorem dX4_lateOf_5 : decode cX4_lateOf 5 = .ok (.istore 4, 2) := by decide +kernel
theorem dX4_lateOf_7 : decode cX4_lateOf 7 = .ok (.iload 4, 2) := by decide +kernel
theorem dX4_lateOf_9 : decode cX4_lateOf 9 = .ok (.aload_n 0, 1) := by decide +kernel
theorem dX4_lateOf_10 : decode cX4_lateOf 10 = .ok (.getfield 24, 3) := by decide +kernel
theorem dX4_lateOf_13 : decode cX4_lateOf 13 = .ok (.if_icmp .ge 56, 3) := by decide +kernel
theorem dX4_lateOf_16 : decode cX4_lateOf 16 = .ok (.aload_n 0, 1) := by decide +kernel
theorem dX4_lateOf_17 : decode cX4_lateOf 17 = .ok (.getfield 21, 3) := by decide +kernel
theorem dX4_lateOf_20 : decode cX4_lateOf 20 = .ok (.iload 4, 2) := by decide +kernel
theorem dX4_lateOf_22 : decode cX4_lateOf 22 = .ok (.iaload, 1) := by decide +kernel
theorem dX4_lateOf_23 : decode cX4_lateOf 23 = .ok (.istore 5, 2) := by decide +kernel
theorem dX4_lateOf_25 : decode cX4_lateOf 25 = .ok (.iload_n 1, 1) := by decide +kernel
theorem dX4_lateOf_26 : decode cX4_lateOf 26 = .ok (.iload 5, 2) := by decide +kernel
theorem dX4_lateOf_28 : decode cX4_lateOf 28 = .ok (.ishr, 1) := by decide +kernel
theorem dX4_lateOf_29 : decode cX4_lateOf 29 = .ok (.iconst 1, 1) := by decide +kernel
theorem dX4_lateOf_30 : decode cX4_lateOf 30 = .ok (.iand, 1) := by decide +kernel
theorem dX4_lateOf_31 : decode cX4_lateOf 31 = .ok (.iconst 1, 1) := by decide +kernel
theorem dX4_lateOf_32 : decode cX4_lateOf 32 = .ok (.if_icmp .ne 31, 3) := by decide +kernel
theorem dX4_lateOf_35 : decode cX4_lateOf 35 = .ok (.iload_n 3, 1) := by decide +kernel
theorem dX4_lateOf_36 : decode cX4_lateOf 36 = .ok (.aload_n 0, 1) := by decide +kernel
theorem dX4_lateOf_37 : decode cX4_lateOf 37 = .ok (.getfield 11, 3) := by decide +kernel
theorem dX4_lateOf_40 : decode cX4_lateOf 40 = .ok (.iload 5, 2) := by decide +kernel
theorem dX4_lateOf_42 : decode cX4_lateOf 42 = .ok (.iaload, 1) := by decide +kernel
theorem dX4_lateOf_43 : decode cX4_lateOf 43 = .ok (.iadd, 1) := by decide +kernel
theorem dX4_lateOf_44 : decode cX4_lateOf 44 = .ok (.istore_n 3, 1) := by decide +kernel
theorem dX4_lateOf_45 : decode cX4_lateOf 45 = .ok (.iload_n 3, 1) := by decide +kernel
theorem dX4_lateOf_46 : decode cX4_lateOf 46 = .ok (.aload_n 0, 1) := by decide +kernel
theorem dX4_lateOf_47 : decode cX4_lateOf 47 = .ok (.getfield 15, 3) := by decide +kernel
theorem dX4_lateOf_50 : decode cX4_lateOf 50 = .ok (.iload 5, 2) := by decide +kernel
theorem dX4_lateOf_52 : decode cX4_lateOf 52 = .ok (.iaload, 1) := by decide +kernel
theorem dX4_lateOf_53 : decode cX4_lateOf 53 = .ok (.if_icmp .le 10, 3) := by decide +kernel
theorem dX4_lateOf_56 : decode cX4_lateOf 56 = .ok (.iload_n 2, 1) := by decide +kernel
theorem dX4_lateOf_57 : decode cX4_lateOf 57 = .ok (.iconst 1, 1) := by decide +kernel
theorem dX4_lateOf_58 : decode cX4_lateOf 58 = .ok (.iload 5, 2) := by decide +kernel
theorem dX4_lateOf_60 : decode cX4_lateOf 60 = .ok (.ishl, 1) := by decide +kernel
theorem dX4_lateOf_61 : decode cX4_lateOf 61 = .ok (.ior, 1) := by decide +kernel
theorem dX4_lateOf_62 : decode cX4_lateOf 62 = .ok (.istore_n 2, 1) := by decide +kernel
theorem dX4_lateOf_63 : decode cX4_lateOf 63 = .ok (.iinc 4 1, 3) := by decide +kernel
theorem dX4_lateOf_66 : decode cX4_lateOf 66 = .ok (.goto (-59), 3) := by decide +kernel
theorem dX4_lateOf_69 : decode cX4_lateOf 69 = .ok (.iload_n 2, 1) := by decide +kernel
theorem dX4_lateOf_70 : decode cX4_lateOf 70 = .ok (.ireturn, 1) := by decide +kernel
theorem dX4_dearest_0 : decode cX4_dearest 0 = .ok (.iconst 0, 1) := by decide +kernel
theorem dX4_dearest_1 : decode cX4_dearest 1 = .ok (.istore_n 1, 1) := by decide +kernel
theorem dX4_dearest_2 : decode cX4_dearest 2 = .ok (.iconst 0, 1) := by decide +kernel
theorem dX4_dearest_3 : decode cX4_dearest 3 = .ok (.istore_n 2, 1) := by decide +kernel
theorem dX4_dearest_4 : decode cX4_dearest 4 = .ok (.iconst 0, 1) := by decide +kernel
theorem dX4_dearest_5 : decode cX4_dearest 5 = .ok (.istore_n 3, 1) := by decide +kernel
theorem dX4_dearest_6 : decode cX4_dearest 6 = .ok (.iload_n 3, 1) := by decide +kernel
theorem dX4_dearest_7 : decode cX4_dearest 7 = .ok (.iconst 1, 1) := by decide +kernel
theorem dX4_dearest_8 : decode cX4_dearest 8 = .ok (.aload_n 0, 1) := by decide +kernel
theorem dX4_dearest_9 : decode cX4_dearest 9 = .ok (.getfield 24, 3) := by decide +kernel
theorem dX4_dearest_12 : decode cX4_dearest 12 = .ok (.ishl, 1) := by decide +kernel
theorem dX4_dearest_13 : decode cX4_dearest 13 = .ok (.if_icmp .ge 35, 3) := by decide +kernel
theorem dX4_dearest_16 : decode cX4_dearest 16 = .ok (.aload_n 0, 1) := by decide +kernel
theorem dX4_dearest_17 : decode cX4_dearest 17 = .ok (.iload_n 3, 1) := by decide +kernel
theorem dX4_dearest_18 : decode cX4_dearest 18 = .ok (.invokevirtual 28, 3) := by decide +kernel
theorem dX4_dearest_21 : decode cX4_dearest 21 = .ok (.istore 4, 2) := by decide +kernel
theorem dX4_dearest_23 : decode cX4_dearest 23 = .ok (.iload 4, 2) := by decide +kernel
theorem dX4_dearest_25 : decode cX4_dearest 25 = .ok (.iload_n 1, 1) := by decide +kernel
theorem dX4_dearest_26 : decode cX4_dearest 26 = .ok (.if_icmp .le 16, 3) := by decide +kernel
theorem dX4_dearest_29 : decode cX4_dearest 29 = .ok (.aload_n 0, 1) := by decide +kernel
theorem dX4_dearest_30 : decode cX4_dearest 30 = .ok (.iload_n 3, 1) := by decide +kernel
theorem dX4_dearest_31 : decode cX4_dearest 31 = .ok (.invokevirtual 32, 3) := by decide +kernel
theorem dX4_dearest_34 : decode cX4_dearest 34 = .ok (.ifCond .ne 8, 3) := by decide +kernel
theorem dX4_dearest_37 : decode cX4_dearest 37 = .ok (.iload 4, 2) := by decide +kernel
theorem dX4_dearest_39 : decode cX4_dearest 39 = .ok (.istore_n 1, 1) := by decide +kernel
theorem dX4_dearest_40 : decode cX4_dearest 40 = .ok (.iload_n 3, 1) := by decide +kernel
theorem dX4_dearest_41 : decode cX4_dearest 41 = .ok (.istore_n 2, 1) := by decide +kernel
theorem dX4_dearest_42 : decode cX4_dearest 42 = .ok (.iinc 3 1, 3) := by decide +kernel
theorem dX4_dearest_45 : decode cX4_dearest 45 = .ok (.goto (-39), 3) := by decide +kernel
theorem dX4_dearest_48 : decode cX4_dearest 48 = .ok (.iload_n 2, 1) := by decide +kernel
theorem dX4_dearest_49 : decode cX4_dearest 49 = .ok (.ireturn, 1) := by decide +kernel
theorem dX4_priceOf_0 : decode cX4_priceOf 0 = .ok (.iconst 0, 1) := by decide +kernel
theorem dX4_priceOf_1 : decode cX4_priceOf 1 = .ok (.istore_n 2, 1) := by decide +kernel
theorem dX4_priceOf_2 : decode cX4_priceOf 2 = .ok (.iconst 0, 1) := by decide +kernel
theorem dX4_priceOf_3 : decode cX4_priceOf 3 = .ok (.istore_n 3, 1) := by decide +kernel
theorem dX4_priceOf_4 : decode cX4_priceOf 4 = .ok (.iload_n 3, 1) := by decide +kernel
theorem dX4_priceOf_5 : decode cX4_priceOf 5 = .ok (.aload_n 0, 1) := by decide +kernel
theorem dX4_priceOf_6 : decode cX4_priceOf 6 = .ok (.getfield 24, 3) := by decide +kernel
theorem dX4_priceOf_9 : decode cX4_priceOf 9 = .ok (.if_icmp .ge 27, 3) := by decide +kernel
theorem dX4_priceOf_12 : decode cX4_priceOf 12 = .ok (.iload_n 1, 1) := by decide +kernel
theorem dX4_priceOf_13 : decode cX4_priceOf 13 = .ok (.iload_n 3, 1) := by decide +kernel
theorem dX4_priceOf_14 : decode cX4_priceOf 14 = .ok (.ishr, 1) := by decide +kernel
theorem dX4_priceOf_15 : decode cX4_priceOf 15 = .ok (.iconst 1, 1) := by decide +kernel
theorem dX4_priceOf_16 : decode cX4_priceOf 16 = .ok (.iand, 1) := by decide +kernel
theorem dX4_priceOf_17 : decode cX4_priceOf 17 = .ok (.iconst 1, 1) := by decide +kernel
theorem dX4_priceOf_18 : decode cX4_priceOf 18 = .ok (.if_icmp .ne 12, 3) := by decide +kernel
theorem dX4_priceOf_21 : decode cX4_priceOf 21 = .ok (.iload_n 2, 1) := by decide +kernel
theorem dX4_priceOf_22 : decode cX4_priceOf 22 = .ok (.aload_n 0, 1) := by decide +kernel
theorem dX4_priceOf_23 : decode cX4_priceOf 23 = .ok (.getfield 18, 3) := by decide +kernel
theorem dX4_priceOf_26 : decode cX4_priceOf 26 = .ok (.iload_n 3, 1) := by decide +kernel
theorem dX4_priceOf_27 : decode cX4_priceOf 27 = .ok (.iaload, 1) := by decide +kernel
theorem dX4_priceOf_28 : decode cX4_priceOf 28 = .ok (.iadd, 1) := by decide +kernel
theorem dX4_priceOf_29 : decode cX4_priceOf 29 = .ok (.istore_n 2, 1) := by decide +kernel
theorem dX4_priceOf_30 : decode cX4_priceOf 30 = .ok (.iinc 3 1, 3) := by decide +kernel
theorem dX4_priceOf_33 : decode cX4_priceOf 33 = .ok (.goto (-29), 3) := by decide +kernel
theorem dX4_priceOf_36 : decode cX4_priceOf 36 = .ok (.iload_n 2, 1) := by decide +kernel
theorem dX4_priceOf_37 : decode cX4_priceOf 37 = .ok (.ireturn, 1) := by decide +kernel
theorem dX4_copyFrom_0 : decode cX4_copyFrom 0 = .ok (.aload_n 1, 1) := by decide +kernel
theorem dX4_copyFrom_1 : decode cX4_copyFrom 1 = .ok (.getfield 11, 3) := by decide +kernel
theorem dX4_copyFrom_4 : decode cX4_copyFrom 4 = .ok (.iconst 0, 1) := by decide +kernel
theorem dX4_copyFrom_5 : decode cX4_copyFrom 5 = .ok (.aload_n 0, 1) := by decide +kernel
theorem dX4_copyFrom_6 : decode cX4_copyFrom 6 = .ok (.getfield 11, 3) := by decide +kernel
theorem dX4_copyFrom_9 : decode cX4_copyFrom 9 = .ok (.iconst 0, 1) := by decide +kernel
theorem dX4_copyFrom_10 : decode cX4_copyFrom 10 = .ok (.bipush 6, 2) := by decide +kernel
theorem dX4_copyFrom_12 : decode cX4_copyFrom 12 = .ok (.invokestatic 35, 3) := by decide +kernel
theorem dX4_copyFrom_15 : decode cX4_copyFrom 15 = .ok (.aload_n 1, 1) := by decide +kernel
theorem dX4_copyFrom_16 : decode cX4_copyFrom 16 = .ok (.getfield 15, 3) := by decide +kernel
theorem dX4_copyFrom_19 : decode cX4_copyFrom 19 = .ok (.iconst 0, 1) := by decide +kernel
theorem dX4_copyFrom_20 : decode cX4_copyFrom 20 = .ok (.aload_n 0, 1) := by decide +kernel
theorem dX4_copyFrom_21 : decode cX4_copyFrom 21 = .ok (.getfield 15, 3) := by decide +kernel
theorem dX4_copyFrom_24 : decode cX4_copyFrom 24 = .ok (.iconst 0, 1) := by decide +kernel
theorem dX4_copyFrom_25 : decode cX4_copyFrom 25 = .ok (.bipush 6, 2) := by decide +kernel
theorem dX4_copyFrom_27 : decode cX4_copyFrom 27 = .ok (.invokestatic 35, 3) := by decide +kernel
theorem dX4_copyFrom_30 : decode cX4_copyFrom 30 = .ok (.aload_n 1, 1) := by decide +kernel
theorem dX4_copyFrom_31 : decode cX4_copyFrom 31 = .ok (.getfield 18, 3) := by decide +kernel
theorem dX4_copyFrom_34 : decode cX4_copyFrom 34 = .ok (.iconst 0, 1) := by decide +kernel
theorem dX4_copyFrom_35 : decode cX4_copyFrom 35 = .ok (.aload_n 0, 1) := by decide +kernel
theorem dX4_copyFrom_36 : decode cX4_copyFrom 36 = .ok (.getfield 18, 3) := by decide +kernel
theorem dX4_copyFrom_39 : decode cX4_copyFrom 39 = .ok (.iconst 0, 1) := by decide +kernel
theorem dX4_copyFrom_40 : decode cX4_copyFrom 40 = .ok (.bipush 6, 2) := by decide +kernel
theorem dX4_copyFrom_42 : decode cX4_copyFrom 42 = .ok (.invokestatic 35, 3) := by decide +kernel
theorem dX4_copyFrom_45 : decode cX4_copyFrom 45 = .ok (.aload_n 1, 1) := by decide +kernel
theorem dX4_copyFrom_46 : decode cX4_copyFrom 46 = .ok (.getfield 21, 3) := by decide +kernel
theorem dX4_copyFrom_49 : decode cX4_copyFrom 49 = .ok (.iconst 0, 1) := by decide +kernel
theorem dX4_copyFrom_50 : decode cX4_copyFrom 50 = .ok (.aload_n 0, 1) := by decide +kernel
theorem dX4_copyFrom_51 : decode cX4_copyFrom 51 = .ok (.getfield 21, 3) := by decide +kernel
theorem dX4_copyFrom_54 : decode cX4_copyFrom 54 = .ok (.iconst 0, 1) := by decide +kernel
theorem dX4_copyFrom_55 : decode cX4_copyFrom 55 = .ok (.bipush 6, 2) := by decide +kernel
theorem dX4_copyFrom_57 : decode cX4_copyFrom 57 = .ok (.invokestatic 35, 3) := by decide +kernel
theorem dX4_copyFrom_60 : decode cX4_copyFrom 60 = .ok (.aload_n 0, 1) := by decide +kernel
theorem dX4_copyFrom_61 : decode cX4_copyFrom 61 = .ok (.aload_n 1, 1) := by decide +kernel
theorem dX4_copyFrom_62 : decode cX4_copyFrom 62 = .ok (.getfield 24, 3) := by decide +kernel
theorem dX4_copyFrom_65 : decode cX4_copyFrom 65 = .ok (.putfield 24, 3) := by decide +kernel
theorem dX4_copyFrom_68 : decode cX4_copyFrom 68 = .ok (.return_, 1) := by decide +kernel
theorem dX5_init_0 : decode cX5_init 0 = .ok (.aload_n 0, 1) := by decide +kernel
theorem dX5_init_1 : decode cX5_init 1 = .ok (.invokespecial 3, 3) := by decide +kernel
theorem dX5_init_4 : decode cX5_init 4 = .ok (.aload_n 0, 1) := by decide +kernel
theorem dX5_init_5 : decode cX5_init 5 = .ok (.sipush 4200, 3) := by decide +kernel
theorem dX5_init_8 : decode cX5_init 8 = .ok (.newarray .int, 2) := by decide +kernel
theorem dX5_init_10 : decode cX5_init 10 = .ok (.putfield 11, 3) := by decide +kernel
theorem dX5_init_13 : decode cX5_init 13 = .ok (.aload_n 0, 1) := by decide +kernel
theorem dX5_init_14 : decode cX5_init 14 = .ok (.aload_n 0, 1) := by decide +kernel
theorem dX5_init_15 : decode cX5_init 15 = .ok (.getfield 11, 3) := by decide +kernel
theorem dX5_init_18 : decode cX5_init 18 = .ok (.arraylength, 1) := by decide +kernel
theorem dX5_init_19 : decode cX5_init 19 = .ok (.newarray .int, 2) := by decide +kernel
theorem dX5_init_21 : decode cX5_init 21 = .ok (.putfield 15, 3) := by decide +kernel
theorem dX5_init_24 : decode cX5_init 24 = .ok (.aload_n 0, 1) := by decide +kernel
theorem dX5_init_25 : decode cX5_init 25 = .ok (.sipush 21600, 3) := by decide +kernel
theorem dX5_init_28 : decode cX5_init 28 = .ok (.newarray .int, 2) := by decide +kernel
theorem dX5_init_30 : decode cX5_init 30 = .ok (.putfield 18, 3) := by decide +kernel
theorem dX5_init_33 : decode cX5_init 33 = .ok (.aload_n 0, 1) := by decide +kernel
theorem dX5_init_34 : decode cX5_init 34 = .ok (.aload_n 0, 1) := by decide +kernel
theorem dX5_init_35 : decode cX5_init 35 = .ok (.getfield 18, 3) := by decide +kernel
theorem dX5_init_38 : decode cX5_init 38 = .ok (.arraylength, 1) := by decide +kernel
theorem dX5_init_39 : decode cX5_init 39 = .ok (.newarray .int, 2) := by decide +kernel
theorem dX5_init_41 : decode cX5_init 41 = .ok (.putfield 21, 3) := by decide +kernel
theorem dX5_init_44 : decode cX5_init 44 = .ok (.aload_n 0, 1) := by decide +kernel
theorem dX5_init_45 : decode cX5_init 45 = .ok (.iconst 1, 1) := by decide +kernel
theorem dX5_init_46 : decode cX5_init 46 = .ok (.putfield 24, 3) := by decide +kernel
theorem dX5_init_49 : decode cX5_init 49 = .ok (.aload_n 0, 1) := by decide +kernel
theorem dX5_init_50 : decode cX5_init 50 = .ok (.iconst 1, 1) := by decide +kernel
theorem dX5_init_51 : decode cX5_init 51 = .ok (.putfield 28, 3) := by decide +kernel
theorem dX5_init_54 : decode cX5_init 54 = .ok (.return_, 1) := by decide +kernel
theorem dX5_forget_0 : decode cX5_forget 0 = .ok (.aload_n 0, 1) := by decide +kernel
theorem dX5_forget_1 : decode cX5_forget 1 = .ok (.dup, 1) := by decide +kernel
theorem dX5_forget_2 : decode cX5_forget 2 = .ok (.getfield 24, 3) := by decide +kernel
theorem dX5_forget_5 : decode cX5_forget 5 = .ok (.iconst 1, 1) := by decide +kernel
theorem dX5_forget_6 : decode cX5_forget 6 = .ok (.iadd, 1) := by decide +kernel
theorem dX5_forget_7 : decode cX5_forget 7 = .ok (.putfield 24, 3) := by decide +kernel
theorem dX5_forget_10 : decode cX5_forget 10 = .ok (.return_, 1) := by decide +kernel
theorem dX5_begin_0 : decode cX5_begin 0 = .ok (.aload_n 0, 1) := by decide +kernel
theorem dX5_begin_1 : decode cX5_begin 1 = .ok (.aload_n 1, 1) := by decide +kernel
theorem dX5_begin_2 : decode cX5_begin 2 = .ok (.putfield 31, 3) := by decide +kernel
theorem dX5_begin_5 : decode cX5_begin 5 = .ok (.aload_n 0, 1) := by decide +kernel
theorem dX5_begin_6 : decode cX5_begin 6 = .ok (.aload_n 2, 1) := by decide +kernel
theorem dX5_begin_7 : decode cX5_begin 7 = .ok (.putfield 35, 3) := by decide +kernel
theorem dX5_begin_10 : decode cX5_begin 10 = .ok (.return_, 1) := by decide +kernel
theorem dX5_followRule_0 : decode cX5_followRule 0 = .ok (.aload_n 0, 1) := by decide +kernel
theorem dX5_followRule_1 : decode cX5_followRule 1 = .ok (.aload_n 1, 1) := by decide +kernel
theorem dX5_followRule_2 : decode cX5_followRule 2 = .ok (.putfield 39, 3) := by decide +kernel
theorem dX5_followRule_5 : decode cX5_followRule 5 = .ok (.aload_n 0, 1) := by decide +kernel
theorem dX5_followRule_6 : decode cX5_followRule 6 = .ok (.iload_n 2, 1) := by decide +kernel
theorem dX5_followRule_7 : decode cX5_followRule 7 = .ok (.putfield 43, 3) := by decide +kernel
theorem dX5_followRule_10 : decode cX5_followRule 10 = .ok (.aload_n 0, 1) := by decide +kernel
theorem dX5_followRule_11 : decode cX5_followRule 11 = .ok (.aload_n 1, 1) := by decide +kernel
theorem dX5_followRule_12 : decode cX5_followRule 12 = .ok (.getfield 46, 3) := by decide +kernel
theorem dX5_followRule_15 : decode cX5_followRule 15 = .ok (.iload_n 2, 1) := by decide +kernel
theorem dX5_followRule_16 : decode cX5_followRule 16 = .ok (.iaload, 1) := by decide +kernel
theorem dX5_followRule_17 : decode cX5_followRule 17 = .ok (.putfield 51, 3) := by decide +kernel
theorem dX5_followRule_20 : decode cX5_followRule 20 = .ok (.aload_n 0, 1) := by decide +kernel
theorem dX5_followRule_21 : decode cX5_followRule 21 = .ok (.aload_n 1, 1) := by decide +kernel
theorem dX5_followRule_22 : decode cX5_followRule 22 = .ok (.getfield 54, 3) := by decide +kernel
theorem dX5_followRule_25 : decode cX5_followRule 25 = .ok (.iload_n 2, 1) := by decide +kernel
theorem dX5_followRule_26 : decode cX5_followRule 26 = .ok (.iaload, 1) := by decide +kernel
theorem dX5_followRule_27 : decode cX5_followRule 27 = .ok (.putfield 57, 3) := by decide +kernel
theorem dX5_followRule_30 : decode cX5_followRule 30 = .ok (.return_, 1) := by decide +kernel
theorem dX5_followKind_0 : decode cX5_followKind 0 = .ok (.aload_n 0, 1) := by decide +kernel
theorem dX5_followKind_1 : decode cX5_followKind 1 = .ok (.iload_n 1, 1) := by decide +kernel
theorem dX5_followKind_2 : decode cX5_followKind 2 = .ok (.putfield 51, 3) := by decide +kernel
theorem dX5_followKind_5 : decode cX5_followKind 5 = .ok (.aload_n 0, 1) := by decide +kernel
theorem dX5_followKind_6 : decode cX5_followKind 6 = .ok (.iload_n 2, 1) := by decide +kernel
theorem dX5_followKind_7 : decode cX5_followKind 7 = .ok (.putfield 57, 3) := by decide +kernel
theorem dX5_followKind_10 : decode cX5_followKind 10 = .ok (.return_, 1) := by decide +kernel
theorem dX5_settingAt_0 : decode cX5_settingAt 0 = .ok (.iload_n 2, 1) := by decide +kernel
theorem dX5_settingAt_1 : decode cX5_settingAt 1 = .ok (.iconst 3, 1) := by decide +kernel
theorem dX5_settingAt_2 : decode cX5_settingAt 2 = .ok (.invokestatic 60, 3) := by decide +kernel
theorem dX5_settingAt_5 : decode cX5_settingAt 5 = .ok (.istore 7, 2) := by decide +kernel
theorem dX5_settingAt_7 : decode cX5_settingAt 7 = .ok (.aload_n 0, 1) := by decide +kernel
theorem dX5_settingAt_8 : decode cX5_settingAt 8 = .ok (.getfield 51, 3) := by decide +kernel
theorem dX5_settingAt_11 : decode cX5_settingAt 11 = .ok (.tableswitch 134 1 6 #[37, 42, 70, 83, 98, 121], 37) := by decide +kernel
theorem dX5_settingAt_48 : decode cX5_settingAt 48 = .ok (.aload_n 0, 1) := by decide +kernel
theorem dX5_settingAt_49 : decode cX5_settingAt 49 = .ok (.getfield 57, 3) := by decide +kernel
theorem dX5_settingAt_52 : decode cX5_settingAt 52 = .ok (.ireturn, 1) := by decide +kernel
theorem dX5_settingAt_53 : decode cX5_settingAt 53 = .ok (.aload_n 0, 1) := by decide +kernel
theorem dX5_settingAt_54 : decode cX5_settingAt 54 = .ok (.iload 4, 2) := by decide +kernel
theorem dX5_settingAt_56 : decode cX5_settingAt 56 = .ok (.iload 5, 2) := by decide +kernel
theorem dX5_settingAt_58 : decode cX5_settingAt 58 = .ok (.iload 6, 2) := by decide +kernel
theorem dX5_settingAt_60 : decode cX5_settingAt 60 = .ok (.aload_n 0, 1) := by decide +kernel
theorem dX5_settingAt_61 : decode cX5_settingAt 61 = .ok (.getfield 57, 3) := by decide +kernel
theorem dX5_settingAt_64 : decode cX5_settingAt 64 = .ok (.iconst 2, 1) := by decide +kernel
theorem dX5_settingAt_65 : decode cX5_settingAt 65 = .ok (.irem, 1) := by decide +kernel
theorem dX5_settingAt_66 : decode cX5_settingAt 66 = .ok (.ifCond .ne 8, 3) := by decide +kernel
theorem dX5_settingAt_69 : decode cX5_settingAt 69 = .ok (.bipush 85, 2) := by decide +kernel
theorem dX5_settingAt_71 : decode cX5_settingAt 71 = .ok (.goto 6, 3) := by decide +kernel
theorem dX5_settingAt_74 : decode cX5_settingAt 74 = .ok (.sipush 170, 3) := by decide +kernel
theorem dX5_settingAt_77 : decode cX5_settingAt 77 = .ok (.invokevirtual 66, 3) := by decide +kernel
theorem dX5_settingAt_80 : decode cX5_settingAt 80 = .ok (.ireturn, 1) := by decide +kernel
theorem dX5_settingAt_81 : decode cX5_settingAt 81 = .ok (.aload_n 0, 1) := by decide +kernel
theorem dX5_settingAt_82 : decode cX5_settingAt 82 = .ok (.iload_n 3, 1) := by decide +kernel
theorem dX5_settingAt_83 : decode cX5_settingAt 83 = .ok (.iload 5, 2) := by decide +kernel
theorem dX5_settingAt_85 : decode cX5_settingAt 85 = .ok (.iload 6, 2) := by decide +kernel
theorem dX5_settingAt_87 : decode cX5_settingAt 87 = .ok (.sipush 255, 3) := by decide +kernel
theorem dX5_settingAt_90 : decode cX5_settingAt 90 = .ok (.invokevirtual 66, 3) := by decide +kernel
theorem dX5_settingAt_93 : decode cX5_settingAt 93 = .ok (.ireturn, 1) := by decide +kernel
theorem dX5_settingAt_94 : decode cX5_settingAt 94 = .ok (.aload_n 0, 1) := by decide +kernel
theorem dX5_settingAt_95 : decode cX5_settingAt 95 = .ok (.iload 7, 2) := by decide +kernel
theorem dX5_settingAt_97 : decode cX5_settingAt 97 = .ok (.iload_n 3, 1) := by decide +kernel
theorem dX5_settingAt_98 : decode cX5_settingAt 98 = .ok (.iload 5, 2) := by decide +kernel
theorem dX5_settingAt_100 : decode cX5_settingAt 100 = .ok (.iload 6, 2) := by decide +kernel
theorem dX5_settingAt_102 : decode cX5_settingAt 102 = .ok (.invokevirtual 70, 3) := by decide +kernel
theorem dX5_settingAt_105 : decode cX5_settingAt 105 = .ok (.bipush 8, 2) := by decide +kernel
theorem dX5_settingAt_107 : decode cX5_settingAt 107 = .ok (.irem, 1) := by decide +kernel
theorem dX5_settingAt_108 : decode cX5_settingAt 108 = .ok (.ireturn, 1) := by decide +kernel
theorem dX5_settingAt_109 : decode cX5_settingAt 109 = .ok (.aload_n 0, 1) := by decide +kernel
theorem dX5_settingAt_110 : decode cX5_settingAt 110 = .ok (.iload 7, 2) := by decide +kernel
theorem dX5_settingAt_112 : decode cX5_settingAt 112 = .ok (.iload_n 3, 1) := by decide +kernel
theorem dX5_settingAt_113 : decode cX5_settingAt 113 = .ok (.iload 5, 2) := by decide +kernel
theorem dX5_settingAt_115 : decode cX5_settingAt 115 = .ok (.iload 6, 2) := by decide +kernel
theorem dX5_settingAt_117 : decode cX5_settingAt 117 = .ok (.aload_n 0, 1) := by decide +kernel
theorem dX5_settingAt_118 : decode cX5_settingAt 118 = .ok (.iload 5, 2) := by decide +kernel
theorem dX5_settingAt_120 : decode cX5_settingAt 120 = .ok (.iload 6, 2) := by decide +kernel
theorem dX5_settingAt_122 : decode cX5_settingAt 122 = .ok (.invokevirtual 73, 3) := by decide +kernel
theorem dX5_settingAt_125 : decode cX5_settingAt 125 = .ok (.invokevirtual 76, 3) := by decide +kernel
theorem dX5_settingAt_128 : decode cX5_settingAt 128 = .ok (.bipush 8, 2) := by decide +kernel
theorem dX5_settingAt_130 : decode cX5_settingAt 130 = .ok (.irem, 1) := by decide +kernel
theorem dX5_settingAt_131 : decode cX5_settingAt 131 = .ok (.ireturn, 1) := by decide +kernel
theorem dX5_settingAt_132 : decode cX5_settingAt 132 = .ok (.aload_n 0, 1) := by decide +kernel
theorem dX5_settingAt_133 : decode cX5_settingAt 133 = .ok (.getfield 39, 3) := by decide +kernel
theorem dX5_settingAt_136 : decode cX5_settingAt 136 = .ok (.aload_n 0, 1) := by decide +kernel
theorem dX5_settingAt_137 : decode cX5_settingAt 137 = .ok (.getfield 43, 3) := by decide +kernel
theorem dX5_settingAt_140 : decode cX5_settingAt 140 = .ok (.iload_n 1, 1) := by decide +kernel
theorem dX5_settingAt_141 : decode cX5_settingAt 141 = .ok (.invokevirtual 80, 3) := by decide +kernel
theorem dX5_settingAt_144 : decode cX5_settingAt 144 = .ok (.ireturn, 1) := by decide +kernel
theorem dX5_settingAt_145 : decode cX5_settingAt 145 = .ok (.iconst 0, 1) := by decide +kernel
theorem dX5_settingAt_146 : decode cX5_settingAt 146 = .ok (.ireturn, 1) := by decide +kernel
theorem dX5_mostMeal_0 : decode cX5_mostMeal 0 = .ok (.iconst (-1), 1) := by decide +kernel
theorem dX5_mostMeal_1 : decode cX5_mostMeal 1 = .ok (.istore 5, 2) := by decide +kernel
theorem dX5_mostMeal_3 : decode cX5_mostMeal 3 = .ok (.iconst 0, 1) := by decide +kernel
theorem dX5_mostMeal_4 : decode cX5_mostMeal 4 = .ok (.istore 6, 2) := by decide +kernel
theorem dX5_mostMeal_6 : decode cX5_mostMeal 6 = .ok (.iconst 0, 1) := by decide +kernel
theorem dX5_mostMeal_7 : decode cX5_mostMeal 7 = .ok (.istore 7, 2) := by decide +kernel
theorem dX5_mostMeal_9 : decode cX5_mostMeal 9 = .ok (.iload 7, 2) := by decide +kernel
theorem dX5_mostMeal_11 : decode cX5_mostMeal 11 = .ok (.bipush 8, 2) := by decide +kernel
theorem dX5_mostMeal_13 : decode cX5_mostMeal 13 = .ok (.if_icmp .ge 83, 3) := by decide +kernel
theorem dX5_mostMeal_16 : decode cX5_mostMeal 16 = .ok (.aload_n 0, 1) := by decide +kernel
theorem dX5_mostMeal_17 : decode cX5_mostMeal 17 = .ok (.getfield 31, 3) := by decide +kernel
theorem dX5_mostMeal_20 : decode cX5_mostMeal 20 = .ok (.iload_n 1, 1) := by decide +kernel
theorem dX5_mostMeal_21 : decode cX5_mostMeal 21 = .ok (.iload 7, 2) := by decide +kernel
theorem dX5_mostMeal_23 : decode cX5_mostMeal 23 = .ok (.iload_n 2, 1) := by decide +kernel
theorem dX5_mostMeal_24 : decode cX5_mostMeal 24 = .ok (.iload_n 3, 1) := by decide +kernel
theorem dX5_mostMeal_25 : decode cX5_mostMeal 25 = .ok (.invokevirtual 83, 3) := by decide +kernel
theorem dX5_mostMeal_28 : decode cX5_mostMeal 28 = .ok (.istore 8, 2) := by decide +kernel
theorem dX5_mostMeal_30 : decode cX5_mostMeal 30 = .ok (.iload 4, 2) := by decide +kernel
theorem dX5_mostMeal_32 : decode cX5_mostMeal 32 = .ok (.iload 7, 2) := by decide +kernel
theorem dX5_mostMeal_34 : decode cX5_mostMeal 34 = .ok (.ishr, 1) := by decide +kernel
theorem dX5_mostMeal_35 : decode cX5_mostMeal 35 = .ok (.iconst 1, 1) := by decide +kernel
theorem dX5_mostMeal_36 : decode cX5_mostMeal 36 = .ok (.iand, 1) := by decide +kernel
theorem dX5_mostMeal_37 : decode cX5_mostMeal 37 = .ok (.iconst 1, 1) := by decide +kernel
theorem dX5_mostMeal_38 : decode cX5_mostMeal 38 = .ok (.if_icmp .ne 23, 3) := by decide +kernel
theorem dX5_mostMeal_41 : decode cX5_mostMeal 41 = .ok (.iload 8, 2) := by decide +kernel
theorem dX5_mostMeal_43 : decode cX5_mostMeal 43 = .ok (.invokestatic 88, 3) := by decide +kernel
theorem dX5_mostMeal_46 : decode cX5_mostMeal 46 = .ok (.ifCond .ne 15, 3) := by decide +kernel
theorem dX5_mostMeal_49 : decode cX5_mostMeal 49 = .ok (.iload 8, 2) := by decide +kernel
theorem dX5_mostMeal_51 : decode cX5_mostMeal 51 = .ok (.invokestatic 92, 3) := by decide +kernel
theorem dX5_mostMeal_54 : decode cX5_mostMeal 54 = .ok (.ifCond .ne 7, 3) := by decide +kernel
theorem dX5_mostMeal_57 : decode cX5_mostMeal 57 = .ok (.iconst 1, 1) := by decide +kernel
theorem dX5_mostMeal_58 : decode cX5_mostMeal 58 = .ok (.goto 4, 3) := by decide +kernel
theorem dX5_mostMeal_61 : decode cX5_mostMeal 61 = .ok (.iconst 0, 1) := by decide +kernel
theorem dX5_mostMeal_62 : decode cX5_mostMeal 62 = .ok (.istore 9, 2) := by decide +kernel
theorem dX5_mostMeal_64 : decode cX5_mostMeal 64 = .ok (.iload 9, 2) := by decide +kernel
theorem dX5_mostMeal_66 : decode cX5_mostMeal 66 = .ok (.ifCond .eq 24, 3) := by decide +kernel
theorem dX5_mostMeal_69 : decode cX5_mostMeal 69 = .ok (.iload 8, 2) := by decide +kernel
theorem dX5_mostMeal_71 : decode cX5_mostMeal 71 = .ok (.invokestatic 95, 3) := by decide +kernel
theorem dX5_mostMeal_74 : decode cX5_mostMeal 74 = .ok (.iload 5, 2) := by decide +kernel
theorem dX5_mostMeal_76 : decode cX5_mostMeal 76 = .ok (.if_icmp .le 14, 3) := by decide +kernel
theorem dX5_mostMeal_79 : decode cX5_mostMeal 79 = .ok (.iload 8, 2) := by decide +kernel
theorem dX5_mostMeal_81 : decode cX5_mostMeal 81 = .ok (.invokestatic 95, 3) := by decide +kernel
theorem dX5_mostMeal_84 : decode cX5_mostMeal 84 = .ok (.istore 5, 2) := by decide +kernel
theorem dX5_mostMeal_86 : decode cX5_mostMeal 86 = .ok (.iload 7, 2) := by decide +kernel
theorem dX5_mostMeal_88 : decode cX5_mostMeal 88 = .ok (.istore 6, 2) := by decide +kernel
theorem dX5_mostMeal_90 : decode cX5_mostMeal 90 = .ok (.iinc 7 1, 3) := by decide +kernel
theorem dX5_mostMeal_93 : decode cX5_mostMeal 93 = .ok (.goto (-84), 3) := by decide +kernel
theorem dX5_mostMeal_96 : decode cX5_mostMeal 96 = .ok (.iload 6, 2) := by decide +kernel
theorem dX5_mostMeal_98 : decode cX5_mostMeal 98 = .ok (.ireturn, 1) := by decide +kernel
theorem dX5_safeOnes_0 : decode cX5_safeOnes 0 = .ok (.sipush 255, 3) := by decide +kernel
theorem dX5_safeOnes_3 : decode cX5_safeOnes 3 = .ok (.istore_n 3, 1) := by decide +kernel
theorem dX5_safeOnes_4 : decode cX5_safeOnes 4 = .ok (.iconst 0, 1) := by decide +kernel
theorem dX5_safeOnes_5 : decode cX5_safeOnes 5 = .ok (.istore 4, 2) := by decide +kernel
theorem dX5_safeOnes_7 : decode cX5_safeOnes 7 = .ok (.iload 4, 2) := by decide +kernel
theorem dX5_safeOnes_9 : decode cX5_safeOnes 9 = .ok (.bipush 6, 2) := by decide +kernel
theorem dX5_safeOnes_11 : decode cX5_safeOnes 11 = .ok (.if_icmp .ge 62, 3) := by decide +kernel
theorem dX5_safeOnes_14 : decode cX5_safeOnes 14 = .ok (.iload 4, 2) := by decide +kernel
theorem dX5_safeOnes_16 : decode cX5_safeOnes 16 = .ok (.aload_n 0, 1) := by decide +kernel
theorem dX5_safeOnes_17 : decode cX5_safeOnes 17 = .ok (.getfield 57, 3) := by decide +kernel
theorem dX5_safeOnes_20 : decode cX5_safeOnes 20 = .ok (.if_icmp .gt 53, 3) := by decide +kernel
theorem dX5_safeOnes_23 : decode cX5_safeOnes 23 = .ok (.iconst 0, 1) := by decide +kernel
theorem dX5_safeOnes_24 : decode cX5_safeOnes 24 = .ok (.istore 5, 2) := by decide +kernel
theorem dX5_safeOnes_26 : decode cX5_safeOnes 26 = .ok (.iload 5, 2) := by decide +kernel
theorem dX5_safeOnes_28 : decode cX5_safeOnes 28 = .ok (.bipush 8, 2) := by decide +kernel
theorem dX5_safeOnes_30 : decode cX5_safeOnes 30 = .ok (.if_icmp .ge 37, 3) := by decide +kernel
theorem dX5_safeOnes_33 : decode cX5_safeOnes 33 = .ok (.aload_n 0, 1) := by decide +kernel
theorem dX5_safeOnes_34 : decode cX5_safeOnes 34 = .ok (.getfield 31, 3) := by decide +kernel
theorem dX5_safeOnes_37 : decode cX5_safeOnes 37 = .ok (.iload 4, 2) := by decide +kernel
theorem dX5_safeOnes_39 : decode cX5_safeOnes 39 = .ok (.iload 5, 2) := by decide +kernel
theorem dX5_safeOnes_41 : decode cX5_safeOnes 41 = .ok (.iload_n 1, 1) := by decide +kernel
theorem dX5_safeOnes_42 : decode cX5_safeOnes 42 = .ok (.iload_n 2, 1) := by decide +kernel
theorem dX5_safeOnes_43 : decode cX5_safeOnes 43 = .ok (.invokevirtual 83, 3) := by decide +kernel
theorem dX5_safeOnes_46 : decode cX5_safeOnes 46 = .ok (.invokestatic 92, 3) := by decide +kernel
theorem dX5_safeOnes_49 : decode cX5_safeOnes 49 = .ok (.ifCond .eq 12, 3) := by decide +kernel
theorem dX5_safeOnes_52 : decode cX5_safeOnes 52 = .ok (.iload_n 3, 1) := by decide +kernel
theorem dX5_safeOnes_53 : decode cX5_safeOnes 53 = .ok (.iconst 1, 1) := by decide +kernel
theorem dX5_safeOnes_54 : decode cX5_safeOnes 54 = .ok (.iload 5, 2) := by decide +kernel
theorem dX5_safeOnes_56 : decode cX5_safeOnes 56 = .ok (.ishl, 1) := by decide +kernel
theorem dX5_safeOnes_57 : decode cX5_safeOnes 57 = .ok (.iconst (-1), 1) := by decide +kernel
theorem dX5_safeOnes_58 : decode cX5_safeOnes 58 = .ok (.ixor, 1) := by decide +kernel
theorem dX5_safeOnes_59 : decode cX5_safeOnes 59 = .ok (.iand, 1) := by decide +kernel
theorem dX5_safeOnes_60 : decode cX5_safeOnes 60 = .ok (.istore_n 3, 1) := by decide +kernel
theorem dX5_safeOnes_61 : decode cX5_safeOnes 61 = .ok (.iinc 5 1, 3) := by decide +kernel
theorem dX5_safeOnes_64 : decode cX5_safeOnes 64 = .ok (.goto (-38), 3) := by decide +kernel
theorem dX5_safeOnes_67 : decode cX5_safeOnes 67 = .ok (.iinc 4 1, 3) := by decide +kernel
theorem dX5_safeOnes_70 : decode cX5_safeOnes 70 = .ok (.goto (-63), 3) := by decide +kernel
theorem dX5_safeOnes_73 : decode cX5_safeOnes 73 = .ok (.iload_n 3, 1) := by decide +kernel
theorem dX5_safeOnes_74 : decode cX5_safeOnes 74 = .ok (.ireturn, 1) := by decide +kernel
theorem dX5_bestSetting_0 : decode cX5_bestSetting 0 = .ok (.aload_n 0, 1) := by decide +kernel
theorem dX5_bestSetting_1 : decode cX5_bestSetting 1 = .ok (.iload_n 1, 1) := by decide +kernel
theorem dX5_bestSetting_2 : decode cX5_bestSetting 2 = .ok (.iload_n 2, 1) := by decide +kernel
theorem dX5_bestSetting_3 : decode cX5_bestSetting 3 = .ok (.iload_n 3, 1) := by decide +kernel
theorem dX5_bestSetting_4 : decode cX5_bestSetting 4 = .ok (.iload 4, 2) := by decide +kernel
theorem dX5_bestSetting_6 : decode cX5_bestSetting 6 = .ok (.invokevirtual 70, 3) := by decide +kernel
theorem dX5_bestSetting_9 : decode cX5_bestSetting 9 = .ok (.bipush 8, 2) := by decide +kernel
theorem dX5_bestSetting_11 : decode cX5_bestSetting 11 = .ok (.irem, 1) := by decide +kernel
theorem dX5_bestSetting_12 : decode cX5_bestSetting 12 = .ok (.ireturn, 1) := by decide +kernel
theorem dX5_bestWorth_0 : decode cX5_bestWorth 0 = .ok (.aload_n 0, 1) := by decide +kernel
theorem dX5_bestWorth_1 : decode cX5_bestWorth 1 = .ok (.iload_n 1, 1) := by decide +kernel
theorem dX5_bestWorth_2 : decode cX5_bestWorth 2 = .ok (.iload_n 2, 1) := by decide +kernel
theorem dX5_bestWorth_3 : decode cX5_bestWorth 3 = .ok (.iload_n 3, 1) := by decide +kernel
theorem dX5_bestWorth_4 : decode cX5_bestWorth 4 = .ok (.iload 4, 2) := by decide +kernel
theorem dX5_bestWorth_6 : decode cX5_bestWorth 6 = .ok (.invokevirtual 70, 3) := by decide +kernel
theorem dX5_bestWorth_9 : decode cX5_bestWorth 9 = .ok (.bipush 8, 2) := by decide +kernel
theorem dX5_bestWorth_11 : decode cX5_bestWorth 11 = .ok (.idiv, 1) := by decide +kernel
theorem dX5_bestWorth_12 : decode cX5_bestWorth 12 = .ok (.ireturn, 1) := by decide +kernel
theorem dX5_looking_0 : decode cX5_looking 0 = .ok (.iconst 0, 1) := by decide +kernel
theorem dX5_looking_1 : decode cX5_looking 1 = .ok (.istore 5, 2) := by decide +kernel
theorem dX5_looking_3 : decode cX5_looking 3 = .ok (.iconst 0, 1) := by decide +kernel
theorem dX5_looking_4 : decode cX5_looking 4 = .ok (.istore 6, 2) := by decide +kernel
theorem dX5_looking_6 : decode cX5_looking 6 = .ok (.iload 6, 2) := by decide +kernel
theorem dX5_looking_8 : decode cX5_looking 8 = .ok (.bipush 8, 2) := by decide +kernel
theorem dX5_looking_10 : decode cX5_looking 10 = .ok (.if_icmp .ge 40, 3) := by decide +kernel
theorem dX5_looking_13 : decode cX5_looking 13 = .ok (.aload_n 0, 1) := by decide +kernel
theorem dX5_looking_14 : decode cX5_looking 14 = .ok (.iconst 1, 1) := by decide +kernel
theorem dX5_looking_15 : decode cX5_looking 15 = .ok (.iload 6, 2) := by decide +kernel
theorem dX5_looking_17 : decode cX5_looking 17 = .ok (.invokevirtual 99, 3) := by decide +kernel
theorem dX5_looking_20 : decode cX5_looking 20 = .ok (.aload_n 0, 1) := by decide +kernel
theorem dX5_looking_21 : decode cX5_looking 21 = .ok (.iload_n 1, 1) := by decide +kernel
theorem dX5_looking_22 : decode cX5_looking 22 = .ok (.iconst (-1), 1) := by decide +kernel
theorem dX5_looking_23 : decode cX5_looking 23 = .ok (.iconst 0, 1) := by decide +kernel
theorem dX5_looking_24 : decode cX5_looking 24 = .ok (.invokevirtual 103, 3) := by decide +kernel
theorem dX5_looking_27 : decode cX5_looking 27 = .ok (.iload 5, 2) := by decide +kernel
theorem dX5_looking_29 : decode cX5_looking 29 = .ok (.aload_n 0, 1) := by decide +kernel
theorem dX5_looking_30 : decode cX5_looking 30 = .ok (.iconst 0, 1) := by decide +kernel
theorem dX5_looking_31 : decode cX5_looking 31 = .ok (.iload_n 2, 1) := by decide +kernel
theorem dX5_looking_32 : decode cX5_looking 32 = .ok (.iload_n 2, 1) := by decide +kernel
theorem dX5_looking_33 : decode cX5_looking 33 = .ok (.iload_n 3, 1) := by decide +kernel
theorem dX5_looking_34 : decode cX5_looking 34 = .ok (.iload 4, 2) := by decide +kernel
theorem dX5_looking_36 : decode cX5_looking 36 = .ok (.invokevirtual 107, 3) := by decide +kernel
theorem dX5_looking_39 : decode cX5_looking 39 = .ok (.invokestatic 110, 3) := by decide +kernel
theorem dX5_looking_42 : decode cX5_looking 42 = .ok (.istore 5, 2) := by decide +kernel
theorem dX5_looking_44 : decode cX5_looking 44 = .ok (.iinc 6 1, 3) := by decide +kernel
theorem dX5_looking_47 : decode cX5_looking 47 = .ok (.goto (-41), 3) := by decide +kernel
theorem dX5_looking_50 : decode cX5_looking 50 = .ok (.aload_n 0, 1) := by decide +kernel
theorem dX5_looking_51 : decode cX5_looking 51 = .ok (.iload_n 1, 1) := by decide +kernel
theorem dX5_looking_52 : decode cX5_looking 52 = .ok (.iload_n 2, 1) := by decide +kernel
theorem dX5_looking_53 : decode cX5_looking 53 = .ok (.iload_n 3, 1) := by decide +kernel
theorem dX5_looking_54 : decode cX5_looking 54 = .ok (.iload 4, 2) := by decide +kernel
theorem dX5_looking_56 : decode cX5_looking 56 = .ok (.invokevirtual 70, 3) := by decide +kernel
theorem dX5_looking_59 : decode cX5_looking 59 = .ok (.bipush 8, 2) := by decide +kernel
theorem dX5_looking_61 : decode cX5_looking 61 = .ok (.idiv, 1) := by decide +kernel
theorem dX5_looking_62 : decode cX5_looking 62 = .ok (.iload 5, 2) := by decide +kernel
theorem dX5_looking_64 : decode cX5_looking 64 = .ok (.isub, 1) := by decide +kernel
theorem dX5_looking_65 : decode cX5_looking 65 = .ok (.ireturn, 1) := by decide +kernel
theorem dX5_dressing_0 : decode cX5_dressing 0 = .ok (.aload_n 0, 1) := by decide +kernel
theorem dX5_dressing_1 : decode cX5_dressing 1 = .ok (.iconst 3, 1) := by decide +kernel
theorem dX5_dressing_2 : decode cX5_dressing 2 = .ok (.iconst 0, 1) := by decide +kernel
theorem dX5_dressing_3 : decode cX5_dressing 3 = .ok (.invokevirtual 99, 3) := by decide +kernel
theorem dX5_dressing_6 : decode cX5_dressing 6 = .ok (.aload_n 0, 1) := by decide +kernel
theorem dX5_dressing_7 : decode cX5_dressing 7 = .ok (.iload_n 1, 1) := by decide +kernel
theorem dX5_dressing_8 : decode cX5_dressing 8 = .ok (.iconst (-1), 1) := by decide +kernel
theorem dX5_dressing_9 : decode cX5_dressing 9 = .ok (.iconst 0, 1) := by decide +kernel
theorem dX5_dressing_10 : decode cX5_dressing 10 = .ok (.invokevirtual 103, 3) := by decide +kernel
theorem dX5_dressing_13 : decode cX5_dressing 13 = .ok (.aload_n 0, 1) := by decide +kernel
theorem dX5_dressing_14 : decode cX5_dressing 14 = .ok (.iconst 0, 1) := by decide +kernel
theorem dX5_dressing_15 : decode cX5_dressing 15 = .ok (.iload_n 2, 1) := by decide +kernel
theorem dX5_dressing_16 : decode cX5_dressing 16 = .ok (.iload_n 2, 1) := by decide +kernel
theorem dX5_dressing_17 : decode cX5_dressing 17 = .ok (.iload_n 3, 1) := by decide +kernel
theorem dX5_dressing_18 : decode cX5_dressing 18 = .ok (.iload 4, 2) := by decide +kernel
theorem dX5_dressing_20 : decode cX5_dressing 20 = .ok (.invokevirtual 107, 3) := by decide +kernel
theorem dX5_dressing_23 : decode cX5_dressing 23 = .ok (.istore 5, 2) := by decide +kernel
theorem dX5_dressing_25 : decode cX5_dressing 25 = .ok (.bipush (-5), 2) := by decide +kernel
theorem dX5_dressing_27 : decode cX5_dressing 27 = .ok (.istore 6, 2) := by decide +kernel
theorem dX5_dressing_29 : decode cX5_dressing 29 = .ok (.iconst 0, 1) := by decide +kernel
theorem dX5_dressing_30 : decode cX5_dressing 30 = .ok (.istore 7, 2) := by decide +kernel
theorem dX5_dressing_32 : decode cX5_dressing 32 = .ok (.iload 7, 2) := by decide +kernel
theorem dX5_dressing_34 : decode cX5_dressing 34 = .ok (.iload_n 1, 1) := by decide +kernel
theorem dX5_dressing_35 : decode cX5_dressing 35 = .ok (.if_icmp .ge 44, 3) := by decide +kernel
theorem dX5_dressing_38 : decode cX5_dressing 38 = .ok (.aload_n 0, 1) := by decide +kernel
theorem dX5_dressing_39 : decode cX5_dressing 39 = .ok (.iload_n 1, 1) := by decide +kernel
theorem dX5_dressing_40 : decode cX5_dressing 40 = .ok (.iload 7, 2) := by decide +kernel
theorem dX5_dressing_42 : decode cX5_dressing 42 = .ok (.iconst 0, 1) := by decide +kernel
theorem dX5_dressing_43 : decode cX5_dressing 43 = .ok (.invokevirtual 103, 3) := by decide +kernel
theorem dX5_dressing_46 : decode cX5_dressing 46 = .ok (.aload_n 0, 1) := by decide +kernel
theorem dX5_dressing_47 : decode cX5_dressing 47 = .ok (.iconst 0, 1) := by decide +kernel
theorem dX5_dressing_48 : decode cX5_dressing 48 = .ok (.iload_n 2, 1) := by decide +kernel
theorem dX5_dressing_49 : decode cX5_dressing 49 = .ok (.iload_n 2, 1) := by decide +kernel
theorem dX5_dressing_50 : decode cX5_dressing 50 = .ok (.iload_n 3, 1) := by decide +kernel
theorem dX5_dressing_51 : decode cX5_dressing 51 = .ok (.iload 4, 2) := by decide +kernel
theorem dX5_dressing_53 : decode cX5_dressing 53 = .ok (.invokevirtual 107, 3) := by decide +kernel
theorem dX5_dressing_56 : decode cX5_dressing 56 = .ok (.istore 8, 2) := by decide +kernel
theorem dX5_dressing_58 : decode cX5_dressing 58 = .ok (.iload 8, 2) := by decide +kernel
theorem dX5_dressing_60 : decode cX5_dressing 60 = .ok (.iload 5, 2) := by decide +kernel
theorem dX5_dressing_62 : decode cX5_dressing 62 = .ok (.if_icmp .le 11, 3) := by decide +kernel
theorem dX5_dressing_65 : decode cX5_dressing 65 = .ok (.iload 8, 2) := by decide +kernel
theorem dX5_dressing_67 : decode cX5_dressing 67 = .ok (.istore 5, 2) := by decide +kernel
theorem dX5_dressing_69 : decode cX5_dressing 69 = .ok (.iload 7, 2) := by decide +kernel
theorem dX5_dressing_71 : decode cX5_dressing 71 = .ok (.istore 6, 2) := by decide +kernel
theorem dX5_dressing_73 : decode cX5_dressing 73 = .ok (.iinc 7 1, 3) := by decide +kernel
theorem dX5_dressing_76 : decode cX5_dressing 76 = .ok (.goto (-44), 3) := by decide +kernel
theorem dX5_dressing_79 : decode cX5_dressing 79 = .ok (.iload 6, 2) := by decide +kernel
theorem dX5_dressing_81 : decode cX5_dressing 81 = .ok (.ireturn, 1) := by decide +kernel
theorem dX5_bestFrom_0 : decode cX5_bestFrom 0 = .ok (.iload_n 1, 1) := by decide +kernel
theorem dX5_bestFrom_1 : decode cX5_bestFrom 1 = .ok (.bipush 6, 2) := by decide +kernel
theorem dX5_bestFrom_3 : decode cX5_bestFrom 3 = .ok (.imul, 1) := by decide +kernel
theorem dX5_bestFrom_4 : decode cX5_bestFrom 4 = .ok (.iload_n 2, 1) := by decide +kernel
theorem dX5_bestFrom_5 : decode cX5_bestFrom 5 = .ok (.iadd, 1) := by decide +kernel
theorem dX5_bestFrom_6 : decode cX5_bestFrom 6 = .ok (.bipush 100, 2) := by decide +kernel
theorem dX5_bestFrom_8 : decode cX5_bestFrom 8 = .ok (.imul, 1) := by decide +kernel
theorem dX5_bestFrom_9 : decode cX5_bestFrom 9 = .ok (.iload_n 3, 1) := by decide +kernel
