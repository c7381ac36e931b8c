theorem dX5_init_0 : decode cX5_init 0 = .ok (.aload_n 0, 1) := by decide +kernel
theorem dX5_init_1 : decode cX5_init 1 = .ok (.invokespecial 1, 3) := by decide +kernel
theorem dX5_init_4 : decode cX5_init 4 = .ok (.aload_n 0, 1) := by decide +kernel
theorem dX5_init_5 : decode cX5_init 5 = .ok (.bipush 6, 2) := by decide +kernel
theorem dX5_init_7 : decode cX5_init 7 = .ok (.newarray .boolean, 2) := by decide +kernel
theorem dX5_init_9 : decode cX5_init 9 = .ok (.putfield 7, 3) := by decide +kernel
theorem dX5_init_12 : decode cX5_init 12 = .ok (.aload_n 0, 1) := by decide +kernel
theorem dX5_init_13 : decode cX5_init 13 = .ok (.bipush 6, 2) := by decide +kernel
theorem dX5_init_15 : decode cX5_init 15 = .ok (.newarray .int, 2) := by decide +kernel
theorem dX5_init_17 : decode cX5_init 17 = .ok (.putfield 13, 3) := by decide +kernel
theorem dX5_init_20 : decode cX5_init 20 = .ok (.aload_n 0, 1) := by decide +kernel
theorem dX5_init_21 : decode cX5_init 21 = .ok (.bipush 6, 2) := by decide +kernel
theorem dX5_init_23 : decode cX5_init 23 = .ok (.newarray .int, 2) := by decide +kernel
theorem dX5_init_25 : decode cX5_init 25 = .ok (.putfield 17, 3) := by decide +kernel
theorem dX5_init_28 : decode cX5_init 28 = .ok (.aload_n 0, 1) := by decide +kernel
theorem dX5_init_29 : decode cX5_init 29 = .ok (.bipush 6, 2) := by decide +kernel
theorem dX5_init_31 : decode cX5_init 31 = .ok (.newarray .int, 2) := by decide +kernel
theorem dX5_init_33 : decode cX5_init 33 = .ok (.putfield 20, 3) := by decide +kernel
theorem dX5_init_36 : decode cX5_init 36 = .ok (.aload_n 0, 1) := by decide +kernel
theorem dX5_init_37 : decode cX5_init 37 = .ok (.bipush 6, 2) := by decide +kernel
theorem dX5_init_39 : decode cX5_init 39 = .ok (.newarray .int, 2) := by decide +kernel
theorem dX5_init_41 : decode cX5_init 41 = .ok (.putfield 23, 3) := by decide +kernel
theorem dX5_init_44 : decode cX5_init 44 = .ok (.aload_n 0, 1) := by decide +kernel
theorem dX5_init_45 : decode cX5_init 45 = .ok (.bipush 6, 2) := by decide +kernel
theorem dX5_init_47 : decode cX5_init 47 = .ok (.newarray .int, 2) := by decide +kernel
theorem dX5_init_49 : decode cX5_init 49 = .ok (.putfield 26, 3) := by decide +kernel
theorem dX5_init_52 : decode cX5_init 52 = .ok (.aload_n 0, 1) := by decide +kernel
theorem dX5_init_53 : decode cX5_init 53 = .ok (.bipush 6, 2) := by decide +kernel
theorem dX5_init_55 : decode cX5_init 55 = .ok (.newarray .int, 2) := by decide +kernel
theorem dX5_init_57 : decode cX5_init 57 = .ok (.putfield 29, 3) := by decide +kernel
theorem dX5_init_60 : decode cX5_init 60 = .ok (.aload_n 0, 1) := by decide +kernel
theorem dX5_init_61 : decode cX5_init 61 = .ok (.bipush 6, 2) := by decide +kernel
theorem dX5_init_63 : decode cX5_init 63 = .ok (.newarray .int, 2) := by decide +kernel
theorem dX5_init_65 : decode cX5_init 65 = .ok (.putfield 32, 3) := by decide +kernel
theorem dX5_init_68 : decode cX5_init 68 = .ok (.aload_n 0, 1) := by decide +kernel
theorem dX5_init_69 : decode cX5_init 69 = .ok (.sipush 192, 3) := by decide +kernel
theorem dX5_init_72 : decode cX5_init 72 = .ok (.newarray .int, 2) := by decide +kernel
theorem dX5_init_74 : decode cX5_init 74 = .ok (.putfield 35, 3) := by decide +kernel
theorem dX5_init_77 : decode cX5_init 77 = .ok (.aload_n 0, 1) := by decide +kernel
theorem dX5_init_78 : decode cX5_init 78 = .ok (.bipush 6, 2) := by decide +kernel
theorem dX5_init_80 : decode cX5_init 80 = .ok (.newarray .int, 2) := by decide +kernel
theorem dX5_init_82 : decode cX5_init 82 = .ok (.putfield 38, 3) := by decide +kernel
theorem dX5_init_85 : decode cX5_init 85 = .ok (.aload_n 0, 1) := by decide +kernel
theorem dX5_init_86 : decode cX5_init 86 = .ok (.bipush 6, 2) := by decide +kernel
theorem dX5_init_88 : decode cX5_init 88 = .ok (.newarray .int, 2) := by decide +kernel
theorem dX5_init_90 : decode cX5_init 90 = .ok (.putfield 41, 3) := by decide +kernel
theorem dX5_init_93 : decode cX5_init 93 = .ok (.aload_n 0, 1) := by decide +kernel
theorem dX5_init_94 : decode cX5_init 94 = .ok (.sipush 180, 3) := by decide +kernel
theorem dX5_init_97 : decode cX5_init 97 = .ok (.newarray .int, 2) := by decide +kernel
theorem dX5_init_99 : decode cX5_init 99 = .ok (.putfield 44, 3) := by decide +kernel
theorem dX5_init_102 : decode cX5_init 102 = .ok (.aload_n 0, 1) := by decide +kernel
theorem dX5_init_103 : decode cX5_init 103 = .ok (.bipush 6, 2) := by decide +kernel
theorem dX5_init_105 : decode cX5_init 105 = .ok (.newarray .int, 2) := by decide +kernel
theorem dX5_init_107 : decode cX5_init 107 = .ok (.putfield 47, 3) := by decide +kernel
theorem dX5_init_110 : decode cX5_init 110 = .ok (.aload_n 0, 1) := by decide +kernel
theorem dX5_init_111 : decode cX5_init 111 = .ok (.bipush 96, 2) := by decide +kernel
theorem dX5_init_113 : decode cX5_init 113 = .ok (.newarray .int, 2) := by decide +kernel
theorem dX5_init_115 : decode cX5_init 115 = .ok (.putfield 50, 3) := by decide +kernel
theorem dX5_init_118 : decode cX5_init 118 = .ok (.aload_n 0, 1) := by decide +kernel
theorem dX5_init_119 : decode cX5_init 119 = .ok (.bipush 96, 2) := by decide +kernel
theorem dX5_init_121 : decode cX5_init 121 = .ok (.newarray .int, 2) := by decide +kernel
theorem dX5_init_123 : decode cX5_init 123 = .ok (.putfield 53, 3) := by decide +kernel
theorem dX5_init_126 : decode cX5_init 126 = .ok (.aload_n 0, 1) := by decide +kernel
theorem dX5_init_127 : decode cX5_init 127 = .ok (.bipush 6, 2) := by decide +kernel
theorem dX5_init_129 : decode cX5_init 129 = .ok (.newarray .boolean, 2) := by decide +kernel
theorem dX5_init_131 : decode cX5_init 131 = .ok (.putfield 56, 3) := by decide +kernel
theorem dX5_init_134 : decode cX5_init 134 = .ok (.aload_n 0, 1) := by decide +kernel
theorem dX5_init_135 : decode cX5_init 135 = .ok (.bipush 6, 2) := by decide +kernel
theorem dX5_init_137 : decode cX5_init 137 = .ok (.newarray .int, 2) := by decide +kernel
theorem dX5_init_139 : decode cX5_init 139 = .ok (.putfield 59, 3) := by decide +kernel
theorem dX5_init_142 : decode cX5_init 142 = .ok (.aload_n 0, 1) := by decide +kernel
theorem dX5_init_143 : decode cX5_init 143 = .ok (.bipush 6, 2) := by decide +kernel
theorem dX5_init_145 : decode cX5_init 145 = .ok (.newarray .int, 2) := by decide +kernel
theorem dX5_init_147 : decode cX5_init 147 = .ok (.putfield 62, 3) := by decide +kernel
theorem dX5_init_150 : decode cX5_init 150 = .ok (.aload_n 0, 1) := by decide +kernel
theorem dX5_init_151 : decode cX5_init 151 = .ok (.bipush 6, 2) := by decide +kernel
theorem dX5_init_153 : decode cX5_init 153 = .ok (.newarray .int, 2) := by decide +kernel
theorem dX5_init_155 : decode cX5_init 155 = .ok (.putfield 65, 3) := by decide +kernel
theorem dX5_init_158 : decode cX5_init 158 = .ok (.aload_n 0, 1) := by decide +kernel
theorem dX5_init_159 : decode cX5_init 159 = .ok (.bipush 6, 2) := by decide +kernel
theorem dX5_init_161 : decode cX5_init 161 = .ok (.newarray .int, 2) := by decide +kernel
theorem dX5_init_163 : decode cX5_init 163 = .ok (.putfield 68, 3) := by decide +kernel
theorem dX5_init_166 : decode cX5_init 166 = .ok (.aload_n 0, 1) := by decide +kernel
theorem dX5_init_167 : decode cX5_init 167 = .ok (.bipush 6, 2) := by decide +kernel
theorem dX5_init_169 : decode cX5_init 169 = .ok (.newarray .int, 2) := by decide +kernel
theorem dX5_init_171 : decode cX5_init 171 = .ok (.putfield 71, 3) := by decide +kernel
theorem dX5_init_174 : decode cX5_init 174 = .ok (.aload_n 0, 1) := by decide +kernel
theorem dX5_init_175 : decode cX5_init 175 = .ok (.bipush 6, 2) := by decide +kernel
theorem dX5_init_177 : decode cX5_init 177 = .ok (.newarray .boolean, 2) := by decide +kernel
theorem dX5_init_179 : decode cX5_init 179 = .ok (.putfield 74, 3) := by decide +kernel
theorem dX5_init_182 : decode cX5_init 182 = .ok (.aload_n 0, 1) := by decide +kernel
theorem dX5_init_183 : decode cX5_init 183 = .ok (.bipush 6, 2) := by decide +kernel
theorem dX5_init_185 : decode cX5_init 185 = .ok (.newarray .int, 2) := by decide +kernel
theorem dX5_init_187 : decode cX5_init 187 = .ok (.putfield 77, 3) := by decide +kernel
theorem dX5_init_190 : decode cX5_init 190 = .ok (.aload_n 0, 1) := by decide +kernel
theorem dX5_init_191 : decode cX5_init 191 = .ok (.bipush 6, 2) := by decide +kernel
theorem dX5_init_193 : decode cX5_init 193 = .ok (.newarray .int, 2) := by decide +kernel
theorem dX5_init_195 : decode cX5_init 195 = .ok (.putfield 80, 3) := by decide +kernel
theorem dX5_init_198 : decode cX5_init 198 = .ok (.aload_n 0, 1) := by decide +kernel
theorem dX5_init_199 : decode cX5_init 199 = .ok (.bipush 6, 2) := by decide +kernel
theorem dX5_init_201 : decode cX5_init 201 = .ok (.newarray .int, 2) := by decide +kernel
theorem dX5_init_203 : decode cX5_init 203 = .ok (.putfield 83, 3) := by decide +kernel
theorem dX5_init_206 : decode cX5_init 206 = .ok (.aload_n 0, 1) := by decide +kernel
theorem dX5_init_207 : decode cX5_init 207 = .ok (.bipush 6, 2) := by decide +kernel
theorem dX5_init_209 : decode cX5_init 209 = .ok (.newarray .int, 2) := by decide +kernel
theorem dX5_init_211 : decode cX5_init 211 = .ok (.putfield 86, 3) := by decide +kernel
theorem dX5_init_214 : decode cX5_init 214 = .ok (.aload_n 0, 1) := by decide +kernel
theorem dX5_init_215 : decode cX5_init 215 = .ok (.bipush 6, 2) := by decide +kernel
theorem dX5_init_217 : decode cX5_init 217 = .ok (.newarray .int, 2) := by decide +kernel
theorem dX5_init_219 : decode cX5_init 219 = .ok (.putfield 89, 3) := by decide +kernel
theorem dX5_init_222 : decode cX5_init 222 = .ok (.aload_n 0, 1) := by decide +kernel
theorem dX5_init_223 : decode cX5_init 223 = .ok (.bipush 6, 2) := by decide +kernel
theorem dX5_init_225 : decode cX5_init 225 = .ok (.newarray .int, 2) := by decide +kernel
theorem dX5_init_227 : decode cX5_init 227 = .ok (.putfield 92, 3) := by decide +kernel
theorem dX5_init_230 : decode cX5_init 230 = .ok (.aload_n 0, 1) := by decide +kernel
theorem dX5_init_231 : decode cX5_init 231 = .ok (.bipush 6, 2) := by decide +kernel
theorem dX5_init_233 : decode cX5_init 233 = .ok (.newarray .int, 2) := by decide +kernel
theorem dX5_init_235 : decode cX5_init 235 = .ok (.putfield 95, 3) := by decide +kernel
theorem dX5_init_238 : decode cX5_init 238 = .ok (.aload_n 0, 1) := by decide +kernel
theorem dX5_init_239 : decode cX5_init 239 = .ok (.sipush 600, 3) := by decide +kernel
theorem dX5_init_242 : decode cX5_init 242 = .ok (.newarray .int, 2) := by decide +kernel
theorem dX5_init_244 : decode cX5_init 244 = .ok (.putfield 98, 3) := by decide +kernel
theorem dX5_init_247 : decode cX5_init 247 = .ok (.aload_n 0, 1) := by decide +kernel
theorem dX5_init_248 : decode cX5_init 248 = .ok (.sipush 600, 3) := by decide +kernel
theorem dX5_init_251 : decode cX5_init 251 = .ok (.newarray .int, 2) := by decide +kernel
theorem dX5_init_253 : decode cX5_init 253 = .ok (.putfield 101, 3) := by decide +kernel
theorem dX5_init_256 : decode cX5_init 256 = .ok (.aload_n 0, 1) := by decide +kernel
theorem dX5_init_257 : decode cX5_init 257 = .ok (.sipush 1024, 3) := by decide +kernel
theorem dX5_init_260 : decode cX5_init 260 = .ok (.newarray .int, 2) := by decide +kernel
theorem dX5_init_262 : decode cX5_init 262 = .ok (.putfield 104, 3) := by decide +kernel
theorem dX5_init_265 : decode cX5_init 265 = .ok (.iconst 0, 1) := by decide +kernel
theorem dX5_init_266 : decode cX5_init 266 = .ok (.istore_n 1, 1) := by decide +kernel
theorem dX5_init_267 : decode cX5_init 267 = .ok (.iload_n 1, 1) := by decide +kernel
theorem dX5_init_268 : decode cX5_init 268 = .ok (.bipush 6, 2) := by decide +kernel
theorem dX5_init_270 : decode cX5_init 270 = .ok (.if_icmp .ge 16, 3) := by decide +kernel
theorem dX5_init_273 : decode cX5_init 273 = .ok (.aload_n 0, 1) := by decide +kernel
theorem dX5_init_274 : decode cX5_init 274 = .ok (.getfield 41, 3) := by decide +kernel
theorem dX5_init_277 : decode cX5_init 277 = .ok (.iload_n 1, 1) := by decide +kernel
theorem dX5_init_278 : decode cX5_init 278 = .ok (.iconst (-1), 1) := by decide +kernel
theorem dX5_init_279 : decode cX5_init 279 = .ok (.iastore, 1) := by decide +kernel
theorem dX5_init_280 : decode cX5_init 280 = .ok (.iinc 1 1, 3) := by decide +kernel
theorem dX5_init_283 : decode cX5_init 283 = .ok (.goto (-16), 3) := by decide +kernel
theorem dX5_init_286 : decode cX5_init 286 = .ok (.return_, 1) := by decide +kernel
theorem dX5_thrown_0 : decode cX5_thrown 0 = .ok (.aload_n 0, 1) := by decide +kernel
theorem dX5_thrown_1 : decode cX5_thrown 1 = .ok (.getfield 107, 3) := by decide +kernel
theorem dX5_thrown_4 : decode cX5_thrown 4 = .ok (.ireturn, 1) := by decide +kernel
theorem dX5_within_0 : decode cX5_within 0 = .ok (.iload_n 0, 1) := by decide +kernel
theorem dX5_within_1 : decode cX5_within 1 = .ok (.iload_n 1, 1) := by decide +kernel
theorem dX5_within_2 : decode cX5_within 2 = .ok (.if_icmp .lt 12, 3) := by decide +kernel
theorem dX5_within_5 : decode cX5_within 5 = .ok (.iload_n 0, 1) := by decide +kernel
theorem dX5_within_6 : decode cX5_within 6 = .ok (.iload_n 2, 1) := by decide +kernel
theorem dX5_within_7 : decode cX5_within 7 = .ok (.if_icmp .gt 7, 3) := by decide +kernel
theorem dX5_within_10 : decode cX5_within 10 = .ok (.iconst 1, 1) := by decide +kernel
theorem dX5_within_11 : decode cX5_within 11 = .ok (.goto 4, 3) := by decide +kernel
theorem dX5_within_14 : decode cX5_within 14 = .ok (.iconst 0, 1) := by decide +kernel
theorem dX5_within_15 : decode cX5_within 15 = .ok (.ireturn, 1) := by decide +kernel
theorem dX5_budgetLeft_0 : decode cX5_budgetLeft 0 = .ok (.aload_n 0, 1) := by decide +kernel
theorem dX5_budgetLeft_1 : decode cX5_budgetLeft 1 = .ok (.getfield 23, 3) := by decide +kernel
theorem dX5_budgetLeft_4 : decode cX5_budgetLeft 4 = .ok (.iload_n 1, 1) := by decide +kernel
theorem dX5_budgetLeft_5 : decode cX5_budgetLeft 5 = .ok (.iaload, 1) := by decide +kernel
theorem dX5_budgetLeft_6 : decode cX5_budgetLeft 6 = .ok (.istore_n 2, 1) := by decide +kernel
theorem dX5_budgetLeft_7 : decode cX5_budgetLeft 7 = .ok (.iconst 0, 1) := by decide +kernel
theorem dX5_budgetLeft_8 : decode cX5_budgetLeft 8 = .ok (.istore_n 3, 1) := by decide +kernel
theorem dX5_budgetLeft_9 : decode cX5_budgetLeft 9 = .ok (.iload_n 3, 1) := by decide +kernel
theorem dX5_budgetLeft_10 : decode cX5_budgetLeft 10 = .ok (.aload_n 0, 1) := by decide +kernel
theorem dX5_budgetLeft_11 : decode cX5_budgetLeft 11 = .ok (.getfield 47, 3) := by decide +kernel
theorem dX5_budgetLeft_14 : decode cX5_budgetLeft 14 = .ok (.iload_n 1, 1) := by decide +kernel
theorem dX5_budgetLeft_15 : decode cX5_budgetLeft 15 = .ok (.iaload, 1) := by decide +kernel
theorem dX5_budgetLeft_16 : decode cX5_budgetLeft 16 = .ok (.if_icmp .ge 23, 3) := by decide +kernel
theorem dX5_budgetLeft_19 : decode cX5_budgetLeft 19 = .ok (.iload_n 2, 1) := by decide +kernel
theorem dX5_budgetLeft_20 : decode cX5_budgetLeft 20 = .ok (.aload_n 0, 1) := by decide +kernel
theorem dX5_budgetLeft_21 : decode cX5_budgetLeft 21 = .ok (.getfield 53, 3) := by decide +kernel
theorem dX5_budgetLeft_24 : decode cX5_budgetLeft 24 = .ok (.bipush 16, 2) := by decide +kernel
theorem dX5_budgetLeft_26 : decode cX5_budgetLeft 26 = .ok (.iload_n 1, 1) := by decide +kernel
theorem dX5_budgetLeft_27 : decode cX5_budgetLeft 27 = .ok (.imul, 1) := by decide +kernel
theorem dX5_budgetLeft_28 : decode cX5_budgetLeft 28 = .ok (.iload_n 3, 1) := by decide +kernel
theorem dX5_budgetLeft_29 : decode cX5_budgetLeft 29 = .ok (.iadd, 1) := by decide +kernel
theorem dX5_budgetLeft_30 : decode cX5_budgetLeft 30 = .ok (.iaload, 1) := by decide +kernel
theorem dX5_budgetLeft_31 : decode cX5_budgetLeft 31 = .ok (.isub, 1) := by decide +kernel
theorem dX5_budgetLeft_32 : decode cX5_budgetLeft 32 = .ok (.istore_n 2, 1) := by decide +kernel
theorem dX5_budgetLeft_33 : decode cX5_budgetLeft 33 = .ok (.iinc 3 1, 3) := by decide +kernel
theorem dX5_budgetLeft_36 : decode cX5_budgetLeft 36 = .ok (.goto (-27), 3) := by decide +kernel
theorem dX5_budgetLeft_39 : decode cX5_budgetLeft 39 = .ok (.iload_n 2, 1) := by decide +kernel
theorem dX5_budgetLeft_40 : decode cX5_budgetLeft 40 = .ok (.ireturn, 1) := by decide +kernel
theorem dX5_isReady_0 : decode cX5_isReady 0 = .ok (.aload_n 0, 1) := by decide +kernel
theorem dX5_isReady_1 : decode cX5_isReady 1 = .ok (.getfield 7, 3) := by decide +kernel
theorem dX5_isReady_4 : decode cX5_isReady 4 = .ok (.iload_n 1, 1) := by decide +kernel
theorem dX5_isReady_5 : decode cX5_isReady 5 = .ok (.baload, 1) := by decide +kernel
theorem dX5_isReady_6 : decode cX5_isReady 6 = .ok (.ifCond .eq 24, 3) := by decide +kernel
theorem dX5_isReady_9 : decode cX5_isReady 9 = .ok (.aload_n 0, 1) := by decide +kernel
theorem dX5_isReady_10 : decode cX5_isReady 10 = .ok (.getfield 32, 3) := by decide +kernel
theorem dX5_isReady_13 : decode cX5_isReady 13 = .ok (.iload_n 1, 1) := by decide +kernel
theorem dX5_isReady_14 : decode cX5_isReady 14 = .ok (.iaload, 1) := by decide +kernel
theorem dX5_isReady_15 : decode cX5_isReady 15 = .ok (.ifCond .le 15, 3) := by decide +kernel
theorem dX5_isReady_18 : decode cX5_isReady 18 = .ok (.aload_n 0, 1) := by decide +kernel
theorem dX5_isReady_19 : decode cX5_isReady 19 = .ok (.iload_n 1, 1) := by decide +kernel
theorem dX5_isReady_20 : decode cX5_isReady 20 = .ok (.invokevirtual 111, 3) := by decide +kernel
theorem dX5_isReady_23 : decode cX5_isReady 23 = .ok (.ifCond .le 7, 3) := by decide +kernel
theorem dX5_isReady_26 : decode cX5_isReady 26 = .ok (.iconst 1, 1) := by decide +kernel
theorem dX5_isReady_27 : decode cX5_isReady 27 = .ok (.goto 4, 3) := by decide +kernel
theorem dX5_isReady_30 : decode cX5_isReady 30 = .ok (.iconst 0, 1) := by decide +kernel
theorem dX5_isReady_31 : decode cX5_isReady 31 = .ok (.ireturn, 1) := by decide +kernel
theorem dX5_giveBack_0 : decode cX5_giveBack 0 = .ok (.iconst 0, 1) := by decide +kernel
theorem dX5_giveBack_1 : decode cX5_giveBack 1 = .ok (.istore_n 1, 1) := by decide +kernel
theorem dX5_giveBack_2 : decode cX5_giveBack 2 = .ok (.iload_n 1, 1) := by decide +kernel
theorem dX5_giveBack_3 : decode cX5_giveBack 3 = .ok (.bipush 6, 2) := by decide +kernel
theorem dX5_giveBack_5 : decode cX5_giveBack 5 = .ok (.if_icmp .ge 183, 3) := by decide +kernel
theorem dX5_giveBack_8 : decode cX5_giveBack 8 = .ok (.iconst 0, 1) := by decide +kernel
theorem dX5_giveBack_9 : decode cX5_giveBack 9 = .ok (.istore_n 2, 1) := by decide +kernel
theorem dX5_giveBack_10 : decode cX5_giveBack 10 = .ok (.aload_n 0, 1) := by decide +kernel
theorem dX5_giveBack_11 : decode cX5_giveBack 11 = .ok (.iload_n 1, 1) := by decide +kernel
theorem dX5_giveBack_12 : decode cX5_giveBack 12 = .ok (.invokevirtual 111, 3) := by decide +kernel
theorem dX5_giveBack_15 : decode cX5_giveBack 15 = .ok (.istore_n 3, 1) := by decide +kernel
theorem dX5_giveBack_16 : decode cX5_giveBack 16 = .ok (.iconst 0, 1) := by decide +kernel
theorem dX5_giveBack_17 : decode cX5_giveBack 17 = .ok (.istore 4, 2) := by decide +kernel
theorem dX5_giveBack_19 : decode cX5_giveBack 19 = .ok (.iload 4, 2) := by decide +kernel
theorem dX5_giveBack_21 : decode cX5_giveBack 21 = .ok (.aload_n 0, 1) := by decide +kernel
theorem dX5_giveBack_22 : decode cX5_giveBack 22 = .ok (.getfield 47, 3) := by decide +kernel
theorem dX5_giveBack_25 : decode cX5_giveBack 25 = .ok (.iload_n 1, 1) := by decide +kernel
theorem dX5_giveBack_26 : decode cX5_giveBack 26 = .ok (.iaload, 1) := by decide +kernel
theorem dX5_giveBack_27 : decode cX5_giveBack 27 = .ok (.if_icmp .ge 148, 3) := by decide +kernel
theorem dX5_giveBack_30 : decode cX5_giveBack 30 = .ok (.iconst 0, 1) := by decide +kernel
theorem dX5_giveBack_31 : decode cX5_giveBack 31 = .ok (.istore 5, 2) := by decide +kernel
theorem dX5_giveBack_33 : decode cX5_giveBack 33 = .ok (.iload 5, 2) := by decide +kernel
theorem dX5_giveBack_35 : decode cX5_giveBack 35 = .ok (.aload_n 0, 1) := by decide +kernel
theorem dX5_giveBack_36 : decode cX5_giveBack 36 = .ok (.getfield 53, 3) := by decide +kernel
theorem dX5_giveBack_39 : decode cX5_giveBack 39 = .ok (.bipush 16, 2) := by decide +kernel
theorem dX5_giveBack_41 : decode cX5_giveBack 41 = .ok (.iload_n 1, 1) := by decide +kernel
theorem dX5_giveBack_42 : decode cX5_giveBack 42 = .ok (.imul, 1) := by decide +kernel
theorem dX5_giveBack_43 : decode cX5_giveBack 43 = .ok (.iload 4, 2) := by decide +kernel
theorem dX5_giveBack_45 : decode cX5_giveBack 45 = .ok (.iadd, 1) := by decide +kernel
theorem dX5_giveBack_46 : decode cX5_giveBack 46 = .ok (.iaload, 1) := by decide +kernel
theorem dX5_giveBack_47 : decode cX5_giveBack 47 = .ok (.if_icmp .ge 54, 3) := by decide +kernel
theorem dX5_giveBack_50 : decode cX5_giveBack 50 = .ok (.aload_n 0, 1) := by decide +kernel
theorem dX5_giveBack_51 : decode cX5_giveBack 51 = .ok (.getfield 50, 3) := by decide +kernel
theorem dX5_giveBack_54 : decode cX5_giveBack 54 = .ok (.bipush 16, 2) := by decide +kernel
theorem dX5_giveBack_56 : decode cX5_giveBack 56 = .ok (.iload_n 1, 1) := by decide +kernel
theorem dX5_giveBack_57 : decode cX5_giveBack 57 = .ok (.imul, 1) := by decide +kernel
theorem dX5_giveBack_58 : decode cX5_giveBack 58 = .ok (.iload 4, 2) := by decide +kernel
theorem dX5_giveBack_60 : decode cX5_giveBack 60 = .ok (.iadd, 1) := by decide +kernel
theorem dX5_giveBack_61 : decode cX5_giveBack 61 = .ok (.iaload, 1) := by decide +kernel
theorem dX5_giveBack_62 : decode cX5_giveBack 62 = .ok (.aload_n 0, 1) := by decide +kernel
theorem dX5_giveBack_63 : decode cX5_giveBack 63 = .ok (.getfield 115, 3) := by decide +kernel
theorem dX5_giveBack_66 : decode cX5_giveBack 66 = .ok (.if_icmp .gt 35, 3) := by decide +kernel
theorem dX5_giveBack_69 : decode cX5_giveBack 69 = .ok (.aload_n 0, 1) := by decide +kernel
theorem dX5_giveBack_70 : decode cX5_giveBack 70 = .ok (.getfield 44, 3) := by decide +kernel
theorem dX5_giveBack_73 : decode cX5_giveBack 73 = .ok (.bipush 30, 2) := by decide +kernel
theorem dX5_giveBack_75 : decode cX5_giveBack 75 = .ok (.iload_n 1, 1) := by decide +kernel
theorem dX5_giveBack_76 : decode cX5_giveBack 76 = .ok (.imul, 1) := by decide +kernel
theorem dX5_giveBack_77 : decode cX5_giveBack 77 = .ok (.iload_n 3, 1) := by decide +kernel
theorem dX5_giveBack_78 : decode cX5_giveBack 78 = .ok (.iadd, 1) := by decide +kernel
theorem dX5_giveBack_79 : decode cX5_giveBack 79 = .ok (.aload_n 0, 1) := by decide +kernel
theorem dX5_giveBack_80 : decode cX5_giveBack 80 = .ok (.getfield 50, 3) := by decide +kernel
theorem dX5_giveBack_83 : decode cX5_giveBack 83 = .ok (.bipush 16, 2) := by decide +kernel
theorem dX5_giveBack_85 : decode cX5_giveBack 85 = .ok (.iload_n 1, 1) := by decide +kernel
theorem dX5_giveBack_86 : decode cX5_giveBack 86 = .ok (.imul, 1) := by decide +kernel
theorem dX5_giveBack_87 : decode cX5_giveBack 87 = .ok (.iload 4, 2) := by decide +kernel
theorem dX5_giveBack_89 : decode cX5_giveBack 89 = .ok (.iadd, 1) := by decide +kernel
theorem dX5_giveBack_90 : decode cX5_giveBack 90 = .ok (.iaload, 1) := by decide +kernel
theorem dX5_giveBack_91 : decode cX5_giveBack 91 = .ok (.iastore, 1) := by decide +kernel
theorem dX5_giveBack_92 : decode cX5_giveBack 92 = .ok (.iinc 3 1, 3) := by decide +kernel
theorem dX5_giveBack_95 : decode cX5_giveBack 95 = .ok (.iinc 5 1, 3) := by decide +kernel
theorem dX5_giveBack_98 : decode cX5_giveBack 98 = .ok (.goto (-65), 3) := by decide +kernel
theorem dX5_giveBack_101 : decode cX5_giveBack 101 = .ok (.aload_n 0, 1) := by decide +kernel
theorem dX5_giveBack_102 : decode cX5_giveBack 102 = .ok (.getfield 50, 3) := by decide +kernel
theorem dX5_giveBack_105 : decode cX5_giveBack 105 = .ok (.bipush 16, 2) := by decide +kernel
theorem dX5_giveBack_107 : decode cX5_giveBack 107 = .ok (.iload_n 1, 1) := by decide +kernel
theorem dX5_giveBack_108 : decode cX5_giveBack 108 = .ok (.imul, 1) := by decide +kernel
theorem dX5_giveBack_109 : decode cX5_giveBack 109 = .ok (.iload 4, 2) := by decide +kernel
theorem dX5_giveBack_111 : decode cX5_giveBack 111 = .ok (.iadd, 1) := by decide +kernel
theorem dX5_giveBack_112 : decode cX5_giveBack 112 = .ok (.iaload, 1) := by decide +kernel
theorem dX5_giveBack_113 : decode cX5_giveBack 113 = .ok (.aload_n 0, 1) := by decide +kernel
theorem dX5_giveBack_114 : decode cX5_giveBack 114 = .ok (.getfield 115, 3) := by decide +kernel
theorem dX5_giveBack_117 : decode cX5_giveBack 117 = .ok (.if_icmp .le 52, 3) := by decide +kernel
theorem dX5_giveBack_120 : decode cX5_giveBack 120 = .ok (.aload_n 0, 1) := by decide +kernel
theorem dX5_giveBack_121 : decode cX5_giveBack 121 = .ok (.getfield 50, 3) := by decide +kernel
theorem dX5_giveBack_124 : decode cX5_giveBack 124 = .ok (.bipush 16, 2) := by decide +kernel
theorem dX5_giveBack_126 : decode cX5_giveBack 126 = .ok (.iload_n 1, 1) := by decide +kernel
theorem dX5_giveBack_127 : decode cX5_giveBack 127 = .ok (.imul, 1) := by decide +kernel
theorem dX5_giveBack_128 : decode cX5_giveBack 128 = .ok (.iload_n 2, 1) := by decide +kernel
theorem dX5_giveBack_129 : decode cX5_giveBack 129 = .ok (.iadd, 1) := by decide +kernel
theorem dX5_giveBack_130 : decode cX5_giveBack 130 = .ok (.aload_n 0, 1) := by decide +kernel
theorem dX5_giveBack_131 : decode cX5_giveBack 131 = .ok (.getfield 50, 3) := by decide +kernel
theorem dX5_giveBack_134 : decode cX5_giveBack 134 = .ok (.bipush 16, 2) := by decide +kernel
theorem dX5_giveBack_136 : decode cX5_giveBack 136 = .ok (.iload_n 1, 1) := by decide +kernel
theorem dX5_giveBack_137 : decode cX5_giveBack 137 = .ok (.imul, 1) := by decide +kernel
theorem dX5_giveBack_138 : decode cX5_giveBack 138 = .ok (.iload 4, 2) := by decide +kernel
theorem dX5_giveBack_140 : decode cX5_giveBack 140 = .ok (.iadd, 1) := by decide +kernel
theorem dX5_giveBack_141 : decode cX5_giveBack 141 = .ok (.iaload, 1) := by decide +kernel
theorem dX5_giveBack_142 : decode cX5_giveBack 142 = .ok (.iastore, 1) := by decide +kernel
theorem dX5_giveBack_143 : decode cX5_giveBack 143 = .ok (.aload_n 0, 1) := by decide +kernel
theorem dX5_giveBack_144 : decode cX5_giveBack 144 = .ok (.getfield 53, 3) := by decide +kernel
theorem dX5_giveBack_147 : decode cX5_giveBack 147 = .ok (.bipush 16, 2) := by decide +kernel
theorem dX5_giveBack_149 : decode cX5_giveBack 149 = .ok (.iload_n 1, 1) := by decide +kernel
theorem dX5_giveBack_150 : decode cX5_giveBack 150 = .ok (.imul, 1) := by decide +kernel
theorem dX5_giveBack_151 : decode cX5_giveBack 151 = .ok (.iload_n 2, 1) := by decide +kernel
theorem dX5_giveBack_152 : decode cX5_giveBack 152 = .ok (.iadd, 1) := by decide +kernel
theorem dX5_giveBack_153 : decode cX5_giveBack 153 = .ok (.aload_n 0, 1) := by decide +kernel
theorem dX5_giveBack_154 : decode cX5_giveBack 154 = .ok (.getfield 53, 3) := by decide +kernel
theorem dX5_giveBack_157 : decode cX5_giveBack 157 = .ok (.bipush 16, 2) := by decide +kernel
theorem dX5_giveBack_159 : decode cX5_giveBack 159 = .ok (.iload_n 1, 1) := by decide +kernel
theorem dX5_giveBack_160 : decode cX5_giveBack 160 = .ok (.imul, 1) := by decide +kernel
theorem dX5_giveBack_161 : decode cX5_giveBack 161 = .ok (.iload 4, 2) := by decide +kernel
theorem dX5_giveBack_163 : decode cX5_giveBack 163 = .ok (.iadd, 1) := by decide +kernel
theorem dX5_giveBack_164 : decode cX5_giveBack 164 = .ok (.iaload, 1) := by decide +kernel
theorem dX5_giveBack_165 : decode cX5_giveBack 165 = .ok (.iastore, 1) := by decide +kernel
theorem dX5_giveBack_166 : decode cX5_giveBack 166 = .ok (.iinc 2 1, 3) := by decide +kernel
theorem dX5_giveBack_169 : decode cX5_giveBack 169 = .ok (.iinc 4 1, 3) := by decide +kernel
theorem dX5_giveBack_172 : decode cX5_giveBack 172 = .ok (.goto (-153), 3) := by decide +kernel
theorem dX5_giveBack_175 : decode cX5_giveBack 175 = .ok (.aload_n 0, 1) := by decide +kernel
theorem dX5_giveBack_176 : decode cX5_giveBack 176 = .ok (.getfield 47, 3) := by decide +kernel
theorem dX5_giveBack_179 : decode cX5_giveBack 179 = .ok (.iload_n 1, 1) := by decide +kernel
theorem dX5_giveBack_180 : decode cX5_giveBack 180 = .ok (.iload_n 2, 1) := by decide +kernel
theorem dX5_giveBack_181 : decode cX5_giveBack 181 = .ok (.iastore, 1) := by decide +kernel
theorem dX5_giveBack_182 : decode cX5_giveBack 182 = .ok (.iinc 1 1, 3) := by decide +kernel
theorem dX5_giveBack_185 : decode cX5_giveBack 185 = .ok (.goto (-183), 3) := by decide +kernel
theorem dX5_giveBack_188 : decode cX5_giveBack 188 = .ok (.return_, 1) := by decide +kernel
theorem dX5_spend_0 : decode cX5_spend 0 = .ok (.bipush 16, 2) := by decide +kernel
theorem dX5_spend_2 : decode cX5_spend 2 = .ok (.iload_n 1, 1) := by decide +kernel
theorem dX5_spend_3 : decode cX5_spend 3 = .ok (.imul, 1) := by decide +kernel
theorem dX5_spend_4 : decode cX5_spend 4 = .ok (.aload_n 0, 1) := by decide +kernel
theorem dX5_spend_5 : decode cX5_spend 5 = .ok (.getfield 47, 3) := by decide +kernel
theorem dX5_spend_8 : decode cX5_spend 8 = .ok (.iload_n 1, 1) := by decide +kernel
theorem dX5_spend_9 : decode cX5_spend 9 = .ok (.iaload, 1) := by decide +kernel
theorem dX5_spend_10 : decode cX5_spend 10 = .ok (.iadd, 1) := by decide +kernel
theorem dX5_spend_11 : decode cX5_spend 11 = .ok (.iconst 1, 1) := by decide +kernel
theorem dX5_spend_12 : decode cX5_spend 12 = .ok (.isub, 1) := by decide +kernel
theorem dX5_spend_13 : decode cX5_spend 13 = .ok (.istore_n 3, 1) := by decide +kernel
theorem dX5_spend_14 : decode cX5_spend 14 = .ok (.aload_n 0, 1) := by decide +kernel
theorem dX5_spend_15 : decode cX5_spend 15 = .ok (.getfield 47, 3) := by decide +kernel
theorem dX5_spend_18 : decode cX5_spend 18 = .ok (.iload_n 1, 1) := by decide +kernel
theorem dX5_spend_19 : decode cX5_spend 19 = .ok (.iaload, 1) := by decide +kernel
theorem dX5_spend_20 : decode cX5_spend 20 = .ok (.ifCond .le 61, 3) := by decide +kernel
theorem dX5_spend_23 : decode cX5_spend 23 = .ok (.aload_n 0, 1) := by decide +kernel
theorem dX5_spend_24 : decode cX5_spend 24 = .ok (.getfield 50, 3) := by decide +kernel
theorem dX5_spend_27 : decode cX5_spend 27 = .ok (.iload_n 3, 1) := by decide +kernel
theorem dX5_spend_28 : decode cX5_spend 28 = .ok (.iaload, 1) := by decide +kernel
theorem dX5_spend_29 : decode cX5_spend 29 = .ok (.iload_n 2, 1) := by decide +kernel
theorem dX5_spend_30 : decode cX5_spend 30 = .ok (.if_icmp .eq 14, 3) := by decide +kernel
theorem dX5_spend_33 : decode cX5_spend 33 = .ok (.aload_n 0, 1) := by decide +kernel
theorem dX5_spend_34 : decode cX5_spend 34 = .ok (.getfield 47, 3) := by decide +kernel
theorem dX5_spend_37 : decode cX5_spend 37 = .ok (.iload_n 1, 1) := by decide +kernel
theorem dX5_spend_38 : decode cX5_spend 38 = .ok (.iaload, 1) := by decide +kernel
theorem dX5_spend_39 : decode cX5_spend 39 = .ok (.bipush 16, 2) := by decide +kernel
theorem dX5_spend_41 : decode cX5_spend 41 = .ok (.if_icmp .ne 40, 3) := by decide +kernel
theorem dX5_spend_44 : decode cX5_spend 44 = .ok (.aload_n 0, 1) := by decide +kernel
theorem dX5_spend_45 : decode cX5_spend 45 = .ok (.getfield 53, 3) := by decide +kernel
theorem dX5_spend_48 : decode cX5_spend 48 = .ok (.iload_n 3, 1) := by decide +kernel
theorem dX5_spend_49 : decode cX5_spend 49 = .ok (.dup2, 1) := by decide +kernel
theorem dX5_spend_50 : decode cX5_spend 50 = .ok (.iaload, 1) := by decide +kernel
theorem dX5_spend_51 : decode cX5_spend 51 = .ok (.iconst 1, 1) := by decide +kernel
theorem dX5_spend_52 : decode cX5_spend 52 = .ok (.iadd, 1) := by decide +kernel
theorem dX5_spend_53 : decode cX5_spend 53 = .ok (.iastore, 1) := by decide +kernel
theorem dX5_spend_54 : decode cX5_spend 54 = .ok (.aload_n 0, 1) := by decide +kernel
theorem dX5_spend_55 : decode cX5_spend 55 = .ok (.getfield 50, 3) := by decide +kernel
theorem dX5_spend_58 : decode cX5_spend 58 = .ok (.iload_n 3, 1) := by decide +kernel
theorem dX5_spend_59 : decode cX5_spend 59 = .ok (.iload_n 2, 1) := by decide +kernel
theorem dX5_spend_60 : decode cX5_spend 60 = .ok (.aload_n 0, 1) := by decide +kernel
theorem dX5_spend_61 : decode cX5_spend 61 = .ok (.getfield 50, 3) := by decide +kernel
theorem dX5_spend_64 : decode cX5_spend 64 = .ok (.iload_n 3, 1) := by decide +kernel
theorem dX5_spend_65 : decode cX5_spend 65 = .ok (.iaload, 1) := by decide +kernel
theorem dX5_spend_66 : decode cX5_spend 66 = .ok (.if_icmp .le 7, 3) := by decide +kernel
theorem dX5_spend_69 : decode cX5_spend 69 = .ok (.iload_n 2, 1) := by decide +kernel
theorem dX5_spend_70 : decode cX5_spend 70 = .ok (.goto 9, 3) := by decide +kernel
theorem dX5_spend_73 : decode cX5_spend 73 = .ok (.aload_n 0, 1) := by decide +kernel
theorem dX5_spend_74 : decode cX5_spend 74 = .ok (.getfield 50, 3) := by decide +kernel
theorem dX5_spend_77 : decode cX5_spend 77 = .ok (.iload_n 3, 1) := by decide +kernel
theorem dX5_spend_78 : decode cX5_spend 78 = .ok (.iaload, 1) := by decide +kernel
theorem dX5_spend_79 : decode cX5_spend 79 = .ok (.iastore, 1) := by decide +kernel
theorem dX5_spend_80 : decode cX5_spend 80 = .ok (.return_, 1) := by decide +kernel
theorem dX5_spend_81 : decode cX5_spend 81 = .ok (.aload_n 0, 1) := by decide +kernel
theorem dX5_spend_82 : decode cX5_spend 82 = .ok (.getfield 50, 3) := by decide +kernel
theorem dX5_spend_85 : decode cX5_spend 85 = .ok (.iload_n 3, 1) := by decide +kernel
theorem dX5_spend_86 : decode cX5_spend 86 = .ok (.iconst 1, 1) := by decide +kernel
theorem dX5_spend_87 : decode cX5_spend 87 = .ok (.iadd, 1) := by decide +kernel
theorem dX5_spend_88 : decode cX5_spend 88 = .ok (.iload_n 2, 1) := by decide +kernel
theorem dX5_spend_89 : decode cX5_spend 89 = .ok (.iastore, 1) := by decide +kernel
theorem dX5_spend_90 : decode cX5_spend 90 = .ok (.aload_n 0, 1) := by decide +kernel
theorem dX5_spend_91 : decode cX5_spend 91 = .ok (.getfield 53, 3) := by decide +kernel
theorem dX5_spend_94 : decode cX5_spend 94 = .ok (.iload_n 3, 1) := by decide +kernel
theorem dX5_spend_95 : decode cX5_spend 95 = .ok (.iconst 1, 1) := by decide +kernel
theorem dX5_spend_96 : decode cX5_spend 96 = .ok (.iadd, 1) := by decide +kernel
theorem dX5_spend_97 : decode cX5_spend 97 = .ok (.iconst 1, 1) := by decide +kernel
theorem dX5_spend_98 : decode cX5_spend 98 = .ok (.iastore, 1) := by decide +kernel
theorem dX5_spend_99 : decode cX5_spend 99 = .ok (.aload_n 0, 1) := by decide +kernel
theorem dX5_spend_100 : decode cX5_spend 100 = .ok (.getfield 47, 3) := by decide +kernel
theorem dX5_spend_103 : decode cX5_spend 103 = .ok (.iload_n 1, 1) := by decide +kernel
theorem dX5_spend_104 : decode cX5_spend 104 = .ok (.dup2, 1) := by decide +kernel
theorem dX5_spend_105 : decode cX5_spend 105 = .ok (.iaload, 1) := by decide +kernel
theorem dX5_spend_106 : decode cX5_spend 106 = .ok (.iconst 1, 1) := by decide +kernel
theorem dX5_spend_107 : decode cX5_spend 107 = .ok (.iadd, 1) := by decide +kernel
theorem dX5_spend_108 : decode cX5_spend 108 = .ok (.iastore, 1) := by decide +kernel
theorem dX5_spend_109 : decode cX5_spend 109 = .ok (.return_, 1) := by decide +kernel
theorem dX5_firstPiece_0 : decode cX5_firstPiece 0 = .ok (.iconst (-1), 1) := by decide +kernel
theorem dX5_firstPiece_1 : decode cX5_firstPiece 1 = .ok (.istore_n 2, 1) := by decide +kernel
theorem dX5_firstPiece_2 : decode cX5_firstPiece 2 = .ok (.iconst 0, 1) := by decide +kernel
theorem dX5_firstPiece_3 : decode cX5_firstPiece 3 = .ok (.istore_n 3, 1) := by decide +kernel
theorem dX5_firstPiece_4 : decode cX5_firstPiece 4 = .ok (.iload_n 3, 1) := by decide +kernel
theorem dX5_firstPiece_5 : decode cX5_firstPiece 5 = .ok (.aload_n 0, 1) := by decide +kernel
theorem dX5_firstPiece_6 : decode cX5_firstPiece 6 = .ok (.getfield 47, 3) := by decide +kernel
theorem dX5_firstPiece_9 : decode cX5_firstPiece 9 = .ok (.iload_n 1, 1) := by decide +kernel
theorem dX5_firstPiece_10 : decode cX5_firstPiece 10 = .ok (.iaload, 1) := by decide +kernel
theorem dX5_firstPiece_11 : decode cX5_firstPiece 11 = .ok (.if_icmp .ge 44, 3) := by decide +kernel
theorem dX5_firstPiece_14 : decode cX5_firstPiece 14 = .ok (.iload_n 2, 1) := by decide +kernel
theorem dX5_firstPiece_15 : decode cX5_firstPiece 15 = .ok (.ifCond .lt 28, 3) := by decide +kernel
theorem dX5_firstPiece_18 : decode cX5_firstPiece 18 = .ok (.aload_n 0, 1) := by decide +kernel
theorem dX5_firstPiece_19 : decode cX5_firstPiece 19 = .ok (.getfield 50, 3) := by decide +kernel
theorem dX5_firstPiece_22 : decode cX5_firstPiece 22 = .ok (.bipush 16, 2) := by decide +kernel
theorem dX5_firstPiece_24 : decode cX5_firstPiece 24 = .ok (.iload_n 1, 1) := by decide +kernel
theorem dX5_firstPiece_25 : decode cX5_firstPiece 25 = .ok (.imul, 1) := by decide +kernel
theorem dX5_firstPiece_26 : decode cX5_firstPiece 26 = .ok (.iload_n 3, 1) := by decide +kernel
theorem dX5_firstPiece_27 : decode cX5_firstPiece 27 = .ok (.iadd, 1) := by decide +kernel
theorem dX5_firstPiece_28 : decode cX5_firstPiece 28 = .ok (.iaload, 1) := by decide +kernel
theorem dX5_firstPiece_29 : decode cX5_firstPiece 29 = .ok (.aload_n 0, 1) := by decide +kernel
theorem dX5_firstPiece_30 : decode cX5_firstPiece 30 = .ok (.getfield 50, 3) := by decide +kernel
theorem dX5_firstPiece_33 : decode cX5_firstPiece 33 = .ok (.bipush 16, 2) := by decide +kernel
theorem dX5_firstPiece_35 : decode cX5_firstPiece 35 = .ok (.iload_n 1, 1) := by decide +kernel
theorem dX5_firstPiece_36 : decode cX5_firstPiece 36 = .ok (.imul, 1) := by decide +kernel
theorem dX5_firstPiece_37 : decode cX5_firstPiece 37 = .ok (.iload_n 2, 1) := by decide +kernel
theorem dX5_firstPiece_38 : decode cX5_firstPiece 38 = .ok (.iadd, 1) := by decide +kernel
theorem dX5_firstPiece_39 : decode cX5_firstPiece 39 = .ok (.iaload, 1) := by decide +kernel
theorem dX5_firstPiece_40 : decode cX5_firstPiece 40 = .ok (.if_icmp .ge 7, 3) := by decide +kernel
theorem dX5_firstPiece_43 : decode cX5_firstPiece 43 = .ok (.iload_n 3, 1) := by decide +kernel
theorem dX5_firstPiece_44 : decode cX5_firstPiece 44 = .ok (.goto 4, 3) := by decide +kernel
theorem dX5_firstPiece_47 : decode cX5_firstPiece 47 = .ok (.iload_n 2, 1) := by decide +kernel
theorem dX5_firstPiece_48 : decode cX5_firstPiece 48 = .ok (.istore_n 2, 1) := by decide +kernel
theorem dX5_firstPiece_49 : decode cX5_firstPiece 49 = .ok (.iinc 3 1, 3) := by decide +kernel
theorem dX5_firstPiece_52 : decode cX5_firstPiece 52 = .ok (.goto (-48), 3) := by decide +kernel
theorem dX5_firstPiece_55 : decode cX5_firstPiece 55 = .ok (.iload_n 2, 1) := by decide +kernel
theorem dX5_firstPiece_56 : decode cX5_firstPiece 56 = .ok (.ireturn, 1) := by decide +kernel
theorem dX5_ceil_0 : decode cX5_ceil 0 = .ok (.iload_n 0, 1) := by decide +kernel
theorem dX5_ceil_1 : decode cX5_ceil 1 = .ok (.iload_n 1, 1) := by decide +kernel
theorem dX5_ceil_2 : decode cX5_ceil 2 = .ok (.irem, 1) := by decide +kernel
theorem dX5_ceil_3 : decode cX5_ceil 3 = .ok (.ifCond .ne 9, 3) := by decide +kernel
theorem dX5_ceil_6 : decode cX5_ceil 6 = .ok (.iload_n 0, 1) := by decide +kernel
theorem dX5_ceil_7 : decode cX5_ceil 7 = .ok (.iload_n 1, 1) := by decide +kernel
theorem dX5_ceil_8 : decode cX5_ceil 8 = .ok (.idiv, 1) := by decide +kernel
theorem dX5_ceil_9 : decode cX5_ceil 9 = .ok (.goto 8, 3) := by decide +kernel
theorem dX5_ceil_12 : decode cX5_ceil 12 = .ok (.iload_n 0, 1) := by decide +kernel
theorem dX5_ceil_13 : decode cX5_ceil 13 = .ok (.iload_n 1, 1) := by decide +kernel
theorem dX5_ceil_14 : decode cX5_ceil 14 = .ok (.idiv, 1) := by decide +kernel
theorem dX5_ceil_15 : decode cX5_ceil 15 = .ok (.iconst 1, 1) := by decide +kernel
theorem dX5_ceil_16 : decode cX5_ceil 16 = .ok (.iadd, 1) := by decide +kernel
theorem dX5_ceil_17 : decode cX5_ceil 17 = .ok (.ireturn, 1) := by decide +kernel
theorem dX5_handlers_0 : decode cX5_handlers 0 = .ok (.aload_n 0, 1) := by decide +kernel
theorem dX5_handlers_1 : decode cX5_handlers 1 = .ok (.getfield 7, 3) := by decide +kernel
theorem dX5_handlers_4 : decode cX5_handlers 4 = .ok (.iload_n 1, 1) := by decide +kernel
theorem dX5_handlers_5 : decode cX5_handlers 5 = .ok (.baload, 1) := by decide +kernel
theorem dX5_handlers_6 : decode cX5_handlers 6 = .ok (.ifCond .eq 25, 3) := by decide +kernel
theorem dX5_handlers_9 : decode cX5_handlers 9 = .ok (.iload_n 2, 1) := by decide +kernel
theorem dX5_handlers_10 : decode cX5_handlers 10 = .ok (.aload_n 0, 1) := by decide +kernel
theorem dX5_handlers_11 : decode cX5_handlers 11 = .ok (.getfield 26, 3) := by decide +kernel
theorem dX5_handlers_14 : decode cX5_handlers 14 = .ok (.iload_n 1, 1) := by decide +kernel
theorem dX5_handlers_15 : decode cX5_handlers 15 = .ok (.iaload, 1) := by decide +kernel
theorem dX5_handlers_16 : decode cX5_handlers 16 = .ok (.invokestatic 118, 3) := by decide +kernel
theorem dX5_handlers_19 : decode cX5_handlers 19 = .ok (.iconst 1, 1) := by decide +kernel
theorem dX5_handlers_20 : decode cX5_handlers 20 = .ok (.iadd, 1) := by decide +kernel
theorem dX5_handlers_21 : decode cX5_handlers 21 = .ok (.aload_n 0, 1) := by decide +kernel
theorem dX5_handlers_22 : decode cX5_handlers 22 = .ok (.getfield 23, 3) := by decide +kernel
theorem dX5_handlers_25 : decode cX5_handlers 25 = .ok (.iload_n 1, 1) := by decide +kernel
theorem dX5_handlers_26 : decode cX5_handlers 26 = .ok (.iaload, 1) := by decide +kernel
theorem dX5_handlers_27 : decode cX5_handlers 27 = .ok (.imul, 1) := by decide +kernel
theorem dX5_handlers_28 : decode cX5_handlers 28 = .ok (.goto 4, 3) := by decide +kernel
theorem dX5_handlers_31 : decode cX5_handlers 31 = .ok (.iconst 0, 1) := by decide +kernel
theorem dX5_handlers_32 : decode cX5_handlers 32 = .ok (.ireturn, 1) := by decide +kernel
theorem dX5_topHalves_0 : decode cX5_topHalves 0 = .ok (.aload_n 0, 1) := by decide +kernel
theorem dX5_topHalves_1 : decode cX5_topHalves 1 = .ok (.getfield 7, 3) := by decide +kernel
theorem dX5_topHalves_4 : decode cX5_topHalves 4 = .ok (.iload_n 1, 1) := by decide +kernel
theorem dX5_topHalves_5 : decode cX5_topHalves 5 = .ok (.baload, 1) := by decide +kernel
theorem dX5_topHalves_6 : decode cX5_topHalves 6 = .ok (.ifCond .eq 25, 3) := by decide +kernel
theorem dX5_topHalves_9 : decode cX5_topHalves 9 = .ok (.iload_n 2, 1) := by decide +kernel
theorem dX5_topHalves_10 : decode cX5_topHalves 10 = .ok (.aload_n 0, 1) := by decide +kernel
theorem dX5_topHalves_11 : decode cX5_topHalves 11 = .ok (.getfield 20, 3) := by decide +kernel
theorem dX5_topHalves_14 : decode cX5_topHalves 14 = .ok (.iload_n 1, 1) := by decide +kernel
theorem dX5_topHalves_15 : decode cX5_topHalves 15 = .ok (.iaload, 1) := by decide +kernel
theorem dX5_topHalves_16 : decode cX5_topHalves 16 = .ok (.invokestatic 118, 3) := by decide +kernel
theorem dX5_topHalves_19 : decode cX5_topHalves 19 = .ok (.iconst 1, 1) := by decide +kernel
theorem dX5_topHalves_20 : decode cX5_topHalves 20 = .ok (.iadd, 1) := by decide +kernel
theorem dX5_topHalves_21 : decode cX5_topHalves 21 = .ok (.aload_n 0, 1) := by decide +kernel
theorem dX5_topHalves_22 : decode cX5_topHalves 22 = .ok (.getfield 13, 3) := by decide +kernel
theorem dX5_topHalves_25 : decode cX5_topHalves 25 = .ok (.iload_n 1, 1) := by decide +kernel
theorem dX5_topHalves_26 : decode cX5_topHalves 26 = .ok (.iaload, 1) := by decide +kernel
theorem dX5_topHalves_27 : decode cX5_topHalves 27 = .ok (.imul, 1) := by decide +kernel
theorem dX5_topHalves_28 : decode cX5_topHalves 28 = .ok (.goto 4, 3) := by decide +kernel
theorem dX5_topHalves_31 : decode cX5_topHalves 31 = .ok (.iconst 0, 1) := by decide +kernel
theorem dX5_topHalves_32 : decode cX5_topHalves 32 = .ok (.ireturn, 1) := by decide +kernel
theorem dX5_sourcesIn_0 : decode cX5_sourcesIn 0 = .ok (.iconst 0, 1) := by decide +kernel
theorem dX5_sourcesIn_1 : decode cX5_sourcesIn 1 = .ok (.istore_n 2, 1) := by decide +kernel
theorem dX5_sourcesIn_2 : decode cX5_sourcesIn 2 = .ok (.iconst 0, 1) := by decide +kernel
theorem dX5_sourcesIn_3 : decode cX5_sourcesIn 3 = .ok (.istore_n 3, 1) := by decide +kernel
theorem dX5_sourcesIn_4 : decode cX5_sourcesIn 4 = .ok (.iload_n 3, 1) := by decide +kernel
theorem dX5_sourcesIn_5 : decode cX5_sourcesIn 5 = .ok (.bipush 6, 2) := by decide +kernel
theorem dX5_sourcesIn_7 : decode cX5_sourcesIn 7 = .ok (.if_icmp .ge 25, 3) := by decide +kernel
theorem dX5_sourcesIn_10 : decode cX5_sourcesIn 10 = .ok (.iload_n 2, 1) := by decide +kernel
theorem dX5_sourcesIn_11 : decode cX5_sourcesIn 11 = .ok (.aload_n 0, 1) := by decide +kernel
theorem dX5_sourcesIn_12 : decode cX5_sourcesIn 12 = .ok (.iload_n 3, 1) := by decide +kernel
theorem dX5_sourcesIn_13 : decode cX5_sourcesIn 13 = .ok (.iload_n 1, 1) := by decide +kernel
theorem dX5_sourcesIn_14 : decode cX5_sourcesIn 14 = .ok (.invokevirtual 122, 3) := by decide +kernel
theorem dX5_sourcesIn_17 : decode cX5_sourcesIn 17 = .ok (.iadd, 1) := by decide +kernel
theorem dX5_sourcesIn_18 : decode cX5_sourcesIn 18 = .ok (.aload_n 0, 1) := by decide +kernel
theorem dX5_sourcesIn_19 : decode cX5_sourcesIn 19 = .ok (.iload_n 3, 1) := by decide +kernel
theorem dX5_sourcesIn_20 : decode cX5_sourcesIn 20 = .ok (.iload_n 1, 1) := by decide +kernel
theorem dX5_sourcesIn_21 : decode cX5_sourcesIn 21 = .ok (.invokevirtual 125, 3) := by decide +kernel
theorem dX5_sourcesIn_24 : decode cX5_sourcesIn 24 = .ok (.iadd, 1) := by decide +kernel
theorem dX5_sourcesIn_25 : decode cX5_sourcesIn 25 = .ok (.istore_n 2, 1) := by decide +kernel
theorem dX5_sourcesIn_26 : decode cX5_sourcesIn 26 = .ok (.iinc 3 1, 3) := by decide +kernel
theorem dX5_sourcesIn_29 : decode cX5_sourcesIn 29 = .ok (.goto (-25), 3) := by decide +kernel
theorem dX5_sourcesIn_32 : decode cX5_sourcesIn 32 = .ok (.iload_n 2, 1) := by decide +kernel
theorem dX5_sourcesIn_33 : decode cX5_sourcesIn 33 = .ok (.ireturn, 1) := by decide +kernel
theorem dX5_taskNeeds_0 : decode cX5_taskNeeds 0 = .ok (.aload_n 0, 1) := by decide +kernel
theorem dX5_taskNeeds_1 : decode cX5_taskNeeds 1 = .ok (.getfield 80, 3) := by decide +kernel
theorem dX5_taskNeeds_4 : decode cX5_taskNeeds 4 = .ok (.iload_n 1, 1) := by decide +kernel
theorem dX5_taskNeeds_5 : decode cX5_taskNeeds 5 = .ok (.iaload, 1) := by decide +kernel
theorem dX5_taskNeeds_6 : decode cX5_taskNeeds 6 = .ok (.aload_n 0, 1) := by decide +kernel
theorem dX5_taskNeeds_7 : decode cX5_taskNeeds 7 = .ok (.iload_n 2, 1) := by decide +kernel
theorem dX5_taskNeeds_8 : decode cX5_taskNeeds 8 = .ok (.invokevirtual 128, 3) := by decide +kernel
theorem dX5_taskNeeds_11 : decode cX5_taskNeeds 11 = .ok (.iadd, 1) := by decide +kernel
theorem dX5_taskNeeds_12 : decode cX5_taskNeeds 12 = .ok (.istore_n 3, 1) := by decide +kernel
theorem dX5_taskNeeds_13 : decode cX5_taskNeeds 13 = .ok (.iconst 0, 1) := by decide +kernel
theorem dX5_taskNeeds_14 : decode cX5_taskNeeds 14 = .ok (.istore 4, 2) := by decide +kernel
theorem dX5_taskNeeds_16 : decode cX5_taskNeeds 16 = .ok (.iload 4, 2) := by decide +kernel
theorem dX5_taskNeeds_18 : decode cX5_taskNeeds 18 = .ok (.bipush 6, 2) := by decide +kernel
theorem dX5_taskNeeds_20 : decode cX5_taskNeeds 20 = .ok (.if_icmp .ge 61, 3) := by decide +kernel
theorem dX5_taskNeeds_23 : decode cX5_taskNeeds 23 = .ok (.aload_n 0, 1) := by decide +kernel
theorem dX5_taskNeeds_24 : decode cX5_taskNeeds 24 = .ok (.getfield 74, 3) := by decide +kernel
theorem dX5_taskNeeds_27 : decode cX5_taskNeeds 27 = .ok (.iload 4, 2) := by decide +kernel
theorem dX5_taskNeeds_29 : decode cX5_taskNeeds 29 = .ok (.baload, 1) := by decide +kernel
theorem dX5_taskNeeds_30 : decode cX5_taskNeeds 30 = .ok (.ifCond .eq 43, 3) := by decide +kernel
theorem dX5_taskNeeds_33 : decode cX5_taskNeeds 33 = .ok (.aload_n 0, 1) := by decide +kernel
theorem dX5_taskNeeds_34 : decode cX5_taskNeeds 34 = .ok (.getfield 83, 3) := by decide +kernel
theorem dX5_taskNeeds_37 : decode cX5_taskNeeds 37 = .ok (.iload 4, 2) := by decide +kernel
theorem dX5_taskNeeds_39 : decode cX5_taskNeeds 39 = .ok (.iaload, 1) := by decide +kernel
theorem dX5_taskNeeds_40 : decode cX5_taskNeeds 40 = .ok (.aload_n 0, 1) := by decide +kernel
theorem dX5_taskNeeds_41 : decode cX5_taskNeeds 41 = .ok (.getfield 83, 3) := by decide +kernel
theorem dX5_taskNeeds_44 : decode cX5_taskNeeds 44 = .ok (.iload_n 1, 1) := by decide +kernel
theorem dX5_taskNeeds_45 : decode cX5_taskNeeds 45 = .ok (.iaload, 1) := by decide +kernel
theorem dX5_taskNeeds_46 : decode cX5_taskNeeds 46 = .ok (.if_icmp .le 27, 3) := by decide +kernel
theorem dX5_taskNeeds_49 : decode cX5_taskNeeds 49 = .ok (.iload_n 3, 1) := by decide +kernel
theorem dX5_taskNeeds_50 : decode cX5_taskNeeds 50 = .ok (.iload_n 2, 1) := by decide +kernel
theorem dX5_taskNeeds_51 : decode cX5_taskNeeds 51 = .ok (.aload_n 0, 1) := by decide +kernel
theorem dX5_taskNeeds_52 : decode cX5_taskNeeds 52 = .ok (.getfield 77, 3) := by decide +kernel
theorem dX5_taskNeeds_55 : decode cX5_taskNeeds 55 = .ok (.iload 4, 2) := by decide +kernel
theorem dX5_taskNeeds_57 : decode cX5_taskNeeds 57 = .ok (.iaload, 1) := by decide +kernel
theorem dX5_taskNeeds_58 : decode cX5_taskNeeds 58 = .ok (.invokestatic 118, 3) := by decide +kernel
theorem dX5_taskNeeds_61 : decode cX5_taskNeeds 61 = .ok (.aload_n 0, 1) := by decide +kernel
theorem dX5_taskNeeds_62 : decode cX5_taskNeeds 62 = .ok (.getfield 80, 3) := by decide +kernel
theorem dX5_taskNeeds_65 : decode cX5_taskNeeds 65 = .ok (.iload 4, 2) := by decide +kernel
theorem dX5_taskNeeds_67 : decode cX5_taskNeeds 67 = .ok (.iaload, 1) := by decide +kernel
theorem dX5_taskNeeds_68 : decode cX5_taskNeeds 68 = .ok (.imul, 1) := by decide +kernel
theorem dX5_taskNeeds_69 : decode cX5_taskNeeds 69 = .ok (.iadd, 1) := by decide +kernel
theorem dX5_taskNeeds_70 : decode cX5_taskNeeds 70 = .ok (.goto 4, 3) := by decide +kernel
theorem dX5_taskNeeds_73 : decode cX5_taskNeeds 73 = .ok (.iload_n 3, 1) := by decide +kernel
theorem dX5_taskNeeds_74 : decode cX5_taskNeeds 74 = .ok (.istore_n 3, 1) := by decide +kernel
theorem dX5_taskNeeds_75 : decode cX5_taskNeeds 75 = .ok (.iinc 4 1, 3) := by decide +kernel
theorem dX5_taskNeeds_78 : decode cX5_taskNeeds 78 = .ok (.goto (-62), 3) := by decide +kernel
theorem dX5_taskNeeds_81 : decode cX5_taskNeeds 81 = .ok (.iload_n 3, 1) := by decide +kernel
theorem dX5_taskNeeds_82 : decode cX5_taskNeeds 82 = .ok (.ireturn, 1) := by decide +kernel
theorem dX5_sourceNeeds_0 : decode cX5_sourceNeeds 0 = .ok (.aload_n 0, 1) := by decide +kernel
theorem dX5_sourceNeeds_1 : decode cX5_sourceNeeds 1 = .ok (.getfield 17, 3) := by decide +kernel
theorem dX5_sourceNeeds_4 : decode cX5_sourceNeeds 4 = .ok (.iload_n 1, 1) := by decide +kernel
theorem dX5_sourceNeeds_5 : decode cX5_sourceNeeds 5 = .ok (.iaload, 1) := by decide +kernel
theorem dX5_sourceNeeds_6 : decode cX5_sourceNeeds 6 = .ok (.istore_n 3, 1) := by decide +kernel
theorem dX5_sourceNeeds_7 : decode cX5_sourceNeeds 7 = .ok (.iconst 0, 1) := by decide +kernel
theorem dX5_sourceNeeds_8 : decode cX5_sourceNeeds 8 = .ok (.istore 4, 2) := by decide +kernel
theorem dX5_sourceNeeds_10 : decode cX5_sourceNeeds 10 = .ok (.iload 4, 2) := by decide +kernel
theorem dX5_sourceNeeds_12 : decode cX5_sourceNeeds 12 = .ok (.bipush 6, 2) := by decide +kernel
theorem dX5_sourceNeeds_14 : decode cX5_sourceNeeds 14 = .ok (.if_icmp .ge 59, 3) := by decide +kernel
theorem dX5_sourceNeeds_17 : decode cX5_sourceNeeds 17 = .ok (.iload_n 3, 1) := by decide +kernel
theorem dX5_sourceNeeds_18 : decode cX5_sourceNeeds 18 = .ok (.aload_n 0, 1) := by decide +kernel
theorem dX5_sourceNeeds_19 : decode cX5_sourceNeeds 19 = .ok (.iload 4, 2) := by decide +kernel
theorem dX5_sourceNeeds_21 : decode cX5_sourceNeeds 21 = .ok (.iload_n 2, 1) := by decide +kernel
theorem dX5_sourceNeeds_22 : decode cX5_sourceNeeds 22 = .ok (.invokevirtual 125, 3) := by decide +kernel
theorem dX5_sourceNeeds_25 : decode cX5_sourceNeeds 25 = .ok (.iadd, 1) := by decide +kernel
theorem dX5_sourceNeeds_26 : decode cX5_sourceNeeds 26 = .ok (.istore_n 3, 1) := by decide +kernel
theorem dX5_sourceNeeds_27 : decode cX5_sourceNeeds 27 = .ok (.aload_n 0, 1) := by decide +kernel
theorem dX5_sourceNeeds_28 : decode cX5_sourceNeeds 28 = .ok (.getfield 7, 3) := by decide +kernel
theorem dX5_sourceNeeds_31 : decode cX5_sourceNeeds 31 = .ok (.iload 4, 2) := by decide +kernel
theorem dX5_sourceNeeds_33 : decode cX5_sourceNeeds 33 = .ok (.baload, 1) := by decide +kernel
theorem dX5_sourceNeeds_34 : decode cX5_sourceNeeds 34 = .ok (.ifCond .eq 31, 3) := by decide +kernel
theorem dX5_sourceNeeds_37 : decode cX5_sourceNeeds 37 = .ok (.aload_n 0, 1) := by decide +kernel
theorem dX5_sourceNeeds_38 : decode cX5_sourceNeeds 38 = .ok (.getfield 29, 3) := by decide +kernel
theorem dX5_sourceNeeds_41 : decode cX5_sourceNeeds 41 = .ok (.iload 4, 2) := by decide +kernel
theorem dX5_sourceNeeds_43 : decode cX5_sourceNeeds 43 = .ok (.iaload, 1) := by decide +kernel
theorem dX5_sourceNeeds_44 : decode cX5_sourceNeeds 44 = .ok (.aload_n 0, 1) := by decide +kernel
theorem dX5_sourceNeeds_45 : decode cX5_sourceNeeds 45 = .ok (.getfield 29, 3) := by decide +kernel
theorem dX5_sourceNeeds_48 : decode cX5_sourceNeeds 48 = .ok (.iload_n 1, 1) := by decide +kernel
theorem dX5_sourceNeeds_49 : decode cX5_sourceNeeds 49 = .ok (.iaload, 1) := by decide +kernel
theorem dX5_sourceNeeds_50 : decode cX5_sourceNeeds 50 = .ok (.if_icmp .le 15, 3) := by decide +kernel
theorem dX5_sourceNeeds_53 : decode cX5_sourceNeeds 53 = .ok (.iload_n 3, 1) := by decide +kernel
theorem dX5_sourceNeeds_54 : decode cX5_sourceNeeds 54 = .ok (.aload_n 0, 1) := by decide +kernel
theorem dX5_sourceNeeds_55 : decode cX5_sourceNeeds 55 = .ok (.iload 4, 2) := by decide +kernel
theorem dX5_sourceNeeds_57 : decode cX5_sourceNeeds 57 = .ok (.iload_n 2, 1) := by decide +kernel
theorem dX5_sourceNeeds_58 : decode cX5_sourceNeeds 58 = .ok (.invokevirtual 122, 3) := by decide +kernel
theorem dX5_sourceNeeds_61 : decode cX5_sourceNeeds 61 = .ok (.iadd, 1) := by decide +kernel
theorem dX5_sourceNeeds_62 : decode cX5_sourceNeeds 62 = .ok (.goto 4, 3) := by decide +kernel
theorem dX5_sourceNeeds_65 : decode cX5_sourceNeeds 65 = .ok (.iload_n 3, 1) := by decide +kernel
theorem dX5_sourceNeeds_66 : decode cX5_sourceNeeds 66 = .ok (.istore_n 3, 1) := by decide +kernel
theorem dX5_sourceNeeds_67 : decode cX5_sourceNeeds 67 = .ok (.iinc 4 1, 3) := by decide +kernel
theorem dX5_sourceNeeds_70 : decode cX5_sourceNeeds 70 = .ok (.goto (-60), 3) := by decide +kernel
theorem dX5_sourceNeeds_73 : decode cX5_sourceNeeds 73 = .ok (.iload_n 3, 1) := by decide +kernel
theorem dX5_sourceNeeds_74 : decode cX5_sourceNeeds 74 = .ok (.ireturn, 1) := by decide +kernel
theorem dX5_taskBound_0 : decode cX5_taskBound 0 = .ok (.iconst 1, 1) := by decide +kernel
theorem dX5_taskBound_1 : decode cX5_taskBound 1 = .ok (.istore_n 2, 1) := by decide +kernel
theorem dX5_taskBound_2 : decode cX5_taskBound 2 = .ok (.iload_n 2, 1) := by decide +kernel
theorem dX5_taskBound_3 : decode cX5_taskBound 3 = .ok (.aload_n 0, 1) := by decide +kernel
theorem dX5_taskBound_4 : decode cX5_taskBound 4 = .ok (.getfield 77, 3) := by decide +kernel
theorem dX5_taskBound_7 : decode cX5_taskBound 7 = .ok (.iload_n 1, 1) := by decide +kernel
theorem dX5_taskBound_8 : decode cX5_taskBound 8 = .ok (.iaload, 1) := by decide +kernel
theorem dX5_taskBound_9 : decode cX5_taskBound 9 = .ok (.if_icmp .gt 22, 3) := by decide +kernel
theorem dX5_taskBound_12 : decode cX5_taskBound 12 = .ok (.aload_n 0, 1) := by decide +kernel
theorem dX5_taskBound_13 : decode cX5_taskBound 13 = .ok (.iload_n 1, 1) := by decide +kernel
theorem dX5_taskBound_14 : decode cX5_taskBound 14 = .ok (.iload_n 2, 1) := by decide +kernel
theorem dX5_taskBound_15 : decode cX5_taskBound 15 = .ok (.invokevirtual 131, 3) := by decide +kernel
theorem dX5_taskBound_18 : decode cX5_taskBound 18 = .ok (.istore_n 3, 1) := by decide +kernel
theorem dX5_taskBound_19 : decode cX5_taskBound 19 = .ok (.iload_n 3, 1) := by decide +kernel
theorem dX5_taskBound_20 : decode cX5_taskBound 20 = .ok (.iload_n 2, 1) := by decide +kernel
theorem dX5_taskBound_21 : decode cX5_taskBound 21 = .ok (.if_icmp .ne 5, 3) := by decide +kernel
theorem dX5_taskBound_24 : decode cX5_taskBound 24 = .ok (.iload_n 2, 1) := by decide +kernel
theorem dX5_taskBound_25 : decode cX5_taskBound 25 = .ok (.ireturn, 1) := by decide +kernel
theorem dX5_taskBound_26 : decode cX5_taskBound 26 = .ok (.iload_n 3, 1) := by decide +kernel
theorem dX5_taskBound_27 : decode cX5_taskBound 27 = .ok (.istore_n 2, 1) := by decide +kernel
theorem dX5_taskBound_28 : decode cX5_taskBound 28 = .ok (.goto (-26), 3) := by decide +kernel
theorem dX5_taskBound_31 : decode cX5_taskBound 31 = .ok (.iconst (-1), 1) := by decide +kernel
theorem dX5_taskBound_32 : decode cX5_taskBound 32 = .ok (.ireturn, 1) := by decide +kernel
theorem dX5_sourceBound_0 : decode cX5_sourceBound 0 = .ok (.aload_n 0, 1) := by decide +kernel
theorem dX5_sourceBound_1 : decode cX5_sourceBound 1 = .ok (.getfield 17, 3) := by decide +kernel
theorem dX5_sourceBound_4 : decode cX5_sourceBound 4 = .ok (.iload_n 1, 1) := by decide +kernel
theorem dX5_sourceBound_5 : decode cX5_sourceBound 5 = .ok (.iaload, 1) := by decide +kernel
theorem dX5_sourceBound_6 : decode cX5_sourceBound 6 = .ok (.aload_n 0, 1) := by decide +kernel
theorem dX5_sourceBound_7 : decode cX5_sourceBound 7 = .ok (.getfield 23, 3) := by decide +kernel
theorem dX5_sourceBound_10 : decode cX5_sourceBound 10 = .ok (.iload_n 1, 1) := by decide +kernel
theorem dX5_sourceBound_11 : decode cX5_sourceBound 11 = .ok (.iaload, 1) := by decide +kernel
theorem dX5_sourceBound_12 : decode cX5_sourceBound 12 = .ok (.if_icmp .gt 18, 3) := by decide +kernel
theorem dX5_sourceBound_15 : decode cX5_sourceBound 15 = .ok (.aload_n 0, 1) := by decide +kernel
theorem dX5_sourceBound_16 : decode cX5_sourceBound 16 = .ok (.getfield 20, 3) := by decide +kernel
theorem dX5_sourceBound_19 : decode cX5_sourceBound 19 = .ok (.iload_n 1, 1) := by decide +kernel
theorem dX5_sourceBound_20 : decode cX5_sourceBound 20 = .ok (.iaload, 1) := by decide +kernel
theorem dX5_sourceBound_21 : decode cX5_sourceBound 21 = .ok (.aload_n 0, 1) := by decide +kernel
theorem dX5_sourceBound_22 : decode cX5_sourceBound 22 = .ok (.getfield 26, 3) := by decide +kernel
theorem dX5_sourceBound_25 : decode cX5_sourceBound 25 = .ok (.iload_n 1, 1) := by decide +kernel
theorem dX5_sourceBound_26 : decode cX5_sourceBound 26 = .ok (.iaload, 1) := by decide +kernel
theorem dX5_sourceBound_27 : decode cX5_sourceBound 27 = .ok (.if_icmp .ge 14, 3) := by decide +kernel
theorem dX5_sourceBound_30 : decode cX5_sourceBound 30 = .ok (.aload_n 0, 1) := by decide +kernel
theorem dX5_sourceBound_31 : decode cX5_sourceBound 31 = .ok (.getfield 26, 3) := by decide +kernel
theorem dX5_sourceBound_34 : decode cX5_sourceBound 34 = .ok (.iload_n 1, 1) := by decide +kernel
theorem dX5_sourceBound_35 : decode cX5_sourceBound 35 = .ok (.iaload, 1) := by decide +kernel
theorem dX5_sourceBound_36 : decode cX5_sourceBound 36 = .ok (.iconst 1, 1) := by decide +kernel
theorem dX5_sourceBound_37 : decode cX5_sourceBound 37 = .ok (.iadd, 1) := by decide +kernel
theorem dX5_sourceBound_38 : decode cX5_sourceBound 38 = .ok (.goto 4, 3) := by decide +kernel
theorem dX5_sourceBound_41 : decode cX5_sourceBound 41 = .ok (.iconst 1, 1) := by decide +kernel
theorem dX5_sourceBound_42 : decode cX5_sourceBound 42 = .ok (.istore_n 2, 1) := by decide +kernel
theorem dX5_sourceBound_43 : decode cX5_sourceBound 43 = .ok (.iload_n 2, 1) := by decide +kernel
theorem dX5_sourceBound_44 : decode cX5_sourceBound 44 = .ok (.aload_n 0, 1) := by decide +kernel
theorem dX5_sourceBound_45 : decode cX5_sourceBound 45 = .ok (.getfield 26, 3) := by decide +kernel
theorem dX5_sourceBound_48 : decode cX5_sourceBound 48 = .ok (.iload_n 1, 1) := by decide +kernel
theorem dX5_sourceBound_49 : decode cX5_sourceBound 49 = .ok (.iaload, 1) := by decide +kernel
theorem dX5_sourceBound_50 : decode cX5_sourceBound 50 = .ok (.if_icmp .gt 22, 3) := by decide +kernel
theorem dX5_sourceBound_53 : decode cX5_sourceBound 53 = .ok (.aload_n 0, 1) := by decide +kernel
theorem dX5_sourceBound_54 : decode cX5_sourceBound 54 = .ok (.iload_n 1, 1) := by decide +kernel
theorem dX5_sourceBound_55 : decode cX5_sourceBound 55 = .ok (.iload_n 2, 1) := by decide +kernel
theorem dX5_sourceBound_56 : decode cX5_sourceBound 56 = .ok (.invokevirtual 134, 3) := by decide +kernel
theorem dX5_sourceBound_59 : decode cX5_sourceBound 59 = .ok (.istore_n 3, 1) := by decide +kernel
theorem dX5_sourceBound_60 : decode cX5_sourceBound 60 = .ok (.iload_n 3, 1) := by decide +kernel
theorem dX5_sourceBound_61 : decode cX5_sourceBound 61 = .ok (.iload_n 2, 1) := by decide +kernel
theorem dX5_sourceBound_62 : decode cX5_sourceBound 62 = .ok (.if_icmp .ne 5, 3) := by decide +kernel
theorem dX5_sourceBound_65 : decode cX5_sourceBound 65 = .ok (.iload_n 2, 1) := by decide +kernel
theorem dX5_sourceBound_66 : decode cX5_sourceBound 66 = .ok (.ireturn, 1) := by decide +kernel
theorem dX5_sourceBound_67 : decode cX5_sourceBound 67 = .ok (.iload_n 3, 1) := by decide +kernel
theorem dX5_sourceBound_68 : decode cX5_sourceBound 68 = .ok (.istore_n 2, 1) := by decide +kernel
theorem dX5_sourceBound_69 : decode cX5_sourceBound 69 = .ok (.goto (-26), 3) := by decide +kernel
theorem dX5_sourceBound_72 : decode cX5_sourceBound 72 = .ok (.iconst (-1), 1) := by decide +kernel
theorem dX5_sourceBound_73 : decode cX5_sourceBound 73 = .ok (.ireturn, 1) := by decide +kernel
theorem dX5_areAdmitted_0 : decode cX5_areAdmitted 0 = .ok (.iconst 1, 1) := by decide +kernel
theorem dX5_areAdmitted_1 : decode cX5_areAdmitted 1 = .ok (.istore_n 1, 1) := by decide +kernel
theorem dX5_areAdmitted_2 : decode cX5_areAdmitted 2 = .ok (.iconst 0, 1) := by decide +kernel
theorem dX5_areAdmitted_3 : decode cX5_areAdmitted 3 = .ok (.istore_n 2, 1) := by decide +kernel
theorem dX5_areAdmitted_4 : decode cX5_areAdmitted 4 = .ok (.iload_n 2, 1) := by decide +kernel
theorem dX5_areAdmitted_5 : decode cX5_areAdmitted 5 = .ok (.bipush 6, 2) := by decide +kernel
theorem dX5_areAdmitted_7 : decode cX5_areAdmitted 7 = .ok (.if_icmp .ge 36, 3) := by decide +kernel
theorem dX5_areAdmitted_10 : decode cX5_areAdmitted 10 = .ok (.iload_n 1, 1) := by decide +kernel
theorem dX5_areAdmitted_11 : decode cX5_areAdmitted 11 = .ok (.ifCond .eq 24, 3) := by decide +kernel
theorem dX5_areAdmitted_14 : decode cX5_areAdmitted 14 = .ok (.aload_n 0, 1) := by decide +kernel
theorem dX5_areAdmitted_15 : decode cX5_areAdmitted 15 = .ok (.getfield 74, 3) := by decide +kernel
theorem dX5_areAdmitted_18 : decode cX5_areAdmitted 18 = .ok (.iload_n 2, 1) := by decide +kernel
theorem dX5_areAdmitted_19 : decode cX5_areAdmitted 19 = .ok (.baload, 1) := by decide +kernel
theorem dX5_areAdmitted_20 : decode cX5_areAdmitted 20 = .ok (.ifCond .eq 11, 3) := by decide +kernel
theorem dX5_areAdmitted_23 : decode cX5_areAdmitted 23 = .ok (.aload_n 0, 1) := by decide +kernel
theorem dX5_areAdmitted_24 : decode cX5_areAdmitted 24 = .ok (.iload_n 2, 1) := by decide +kernel
theorem dX5_areAdmitted_25 : decode cX5_areAdmitted 25 = .ok (.invokevirtual 137, 3) := by decide +kernel
theorem dX5_areAdmitted_28 : decode cX5_areAdmitted 28 = .ok (.ifCond .lt 7, 3) := by decide +kernel
theorem dX5_areAdmitted_31 : decode cX5_areAdmitted 31 = .ok (.iconst 1, 1) := by decide +kernel
theorem dX5_areAdmitted_32 : decode cX5_areAdmitted 32 = .ok (.goto 4, 3) := by decide +kernel
theorem dX5_areAdmitted_35 : decode cX5_areAdmitted 35 = .ok (.iconst 0, 1) := by decide +kernel
theorem dX5_areAdmitted_36 : decode cX5_areAdmitted 36 = .ok (.istore_n 1, 1) := by decide +kernel
theorem dX5_areAdmitted_37 : decode cX5_areAdmitted 37 = .ok (.iinc 2 1, 3) := by decide +kernel
theorem dX5_areAdmitted_40 : decode cX5_areAdmitted 40 = .ok (.goto (-36), 3) := by decide +kernel
theorem dX5_areAdmitted_43 : decode cX5_areAdmitted 43 = .ok (.iload_n 1, 1) := by decide +kernel
theorem dX5_areAdmitted_44 : decode cX5_areAdmitted 44 = .ok (.ireturn, 1) := by decide +kernel
theorem dX5_source_0 : decode cX5_source 0 = .ok (.iload_n 2, 1) := by decide +kernel
theorem dX5_source_1 : decode cX5_source 1 = .ok (.iconst 0, 1) := by decide +kernel
theorem dX5_source_2 : decode cX5_source 2 = .ok (.iconst 3, 1) := by decide +kernel
theorem dX5_source_3 : decode cX5_source 3 = .ok (.invokestatic 140, 3) := by decide +kernel
theorem dX5_source_6 : decode cX5_source 6 = .ok (.ifCond .eq 63, 3) := by decide +kernel
theorem dX5_source_9 : decode cX5_source 9 = .ok (.iload_n 3, 1) := by decide +kernel
theorem dX5_source_10 : decode cX5_source 10 = .ok (.iconst 1, 1) := by decide +kernel
theorem dX5_source_11 : decode cX5_source 11 = .ok (.bipush 30, 2) := by decide +kernel
theorem dX5_source_13 : decode cX5_source 13 = .ok (.invokestatic 140, 3) := by decide +kernel
theorem dX5_source_16 : decode cX5_source 16 = .ok (.ifCond .eq 53, 3) := by decide +kernel
theorem dX5_source_19 : decode cX5_source 19 = .ok (.iload 4, 2) := by decide +kernel
theorem dX5_source_21 : decode cX5_source 21 = .ok (.iconst 1, 1) := by decide +kernel
theorem dX5_source_22 : decode cX5_source 22 = .ok (.sipush 2000, 3) := by decide +kernel
theorem dX5_source_25 : decode cX5_source 25 = .ok (.invokestatic 140, 3) := by decide +kernel
theorem dX5_source_28 : decode cX5_source 28 = .ok (.ifCond .eq 41, 3) := by decide +kernel
theorem dX5_source_31 : decode cX5_source 31 = .ok (.iload 5, 2) := by decide +kernel
theorem dX5_source_33 : decode cX5_source 33 = .ok (.iconst 1, 1) := by decide +kernel
theorem dX5_source_34 : decode cX5_source 34 = .ok (.bipush 30, 2) := by decide +kernel
theorem dX5_source_36 : decode cX5_source 36 = .ok (.invokestatic 140, 3) := by decide +kernel
theorem dX5_source_39 : decode cX5_source 39 = .ok (.ifCond .eq 30, 3) := by decide +kernel
theorem dX5_source_42 : decode cX5_source 42 = .ok (.iload 6, 2) := by decide +kernel
theorem dX5_source_44 : decode cX5_source 44 = .ok (.iconst 1, 1) := by decide +kernel
theorem dX5_source_45 : decode cX5_source 45 = .ok (.sipush 500, 3) := by decide +kernel
theorem dX5_source_48 : decode cX5_source 48 = .ok (.invokestatic 140, 3) := by decide +kernel
theorem dX5_source_51 : decode cX5_source 51 = .ok (.ifCond .eq 18, 3) := by decide +kernel
theorem dX5_source_54 : decode cX5_source 54 = .ok (.iload 7, 2) := by decide +kernel
theorem dX5_source_56 : decode cX5_source 56 = .ok (.iconst 0, 1) := by decide +kernel
theorem dX5_source_57 : decode cX5_source 57 = .ok (.bipush 31, 2) := by decide +kernel
theorem dX5_source_59 : decode cX5_source 59 = .ok (.invokestatic 140, 3) := by decide +kernel
theorem dX5_source_62 : decode cX5_source 62 = .ok (.ifCond .eq 7, 3) := by decide +kernel
theorem dX5_source_65 : decode cX5_source 65 = .ok (.iconst 1, 1) := by decide +kernel
theorem dX5_source_66 : decode cX5_source 66 = .ok (.goto 4, 3) := by decide +kernel
theorem dX5_source_69 : decode cX5_source 69 = .ok (.iconst 0, 1) := by decide +kernel
theorem dX5_source_70 : decode cX5_source 70 = .ok (.istore 8, 2) := by decide +kernel
theorem dX5_source_72 : decode cX5_source 72 = .ok (.aload_n 0, 1) := by decide +kernel
theorem dX5_source_73 : decode cX5_source 73 = .ok (.iload_n 1, 1) := by decide +kernel
theorem dX5_source_74 : decode cX5_source 74 = .ok (.iconst 0, 1) := by decide +kernel
theorem dX5_source_75 : decode cX5_source 75 = .ok (.iconst 5, 1) := by decide +kernel
theorem dX5_source_76 : decode cX5_source 76 = .ok (.invokestatic 140, 3) := by decide +kernel
theorem dX5_source_79 : decode cX5_source 79 = .ok (.ifCond .ne 7, 3) := by decide +kernel
theorem dX5_source_82 : decode cX5_source 82 = .ok (.iconst 1, 1) := by decide +kernel
theorem dX5_source_83 : decode cX5_source 83 = .ok (.goto 26, 3) := by decide +kernel
theorem dX5_source_86 : decode cX5_source 86 = .ok (.iload 8, 2) := by decide +kernel
theorem dX5_source_88 : decode cX5_source 88 = .ok (.ifCond .ne 7, 3) := by decide +kernel
theorem dX5_source_91 : decode cX5_source 91 = .ok (.iconst 2, 1) := by decide +kernel
theorem dX5_source_92 : decode cX5_source 92 = .ok (.goto 17, 3) := by decide +kernel
theorem dX5_source_95 : decode cX5_source 95 = .ok (.aload_n 0, 1) := by decide +kernel
theorem dX5_source_96 : decode cX5_source 96 = .ok (.getfield 7, 3) := by decide +kernel
theorem dX5_source_99 : decode cX5_source 99 = .ok (.iload_n 1, 1) := by decide +kernel
theorem dX5_source_100 : decode cX5_source 100 = .ok (.baload, 1) := by decide +kernel
theorem dX5_source_101 : decode cX5_source 101 = .ok (.ifCond .eq 7, 3) := by decide +kernel
theorem dX5_source_104 : decode cX5_source 104 = .ok (.iconst 3, 1) := by decide +kernel
theorem dX5_source_105 : decode cX5_source 105 = .ok (.goto 4, 3) := by decide +kernel
theorem dX5_source_108 : decode cX5_source 108 = .ok (.iconst 0, 1) := by decide +kernel
theorem dX5_source_109 : decode cX5_source 109 = .ok (.putfield 107, 3) := by decide +kernel
theorem dX5_source_112 : decode cX5_source 112 = .ok (.iconst 0, 1) := by decide +kernel
theorem dX5_source_113 : decode cX5_source 113 = .ok (.istore 9, 2) := by decide +kernel
theorem dX5_source_115 : decode cX5_source 115 = .ok (.iload 9, 2) := by decide +kernel
theorem dX5_source_117 : decode cX5_source 117 = .ok (.bipush 6, 2) := by decide +kernel
theorem dX5_source_119 : decode cX5_source 119 = .ok (.if_icmp .ge 47, 3) := by decide +kernel
theorem dX5_source_122 : decode cX5_source 122 = .ok (.aload_n 0, 1) := by decide +kernel
theorem dX5_source_123 : decode cX5_source 123 = .ok (.getfield 107, 3) := by decide +kernel
theorem dX5_source_126 : decode cX5_source 126 = .ok (.ifCond .ne 40, 3) := by decide +kernel
theorem dX5_source_129 : decode cX5_source 129 = .ok (.aload_n 0, 1) := by decide +kernel
theorem dX5_source_130 : decode cX5_source 130 = .ok (.aload_n 0, 1) := by decide +kernel
theorem dX5_source_131 : decode cX5_source 131 = .ok (.getfield 7, 3) := by decide +kernel
theorem dX5_source_134 : decode cX5_source 134 = .ok (.iload 9, 2) := by decide +kernel
theorem dX5_source_136 : decode cX5_source 136 = .ok (.baload, 1) := by decide +kernel
theorem dX5_source_137 : decode cX5_source 137 = .ok (.ifCond .eq 19, 3) := by decide +kernel
theorem dX5_source_140 : decode cX5_source 140 = .ok (.aload_n 0, 1) := by decide +kernel
theorem dX5_source_141 : decode cX5_source 141 = .ok (.getfield 29, 3) := by decide +kernel
theorem dX5_source_144 : decode cX5_source 144 = .ok (.iload 9, 2) := by decide +kernel
theorem dX5_source_146 : decode cX5_source 146 = .ok (.iaload, 1) := by decide +kernel
theorem dX5_source_147 : decode cX5_source 147 = .ok (.iload 7, 2) := by decide +kernel
theorem dX5_source_149 : decode cX5_source 149 = .ok (.if_icmp .ne 7, 3) := by decide +kernel
theorem dX5_source_152 : decode cX5_source 152 = .ok (.iconst 3, 1) := by decide +kernel
theorem dX5_source_153 : decode cX5_source 153 = .ok (.goto 4, 3) := by decide +kernel
theorem dX5_source_156 : decode cX5_source 156 = .ok (.iconst 0, 1) := by decide +kernel
theorem dX5_source_157 : decode cX5_source 157 = .ok (.putfield 107, 3) := by decide +kernel
theorem dX5_source_160 : decode cX5_source 160 = .ok (.iinc 9 1, 3) := by decide +kernel
theorem dX5_source_163 : decode cX5_source 163 = .ok (.goto (-48), 3) := by decide +kernel
theorem dX5_source_166 : decode cX5_source 166 = .ok (.aload_n 0, 1) := by decide +kernel
theorem dX5_source_167 : decode cX5_source 167 = .ok (.getfield 107, 3) := by decide +kernel
theorem dX5_source_170 : decode cX5_source 170 = .ok (.ifCond .le 4, 3) := by decide +kernel
theorem dX5_source_173 : decode cX5_source 173 = .ok (.return_, 1) := by decide +kernel
theorem dX5_source_174 : decode cX5_source 174 = .ok (.aload_n 0, 1) := by decide +kernel
theorem dX5_source_175 : decode cX5_source 175 = .ok (.getfield 7, 3) := by decide +kernel
theorem dX5_source_178 : decode cX5_source 178 = .ok (.iload_n 1, 1) := by decide +kernel
theorem dX5_source_179 : decode cX5_source 179 = .ok (.iconst 1, 1) := by decide +kernel
theorem dX5_source_180 : decode cX5_source 180 = .ok (.bastore, 1) := by decide +kernel
theorem dX5_source_181 : decode cX5_source 181 = .ok (.aload_n 0, 1) := by decide +kernel
theorem dX5_source_182 : decode cX5_source 182 = .ok (.getfield 13, 3) := by decide +kernel
theorem dX5_source_185 : decode cX5_source 185 = .ok (.iload_n 1, 1) := by decide +kernel
theorem dX5_source_186 : decode cX5_source 186 = .ok (.iload_n 2, 1) := by decide +kernel
theorem dX5_source_187 : decode cX5_source 187 = .ok (.iastore, 1) := by decide +kernel
theorem dX5_source_188 : decode cX5_source 188 = .ok (.aload_n 0, 1) := by decide +kernel
theorem dX5_source_189 : decode cX5_source 189 = .ok (.getfield 17, 3) := by decide +kernel
theorem dX5_source_192 : decode cX5_source 192 = .ok (.iload_n 1, 1) := by decide +kernel
theorem dX5_source_193 : decode cX5_source 193 = .ok (.iload_n 3, 1) := by decide +kernel
theorem dX5_source_194 : decode cX5_source 194 = .ok (.iastore, 1) := by decide +kernel
theorem dX5_source_195 : decode cX5_source 195 = .ok (.aload_n 0, 1) := by decide +kernel
theorem dX5_source_196 : decode cX5_source 196 = .ok (.getfield 20, 3) := by decide +kernel
theorem dX5_source_199 : decode cX5_source 199 = .ok (.iload_n 1, 1) := by decide +kernel
theorem dX5_source_200 : decode cX5_source 200 = .ok (.iload 4, 2) := by decide +kernel
theorem dX5_source_202 : decode cX5_source 202 = .ok (.iastore, 1) := by decide +kernel
theorem dX5_source_203 : decode cX5_source 203 = .ok (.aload_n 0, 1) := by decide +kernel
theorem dX5_source_204 : decode cX5_source 204 = .ok (.getfield 23, 3) := by decide +kernel
theorem dX5_source_207 : decode cX5_source 207 = .ok (.iload_n 1, 1) := by decide +kernel
theorem dX5_source_208 : decode cX5_source 208 = .ok (.iload 5, 2) := by decide +kernel
theorem dX5_source_210 : decode cX5_source 210 = .ok (.iastore, 1) := by decide +kernel
theorem dX5_source_211 : decode cX5_source 211 = .ok (.aload_n 0, 1) := by decide +kernel
theorem dX5_source_212 : decode cX5_source 212 = .ok (.getfield 26, 3) := by decide +kernel
theorem dX5_source_215 : decode cX5_source 215 = .ok (.iload_n 1, 1) := by decide +kernel
theorem dX5_source_216 : decode cX5_source 216 = .ok (.iload 6, 2) := by decide +kernel
theorem dX5_source_218 : decode cX5_source 218 = .ok (.iastore, 1) := by decide +kernel
theorem dX5_source_219 : decode cX5_source 219 = .ok (.aload_n 0, 1) := by decide +kernel
theorem dX5_source_220 : decode cX5_source 220 = .ok (.getfield 29, 3) := by decide +kernel
theorem dX5_source_223 : decode cX5_source 223 = .ok (.iload_n 1, 1) := by decide +kernel
theorem dX5_source_224 : decode cX5_source 224 = .ok (.iload 7, 2) := by decide +kernel
theorem dX5_source_226 : decode cX5_source 226 = .ok (.iastore, 1) := by decide +kernel
theorem dX5_source_227 : decode cX5_source 227 = .ok (.iconst 0, 1) := by decide +kernel
theorem dX5_source_228 : decode cX5_source 228 = .ok (.istore 9, 2) := by decide +kernel
theorem dX5_source_230 : decode cX5_source 230 = .ok (.iload 9, 2) := by decide +kernel
theorem dX5_source_232 : decode cX5_source 232 = .ok (.bipush 30, 2) := by decide +kernel
theorem dX5_source_234 : decode cX5_source 234 = .ok (.if_icmp .ge 22, 3) := by decide +kernel
theorem dX5_source_237 : decode cX5_source 237 = .ok (.aload_n 0, 1) := by decide +kernel
theorem dX5_source_238 : decode cX5_source 238 = .ok (.getfield 44, 3) := by decide +kernel
theorem dX5_source_241 : decode cX5_source 241 = .ok (.bipush 30, 2) := by decide +kernel
theorem dX5_source_243 : decode cX5_source 243 = .ok (.iload_n 1, 1) := by decide +kernel
theorem dX5_source_244 : decode cX5_source 244 = .ok (.imul, 1) := by decide +kernel
theorem dX5_source_245 : decode cX5_source 245 = .ok (.iload 9, 2) := by decide +kernel
theorem dX5_source_247 : decode cX5_source 247 = .ok (.iadd, 1) := by decide +kernel
theorem dX5_source_248 : decode cX5_source 248 = .ok (.iconst 0, 1) := by decide +kernel
theorem dX5_source_249 : decode cX5_source 249 = .ok (.iastore, 1) := by decide +kernel
theorem dX5_source_250 : decode cX5_source 250 = .ok (.iinc 9 1, 3) := by decide +kernel
theorem dX5_source_253 : decode cX5_source 253 = .ok (.goto (-23), 3) := by decide +kernel
theorem dX5_source_256 : decode cX5_source 256 = .ok (.aload_n 0, 1) := by decide +kernel
theorem dX5_source_257 : decode cX5_source 257 = .ok (.getfield 7, 3) := by decide +kernel
theorem dX5_source_260 : decode cX5_source 260 = .ok (.iload_n 1, 1) := by decide +kernel
theorem dX5_source_261 : decode cX5_source 261 = .ok (.aload_n 0, 1) := by decide +kernel
theorem dX5_source_262 : decode cX5_source 262 = .ok (.invokevirtual 144, 3) := by decide +kernel
theorem dX5_source_265 : decode cX5_source 265 = .ok (.bastore, 1) := by decide +kernel
theorem dX5_source_266 : decode cX5_source 266 = .ok (.aload_n 0, 1) := by decide +kernel
theorem dX5_source_267 : decode cX5_source 267 = .ok (.aload_n 0, 1) := by decide +kernel
theorem dX5_source_268 : decode cX5_source 268 = .ok (.getfield 7, 3) := by decide +kernel
theorem dX5_source_271 : decode cX5_source 271 = .ok (.iload_n 1, 1) := by decide +kernel
theorem dX5_source_272 : decode cX5_source 272 = .ok (.baload, 1) := by decide +kernel
theorem dX5_source_273 : decode cX5_source 273 = .ok (.ifCond .eq 7, 3) := by decide +kernel
theorem dX5_source_276 : decode cX5_source 276 = .ok (.iconst 0, 1) := by decide +kernel
theorem dX5_source_277 : decode cX5_source 277 = .ok (.goto 4, 3) := by decide +kernel
theorem dX5_source_280 : decode cX5_source 280 = .ok (.iconst 3, 1) := by decide +kernel
theorem dX5_source_281 : decode cX5_source 281 = .ok (.putfield 107, 3) := by decide +kernel
theorem dX5_source_284 : decode cX5_source 284 = .ok (.return_, 1) := by decide +kernel
theorem dX5_base_0 : decode cX5_base 0 = .ok (.aload_n 0, 1) := by decide +kernel
theorem dX5_base_1 : decode cX5_base 1 = .ok (.iload_n 1, 1) := by decide +kernel
theorem dX5_base_2 : decode cX5_base 2 = .ok (.iconst 0, 1) := by decide +kernel
theorem dX5_base_3 : decode cX5_base 3 = .ok (.iconst 5, 1) := by decide +kernel
theorem dX5_base_4 : decode cX5_base 4 = .ok (.invokestatic 140, 3) := by decide +kernel
theorem dX5_base_7 : decode cX5_base 7 = .ok (.ifCond .ne 7, 3) := by decide +kernel
theorem dX5_base_10 : decode cX5_base 10 = .ok (.iconst 1, 1) := by decide +kernel
theorem dX5_base_11 : decode cX5_base 11 = .ok (.goto 54, 3) := by decide +kernel
theorem dX5_base_14 : decode cX5_base 14 = .ok (.iload_n 2, 1) := by decide +kernel
theorem dX5_base_15 : decode cX5_base 15 = .ok (.iconst 1, 1) := by decide +kernel
theorem dX5_base_16 : decode cX5_base 16 = .ok (.sipush 2000, 3) := by decide +kernel
theorem dX5_base_19 : decode cX5_base 19 = .ok (.invokestatic 140, 3) := by decide +kernel
theorem dX5_base_22 : decode cX5_base 22 = .ok (.ifCond .eq 25, 3) := by decide +kernel
theorem dX5_base_25 : decode cX5_base 25 = .ok (.iload_n 3, 1) := by decide +kernel
theorem dX5_base_26 : decode cX5_base 26 = .ok (.iconst 1, 1) := by decide +kernel
theorem dX5_base_27 : decode cX5_base 27 = .ok (.sipush 500, 3) := by decide +kernel
theorem dX5_base_30 : decode cX5_base 30 = .ok (.invokestatic 140, 3) := by decide +kernel
theorem dX5_base_33 : decode cX5_base 33 = .ok (.ifCond .eq 14, 3) := by decide +kernel
theorem dX5_base_36 : decode cX5_base 36 = .ok (.iload 4, 2) := by decide +kernel
theorem dX5_base_38 : decode cX5_base 38 = .ok (.iconst 0, 1) := by decide +kernel
theorem dX5_base_39 : decode cX5_base 39 = .ok (.bipush 31, 2) := by decide +kernel
theorem dX5_base_41 : decode cX5_base 41 = .ok (.invokestatic 140, 3) := by decide +kernel
theorem dX5_base_44 : decode cX5_base 44 = .ok (.ifCond .ne 7, 3) := by decide +kernel
theorem dX5_base_47 : decode cX5_base 47 = .ok (.iconst 2, 1) := by decide +kernel
theorem dX5_base_48 : decode cX5_base 48 = .ok (.goto 17, 3) := by decide +kernel
theorem dX5_base_51 : decode cX5_base 51 = .ok (.aload_n 0, 1) := by decide +kernel
theorem dX5_base_52 : decode cX5_base 52 = .ok (.getfield 74, 3) := by decide +kernel
theorem dX5_base_55 : decode cX5_base 55 = .ok (.iload_n 1, 1) := by decide +kernel
theorem dX5_base_56 : decode cX5_base 56 = .ok (.baload, 1) := by decide +kernel
theorem dX5_base_57 : decode cX5_base 57 = .ok (.ifCond .eq 7, 3) := by decide +kernel
theorem dX5_base_60 : decode cX5_base 60 = .ok (.iconst 3, 1) := by decide +kernel
theorem dX5_base_61 : decode cX5_base 61 = .ok (.goto 4, 3) := by decide +kernel
theorem dX5_base_64 : decode cX5_base 64 = .ok (.iconst 0, 1) := by decide +kernel
theorem dX5_base_65 : decode cX5_base 65 = .ok (.putfield 107, 3) := by decide +kernel
theorem dX5_base_68 : decode cX5_base 68 = .ok (.iconst 0, 1) := by decide +kernel
theorem dX5_base_69 : decode cX5_base 69 = .ok (.istore 5, 2) := by decide +kernel
theorem dX5_base_71 : decode cX5_base 71 = .ok (.iload 5, 2) := by decide +kernel
theorem dX5_base_73 : decode cX5_base 73 = .ok (.bipush 6, 2) := by decide +kernel
theorem dX5_base_75 : decode cX5_base 75 = .ok (.if_icmp .ge 47, 3) := by decide +kernel
theorem dX5_base_78 : decode cX5_base 78 = .ok (.aload_n 0, 1) := by decide +kernel
theorem dX5_base_79 : decode cX5_base 79 = .ok (.getfield 107, 3) := by decide +kernel
theorem dX5_base_82 : decode cX5_base 82 = .ok (.ifCond .ne 40, 3) := by decide +kernel
theorem dX5_base_85 : decode cX5_base 85 = .ok (.aload_n 0, 1) := by decide +kernel
theorem dX5_base_86 : decode cX5_base 86 = .ok (.aload_n 0, 1) := by decide +kernel
theorem dX5_base_87 : decode cX5_base 87 = .ok (.getfield 74, 3) := by decide +kernel
theorem dX5_base_90 : decode cX5_base 90 = .ok (.iload 5, 2) := by decide +kernel
theorem dX5_base_92 : decode cX5_base 92 = .ok (.baload, 1) := by decide +kernel
theorem dX5_base_93 : decode cX5_base 93 = .ok (.ifCond .eq 19, 3) := by decide +kernel
theorem dX5_base_96 : decode cX5_base 96 = .ok (.aload_n 0, 1) := by decide +kernel
theorem dX5_base_97 : decode cX5_base 97 = .ok (.getfield 83, 3) := by decide +kernel
theorem dX5_base_100 : decode cX5_base 100 = .ok (.iload 5, 2) := by decide +kernel
theorem dX5_base_102 : decode cX5_base 102 = .ok (.iaload, 1) := by decide +kernel
theorem dX5_base_103 : decode cX5_base 103 = .ok (.iload 4, 2) := by decide +kernel
theorem dX5_base_105 : decode cX5_base 105 = .ok (.if_icmp .ne 7, 3) := by decide +kernel
theorem dX5_base_108 : decode cX5_base 108 = .ok (.iconst 3, 1) := by decide +kernel
theorem dX5_base_109 : decode cX5_base 109 = .ok (.goto 4, 3) := by decide +kernel
theorem dX5_base_112 : decode cX5_base 112 = .ok (.iconst 0, 1) := by decide +kernel
theorem dX5_base_113 : decode cX5_base 113 = .ok (.putfield 107, 3) := by decide +kernel
theorem dX5_base_116 : decode cX5_base 116 = .ok (.iinc 5 1, 3) := by decide +kernel
theorem dX5_base_119 : decode cX5_base 119 = .ok (.goto (-48), 3) := by decide +kernel
theorem dX5_base_122 : decode cX5_base 122 = .ok (.aload_n 0, 1) := by decide +kernel
theorem dX5_base_123 : decode cX5_base 123 = .ok (.getfield 107, 3) := by decide +kernel
theorem dX5_base_126 : decode cX5_base 126 = .ok (.ifCond .le 5, 3) := by decide +kernel
theorem dX5_base_129 : decode cX5_base 129 = .ok (.iconst 0, 1) := by decide +kernel
theorem dX5_base_130 : decode cX5_base 130 = .ok (.ireturn, 1) := by decide +kernel
theorem dX5_base_131 : decode cX5_base 131 = .ok (.aload_n 0, 1) := by decide +kernel
theorem dX5_base_132 : decode cX5_base 132 = .ok (.getfield 74, 3) := by decide +kernel
theorem dX5_base_135 : decode cX5_base 135 = .ok (.iload_n 1, 1) := by decide +kernel
theorem dX5_base_136 : decode cX5_base 136 = .ok (.iconst 1, 1) := by decide +kernel
theorem dX5_base_137 : decode cX5_base 137 = .ok (.bastore, 1) := by decide +kernel
theorem dX5_base_138 : decode cX5_base 138 = .ok (.aload_n 0, 1) := by decide +kernel
theorem dX5_base_139 : decode cX5_base 139 = .ok (.getfield 77, 3) := by decide +kernel
theorem dX5_base_142 : decode cX5_base 142 = .ok (.iload_n 1, 1) := by decide +kernel
theorem dX5_base_143 : decode cX5_base 143 = .ok (.iload_n 2, 1) := by decide +kernel
theorem dX5_base_144 : decode cX5_base 144 = .ok (.iastore, 1) := by decide +kernel
theorem dX5_base_145 : decode cX5_base 145 = .ok (.aload_n 0, 1) := by decide +kernel
theorem dX5_base_146 : decode cX5_base 146 = .ok (.getfield 80, 3) := by decide +kernel
theorem dX5_base_149 : decode cX5_base 149 = .ok (.iload_n 1, 1) := by decide +kernel
theorem dX5_base_150 : decode cX5_base 150 = .ok (.iload_n 3, 1) := by decide +kernel
theorem dX5_base_151 : decode cX5_base 151 = .ok (.iastore, 1) := by decide +kernel
theorem dX5_base_152 : decode cX5_base 152 = .ok (.aload_n 0, 1) := by decide +kernel
theorem dX5_base_153 : decode cX5_base 153 = .ok (.getfield 83, 3) := by decide +kernel
theorem dX5_base_156 : decode cX5_base 156 = .ok (.iload_n 1, 1) := by decide +kernel
theorem dX5_base_157 : decode cX5_base 157 = .ok (.iload 4, 2) := by decide +kernel
theorem dX5_base_159 : decode cX5_base 159 = .ok (.iastore, 1) := by decide +kernel
theorem dX5_base_160 : decode cX5_base 160 = .ok (.aload_n 0, 1) := by decide +kernel
theorem dX5_base_161 : decode cX5_base 161 = .ok (.getfield 86, 3) := by decide +kernel
theorem dX5_base_164 : decode cX5_base 164 = .ok (.iload_n 1, 1) := by decide +kernel
theorem dX5_base_165 : decode cX5_base 165 = .ok (.aload_n 0, 1) := by decide +kernel
theorem dX5_base_166 : decode cX5_base 166 = .ok (.getfield 115, 3) := by decide +kernel
theorem dX5_base_169 : decode cX5_base 169 = .ok (.iastore, 1) := by decide +kernel
theorem dX5_base_170 : decode cX5_base 170 = .ok (.aload_n 0, 1) := by decide +kernel
theorem dX5_base_171 : decode cX5_base 171 = .ok (.getfield 74, 3) := by decide +kernel
theorem dX5_base_174 : decode cX5_base 174 = .ok (.iload_n 1, 1) := by decide +kernel
theorem dX5_base_175 : decode cX5_base 175 = .ok (.aload_n 0, 1) := by decide +kernel
theorem dX5_base_176 : decode cX5_base 176 = .ok (.invokevirtual 144, 3) := by decide +kernel
theorem dX5_base_179 : decode cX5_base 179 = .ok (.bastore, 1) := by decide +kernel
theorem dX5_base_180 : decode cX5_base 180 = .ok (.aload_n 0, 1) := by decide +kernel
theorem dX5_base_181 : decode cX5_base 181 = .ok (.getfield 74, 3) := by decide +kernel
