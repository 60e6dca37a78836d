theorem d_Mo_init_0 : decode b_Mo_init 0 = .ok (.aload_n 0, 1) := by decide +kernel
theorem d_Mo_init_1 : decode b_Mo_init 1 = .ok (.invokespecial 1, 3) := by decide +kernel
theorem d_Mo_init_4 : decode b_Mo_init 4 = .ok (.aload_n 0, 1) := by decide +kernel
theorem d_Mo_init_5 : decode b_Mo_init 5 = .ok (.bipush 8, 2) := by decide +kernel
theorem d_Mo_init_7 : decode b_Mo_init 7 = .ok (.newarray .int, 2) := by decide +kernel
theorem d_Mo_init_9 : decode b_Mo_init 9 = .ok (.putfield 7, 3) := by decide +kernel
theorem d_Mo_init_12 : decode b_Mo_init 12 = .ok (.aload_n 0, 1) := by decide +kernel
theorem d_Mo_init_13 : decode b_Mo_init 13 = .ok (.sipush 150, 3) := by decide +kernel
theorem d_Mo_init_16 : decode b_Mo_init 16 = .ok (.newarray .boolean, 2) := by decide +kernel
theorem d_Mo_init_18 : decode b_Mo_init 18 = .ok (.putfield 13, 3) := by decide +kernel
theorem d_Mo_init_21 : decode b_Mo_init 21 = .ok (.aload_n 0, 1) := by decide +kernel
theorem d_Mo_init_22 : decode b_Mo_init 22 = .ok (.sipush 150, 3) := by decide +kernel
theorem d_Mo_init_25 : decode b_Mo_init 25 = .ok (.newarray .int, 2) := by decide +kernel
theorem d_Mo_init_27 : decode b_Mo_init 27 = .ok (.putfield 17, 3) := by decide +kernel
theorem d_Mo_init_30 : decode b_Mo_init 30 = .ok (.aload_n 0, 1) := by decide +kernel
theorem d_Mo_init_31 : decode b_Mo_init 31 = .ok (.sipush 150, 3) := by decide +kernel
theorem d_Mo_init_34 : decode b_Mo_init 34 = .ok (.newarray .int, 2) := by decide +kernel
theorem d_Mo_init_36 : decode b_Mo_init 36 = .ok (.putfield 20, 3) := by decide +kernel
theorem d_Mo_init_39 : decode b_Mo_init 39 = .ok (.aload_n 0, 1) := by decide +kernel
theorem d_Mo_init_40 : decode b_Mo_init 40 = .ok (.sipush 150, 3) := by decide +kernel
theorem d_Mo_init_43 : decode b_Mo_init 43 = .ok (.newarray .int, 2) := by decide +kernel
theorem d_Mo_init_45 : decode b_Mo_init 45 = .ok (.putfield 23, 3) := by decide +kernel
theorem d_Mo_init_48 : decode b_Mo_init 48 = .ok (.aload_n 0, 1) := by decide +kernel
theorem d_Mo_init_49 : decode b_Mo_init 49 = .ok (.sipush 150, 3) := by decide +kernel
theorem d_Mo_init_52 : decode b_Mo_init 52 = .ok (.newarray .int, 2) := by decide +kernel
theorem d_Mo_init_54 : decode b_Mo_init 54 = .ok (.putfield 26, 3) := by decide +kernel
theorem d_Mo_init_57 : decode b_Mo_init 57 = .ok (.aload_n 0, 1) := by decide +kernel
theorem d_Mo_init_58 : decode b_Mo_init 58 = .ok (.sipush 150, 3) := by decide +kernel
theorem d_Mo_init_61 : decode b_Mo_init 61 = .ok (.newarray .int, 2) := by decide +kernel
theorem d_Mo_init_63 : decode b_Mo_init 63 = .ok (.putfield 29, 3) := by decide +kernel
theorem d_Mo_init_66 : decode b_Mo_init 66 = .ok (.aload_n 0, 1) := by decide +kernel
theorem d_Mo_init_67 : decode b_Mo_init 67 = .ok (.sipush 150, 3) := by decide +kernel
theorem d_Mo_init_70 : decode b_Mo_init 70 = .ok (.newarray .int, 2) := by decide +kernel
theorem d_Mo_init_72 : decode b_Mo_init 72 = .ok (.putfield 32, 3) := by decide +kernel
theorem d_Mo_init_75 : decode b_Mo_init 75 = .ok (.aload_n 0, 1) := by decide +kernel
theorem d_Mo_init_76 : decode b_Mo_init 76 = .ok (.sipush 150, 3) := by decide +kernel
theorem d_Mo_init_79 : decode b_Mo_init 79 = .ok (.newarray .int, 2) := by decide +kernel
theorem d_Mo_init_81 : decode b_Mo_init 81 = .ok (.putfield 35, 3) := by decide +kernel
theorem d_Mo_init_84 : decode b_Mo_init 84 = .ok (.aload_n 0, 1) := by decide +kernel
theorem d_Mo_init_85 : decode b_Mo_init 85 = .ok (.iconst (-1), 1) := by decide +kernel
theorem d_Mo_init_86 : decode b_Mo_init 86 = .ok (.putfield 38, 3) := by decide +kernel
theorem d_Mo_init_89 : decode b_Mo_init 89 = .ok (.aload_n 0, 1) := by decide +kernel
theorem d_Mo_init_90 : decode b_Mo_init 90 = .ok (.bipush 10, 2) := by decide +kernel
theorem d_Mo_init_92 : decode b_Mo_init 92 = .ok (.newarray .boolean, 2) := by decide +kernel
theorem d_Mo_init_94 : decode b_Mo_init 94 = .ok (.putfield 42, 3) := by decide +kernel
theorem d_Mo_init_97 : decode b_Mo_init 97 = .ok (.aload_n 0, 1) := by decide +kernel
theorem d_Mo_init_98 : decode b_Mo_init 98 = .ok (.bipush 10, 2) := by decide +kernel
theorem d_Mo_init_100 : decode b_Mo_init 100 = .ok (.newarray .int, 2) := by decide +kernel
theorem d_Mo_init_102 : decode b_Mo_init 102 = .ok (.putfield 45, 3) := by decide +kernel
theorem d_Mo_init_105 : decode b_Mo_init 105 = .ok (.aload_n 0, 1) := by decide +kernel
theorem d_Mo_init_106 : decode b_Mo_init 106 = .ok (.bipush 10, 2) := by decide +kernel
theorem d_Mo_init_108 : decode b_Mo_init 108 = .ok (.newarray .int, 2) := by decide +kernel
theorem d_Mo_init_110 : decode b_Mo_init 110 = .ok (.putfield 48, 3) := by decide +kernel
theorem d_Mo_init_113 : decode b_Mo_init 113 = .ok (.aload_n 0, 1) := by decide +kernel
theorem d_Mo_init_114 : decode b_Mo_init 114 = .ok (.bipush 10, 2) := by decide +kernel
theorem d_Mo_init_116 : decode b_Mo_init 116 = .ok (.newarray .int, 2) := by decide +kernel
theorem d_Mo_init_118 : decode b_Mo_init 118 = .ok (.putfield 51, 3) := by decide +kernel
theorem d_Mo_init_121 : decode b_Mo_init 121 = .ok (.aload_n 0, 1) := by decide +kernel
theorem d_Mo_init_122 : decode b_Mo_init 122 = .ok (.bipush 10, 2) := by decide +kernel
theorem d_Mo_init_124 : decode b_Mo_init 124 = .ok (.newarray .int, 2) := by decide +kernel
theorem d_Mo_init_126 : decode b_Mo_init 126 = .ok (.putfield 54, 3) := by decide +kernel
theorem d_Mo_init_129 : decode b_Mo_init 129 = .ok (.aload_n 0, 1) := by decide +kernel
theorem d_Mo_init_130 : decode b_Mo_init 130 = .ok (.bipush 10, 2) := by decide +kernel
theorem d_Mo_init_132 : decode b_Mo_init 132 = .ok (.newarray .int, 2) := by decide +kernel
theorem d_Mo_init_134 : decode b_Mo_init 134 = .ok (.putfield 57, 3) := by decide +kernel
theorem d_Mo_init_137 : decode b_Mo_init 137 = .ok (.aload_n 0, 1) := by decide +kernel
theorem d_Mo_init_138 : decode b_Mo_init 138 = .ok (.sipush 1500, 3) := by decide +kernel
theorem d_Mo_init_141 : decode b_Mo_init 141 = .ok (.newarray .boolean, 2) := by decide +kernel
theorem d_Mo_init_143 : decode b_Mo_init 143 = .ok (.putfield 60, 3) := by decide +kernel
theorem d_Mo_init_146 : decode b_Mo_init 146 = .ok (.aload_n 0, 1) := by decide +kernel
theorem d_Mo_init_147 : decode b_Mo_init 147 = .ok (.sipush 1500, 3) := by decide +kernel
theorem d_Mo_init_150 : decode b_Mo_init 150 = .ok (.newarray .boolean, 2) := by decide +kernel
theorem d_Mo_init_152 : decode b_Mo_init 152 = .ok (.putfield 63, 3) := by decide +kernel
theorem d_Mo_init_155 : decode b_Mo_init 155 = .ok (.aload_n 0, 1) := by decide +kernel
theorem d_Mo_init_156 : decode b_Mo_init 156 = .ok (.sipush 1500, 3) := by decide +kernel
theorem d_Mo_init_159 : decode b_Mo_init 159 = .ok (.newarray .int, 2) := by decide +kernel
theorem d_Mo_init_161 : decode b_Mo_init 161 = .ok (.putfield 66, 3) := by decide +kernel
theorem d_Mo_init_164 : decode b_Mo_init 164 = .ok (.aload_n 0, 1) := by decide +kernel
theorem d_Mo_init_165 : decode b_Mo_init 165 = .ok (.sipush 1500, 3) := by decide +kernel
theorem d_Mo_init_168 : decode b_Mo_init 168 = .ok (.newarray .int, 2) := by decide +kernel
theorem d_Mo_init_170 : decode b_Mo_init 170 = .ok (.putfield 69, 3) := by decide +kernel
theorem d_Mo_init_173 : decode b_Mo_init 173 = .ok (.aload_n 0, 1) := by decide +kernel
theorem d_Mo_init_174 : decode b_Mo_init 174 = .ok (.bipush 64, 2) := by decide +kernel
theorem d_Mo_init_176 : decode b_Mo_init 176 = .ok (.newarray .int, 2) := by decide +kernel
theorem d_Mo_init_178 : decode b_Mo_init 178 = .ok (.putfield 72, 3) := by decide +kernel
theorem d_Mo_init_181 : decode b_Mo_init 181 = .ok (.aload_n 0, 1) := by decide +kernel
theorem d_Mo_init_182 : decode b_Mo_init 182 = .ok (.sipush 1200, 3) := by decide +kernel
theorem d_Mo_init_185 : decode b_Mo_init 185 = .ok (.newarray .boolean, 2) := by decide +kernel
theorem d_Mo_init_187 : decode b_Mo_init 187 = .ok (.putfield 75, 3) := by decide +kernel
theorem d_Mo_init_190 : decode b_Mo_init 190 = .ok (.aload_n 0, 1) := by decide +kernel
theorem d_Mo_init_191 : decode b_Mo_init 191 = .ok (.sipush 1200, 3) := by decide +kernel
theorem d_Mo_init_194 : decode b_Mo_init 194 = .ok (.newarray .int, 2) := by decide +kernel
theorem d_Mo_init_196 : decode b_Mo_init 196 = .ok (.putfield 78, 3) := by decide +kernel
theorem d_Mo_init_199 : decode b_Mo_init 199 = .ok (.aload_n 0, 1) := by decide +kernel
theorem d_Mo_init_200 : decode b_Mo_init 200 = .ok (.sipush 1200, 3) := by decide +kernel
theorem d_Mo_init_203 : decode b_Mo_init 203 = .ok (.newarray .int, 2) := by decide +kernel
theorem d_Mo_init_205 : decode b_Mo_init 205 = .ok (.putfield 81, 3) := by decide +kernel
theorem d_Mo_init_208 : decode b_Mo_init 208 = .ok (.aload_n 0, 1) := by decide +kernel
theorem d_Mo_init_209 : decode b_Mo_init 209 = .ok (.bipush 96, 2) := by decide +kernel
theorem d_Mo_init_211 : decode b_Mo_init 211 = .ok (.newarray .long, 2) := by decide +kernel
theorem d_Mo_init_213 : decode b_Mo_init 213 = .ok (.putfield 84, 3) := by decide +kernel
theorem d_Mo_init_216 : decode b_Mo_init 216 = .ok (.aload_n 0, 1) := by decide +kernel
theorem d_Mo_init_217 : decode b_Mo_init 217 = .ok (.bipush 96, 2) := by decide +kernel
theorem d_Mo_init_219 : decode b_Mo_init 219 = .ok (.newarray .long, 2) := by decide +kernel
theorem d_Mo_init_221 : decode b_Mo_init 221 = .ok (.putfield 88, 3) := by decide +kernel
theorem d_Mo_init_224 : decode b_Mo_init 224 = .ok (.aload_n 0, 1) := by decide +kernel
theorem d_Mo_init_225 : decode b_Mo_init 225 = .ok (.bipush 96, 2) := by decide +kernel
theorem d_Mo_init_227 : decode b_Mo_init 227 = .ok (.newarray .long, 2) := by decide +kernel
theorem d_Mo_init_229 : decode b_Mo_init 229 = .ok (.putfield 91, 3) := by decide +kernel
theorem d_Mo_init_232 : decode b_Mo_init 232 = .ok (.aload_n 0, 1) := by decide +kernel
theorem d_Mo_init_233 : decode b_Mo_init 233 = .ok (.iload_n 1, 1) := by decide +kernel
theorem d_Mo_init_234 : decode b_Mo_init 234 = .ok (.iconst 1, 1) := by decide +kernel
theorem d_Mo_init_235 : decode b_Mo_init 235 = .ok (.if_icmp .ge 7, 3) := by decide +kernel
theorem d_Mo_init_238 : decode b_Mo_init 238 = .ok (.iconst 1, 1) := by decide +kernel
theorem d_Mo_init_239 : decode b_Mo_init 239 = .ok (.goto 13, 3) := by decide +kernel
theorem d_Mo_init_242 : decode b_Mo_init 242 = .ok (.iload_n 1, 1) := by decide +kernel
theorem d_Mo_init_243 : decode b_Mo_init 243 = .ok (.iconst 4, 1) := by decide +kernel
theorem d_Mo_init_244 : decode b_Mo_init 244 = .ok (.if_icmp .le 7, 3) := by decide +kernel
theorem d_Mo_init_247 : decode b_Mo_init 247 = .ok (.iconst 4, 1) := by decide +kernel
theorem d_Mo_init_248 : decode b_Mo_init 248 = .ok (.goto 4, 3) := by decide +kernel
theorem d_Mo_init_251 : decode b_Mo_init 251 = .ok (.iload_n 1, 1) := by decide +kernel
theorem d_Mo_init_252 : decode b_Mo_init 252 = .ok (.putfield 94, 3) := by decide +kernel
theorem d_Mo_init_255 : decode b_Mo_init 255 = .ok (.aload_n 0, 1) := by decide +kernel
theorem d_Mo_init_256 : decode b_Mo_init 256 = .ok (.iload_n 2, 1) := by decide +kernel
theorem d_Mo_init_257 : decode b_Mo_init 257 = .ok (.ifCond .ge 7, 3) := by decide +kernel
theorem d_Mo_init_260 : decode b_Mo_init 260 = .ok (.iconst 0, 1) := by decide +kernel
theorem d_Mo_init_261 : decode b_Mo_init 261 = .ok (.goto 13, 3) := by decide +kernel
theorem d_Mo_init_264 : decode b_Mo_init 264 = .ok (.iload_n 2, 1) := by decide +kernel
theorem d_Mo_init_265 : decode b_Mo_init 265 = .ok (.iconst 4, 1) := by decide +kernel
theorem d_Mo_init_266 : decode b_Mo_init 266 = .ok (.if_icmp .le 7, 3) := by decide +kernel
theorem d_Mo_init_269 : decode b_Mo_init 269 = .ok (.iconst 4, 1) := by decide +kernel
theorem d_Mo_init_270 : decode b_Mo_init 270 = .ok (.goto 4, 3) := by decide +kernel
theorem d_Mo_init_273 : decode b_Mo_init 273 = .ok (.iload_n 2, 1) := by decide +kernel
theorem d_Mo_init_274 : decode b_Mo_init 274 = .ok (.putfield 97, 3) := by decide +kernel
theorem d_Mo_init_277 : decode b_Mo_init 277 = .ok (.return_, 1) := by decide +kernel
theorem d_Mo_thrown_0 : decode b_Mo_thrown 0 = .ok (.aload_n 0, 1) := by decide +kernel
theorem d_Mo_thrown_1 : decode b_Mo_thrown 1 = .ok (.getfield 100, 3) := by decide +kernel
theorem d_Mo_thrown_4 : decode b_Mo_thrown 4 = .ok (.ireturn, 1) := by decide +kernel
theorem d_Mo_limitOf_0 : decode b_Mo_limitOf 0 = .ok (.iload_n 0, 1) := by decide +kernel
theorem d_Mo_limitOf_1 : decode b_Mo_limitOf 1 = .ok (.tableswitch 52 1 7 #[43, 43, 46, 46, 52, 52, 49], 43) := by decide +kernel
theorem d_Mo_limitOf_44 : decode b_Mo_limitOf 44 = .ok (.bipush 20, 2) := by decide +kernel
theorem d_Mo_limitOf_46 : decode b_Mo_limitOf 46 = .ok (.ireturn, 1) := by decide +kernel
theorem d_Mo_limitOf_47 : decode b_Mo_limitOf 47 = .ok (.bipush 60, 2) := by decide +kernel
theorem d_Mo_limitOf_49 : decode b_Mo_limitOf 49 = .ok (.ireturn, 1) := by decide +kernel
theorem d_Mo_limitOf_50 : decode b_Mo_limitOf 50 = .ok (.bipush 8, 2) := by decide +kernel
theorem d_Mo_limitOf_52 : decode b_Mo_limitOf 52 = .ok (.ireturn, 1) := by decide +kernel
theorem d_Mo_limitOf_53 : decode b_Mo_limitOf 53 = .ok (.bipush 10, 2) := by decide +kernel
theorem d_Mo_limitOf_55 : decode b_Mo_limitOf 55 = .ok (.ireturn, 1) := by decide +kernel
theorem d_Mo_baseOf_0 : decode b_Mo_baseOf 0 = .ok (.iload_n 0, 1) := by decide +kernel
theorem d_Mo_baseOf_1 : decode b_Mo_baseOf 1 = .ok (.iconst 2, 1) := by decide +kernel
theorem d_Mo_baseOf_2 : decode b_Mo_baseOf 2 = .ok (.if_icmp .ne 7, 3) := by decide +kernel
theorem d_Mo_baseOf_5 : decode b_Mo_baseOf 5 = .ok (.iconst 0, 1) := by decide +kernel
theorem d_Mo_baseOf_6 : decode b_Mo_baseOf 6 = .ok (.goto 26, 3) := by decide +kernel
theorem d_Mo_baseOf_9 : decode b_Mo_baseOf 9 = .ok (.iload_n 0, 1) := by decide +kernel
theorem d_Mo_baseOf_10 : decode b_Mo_baseOf 10 = .ok (.iconst 3, 1) := by decide +kernel
theorem d_Mo_baseOf_11 : decode b_Mo_baseOf 11 = .ok (.if_icmp .ne 8, 3) := by decide +kernel
theorem d_Mo_baseOf_14 : decode b_Mo_baseOf 14 = .ok (.bipush 20, 2) := by decide +kernel
theorem d_Mo_baseOf_16 : decode b_Mo_baseOf 16 = .ok (.goto 16, 3) := by decide +kernel
theorem d_Mo_baseOf_19 : decode b_Mo_baseOf 19 = .ok (.iload_n 0, 1) := by decide +kernel
theorem d_Mo_baseOf_20 : decode b_Mo_baseOf 20 = .ok (.iconst 4, 1) := by decide +kernel
theorem d_Mo_baseOf_21 : decode b_Mo_baseOf 21 = .ok (.if_icmp .ne 8, 3) := by decide +kernel
theorem d_Mo_baseOf_24 : decode b_Mo_baseOf 24 = .ok (.bipush 80, 2) := by decide +kernel
theorem d_Mo_baseOf_26 : decode b_Mo_baseOf 26 = .ok (.goto 6, 3) := by decide +kernel
theorem d_Mo_baseOf_29 : decode b_Mo_baseOf 29 = .ok (.sipush 140, 3) := by decide +kernel
theorem d_Mo_baseOf_32 : decode b_Mo_baseOf 32 = .ok (.ireturn, 1) := by decide +kernel
theorem d_Mo_kindOf_0 : decode b_Mo_kindOf 0 = .ok (.iload_n 0, 1) := by decide +kernel
theorem d_Mo_kindOf_1 : decode b_Mo_kindOf 1 = .ok (.bipush 20, 2) := by decide +kernel
theorem d_Mo_kindOf_3 : decode b_Mo_kindOf 3 = .ok (.if_icmp .ge 7, 3) := by decide +kernel
theorem d_Mo_kindOf_6 : decode b_Mo_kindOf 6 = .ok (.iconst 2, 1) := by decide +kernel
theorem d_Mo_kindOf_7 : decode b_Mo_kindOf 7 = .ok (.goto 25, 3) := by decide +kernel
theorem d_Mo_kindOf_10 : decode b_Mo_kindOf 10 = .ok (.iload_n 0, 1) := by decide +kernel
theorem d_Mo_kindOf_11 : decode b_Mo_kindOf 11 = .ok (.bipush 80, 2) := by decide +kernel
theorem d_Mo_kindOf_13 : decode b_Mo_kindOf 13 = .ok (.if_icmp .ge 7, 3) := by decide +kernel
theorem d_Mo_kindOf_16 : decode b_Mo_kindOf 16 = .ok (.iconst 3, 1) := by decide +kernel
theorem d_Mo_kindOf_17 : decode b_Mo_kindOf 17 = .ok (.goto 15, 3) := by decide +kernel
theorem d_Mo_kindOf_20 : decode b_Mo_kindOf 20 = .ok (.iload_n 0, 1) := by decide +kernel
theorem d_Mo_kindOf_21 : decode b_Mo_kindOf 21 = .ok (.sipush 140, 3) := by decide +kernel
theorem d_Mo_kindOf_24 : decode b_Mo_kindOf 24 = .ok (.if_icmp .ge 7, 3) := by decide +kernel
theorem d_Mo_kindOf_27 : decode b_Mo_kindOf 27 = .ok (.iconst 4, 1) := by decide +kernel
theorem d_Mo_kindOf_28 : decode b_Mo_kindOf 28 = .ok (.goto 4, 3) := by decide +kernel
theorem d_Mo_kindOf_31 : decode b_Mo_kindOf 31 = .ok (.iconst 5, 1) := by decide +kernel
theorem d_Mo_kindOf_32 : decode b_Mo_kindOf 32 = .ok (.ireturn, 1) := by decide +kernel
theorem d_Mo_handleOf_0 : decode b_Mo_handleOf 0 = .ok (.sipush 1000, 3) := by decide +kernel
theorem d_Mo_handleOf_3 : decode b_Mo_handleOf 3 = .ok (.iload_n 0, 1) := by decide +kernel
theorem d_Mo_handleOf_4 : decode b_Mo_handleOf 4 = .ok (.invokestatic 103, 3) := by decide +kernel
theorem d_Mo_handleOf_7 : decode b_Mo_handleOf 7 = .ok (.imul, 1) := by decide +kernel
theorem d_Mo_handleOf_8 : decode b_Mo_handleOf 8 = .ok (.iload_n 0, 1) := by decide +kernel
theorem d_Mo_handleOf_9 : decode b_Mo_handleOf 9 = .ok (.iadd, 1) := by decide +kernel
theorem d_Mo_handleOf_10 : decode b_Mo_handleOf 10 = .ok (.iload_n 0, 1) := by decide +kernel
theorem d_Mo_handleOf_11 : decode b_Mo_handleOf 11 = .ok (.invokestatic 103, 3) := by decide +kernel
theorem d_Mo_handleOf_14 : decode b_Mo_handleOf 14 = .ok (.invokestatic 107, 3) := by decide +kernel
theorem d_Mo_handleOf_17 : decode b_Mo_handleOf 17 = .ok (.isub, 1) := by decide +kernel
theorem d_Mo_handleOf_18 : decode b_Mo_handleOf 18 = .ok (.ireturn, 1) := by decide +kernel
theorem d_Mo_isGiven_0 : decode b_Mo_isGiven 0 = .ok (.iload_n 1, 1) := by decide +kernel
theorem d_Mo_isGiven_1 : decode b_Mo_isGiven 1 = .ok (.sipush 1000, 3) := by decide +kernel
theorem d_Mo_isGiven_4 : decode b_Mo_isGiven 4 = .ok (.idiv, 1) := by decide +kernel
theorem d_Mo_isGiven_5 : decode b_Mo_isGiven 5 = .ok (.istore_n 2, 1) := by decide +kernel
theorem d_Mo_isGiven_6 : decode b_Mo_isGiven 6 = .ok (.iload_n 1, 1) := by decide +kernel
theorem d_Mo_isGiven_7 : decode b_Mo_isGiven 7 = .ok (.sipush 1000, 3) := by decide +kernel
theorem d_Mo_isGiven_10 : decode b_Mo_isGiven 10 = .ok (.if_icmp .lt 27, 3) := by decide +kernel
theorem d_Mo_isGiven_13 : decode b_Mo_isGiven 13 = .ok (.iload_n 2, 1) := by decide +kernel
theorem d_Mo_isGiven_14 : decode b_Mo_isGiven 14 = .ok (.bipush 8, 2) := by decide +kernel
theorem d_Mo_isGiven_16 : decode b_Mo_isGiven 16 = .ok (.if_icmp .ge 21, 3) := by decide +kernel
theorem d_Mo_isGiven_19 : decode b_Mo_isGiven 19 = .ok (.iload_n 1, 1) := by decide +kernel
theorem d_Mo_isGiven_20 : decode b_Mo_isGiven 20 = .ok (.sipush 1000, 3) := by decide +kernel
theorem d_Mo_isGiven_23 : decode b_Mo_isGiven 23 = .ok (.irem, 1) := by decide +kernel
theorem d_Mo_isGiven_24 : decode b_Mo_isGiven 24 = .ok (.aload_n 0, 1) := by decide +kernel
theorem d_Mo_isGiven_25 : decode b_Mo_isGiven 25 = .ok (.getfield 7, 3) := by decide +kernel
theorem d_Mo_isGiven_28 : decode b_Mo_isGiven 28 = .ok (.iload_n 2, 1) := by decide +kernel
theorem d_Mo_isGiven_29 : decode b_Mo_isGiven 29 = .ok (.iaload, 1) := by decide +kernel
theorem d_Mo_isGiven_30 : decode b_Mo_isGiven 30 = .ok (.if_icmp .ge 7, 3) := by decide +kernel
theorem d_Mo_isGiven_33 : decode b_Mo_isGiven 33 = .ok (.iconst 1, 1) := by decide +kernel
theorem d_Mo_isGiven_34 : decode b_Mo_isGiven 34 = .ok (.goto 4, 3) := by decide +kernel
theorem d_Mo_isGiven_37 : decode b_Mo_isGiven 37 = .ok (.iconst 0, 1) := by decide +kernel
theorem d_Mo_isGiven_38 : decode b_Mo_isGiven 38 = .ok (.ireturn, 1) := by decide +kernel
theorem d_Mo_fault_0 : decode b_Mo_fault 0 = .ok (.aload_n 0, 1) := by decide +kernel
theorem d_Mo_fault_1 : decode b_Mo_fault 1 = .ok (.iload_n 1, 1) := by decide +kernel
theorem d_Mo_fault_2 : decode b_Mo_fault 2 = .ok (.invokevirtual 110, 3) := by decide +kernel
theorem d_Mo_fault_5 : decode b_Mo_fault 5 = .ok (.ifCond .ne 7, 3) := by decide +kernel
theorem d_Mo_fault_8 : decode b_Mo_fault 8 = .ok (.iconst 1, 1) := by decide +kernel
theorem d_Mo_fault_9 : decode b_Mo_fault 9 = .ok (.goto 17, 3) := by decide +kernel
theorem d_Mo_fault_12 : decode b_Mo_fault 12 = .ok (.iload_n 1, 1) := by decide +kernel
theorem d_Mo_fault_13 : decode b_Mo_fault 13 = .ok (.sipush 1000, 3) := by decide +kernel
theorem d_Mo_fault_16 : decode b_Mo_fault 16 = .ok (.idiv, 1) := by decide +kernel
theorem d_Mo_fault_17 : decode b_Mo_fault 17 = .ok (.iload_n 2, 1) := by decide +kernel
theorem d_Mo_fault_18 : decode b_Mo_fault 18 = .ok (.if_icmp .ne 7, 3) := by decide +kernel
theorem d_Mo_fault_21 : decode b_Mo_fault 21 = .ok (.iconst 0, 1) := by decide +kernel
theorem d_Mo_fault_22 : decode b_Mo_fault 22 = .ok (.goto 4, 3) := by decide +kernel
theorem d_Mo_fault_25 : decode b_Mo_fault 25 = .ok (.iconst 2, 1) := by decide +kernel
theorem d_Mo_fault_26 : decode b_Mo_fault 26 = .ok (.ireturn, 1) := by decide +kernel
theorem d_Mo_indexOf_0 : decode b_Mo_indexOf 0 = .ok (.iload_n 0, 1) := by decide +kernel
theorem d_Mo_indexOf_1 : decode b_Mo_indexOf 1 = .ok (.sipush 1000, 3) := by decide +kernel
theorem d_Mo_indexOf_4 : decode b_Mo_indexOf 4 = .ok (.idiv, 1) := by decide +kernel
theorem d_Mo_indexOf_5 : decode b_Mo_indexOf 5 = .ok (.invokestatic 107, 3) := by decide +kernel
theorem d_Mo_indexOf_8 : decode b_Mo_indexOf 8 = .ok (.iload_n 0, 1) := by decide +kernel
theorem d_Mo_indexOf_9 : decode b_Mo_indexOf 9 = .ok (.sipush 1000, 3) := by decide +kernel
theorem d_Mo_indexOf_12 : decode b_Mo_indexOf 12 = .ok (.irem, 1) := by decide +kernel
theorem d_Mo_indexOf_13 : decode b_Mo_indexOf 13 = .ok (.iadd, 1) := by decide +kernel
theorem d_Mo_indexOf_14 : decode b_Mo_indexOf 14 = .ok (.ireturn, 1) := by decide +kernel
theorem d_Mo_worst_0 : decode b_Mo_worst 0 = .ok (.iload_n 0, 1) := by decide +kernel
theorem d_Mo_worst_1 : decode b_Mo_worst 1 = .ok (.iconst 1, 1) := by decide +kernel
theorem d_Mo_worst_2 : decode b_Mo_worst 2 = .ok (.if_icmp .eq 8, 3) := by decide +kernel
theorem d_Mo_worst_5 : decode b_Mo_worst 5 = .ok (.iload_n 1, 1) := by decide +kernel
theorem d_Mo_worst_6 : decode b_Mo_worst 6 = .ok (.iconst 1, 1) := by decide +kernel
theorem d_Mo_worst_7 : decode b_Mo_worst 7 = .ok (.if_icmp .ne 7, 3) := by decide +kernel
theorem d_Mo_worst_10 : decode b_Mo_worst 10 = .ok (.iconst 1, 1) := by decide +kernel
theorem d_Mo_worst_11 : decode b_Mo_worst 11 = .ok (.goto 13, 3) := by decide +kernel
theorem d_Mo_worst_14 : decode b_Mo_worst 14 = .ok (.iload_n 0, 1) := by decide +kernel
theorem d_Mo_worst_15 : decode b_Mo_worst 15 = .ok (.iload_n 1, 1) := by decide +kernel
theorem d_Mo_worst_16 : decode b_Mo_worst 16 = .ok (.if_icmp .le 7, 3) := by decide +kernel
theorem d_Mo_worst_19 : decode b_Mo_worst 19 = .ok (.iload_n 0, 1) := by decide +kernel
theorem d_Mo_worst_20 : decode b_Mo_worst 20 = .ok (.goto 4, 3) := by decide +kernel
theorem d_Mo_worst_23 : decode b_Mo_worst 23 = .ok (.iload_n 1, 1) := by decide +kernel
theorem d_Mo_worst_24 : decode b_Mo_worst 24 = .ok (.ireturn, 1) := by decide +kernel
theorem d_Mo_isLayer_0 : decode b_Mo_isLayer 0 = .ok (.iload_n 1, 1) := by decide +kernel
theorem d_Mo_isLayer_1 : decode b_Mo_isLayer 1 = .ok (.ifCond .lt 15, 3) := by decide +kernel
theorem d_Mo_isLayer_4 : decode b_Mo_isLayer 4 = .ok (.iload_n 1, 1) := by decide +kernel
theorem d_Mo_isLayer_5 : decode b_Mo_isLayer 5 = .ok (.aload_n 0, 1) := by decide +kernel
theorem d_Mo_isLayer_6 : decode b_Mo_isLayer 6 = .ok (.getfield 94, 3) := by decide +kernel
theorem d_Mo_isLayer_9 : decode b_Mo_isLayer 9 = .ok (.if_icmp .ge 7, 3) := by decide +kernel
theorem d_Mo_isLayer_12 : decode b_Mo_isLayer 12 = .ok (.iconst 1, 1) := by decide +kernel
theorem d_Mo_isLayer_13 : decode b_Mo_isLayer 13 = .ok (.goto 4, 3) := by decide +kernel
theorem d_Mo_isLayer_16 : decode b_Mo_isLayer 16 = .ok (.iconst 0, 1) := by decide +kernel
theorem d_Mo_isLayer_17 : decode b_Mo_isLayer 17 = .ok (.ireturn, 1) := by decide +kernel
theorem d_Mo_isCell_0 : decode b_Mo_isCell 0 = .ok (.iload_n 0, 1) := by decide +kernel
theorem d_Mo_isCell_1 : decode b_Mo_isCell 1 = .ok (.ifCond .lt 23, 3) := by decide +kernel
theorem d_Mo_isCell_4 : decode b_Mo_isCell 4 = .ok (.iload_n 0, 1) := by decide +kernel
theorem d_Mo_isCell_5 : decode b_Mo_isCell 5 = .ok (.bipush 32, 2) := by decide +kernel
theorem d_Mo_isCell_7 : decode b_Mo_isCell 7 = .ok (.if_icmp .ge 17, 3) := by decide +kernel
theorem d_Mo_isCell_10 : decode b_Mo_isCell 10 = .ok (.iload_n 1, 1) := by decide +kernel
theorem d_Mo_isCell_11 : decode b_Mo_isCell 11 = .ok (.ifCond .lt 13, 3) := by decide +kernel
theorem d_Mo_isCell_14 : decode b_Mo_isCell 14 = .ok (.iload_n 1, 1) := by decide +kernel
theorem d_Mo_isCell_15 : decode b_Mo_isCell 15 = .ok (.bipush 24, 2) := by decide +kernel
theorem d_Mo_isCell_17 : decode b_Mo_isCell 17 = .ok (.if_icmp .ge 7, 3) := by decide +kernel
theorem d_Mo_isCell_20 : decode b_Mo_isCell 20 = .ok (.iconst 1, 1) := by decide +kernel
theorem d_Mo_isCell_21 : decode b_Mo_isCell 21 = .ok (.goto 4, 3) := by decide +kernel
theorem d_Mo_isCell_24 : decode b_Mo_isCell 24 = .ok (.iconst 0, 1) := by decide +kernel
theorem d_Mo_isCell_25 : decode b_Mo_isCell 25 = .ok (.ireturn, 1) := by decide +kernel
theorem d_Mo_isBox_0 : decode b_Mo_isBox 0 = .ok (.iload_n 0, 1) := by decide +kernel
theorem d_Mo_isBox_1 : decode b_Mo_isBox 1 = .ok (.iload_n 1, 1) := by decide +kernel
theorem d_Mo_isBox_2 : decode b_Mo_isBox 2 = .ok (.invokestatic 114, 3) := by decide +kernel
theorem d_Mo_isBox_5 : decode b_Mo_isBox 5 = .ok (.ifCond .eq 23, 3) := by decide +kernel
theorem d_Mo_isBox_8 : decode b_Mo_isBox 8 = .ok (.iload_n 0, 1) := by decide +kernel
theorem d_Mo_isBox_9 : decode b_Mo_isBox 9 = .ok (.iload_n 2, 1) := by decide +kernel
theorem d_Mo_isBox_10 : decode b_Mo_isBox 10 = .ok (.iadd, 1) := by decide +kernel
theorem d_Mo_isBox_11 : decode b_Mo_isBox 11 = .ok (.bipush 32, 2) := by decide +kernel
theorem d_Mo_isBox_13 : decode b_Mo_isBox 13 = .ok (.if_icmp .gt 15, 3) := by decide +kernel
theorem d_Mo_isBox_16 : decode b_Mo_isBox 16 = .ok (.iload_n 1, 1) := by decide +kernel
theorem d_Mo_isBox_17 : decode b_Mo_isBox 17 = .ok (.iload_n 3, 1) := by decide +kernel
theorem d_Mo_isBox_18 : decode b_Mo_isBox 18 = .ok (.iadd, 1) := by decide +kernel
theorem d_Mo_isBox_19 : decode b_Mo_isBox 19 = .ok (.bipush 24, 2) := by decide +kernel
theorem d_Mo_isBox_21 : decode b_Mo_isBox 21 = .ok (.if_icmp .gt 7, 3) := by decide +kernel
theorem d_Mo_isBox_24 : decode b_Mo_isBox 24 = .ok (.iconst 1, 1) := by decide +kernel
theorem d_Mo_isBox_25 : decode b_Mo_isBox 25 = .ok (.goto 4, 3) := by decide +kernel
theorem d_Mo_isBox_28 : decode b_Mo_isBox 28 = .ok (.iconst 0, 1) := by decide +kernel
theorem d_Mo_isBox_29 : decode b_Mo_isBox 29 = .ok (.ireturn, 1) := by decide +kernel
theorem d_Mo_meetsAct_0 : decode b_Mo_meetsAct 0 = .ok (.iload_n 2, 1) := by decide +kernel
theorem d_Mo_meetsAct_1 : decode b_Mo_meetsAct 1 = .ok (.aload_n 0, 1) := by decide +kernel
theorem d_Mo_meetsAct_2 : decode b_Mo_meetsAct 2 = .ok (.getfield 51, 3) := by decide +kernel
theorem d_Mo_meetsAct_5 : decode b_Mo_meetsAct 5 = .ok (.iload_n 1, 1) := by decide +kernel
theorem d_Mo_meetsAct_6 : decode b_Mo_meetsAct 6 = .ok (.iaload, 1) := by decide +kernel
theorem d_Mo_meetsAct_7 : decode b_Mo_meetsAct 7 = .ok (.if_icmp .gt 47, 3) := by decide +kernel
theorem d_Mo_meetsAct_10 : decode b_Mo_meetsAct 10 = .ok (.iload_n 2, 1) := by decide +kernel
theorem d_Mo_meetsAct_11 : decode b_Mo_meetsAct 11 = .ok (.iload 4, 2) := by decide +kernel
theorem d_Mo_meetsAct_13 : decode b_Mo_meetsAct 13 = .ok (.iadd, 1) := by decide +kernel
theorem d_Mo_meetsAct_14 : decode b_Mo_meetsAct 14 = .ok (.iconst 1, 1) := by decide +kernel
theorem d_Mo_meetsAct_15 : decode b_Mo_meetsAct 15 = .ok (.isub, 1) := by decide +kernel
theorem d_Mo_meetsAct_16 : decode b_Mo_meetsAct 16 = .ok (.aload_n 0, 1) := by decide +kernel
theorem d_Mo_meetsAct_17 : decode b_Mo_meetsAct 17 = .ok (.getfield 45, 3) := by decide +kernel
theorem d_Mo_meetsAct_20 : decode b_Mo_meetsAct 20 = .ok (.iload_n 1, 1) := by decide +kernel
theorem d_Mo_meetsAct_21 : decode b_Mo_meetsAct 21 = .ok (.iaload, 1) := by decide +kernel
theorem d_Mo_meetsAct_22 : decode b_Mo_meetsAct 22 = .ok (.if_icmp .lt 32, 3) := by decide +kernel
theorem d_Mo_meetsAct_25 : decode b_Mo_meetsAct 25 = .ok (.iload_n 3, 1) := by decide +kernel
theorem d_Mo_meetsAct_26 : decode b_Mo_meetsAct 26 = .ok (.aload_n 0, 1) := by decide +kernel
theorem d_Mo_meetsAct_27 : decode b_Mo_meetsAct 27 = .ok (.getfield 54, 3) := by decide +kernel
theorem d_Mo_meetsAct_30 : decode b_Mo_meetsAct 30 = .ok (.iload_n 1, 1) := by decide +kernel
theorem d_Mo_meetsAct_31 : decode b_Mo_meetsAct 31 = .ok (.iaload, 1) := by decide +kernel
theorem d_Mo_meetsAct_32 : decode b_Mo_meetsAct 32 = .ok (.if_icmp .gt 22, 3) := by decide +kernel
theorem d_Mo_meetsAct_35 : decode b_Mo_meetsAct 35 = .ok (.iload_n 3, 1) := by decide +kernel
theorem d_Mo_meetsAct_36 : decode b_Mo_meetsAct 36 = .ok (.iload 5, 2) := by decide +kernel
theorem d_Mo_meetsAct_38 : decode b_Mo_meetsAct 38 = .ok (.iadd, 1) := by decide +kernel
theorem d_Mo_meetsAct_39 : decode b_Mo_meetsAct 39 = .ok (.iconst 1, 1) := by decide +kernel
theorem d_Mo_meetsAct_40 : decode b_Mo_meetsAct 40 = .ok (.isub, 1) := by decide +kernel
theorem d_Mo_meetsAct_41 : decode b_Mo_meetsAct 41 = .ok (.aload_n 0, 1) := by decide +kernel
theorem d_Mo_meetsAct_42 : decode b_Mo_meetsAct 42 = .ok (.getfield 48, 3) := by decide +kernel
theorem d_Mo_meetsAct_45 : decode b_Mo_meetsAct 45 = .ok (.iload_n 1, 1) := by decide +kernel
theorem d_Mo_meetsAct_46 : decode b_Mo_meetsAct 46 = .ok (.iaload, 1) := by decide +kernel
theorem d_Mo_meetsAct_47 : decode b_Mo_meetsAct 47 = .ok (.if_icmp .lt 7, 3) := by decide +kernel
theorem d_Mo_meetsAct_50 : decode b_Mo_meetsAct 50 = .ok (.iconst 1, 1) := by decide +kernel
theorem d_Mo_meetsAct_51 : decode b_Mo_meetsAct 51 = .ok (.goto 4, 3) := by decide +kernel
theorem d_Mo_meetsAct_54 : decode b_Mo_meetsAct 54 = .ok (.iconst 0, 1) := by decide +kernel
theorem d_Mo_meetsAct_55 : decode b_Mo_meetsAct 55 = .ok (.ireturn, 1) := by decide +kernel
theorem d_Mo_isBarred_0 : decode b_Mo_isBarred 0 = .ok (.iconst 0, 1) := by decide +kernel
theorem d_Mo_isBarred_1 : decode b_Mo_isBarred 1 = .ok (.istore 5, 2) := by decide +kernel
theorem d_Mo_isBarred_3 : decode b_Mo_isBarred 3 = .ok (.iload 5, 2) := by decide +kernel
theorem d_Mo_isBarred_5 : decode b_Mo_isBarred 5 = .ok (.aload_n 0, 1) := by decide +kernel
theorem d_Mo_isBarred_6 : decode b_Mo_isBarred 6 = .ok (.getfield 7, 3) := by decide +kernel
theorem d_Mo_isBarred_9 : decode b_Mo_isBarred 9 = .ok (.bipush 6, 2) := by decide +kernel
theorem d_Mo_isBarred_11 : decode b_Mo_isBarred 11 = .ok (.iaload, 1) := by decide +kernel
theorem d_Mo_isBarred_12 : decode b_Mo_isBarred 12 = .ok (.if_icmp .ge 44, 3) := by decide +kernel
theorem d_Mo_isBarred_15 : decode b_Mo_isBarred 15 = .ok (.aload_n 0, 1) := by decide +kernel
theorem d_Mo_isBarred_16 : decode b_Mo_isBarred 16 = .ok (.getfield 42, 3) := by decide +kernel
theorem d_Mo_isBarred_19 : decode b_Mo_isBarred 19 = .ok (.iload 5, 2) := by decide +kernel
theorem d_Mo_isBarred_21 : decode b_Mo_isBarred 21 = .ok (.baload, 1) := by decide +kernel
theorem d_Mo_isBarred_22 : decode b_Mo_isBarred 22 = .ok (.ifCond .eq 28, 3) := by decide +kernel
theorem d_Mo_isBarred_25 : decode b_Mo_isBarred 25 = .ok (.iload 5, 2) := by decide +kernel
theorem d_Mo_isBarred_27 : decode b_Mo_isBarred 27 = .ok (.aload_n 0, 1) := by decide +kernel
theorem d_Mo_isBarred_28 : decode b_Mo_isBarred 28 = .ok (.getfield 38, 3) := by decide +kernel
theorem d_Mo_isBarred_31 : decode b_Mo_isBarred 31 = .ok (.if_icmp .eq 19, 3) := by decide +kernel
theorem d_Mo_isBarred_34 : decode b_Mo_isBarred 34 = .ok (.aload_n 0, 1) := by decide +kernel
theorem d_Mo_isBarred_35 : decode b_Mo_isBarred 35 = .ok (.iload 5, 2) := by decide +kernel
theorem d_Mo_isBarred_37 : decode b_Mo_isBarred 37 = .ok (.iload_n 1, 1) := by decide +kernel
theorem d_Mo_isBarred_38 : decode b_Mo_isBarred 38 = .ok (.iload_n 2, 1) := by decide +kernel
theorem d_Mo_isBarred_39 : decode b_Mo_isBarred 39 = .ok (.iload_n 3, 1) := by decide +kernel
theorem d_Mo_isBarred_40 : decode b_Mo_isBarred 40 = .ok (.iload 4, 2) := by decide +kernel
theorem d_Mo_isBarred_42 : decode b_Mo_isBarred 42 = .ok (.invokevirtual 118, 3) := by decide +kernel
theorem d_Mo_isBarred_45 : decode b_Mo_isBarred 45 = .ok (.ifCond .eq 5, 3) := by decide +kernel
theorem d_Mo_isBarred_48 : decode b_Mo_isBarred 48 = .ok (.iconst 1, 1) := by decide +kernel
theorem d_Mo_isBarred_49 : decode b_Mo_isBarred 49 = .ok (.ireturn, 1) := by decide +kernel
theorem d_Mo_isBarred_50 : decode b_Mo_isBarred 50 = .ok (.iinc 5 1, 3) := by decide +kernel
theorem d_Mo_isBarred_53 : decode b_Mo_isBarred 53 = .ok (.goto (-50), 3) := by decide +kernel
theorem d_Mo_isBarred_56 : decode b_Mo_isBarred 56 = .ok (.aload_n 0, 1) := by decide +kernel
theorem d_Mo_isBarred_57 : decode b_Mo_isBarred 57 = .ok (.getfield 38, 3) := by decide +kernel
theorem d_Mo_isBarred_60 : decode b_Mo_isBarred 60 = .ok (.istore 5, 2) := by decide +kernel
theorem d_Mo_isBarred_62 : decode b_Mo_isBarred 62 = .ok (.iload 5, 2) := by decide +kernel
theorem d_Mo_isBarred_64 : decode b_Mo_isBarred 64 = .ok (.iconst (-1), 1) := by decide +kernel
theorem d_Mo_isBarred_65 : decode b_Mo_isBarred 65 = .ok (.if_icmp .eq 60, 3) := by decide +kernel
theorem d_Mo_isBarred_68 : decode b_Mo_isBarred 68 = .ok (.iload_n 1, 1) := by decide +kernel
theorem d_Mo_isBarred_69 : decode b_Mo_isBarred 69 = .ok (.aload_n 0, 1) := by decide +kernel
theorem d_Mo_isBarred_70 : decode b_Mo_isBarred 70 = .ok (.getfield 45, 3) := by decide +kernel
theorem d_Mo_isBarred_73 : decode b_Mo_isBarred 73 = .ok (.iload 5, 2) := by decide +kernel
theorem d_Mo_isBarred_75 : decode b_Mo_isBarred 75 = .ok (.iaload, 1) := by decide +kernel
theorem d_Mo_isBarred_76 : decode b_Mo_isBarred 76 = .ok (.if_icmp .lt 45, 3) := by decide +kernel
theorem d_Mo_isBarred_79 : decode b_Mo_isBarred 79 = .ok (.iload_n 2, 1) := by decide +kernel
theorem d_Mo_isBarred_80 : decode b_Mo_isBarred 80 = .ok (.aload_n 0, 1) := by decide +kernel
theorem d_Mo_isBarred_81 : decode b_Mo_isBarred 81 = .ok (.getfield 48, 3) := by decide +kernel
theorem d_Mo_isBarred_84 : decode b_Mo_isBarred 84 = .ok (.iload 5, 2) := by decide +kernel
theorem d_Mo_isBarred_86 : decode b_Mo_isBarred 86 = .ok (.iaload, 1) := by decide +kernel
theorem d_Mo_isBarred_87 : decode b_Mo_isBarred 87 = .ok (.if_icmp .lt 34, 3) := by decide +kernel
theorem d_Mo_isBarred_90 : decode b_Mo_isBarred 90 = .ok (.iload_n 1, 1) := by decide +kernel
theorem d_Mo_isBarred_91 : decode b_Mo_isBarred 91 = .ok (.iload_n 3, 1) := by decide +kernel
theorem d_Mo_isBarred_92 : decode b_Mo_isBarred 92 = .ok (.iadd, 1) := by decide +kernel
theorem d_Mo_isBarred_93 : decode b_Mo_isBarred 93 = .ok (.iconst 1, 1) := by decide +kernel
theorem d_Mo_isBarred_94 : decode b_Mo_isBarred 94 = .ok (.isub, 1) := by decide +kernel
theorem d_Mo_isBarred_95 : decode b_Mo_isBarred 95 = .ok (.aload_n 0, 1) := by decide +kernel
theorem d_Mo_isBarred_96 : decode b_Mo_isBarred 96 = .ok (.getfield 51, 3) := by decide +kernel
theorem d_Mo_isBarred_99 : decode b_Mo_isBarred 99 = .ok (.iload 5, 2) := by decide +kernel
theorem d_Mo_isBarred_101 : decode b_Mo_isBarred 101 = .ok (.iaload, 1) := by decide +kernel
theorem d_Mo_isBarred_102 : decode b_Mo_isBarred 102 = .ok (.if_icmp .gt 19, 3) := by decide +kernel
theorem d_Mo_isBarred_105 : decode b_Mo_isBarred 105 = .ok (.iload_n 2, 1) := by decide +kernel
theorem d_Mo_isBarred_106 : decode b_Mo_isBarred 106 = .ok (.iload 4, 2) := by decide +kernel
theorem d_Mo_isBarred_108 : decode b_Mo_isBarred 108 = .ok (.iadd, 1) := by decide +kernel
theorem d_Mo_isBarred_109 : decode b_Mo_isBarred 109 = .ok (.iconst 1, 1) := by decide +kernel
theorem d_Mo_isBarred_110 : decode b_Mo_isBarred 110 = .ok (.isub, 1) := by decide +kernel
theorem d_Mo_isBarred_111 : decode b_Mo_isBarred 111 = .ok (.aload_n 0, 1) := by decide +kernel
theorem d_Mo_isBarred_112 : decode b_Mo_isBarred 112 = .ok (.getfield 54, 3) := by decide +kernel
theorem d_Mo_isBarred_115 : decode b_Mo_isBarred 115 = .ok (.iload 5, 2) := by decide +kernel
theorem d_Mo_isBarred_117 : decode b_Mo_isBarred 117 = .ok (.iaload, 1) := by decide +kernel
theorem d_Mo_isBarred_118 : decode b_Mo_isBarred 118 = .ok (.if_icmp .le 7, 3) := by decide +kernel
theorem d_Mo_isBarred_121 : decode b_Mo_isBarred 121 = .ok (.iconst 1, 1) := by decide +kernel
theorem d_Mo_isBarred_122 : decode b_Mo_isBarred 122 = .ok (.goto 4, 3) := by decide +kernel
theorem d_Mo_isBarred_125 : decode b_Mo_isBarred 125 = .ok (.iconst 0, 1) := by decide +kernel
theorem d_Mo_isBarred_126 : decode b_Mo_isBarred 126 = .ok (.ireturn, 1) := by decide +kernel
theorem d_Mo_isThingBarred_0 : decode b_Mo_isThingBarred 0 = .ok (.aload_n 0, 1) := by decide +kernel
theorem d_Mo_isThingBarred_1 : decode b_Mo_isThingBarred 1 = .ok (.aload_n 0, 1) := by decide +kernel
theorem d_Mo_isThingBarred_2 : decode b_Mo_isThingBarred 2 = .ok (.getfield 17, 3) := by decide +kernel
theorem d_Mo_isThingBarred_5 : decode b_Mo_isThingBarred 5 = .ok (.iload_n 1, 1) := by decide +kernel
theorem d_Mo_isThingBarred_6 : decode b_Mo_isThingBarred 6 = .ok (.iaload, 1) := by decide +kernel
theorem d_Mo_isThingBarred_7 : decode b_Mo_isThingBarred 7 = .ok (.aload_n 0, 1) := by decide +kernel
theorem d_Mo_isThingBarred_8 : decode b_Mo_isThingBarred 8 = .ok (.getfield 20, 3) := by decide +kernel
theorem d_Mo_isThingBarred_11 : decode b_Mo_isThingBarred 11 = .ok (.iload_n 1, 1) := by decide +kernel
theorem d_Mo_isThingBarred_12 : decode b_Mo_isThingBarred 12 = .ok (.iaload, 1) := by decide +kernel
theorem d_Mo_isThingBarred_13 : decode b_Mo_isThingBarred 13 = .ok (.aload_n 0, 1) := by decide +kernel
theorem d_Mo_isThingBarred_14 : decode b_Mo_isThingBarred 14 = .ok (.getfield 23, 3) := by decide +kernel
theorem d_Mo_isThingBarred_17 : decode b_Mo_isThingBarred 17 = .ok (.iload_n 1, 1) := by decide +kernel
theorem d_Mo_isThingBarred_18 : decode b_Mo_isThingBarred 18 = .ok (.iaload, 1) := by decide +kernel
theorem d_Mo_isThingBarred_19 : decode b_Mo_isThingBarred 19 = .ok (.aload_n 0, 1) := by decide +kernel
theorem d_Mo_isThingBarred_20 : decode b_Mo_isThingBarred 20 = .ok (.getfield 26, 3) := by decide +kernel
theorem d_Mo_isThingBarred_23 : decode b_Mo_isThingBarred 23 = .ok (.iload_n 1, 1) := by decide +kernel
theorem d_Mo_isThingBarred_24 : decode b_Mo_isThingBarred 24 = .ok (.iaload, 1) := by decide +kernel
theorem d_Mo_isThingBarred_25 : decode b_Mo_isThingBarred 25 = .ok (.invokevirtual 122, 3) := by decide +kernel
theorem d_Mo_isThingBarred_28 : decode b_Mo_isThingBarred 28 = .ok (.ireturn, 1) := by decide +kernel
theorem d_Mo_apart_0 : decode b_Mo_apart 0 = .ok (.iload_n 0, 1) := by decide +kernel
theorem d_Mo_apart_1 : decode b_Mo_apart 1 = .ok (.iload_n 1, 1) := by decide +kernel
theorem d_Mo_apart_2 : decode b_Mo_apart 2 = .ok (.iadd, 1) := by decide +kernel
theorem d_Mo_apart_3 : decode b_Mo_apart 3 = .ok (.iload_n 2, 1) := by decide +kernel
theorem d_Mo_apart_4 : decode b_Mo_apart 4 = .ok (.if_icmp .gt 13, 3) := by decide +kernel
theorem d_Mo_apart_7 : decode b_Mo_apart 7 = .ok (.iload_n 2, 1) := by decide +kernel
theorem d_Mo_apart_8 : decode b_Mo_apart 8 = .ok (.iload_n 0, 1) := by decide +kernel
theorem d_Mo_apart_9 : decode b_Mo_apart 9 = .ok (.isub, 1) := by decide +kernel
theorem d_Mo_apart_10 : decode b_Mo_apart 10 = .ok (.iload_n 1, 1) := by decide +kernel
theorem d_Mo_apart_11 : decode b_Mo_apart 11 = .ok (.isub, 1) := by decide +kernel
theorem d_Mo_apart_12 : decode b_Mo_apart 12 = .ok (.iconst 1, 1) := by decide +kernel
theorem d_Mo_apart_13 : decode b_Mo_apart 13 = .ok (.iadd, 1) := by decide +kernel
theorem d_Mo_apart_14 : decode b_Mo_apart 14 = .ok (.goto 21, 3) := by decide +kernel
theorem d_Mo_apart_17 : decode b_Mo_apart 17 = .ok (.iload_n 2, 1) := by decide +kernel
theorem d_Mo_apart_18 : decode b_Mo_apart 18 = .ok (.iload_n 3, 1) := by decide +kernel
theorem d_Mo_apart_19 : decode b_Mo_apart 19 = .ok (.iadd, 1) := by decide +kernel
theorem d_Mo_apart_20 : decode b_Mo_apart 20 = .ok (.iload_n 0, 1) := by decide +kernel
theorem d_Mo_apart_21 : decode b_Mo_apart 21 = .ok (.if_icmp .gt 13, 3) := by decide +kernel
theorem d_Mo_apart_24 : decode b_Mo_apart 24 = .ok (.iload_n 0, 1) := by decide +kernel
theorem d_Mo_apart_25 : decode b_Mo_apart 25 = .ok (.iload_n 2, 1) := by decide +kernel
theorem d_Mo_apart_26 : decode b_Mo_apart 26 = .ok (.isub, 1) := by decide +kernel
theorem d_Mo_apart_27 : decode b_Mo_apart 27 = .ok (.iload_n 3, 1) := by decide +kernel
theorem d_Mo_apart_28 : decode b_Mo_apart 28 = .ok (.isub, 1) := by decide +kernel
theorem d_Mo_apart_29 : decode b_Mo_apart 29 = .ok (.iconst 1, 1) := by decide +kernel
theorem d_Mo_apart_30 : decode b_Mo_apart 30 = .ok (.iadd, 1) := by decide +kernel
theorem d_Mo_apart_31 : decode b_Mo_apart 31 = .ok (.goto 4, 3) := by decide +kernel
theorem d_Mo_apart_34 : decode b_Mo_apart 34 = .ok (.iconst 0, 1) := by decide +kernel
theorem d_Mo_apart_35 : decode b_Mo_apart 35 = .ok (.ireturn, 1) := by decide +kernel
theorem d_Mo_isCopper_0 : decode b_Mo_isCopper 0 = .ok (.aload_n 0, 1) := by decide +kernel
theorem d_Mo_isCopper_1 : decode b_Mo_isCopper 1 = .ok (.getfield 13, 3) := by decide +kernel
theorem d_Mo_isCopper_4 : decode b_Mo_isCopper 4 = .ok (.iload_n 1, 1) := by decide +kernel
theorem d_Mo_isCopper_5 : decode b_Mo_isCopper 5 = .ok (.baload, 1) := by decide +kernel
theorem d_Mo_isCopper_6 : decode b_Mo_isCopper 6 = .ok (.ifCond .eq 23, 3) := by decide +kernel
theorem d_Mo_isCopper_9 : decode b_Mo_isCopper 9 = .ok (.iload_n 1, 1) := by decide +kernel
theorem d_Mo_isCopper_10 : decode b_Mo_isCopper 10 = .ok (.invokestatic 103, 3) := by decide +kernel
theorem d_Mo_isCopper_13 : decode b_Mo_isCopper 13 = .ok (.iconst 3, 1) := by decide +kernel
theorem d_Mo_isCopper_14 : decode b_Mo_isCopper 14 = .ok (.if_icmp .eq 11, 3) := by decide +kernel
theorem d_Mo_isCopper_17 : decode b_Mo_isCopper 17 = .ok (.iload_n 1, 1) := by decide +kernel
theorem d_Mo_isCopper_18 : decode b_Mo_isCopper 18 = .ok (.invokestatic 103, 3) := by decide +kernel
theorem d_Mo_isCopper_21 : decode b_Mo_isCopper 21 = .ok (.iconst 4, 1) := by decide +kernel
theorem d_Mo_isCopper_22 : decode b_Mo_isCopper 22 = .ok (.if_icmp .ne 7, 3) := by decide +kernel
theorem d_Mo_isCopper_25 : decode b_Mo_isCopper 25 = .ok (.iconst 1, 1) := by decide +kernel
theorem d_Mo_isCopper_26 : decode b_Mo_isCopper 26 = .ok (.goto 4, 3) := by decide +kernel
theorem d_Mo_isCopper_29 : decode b_Mo_isCopper 29 = .ok (.iconst 0, 1) := by decide +kernel
theorem d_Mo_isCopper_30 : decode b_Mo_isCopper 30 = .ok (.ireturn, 1) := by decide +kernel
theorem d_Mo_shareLayer_0 : decode b_Mo_shareLayer 0 = .ok (.iload_n 1, 1) := by decide +kernel
theorem d_Mo_shareLayer_1 : decode b_Mo_shareLayer 1 = .ok (.invokestatic 103, 3) := by decide +kernel
theorem d_Mo_shareLayer_4 : decode b_Mo_shareLayer 4 = .ok (.iconst 3, 1) := by decide +kernel
theorem d_Mo_shareLayer_5 : decode b_Mo_shareLayer 5 = .ok (.if_icmp .eq 26, 3) := by decide +kernel
theorem d_Mo_shareLayer_8 : decode b_Mo_shareLayer 8 = .ok (.iload_n 2, 1) := by decide +kernel
theorem d_Mo_shareLayer_9 : decode b_Mo_shareLayer 9 = .ok (.invokestatic 103, 3) := by decide +kernel
theorem d_Mo_shareLayer_12 : decode b_Mo_shareLayer 12 = .ok (.iconst 3, 1) := by decide +kernel
theorem d_Mo_shareLayer_13 : decode b_Mo_shareLayer 13 = .ok (.if_icmp .eq 18, 3) := by decide +kernel
theorem d_Mo_shareLayer_16 : decode b_Mo_shareLayer 16 = .ok (.aload_n 0, 1) := by decide +kernel
theorem d_Mo_shareLayer_17 : decode b_Mo_shareLayer 17 = .ok (.getfield 29, 3) := by decide +kernel
theorem d_Mo_shareLayer_20 : decode b_Mo_shareLayer 20 = .ok (.iload_n 1, 1) := by decide +kernel
theorem d_Mo_shareLayer_21 : decode b_Mo_shareLayer 21 = .ok (.iaload, 1) := by decide +kernel
theorem d_Mo_shareLayer_22 : decode b_Mo_shareLayer 22 = .ok (.aload_n 0, 1) := by decide +kernel
theorem d_Mo_shareLayer_23 : decode b_Mo_shareLayer 23 = .ok (.getfield 29, 3) := by decide +kernel
theorem d_Mo_shareLayer_26 : decode b_Mo_shareLayer 26 = .ok (.iload_n 2, 1) := by decide +kernel
theorem d_Mo_shareLayer_27 : decode b_Mo_shareLayer 27 = .ok (.iaload, 1) := by decide +kernel
theorem d_Mo_shareLayer_28 : decode b_Mo_shareLayer 28 = .ok (.if_icmp .ne 7, 3) := by decide +kernel
theorem d_Mo_shareLayer_31 : decode b_Mo_shareLayer 31 = .ok (.iconst 1, 1) := by decide +kernel
theorem d_Mo_shareLayer_32 : decode b_Mo_shareLayer 32 = .ok (.goto 4, 3) := by decide +kernel
theorem d_Mo_shareLayer_35 : decode b_Mo_shareLayer 35 = .ok (.iconst 0, 1) := by decide +kernel
theorem d_Mo_shareLayer_36 : decode b_Mo_shareLayer 36 = .ok (.ireturn, 1) := by decide +kernel
theorem d_Mo_clash_0 : decode b_Mo_clash 0 = .ok (.aload_n 0, 1) := by decide +kernel
theorem d_Mo_clash_1 : decode b_Mo_clash 1 = .ok (.getfield 32, 3) := by decide +kernel
theorem d_Mo_clash_4 : decode b_Mo_clash 4 = .ok (.iload_n 1, 1) := by decide +kernel
theorem d_Mo_clash_5 : decode b_Mo_clash 5 = .ok (.iaload, 1) := by decide +kernel
theorem d_Mo_clash_6 : decode b_Mo_clash 6 = .ok (.aload_n 0, 1) := by decide +kernel
theorem d_Mo_clash_7 : decode b_Mo_clash 7 = .ok (.getfield 32, 3) := by decide +kernel
theorem d_Mo_clash_10 : decode b_Mo_clash 10 = .ok (.iload 4, 2) := by decide +kernel
theorem d_Mo_clash_12 : decode b_Mo_clash 12 = .ok (.iaload, 1) := by decide +kernel
theorem d_Mo_clash_13 : decode b_Mo_clash 13 = .ok (.if_icmp .eq 13, 3) := by decide +kernel
theorem d_Mo_clash_16 : decode b_Mo_clash 16 = .ok (.aload_n 0, 1) := by decide +kernel
theorem d_Mo_clash_17 : decode b_Mo_clash 17 = .ok (.iload_n 1, 1) := by decide +kernel
theorem d_Mo_clash_18 : decode b_Mo_clash 18 = .ok (.iload 4, 2) := by decide +kernel
theorem d_Mo_clash_20 : decode b_Mo_clash 20 = .ok (.invokevirtual 126, 3) := by decide +kernel
theorem d_Mo_clash_23 : decode b_Mo_clash 23 = .ok (.ifCond .ne 5, 3) := by decide +kernel
theorem d_Mo_clash_26 : decode b_Mo_clash 26 = .ok (.iconst 0, 1) := by decide +kernel
theorem d_Mo_clash_27 : decode b_Mo_clash 27 = .ok (.ireturn, 1) := by decide +kernel
theorem d_Mo_clash_28 : decode b_Mo_clash 28 = .ok (.aload_n 0, 1) := by decide +kernel
theorem d_Mo_clash_29 : decode b_Mo_clash 29 = .ok (.getfield 17, 3) := by decide +kernel
theorem d_Mo_clash_32 : decode b_Mo_clash 32 = .ok (.iload_n 1, 1) := by decide +kernel
theorem d_Mo_clash_33 : decode b_Mo_clash 33 = .ok (.iaload, 1) := by decide +kernel
theorem d_Mo_clash_34 : decode b_Mo_clash 34 = .ok (.iload_n 2, 1) := by decide +kernel
theorem d_Mo_clash_35 : decode b_Mo_clash 35 = .ok (.iadd, 1) := by decide +kernel
theorem d_Mo_clash_36 : decode b_Mo_clash 36 = .ok (.aload_n 0, 1) := by decide +kernel
theorem d_Mo_clash_37 : decode b_Mo_clash 37 = .ok (.getfield 23, 3) := by decide +kernel
theorem d_Mo_clash_40 : decode b_Mo_clash 40 = .ok (.iload_n 1, 1) := by decide +kernel
theorem d_Mo_clash_41 : decode b_Mo_clash 41 = .ok (.iaload, 1) := by decide +kernel
theorem d_Mo_clash_42 : decode b_Mo_clash 42 = .ok (.aload_n 0, 1) := by decide +kernel
theorem d_Mo_clash_43 : decode b_Mo_clash 43 = .ok (.getfield 17, 3) := by decide +kernel
theorem d_Mo_clash_46 : decode b_Mo_clash 46 = .ok (.iload 4, 2) := by decide +kernel
theorem d_Mo_clash_48 : decode b_Mo_clash 48 = .ok (.iaload, 1) := by decide +kernel
theorem d_Mo_clash_49 : decode b_Mo_clash 49 = .ok (.aload_n 0, 1) := by decide +kernel
theorem d_Mo_clash_50 : decode b_Mo_clash 50 = .ok (.getfield 23, 3) := by decide +kernel
theorem d_Mo_clash_53 : decode b_Mo_clash 53 = .ok (.iload 4, 2) := by decide +kernel
theorem d_Mo_clash_55 : decode b_Mo_clash 55 = .ok (.iaload, 1) := by decide +kernel
theorem d_Mo_clash_56 : decode b_Mo_clash 56 = .ok (.invokestatic 129, 3) := by decide +kernel
theorem d_Mo_clash_59 : decode b_Mo_clash 59 = .ok (.aload_n 0, 1) := by decide +kernel
theorem d_Mo_clash_60 : decode b_Mo_clash 60 = .ok (.getfield 97, 3) := by decide +kernel
theorem d_Mo_clash_63 : decode b_Mo_clash 63 = .ok (.if_icmp .gt 45, 3) := by decide +kernel
theorem d_Mo_clash_66 : decode b_Mo_clash 66 = .ok (.aload_n 0, 1) := by decide +kernel
theorem d_Mo_clash_67 : decode b_Mo_clash 67 = .ok (.getfield 20, 3) := by decide +kernel
theorem d_Mo_clash_70 : decode b_Mo_clash 70 = .ok (.iload_n 1, 1) := by decide +kernel
theorem d_Mo_clash_71 : decode b_Mo_clash 71 = .ok (.iaload, 1) := by decide +kernel
theorem d_Mo_clash_72 : decode b_Mo_clash 72 = .ok (.iload_n 3, 1) := by decide +kernel
theorem d_Mo_clash_73 : decode b_Mo_clash 73 = .ok (.iadd, 1) := by decide +kernel
theorem d_Mo_clash_74 : decode b_Mo_clash 74 = .ok (.aload_n 0, 1) := by decide +kernel
theorem d_Mo_clash_75 : decode b_Mo_clash 75 = .ok (.getfield 26, 3) := by decide +kernel
theorem d_Mo_clash_78 : decode b_Mo_clash 78 = .ok (.iload_n 1, 1) := by decide +kernel
theorem d_Mo_clash_79 : decode b_Mo_clash 79 = .ok (.iaload, 1) := by decide +kernel
theorem d_Mo_clash_80 : decode b_Mo_clash 80 = .ok (.aload_n 0, 1) := by decide +kernel
theorem d_Mo_clash_81 : decode b_Mo_clash 81 = .ok (.getfield 20, 3) := by decide +kernel
theorem d_Mo_clash_84 : decode b_Mo_clash 84 = .ok (.iload 4, 2) := by decide +kernel
theorem d_Mo_clash_86 : decode b_Mo_clash 86 = .ok (.iaload, 1) := by decide +kernel
theorem d_Mo_clash_87 : decode b_Mo_clash 87 = .ok (.aload_n 0, 1) := by decide +kernel
theorem d_Mo_clash_88 : decode b_Mo_clash 88 = .ok (.getfield 26, 3) := by decide +kernel
theorem d_Mo_clash_91 : decode b_Mo_clash 91 = .ok (.iload 4, 2) := by decide +kernel
theorem d_Mo_clash_93 : decode b_Mo_clash 93 = .ok (.iaload, 1) := by decide +kernel
theorem d_Mo_clash_94 : decode b_Mo_clash 94 = .ok (.invokestatic 129, 3) := by decide +kernel
theorem d_Mo_clash_97 : decode b_Mo_clash 97 = .ok (.aload_n 0, 1) := by decide +kernel
theorem d_Mo_clash_98 : decode b_Mo_clash 98 = .ok (.getfield 97, 3) := by decide +kernel
theorem d_Mo_clash_101 : decode b_Mo_clash 101 = .ok (.if_icmp .gt 7, 3) := by decide +kernel
theorem d_Mo_clash_104 : decode b_Mo_clash 104 = .ok (.iconst 1, 1) := by decide +kernel
theorem d_Mo_clash_105 : decode b_Mo_clash 105 = .ok (.goto 4, 3) := by decide +kernel
theorem d_Mo_clash_108 : decode b_Mo_clash 108 = .ok (.iconst 0, 1) := by decide +kernel
theorem d_Mo_clash_109 : decode b_Mo_clash 109 = .ok (.ireturn, 1) := by decide +kernel
theorem d_Mo_clashesWithAny_0 : decode b_Mo_clashesWithAny 0 = .ok (.bipush 20, 2) := by decide +kernel
theorem d_Mo_clashesWithAny_2 : decode b_Mo_clashesWithAny 2 = .ok (.istore 5, 2) := by decide +kernel
theorem d_Mo_clashesWithAny_4 : decode b_Mo_clashesWithAny 4 = .ok (.iload 5, 2) := by decide +kernel
theorem d_Mo_clashesWithAny_6 : decode b_Mo_clashesWithAny 6 = .ok (.sipush 140, 3) := by decide +kernel
theorem d_Mo_clashesWithAny_9 : decode b_Mo_clashesWithAny 9 = .ok (.if_icmp .ge 56, 3) := by decide +kernel
theorem d_Mo_clashesWithAny_12 : decode b_Mo_clashesWithAny 12 = .ok (.iload 5, 2) := by decide +kernel
theorem d_Mo_clashesWithAny_14 : decode b_Mo_clashesWithAny 14 = .ok (.iload_n 1, 1) := by decide +kernel
theorem d_Mo_clashesWithAny_15 : decode b_Mo_clashesWithAny 15 = .ok (.if_icmp .eq 44, 3) := by decide +kernel
theorem d_Mo_clashesWithAny_18 : decode b_Mo_clashesWithAny 18 = .ok (.aload_n 0, 1) := by decide +kernel
theorem d_Mo_clashesWithAny_19 : decode b_Mo_clashesWithAny 19 = .ok (.iload 5, 2) := by decide +kernel
theorem d_Mo_clashesWithAny_21 : decode b_Mo_clashesWithAny 21 = .ok (.invokevirtual 133, 3) := by decide +kernel
theorem d_Mo_clashesWithAny_24 : decode b_Mo_clashesWithAny 24 = .ok (.ifCond .eq 35, 3) := by decide +kernel
theorem d_Mo_clashesWithAny_27 : decode b_Mo_clashesWithAny 27 = .ok (.iload 4, 2) := by decide +kernel
theorem d_Mo_clashesWithAny_29 : decode b_Mo_clashesWithAny 29 = .ok (.iconst (-1), 1) := by decide +kernel
theorem d_Mo_clashesWithAny_30 : decode b_Mo_clashesWithAny 30 = .ok (.if_icmp .eq 15, 3) := by decide +kernel
theorem d_Mo_clashesWithAny_33 : decode b_Mo_clashesWithAny 33 = .ok (.aload_n 0, 1) := by decide +kernel
theorem d_Mo_clashesWithAny_34 : decode b_Mo_clashesWithAny 34 = .ok (.getfield 35, 3) := by decide +kernel
theorem d_Mo_clashesWithAny_37 : decode b_Mo_clashesWithAny 37 = .ok (.iload 5, 2) := by decide +kernel
theorem d_Mo_clashesWithAny_39 : decode b_Mo_clashesWithAny 39 = .ok (.iaload, 1) := by decide +kernel
theorem d_Mo_clashesWithAny_40 : decode b_Mo_clashesWithAny 40 = .ok (.iload 4, 2) := by decide +kernel
theorem d_Mo_clashesWithAny_42 : decode b_Mo_clashesWithAny 42 = .ok (.if_icmp .eq 17, 3) := by decide +kernel
theorem d_Mo_clashesWithAny_45 : decode b_Mo_clashesWithAny 45 = .ok (.aload_n 0, 1) := by decide +kernel
theorem d_Mo_clashesWithAny_46 : decode b_Mo_clashesWithAny 46 = .ok (.iload_n 1, 1) := by decide +kernel
theorem d_Mo_clashesWithAny_47 : decode b_Mo_clashesWithAny 47 = .ok (.iload_n 2, 1) := by decide +kernel
theorem d_Mo_clashesWithAny_48 : decode b_Mo_clashesWithAny 48 = .ok (.iload_n 3, 1) := by decide +kernel
theorem d_Mo_clashesWithAny_49 : decode b_Mo_clashesWithAny 49 = .ok (.iload 5, 2) := by decide +kernel
theorem d_Mo_clashesWithAny_51 : decode b_Mo_clashesWithAny 51 = .ok (.invokevirtual 136, 3) := by decide +kernel
theorem d_Mo_clashesWithAny_54 : decode b_Mo_clashesWithAny 54 = .ok (.ifCond .eq 5, 3) := by decide +kernel
theorem d_Mo_clashesWithAny_57 : decode b_Mo_clashesWithAny 57 = .ok (.iconst 1, 1) := by decide +kernel
theorem d_Mo_clashesWithAny_58 : decode b_Mo_clashesWithAny 58 = .ok (.ireturn, 1) := by decide +kernel
theorem d_Mo_clashesWithAny_59 : decode b_Mo_clashesWithAny 59 = .ok (.iinc 5 1, 3) := by decide +kernel
theorem d_Mo_clashesWithAny_62 : decode b_Mo_clashesWithAny 62 = .ok (.goto (-58), 3) := by decide +kernel
theorem d_Mo_clashesWithAny_65 : decode b_Mo_clashesWithAny 65 = .ok (.iconst 0, 1) := by decide +kernel
theorem d_Mo_clashesWithAny_66 : decode b_Mo_clashesWithAny 66 = .ok (.ireturn, 1) := by decide +kernel
theorem d_Mo_overlaps_0 : decode b_Mo_overlaps 0 = .ok (.iconst 0, 1) := by decide +kernel
theorem d_Mo_overlaps_1 : decode b_Mo_overlaps 1 = .ok (.istore 7, 2) := by decide +kernel
theorem d_Mo_overlaps_3 : decode b_Mo_overlaps 3 = .ok (.iload 7, 2) := by decide +kernel
theorem d_Mo_overlaps_5 : decode b_Mo_overlaps 5 = .ok (.aload_n 0, 1) := by decide +kernel
theorem d_Mo_overlaps_6 : decode b_Mo_overlaps 6 = .ok (.getfield 7, 3) := by decide +kernel
theorem d_Mo_overlaps_9 : decode b_Mo_overlaps 9 = .ok (.iconst 2, 1) := by decide +kernel
theorem d_Mo_overlaps_10 : decode b_Mo_overlaps 10 = .ok (.iaload, 1) := by decide +kernel
theorem d_Mo_overlaps_11 : decode b_Mo_overlaps 11 = .ok (.if_icmp .ge 85, 3) := by decide +kernel
theorem d_Mo_overlaps_14 : decode b_Mo_overlaps 14 = .ok (.iload 7, 2) := by decide +kernel
theorem d_Mo_overlaps_16 : decode b_Mo_overlaps 16 = .ok (.iload_n 1, 1) := by decide +kernel
theorem d_Mo_overlaps_17 : decode b_Mo_overlaps 17 = .ok (.if_icmp .eq 73, 3) := by decide +kernel
theorem d_Mo_overlaps_20 : decode b_Mo_overlaps 20 = .ok (.aload_n 0, 1) := by decide +kernel
theorem d_Mo_overlaps_21 : decode b_Mo_overlaps 21 = .ok (.getfield 13, 3) := by decide +kernel
theorem d_Mo_overlaps_24 : decode b_Mo_overlaps 24 = .ok (.iload 7, 2) := by decide +kernel
theorem d_Mo_overlaps_26 : decode b_Mo_overlaps 26 = .ok (.baload, 1) := by decide +kernel
theorem d_Mo_overlaps_27 : decode b_Mo_overlaps 27 = .ok (.ifCond .eq 63, 3) := by decide +kernel
theorem d_Mo_overlaps_30 : decode b_Mo_overlaps 30 = .ok (.aload_n 0, 1) := by decide +kernel
theorem d_Mo_overlaps_31 : decode b_Mo_overlaps 31 = .ok (.getfield 29, 3) := by decide +kernel
theorem d_Mo_overlaps_34 : decode b_Mo_overlaps 34 = .ok (.iload 7, 2) := by decide +kernel
theorem d_Mo_overlaps_36 : decode b_Mo_overlaps 36 = .ok (.iaload, 1) := by decide +kernel
theorem d_Mo_overlaps_37 : decode b_Mo_overlaps 37 = .ok (.iload 6, 2) := by decide +kernel
theorem d_Mo_overlaps_39 : decode b_Mo_overlaps 39 = .ok (.if_icmp .ne 51, 3) := by decide +kernel
theorem d_Mo_overlaps_42 : decode b_Mo_overlaps 42 = .ok (.iload_n 2, 1) := by decide +kernel
theorem d_Mo_overlaps_43 : decode b_Mo_overlaps 43 = .ok (.iload 4, 2) := by decide +kernel
theorem d_Mo_overlaps_45 : decode b_Mo_overlaps 45 = .ok (.aload_n 0, 1) := by decide +kernel
theorem d_Mo_overlaps_46 : decode b_Mo_overlaps 46 = .ok (.getfield 17, 3) := by decide +kernel
theorem d_Mo_overlaps_49 : decode b_Mo_overlaps 49 = .ok (.iload 7, 2) := by decide +kernel
theorem d_Mo_overlaps_51 : decode b_Mo_overlaps 51 = .ok (.iaload, 1) := by decide +kernel
theorem d_Mo_overlaps_52 : decode b_Mo_overlaps 52 = .ok (.aload_n 0, 1) := by decide +kernel
theorem d_Mo_overlaps_53 : decode b_Mo_overlaps 53 = .ok (.getfield 23, 3) := by decide +kernel
theorem d_Mo_overlaps_56 : decode b_Mo_overlaps 56 = .ok (.iload 7, 2) := by decide +kernel
theorem d_Mo_overlaps_58 : decode b_Mo_overlaps 58 = .ok (.iaload, 1) := by decide +kernel
theorem d_Mo_overlaps_59 : decode b_Mo_overlaps 59 = .ok (.invokestatic 129, 3) := by decide +kernel
theorem d_Mo_overlaps_62 : decode b_Mo_overlaps 62 = .ok (.ifCond .ne 28, 3) := by decide +kernel
theorem d_Mo_overlaps_65 : decode b_Mo_overlaps 65 = .ok (.iload_n 3, 1) := by decide +kernel
theorem d_Mo_overlaps_66 : decode b_Mo_overlaps 66 = .ok (.iload 5, 2) := by decide +kernel
theorem d_Mo_overlaps_68 : decode b_Mo_overlaps 68 = .ok (.aload_n 0, 1) := by decide +kernel
theorem d_Mo_overlaps_69 : decode b_Mo_overlaps 69 = .ok (.getfield 20, 3) := by decide +kernel
theorem d_Mo_overlaps_72 : decode b_Mo_overlaps 72 = .ok (.iload 7, 2) := by decide +kernel
theorem d_Mo_overlaps_74 : decode b_Mo_overlaps 74 = .ok (.iaload, 1) := by decide +kernel
theorem d_Mo_overlaps_75 : decode b_Mo_overlaps 75 = .ok (.aload_n 0, 1) := by decide +kernel
theorem d_Mo_overlaps_76 : decode b_Mo_overlaps 76 = .ok (.getfield 26, 3) := by decide +kernel
theorem d_Mo_overlaps_79 : decode b_Mo_overlaps 79 = .ok (.iload 7, 2) := by decide +kernel
theorem d_Mo_overlaps_81 : decode b_Mo_overlaps 81 = .ok (.iaload, 1) := by decide +kernel
theorem d_Mo_overlaps_82 : decode b_Mo_overlaps 82 = .ok (.invokestatic 129, 3) := by decide +kernel
theorem d_Mo_overlaps_85 : decode b_Mo_overlaps 85 = .ok (.ifCond .ne 5, 3) := by decide +kernel
theorem d_Mo_overlaps_88 : decode b_Mo_overlaps 88 = .ok (.iconst 1, 1) := by decide +kernel
theorem d_Mo_overlaps_89 : decode b_Mo_overlaps 89 = .ok (.ireturn, 1) := by decide +kernel
theorem d_Mo_overlaps_90 : decode b_Mo_overlaps 90 = .ok (.iinc 7 1, 3) := by decide +kernel
theorem d_Mo_overlaps_93 : decode b_Mo_overlaps 93 = .ok (.goto (-90), 3) := by decide +kernel
theorem d_Mo_overlaps_96 : decode b_Mo_overlaps 96 = .ok (.iconst 0, 1) := by decide +kernel
theorem d_Mo_overlaps_97 : decode b_Mo_overlaps 97 = .ok (.ireturn, 1) := by decide +kernel
theorem d_Mo_note_0 : decode b_Mo_note 0 = .ok (.aload_n 0, 1) := by decide +kernel
theorem d_Mo_note_1 : decode b_Mo_note 1 = .ok (.getfield 38, 3) := by decide +kernel
theorem d_Mo_note_4 : decode b_Mo_note 4 = .ok (.iconst (-1), 1) := by decide +kernel
theorem d_Mo_note_5 : decode b_Mo_note 5 = .ok (.if_icmp .ne 4, 3) := by decide +kernel
theorem d_Mo_note_8 : decode b_Mo_note 8 = .ok (.return_, 1) := by decide +kernel
theorem d_Mo_note_9 : decode b_Mo_note 9 = .ok (.sipush 150, 3) := by decide +kernel
theorem d_Mo_note_12 : decode b_Mo_note 12 = .ok (.aload_n 0, 1) := by decide +kernel
theorem d_Mo_note_13 : decode b_Mo_note 13 = .ok (.getfield 38, 3) := by decide +kernel
theorem d_Mo_note_16 : decode b_Mo_note 16 = .ok (.imul, 1) := by decide +kernel
theorem d_Mo_note_17 : decode b_Mo_note 17 = .ok (.iload_n 1, 1) := by decide +kernel
theorem d_Mo_note_18 : decode b_Mo_note 18 = .ok (.iadd, 1) := by decide +kernel
theorem d_Mo_note_19 : decode b_Mo_note 19 = .ok (.istore_n 3, 1) := by decide +kernel
theorem d_Mo_note_20 : decode b_Mo_note 20 = .ok (.aload_n 0, 1) := by decide +kernel
theorem d_Mo_note_21 : decode b_Mo_note 21 = .ok (.getfield 57, 3) := by decide +kernel
theorem d_Mo_note_24 : decode b_Mo_note 24 = .ok (.aload_n 0, 1) := by decide +kernel
theorem d_Mo_note_25 : decode b_Mo_note 25 = .ok (.getfield 38, 3) := by decide +kernel
theorem d_Mo_note_28 : decode b_Mo_note 28 = .ok (.dup2, 1) := by decide +kernel
theorem d_Mo_note_29 : decode b_Mo_note 29 = .ok (.iaload, 1) := by decide +kernel
theorem d_Mo_note_30 : decode b_Mo_note 30 = .ok (.iconst 1, 1) := by decide +kernel
theorem d_Mo_note_31 : decode b_Mo_note 31 = .ok (.iadd, 1) := by decide +kernel
theorem d_Mo_note_32 : decode b_Mo_note 32 = .ok (.iastore, 1) := by decide +kernel
theorem d_Mo_note_33 : decode b_Mo_note 33 = .ok (.aload_n 0, 1) := by decide +kernel
theorem d_Mo_note_34 : decode b_Mo_note 34 = .ok (.getfield 60, 3) := by decide +kernel
theorem d_Mo_note_37 : decode b_Mo_note 37 = .ok (.iload_n 3, 1) := by decide +kernel
theorem d_Mo_note_38 : decode b_Mo_note 38 = .ok (.baload, 1) := by decide +kernel
theorem d_Mo_note_39 : decode b_Mo_note 39 = .ok (.ifCond .eq 4, 3) := by decide +kernel
theorem d_Mo_note_42 : decode b_Mo_note 42 = .ok (.return_, 1) := by decide +kernel
theorem d_Mo_note_43 : decode b_Mo_note 43 = .ok (.aload_n 0, 1) := by decide +kernel
theorem d_Mo_note_44 : decode b_Mo_note 44 = .ok (.getfield 60, 3) := by decide +kernel
theorem d_Mo_note_47 : decode b_Mo_note 47 = .ok (.iload_n 3, 1) := by decide +kernel
theorem d_Mo_note_48 : decode b_Mo_note 48 = .ok (.iconst 1, 1) := by decide +kernel
theorem d_Mo_note_49 : decode b_Mo_note 49 = .ok (.bastore, 1) := by decide +kernel
theorem d_Mo_note_50 : decode b_Mo_note 50 = .ok (.aload_n 0, 1) := by decide +kernel
theorem d_Mo_note_51 : decode b_Mo_note 51 = .ok (.getfield 63, 3) := by decide +kernel
theorem d_Mo_note_54 : decode b_Mo_note 54 = .ok (.iload_n 3, 1) := by decide +kernel
theorem d_Mo_note_55 : decode b_Mo_note 55 = .ok (.iload_n 2, 1) := by decide +kernel
theorem d_Mo_note_56 : decode b_Mo_note 56 = .ok (.bastore, 1) := by decide +kernel
theorem d_Mo_note_57 : decode b_Mo_note 57 = .ok (.aload_n 0, 1) := by decide +kernel
theorem d_Mo_note_58 : decode b_Mo_note 58 = .ok (.getfield 66, 3) := by decide +kernel
theorem d_Mo_note_61 : decode b_Mo_note 61 = .ok (.iload_n 3, 1) := by decide +kernel
theorem d_Mo_note_62 : decode b_Mo_note 62 = .ok (.aload_n 0, 1) := by decide +kernel
theorem d_Mo_note_63 : decode b_Mo_note 63 = .ok (.getfield 17, 3) := by decide +kernel
theorem d_Mo_note_66 : decode b_Mo_note 66 = .ok (.iload_n 1, 1) := by decide +kernel
theorem d_Mo_note_67 : decode b_Mo_note 67 = .ok (.iaload, 1) := by decide +kernel
theorem d_Mo_note_68 : decode b_Mo_note 68 = .ok (.iastore, 1) := by decide +kernel
theorem d_Mo_note_69 : decode b_Mo_note 69 = .ok (.aload_n 0, 1) := by decide +kernel
theorem d_Mo_note_70 : decode b_Mo_note 70 = .ok (.getfield 69, 3) := by decide +kernel
theorem d_Mo_note_73 : decode b_Mo_note 73 = .ok (.iload_n 3, 1) := by decide +kernel
theorem d_Mo_note_74 : decode b_Mo_note 74 = .ok (.aload_n 0, 1) := by decide +kernel
theorem d_Mo_note_75 : decode b_Mo_note 75 = .ok (.getfield 20, 3) := by decide +kernel
theorem d_Mo_note_78 : decode b_Mo_note 78 = .ok (.iload_n 1, 1) := by decide +kernel
theorem d_Mo_note_79 : decode b_Mo_note 79 = .ok (.iaload, 1) := by decide +kernel
theorem d_Mo_note_80 : decode b_Mo_note 80 = .ok (.iastore, 1) := by decide +kernel
theorem d_Mo_note_81 : decode b_Mo_note 81 = .ok (.return_, 1) := by decide +kernel
theorem d_Mo_make_0 : decode b_Mo_make 0 = .ok (.iload_n 1, 1) := by decide +kernel
theorem d_Mo_make_1 : decode b_Mo_make 1 = .ok (.invokestatic 107, 3) := by decide +kernel
theorem d_Mo_make_4 : decode b_Mo_make 4 = .ok (.aload_n 0, 1) := by decide +kernel
theorem d_Mo_make_5 : decode b_Mo_make 5 = .ok (.getfield 7, 3) := by decide +kernel
theorem d_Mo_make_8 : decode b_Mo_make 8 = .ok (.iload_n 1, 1) := by decide +kernel
theorem d_Mo_make_9 : decode b_Mo_make 9 = .ok (.iaload, 1) := by decide +kernel
theorem d_Mo_make_10 : decode b_Mo_make 10 = .ok (.iadd, 1) := by decide +kernel
theorem d_Mo_make_11 : decode b_Mo_make 11 = .ok (.istore 9, 2) := by decide +kernel
theorem d_Mo_make_13 : decode b_Mo_make 13 = .ok (.aload_n 0, 1) := by decide +kernel
theorem d_Mo_make_14 : decode b_Mo_make 14 = .ok (.getfield 7, 3) := by decide +kernel
theorem d_Mo_make_17 : decode b_Mo_make 17 = .ok (.iload_n 1, 1) := by decide +kernel
theorem d_Mo_make_18 : decode b_Mo_make 18 = .ok (.dup2, 1) := by decide +kernel
theorem d_Mo_make_19 : decode b_Mo_make 19 = .ok (.iaload, 1) := by decide +kernel
theorem d_Mo_make_20 : decode b_Mo_make 20 = .ok (.iconst 1, 1) := by decide +kernel
theorem d_Mo_make_21 : decode b_Mo_make 21 = .ok (.iadd, 1) := by decide +kernel
theorem d_Mo_make_22 : decode b_Mo_make 22 = .ok (.iastore, 1) := by decide +kernel
theorem d_Mo_make_23 : decode b_Mo_make 23 = .ok (.aload_n 0, 1) := by decide +kernel
theorem d_Mo_make_24 : decode b_Mo_make 24 = .ok (.getfield 17, 3) := by decide +kernel
theorem d_Mo_make_27 : decode b_Mo_make 27 = .ok (.iload 9, 2) := by decide +kernel
theorem d_Mo_make_29 : decode b_Mo_make 29 = .ok (.iload 4, 2) := by decide +kernel
theorem d_Mo_make_31 : decode b_Mo_make 31 = .ok (.iastore, 1) := by decide +kernel
theorem d_Mo_make_32 : decode b_Mo_make 32 = .ok (.aload_n 0, 1) := by decide +kernel
theorem d_Mo_make_33 : decode b_Mo_make 33 = .ok (.getfield 20, 3) := by decide +kernel
theorem d_Mo_make_36 : decode b_Mo_make 36 = .ok (.iload 9, 2) := by decide +kernel
theorem d_Mo_make_38 : decode b_Mo_make 38 = .ok (.iload 5, 2) := by decide +kernel
theorem d_Mo_make_40 : decode b_Mo_make 40 = .ok (.iastore, 1) := by decide +kernel
theorem d_Mo_make_41 : decode b_Mo_make 41 = .ok (.aload_n 0, 1) := by decide +kernel
theorem d_Mo_make_42 : decode b_Mo_make 42 = .ok (.getfield 23, 3) := by decide +kernel
theorem d_Mo_make_45 : decode b_Mo_make 45 = .ok (.iload 9, 2) := by decide +kernel
theorem d_Mo_make_47 : decode b_Mo_make 47 = .ok (.iload 6, 2) := by decide +kernel
theorem d_Mo_make_49 : decode b_Mo_make 49 = .ok (.iastore, 1) := by decide +kernel
theorem d_Mo_make_50 : decode b_Mo_make 50 = .ok (.aload_n 0, 1) := by decide +kernel
theorem d_Mo_make_51 : decode b_Mo_make 51 = .ok (.getfield 26, 3) := by decide +kernel
theorem d_Mo_make_54 : decode b_Mo_make 54 = .ok (.iload 9, 2) := by decide +kernel
theorem d_Mo_make_56 : decode b_Mo_make 56 = .ok (.iload 7, 2) := by decide +kernel
theorem d_Mo_make_58 : decode b_Mo_make 58 = .ok (.iastore, 1) := by decide +kernel
theorem d_Mo_make_59 : decode b_Mo_make 59 = .ok (.aload_n 0, 1) := by decide +kernel
theorem d_Mo_make_60 : decode b_Mo_make 60 = .ok (.getfield 29, 3) := by decide +kernel
theorem d_Mo_make_63 : decode b_Mo_make 63 = .ok (.iload 9, 2) := by decide +kernel
theorem d_Mo_make_65 : decode b_Mo_make 65 = .ok (.iload_n 3, 1) := by decide +kernel
theorem d_Mo_make_66 : decode b_Mo_make 66 = .ok (.iastore, 1) := by decide +kernel
theorem d_Mo_make_67 : decode b_Mo_make 67 = .ok (.aload_n 0, 1) := by decide +kernel
theorem d_Mo_make_68 : decode b_Mo_make 68 = .ok (.getfield 32, 3) := by decide +kernel
theorem d_Mo_make_71 : decode b_Mo_make 71 = .ok (.iload 9, 2) := by decide +kernel
theorem d_Mo_make_73 : decode b_Mo_make 73 = .ok (.iload_n 2, 1) := by decide +kernel
theorem d_Mo_make_74 : decode b_Mo_make 74 = .ok (.iastore, 1) := by decide +kernel
theorem d_Mo_make_75 : decode b_Mo_make 75 = .ok (.aload_n 0, 1) := by decide +kernel
theorem d_Mo_make_76 : decode b_Mo_make 76 = .ok (.getfield 35, 3) := by decide +kernel
theorem d_Mo_make_79 : decode b_Mo_make 79 = .ok (.iload 9, 2) := by decide +kernel
theorem d_Mo_make_81 : decode b_Mo_make 81 = .ok (.iload 8, 2) := by decide +kernel
theorem d_Mo_make_83 : decode b_Mo_make 83 = .ok (.iastore, 1) := by decide +kernel
theorem d_Mo_make_84 : decode b_Mo_make 84 = .ok (.aload_n 0, 1) := by decide +kernel
theorem d_Mo_make_85 : decode b_Mo_make 85 = .ok (.iload 9, 2) := by decide +kernel
theorem d_Mo_make_87 : decode b_Mo_make 87 = .ok (.iconst 0, 1) := by decide +kernel
theorem d_Mo_make_88 : decode b_Mo_make 88 = .ok (.invokevirtual 139, 3) := by decide +kernel
theorem d_Mo_make_91 : decode b_Mo_make 91 = .ok (.aload_n 0, 1) := by decide +kernel
theorem d_Mo_make_92 : decode b_Mo_make 92 = .ok (.getfield 13, 3) := by decide +kernel
theorem d_Mo_make_95 : decode b_Mo_make 95 = .ok (.iload 9, 2) := by decide +kernel
theorem d_Mo_make_97 : decode b_Mo_make 97 = .ok (.iconst 1, 1) := by decide +kernel
theorem d_Mo_make_98 : decode b_Mo_make 98 = .ok (.bastore, 1) := by decide +kernel
theorem d_Mo_make_99 : decode b_Mo_make 99 = .ok (.iload 9, 2) := by decide +kernel
theorem d_Mo_make_101 : decode b_Mo_make 101 = .ok (.invokestatic 143, 3) := by decide +kernel
theorem d_Mo_make_104 : decode b_Mo_make 104 = .ok (.ireturn, 1) := by decide +kernel
theorem d_Mo_layNext_0 : decode b_Mo_layNext 0 = .ok (.iload_n 1, 1) := by decide +kernel
theorem d_Mo_layNext_1 : decode b_Mo_layNext 1 = .ok (.invokestatic 107, 3) := by decide +kernel
theorem d_Mo_layNext_4 : decode b_Mo_layNext 4 = .ok (.aload_n 0, 1) := by decide +kernel
theorem d_Mo_layNext_5 : decode b_Mo_layNext 5 = .ok (.getfield 7, 3) := by decide +kernel
theorem d_Mo_layNext_8 : decode b_Mo_layNext 8 = .ok (.iload_n 1, 1) := by decide +kernel
theorem d_Mo_layNext_9 : decode b_Mo_layNext 9 = .ok (.iaload, 1) := by decide +kernel
theorem d_Mo_layNext_10 : decode b_Mo_layNext 10 = .ok (.iadd, 1) := by decide +kernel
theorem d_Mo_layNext_11 : decode b_Mo_layNext 11 = .ok (.istore 8, 2) := by decide +kernel
theorem d_Mo_layNext_13 : decode b_Mo_layNext 13 = .ok (.aload_n 0, 1) := by decide +kernel
theorem d_Mo_layNext_14 : decode b_Mo_layNext 14 = .ok (.getfield 17, 3) := by decide +kernel
theorem d_Mo_layNext_17 : decode b_Mo_layNext 17 = .ok (.iload 8, 2) := by decide +kernel
theorem d_Mo_layNext_19 : decode b_Mo_layNext 19 = .ok (.iload 4, 2) := by decide +kernel
theorem d_Mo_layNext_21 : decode b_Mo_layNext 21 = .ok (.iastore, 1) := by decide +kernel
theorem d_Mo_layNext_22 : decode b_Mo_layNext 22 = .ok (.aload_n 0, 1) := by decide +kernel
theorem d_Mo_layNext_23 : decode b_Mo_layNext 23 = .ok (.getfield 20, 3) := by decide +kernel
theorem d_Mo_layNext_26 : decode b_Mo_layNext 26 = .ok (.iload 8, 2) := by decide +kernel
theorem d_Mo_layNext_28 : decode b_Mo_layNext 28 = .ok (.iload 5, 2) := by decide +kernel
theorem d_Mo_layNext_30 : decode b_Mo_layNext 30 = .ok (.iastore, 1) := by decide +kernel
theorem d_Mo_layNext_31 : decode b_Mo_layNext 31 = .ok (.aload_n 0, 1) := by decide +kernel
theorem d_Mo_layNext_32 : decode b_Mo_layNext 32 = .ok (.getfield 23, 3) := by decide +kernel
theorem d_Mo_layNext_35 : decode b_Mo_layNext 35 = .ok (.iload 8, 2) := by decide +kernel
theorem d_Mo_layNext_37 : decode b_Mo_layNext 37 = .ok (.iload 6, 2) := by decide +kernel
theorem d_Mo_layNext_39 : decode b_Mo_layNext 39 = .ok (.iastore, 1) := by decide +kernel
theorem d_Mo_layNext_40 : decode b_Mo_layNext 40 = .ok (.aload_n 0, 1) := by decide +kernel
theorem d_Mo_layNext_41 : decode b_Mo_layNext 41 = .ok (.getfield 26, 3) := by decide +kernel
theorem d_Mo_layNext_44 : decode b_Mo_layNext 44 = .ok (.iload 8, 2) := by decide +kernel
theorem d_Mo_layNext_46 : decode b_Mo_layNext 46 = .ok (.iload 7, 2) := by decide +kernel
theorem d_Mo_layNext_48 : decode b_Mo_layNext 48 = .ok (.iastore, 1) := by decide +kernel
theorem d_Mo_layNext_49 : decode b_Mo_layNext 49 = .ok (.aload_n 0, 1) := by decide +kernel
theorem d_Mo_layNext_50 : decode b_Mo_layNext 50 = .ok (.getfield 29, 3) := by decide +kernel
theorem d_Mo_layNext_53 : decode b_Mo_layNext 53 = .ok (.iload 8, 2) := by decide +kernel
theorem d_Mo_layNext_55 : decode b_Mo_layNext 55 = .ok (.iload_n 3, 1) := by decide +kernel
theorem d_Mo_layNext_56 : decode b_Mo_layNext 56 = .ok (.iastore, 1) := by decide +kernel
theorem d_Mo_layNext_57 : decode b_Mo_layNext 57 = .ok (.aload_n 0, 1) := by decide +kernel
theorem d_Mo_layNext_58 : decode b_Mo_layNext 58 = .ok (.getfield 32, 3) := by decide +kernel
theorem d_Mo_layNext_61 : decode b_Mo_layNext 61 = .ok (.iload 8, 2) := by decide +kernel
theorem d_Mo_layNext_63 : decode b_Mo_layNext 63 = .ok (.iload_n 2, 1) := by decide +kernel
theorem d_Mo_layNext_64 : decode b_Mo_layNext 64 = .ok (.iastore, 1) := by decide +kernel
theorem d_Mo_layNext_65 : decode b_Mo_layNext 65 = .ok (.iload 8, 2) := by decide +kernel
theorem d_Mo_layNext_67 : decode b_Mo_layNext 67 = .ok (.ireturn, 1) := by decide +kernel
theorem d_Mo_isFull_0 : decode b_Mo_isFull 0 = .ok (.aload_n 0, 1) := by decide +kernel
theorem d_Mo_isFull_1 : decode b_Mo_isFull 1 = .ok (.getfield 7, 3) := by decide +kernel
theorem d_Mo_isFull_4 : decode b_Mo_isFull 4 = .ok (.iload_n 1, 1) := by decide +kernel
theorem d_Mo_isFull_5 : decode b_Mo_isFull 5 = .ok (.iaload, 1) := by decide +kernel
theorem d_Mo_isFull_6 : decode b_Mo_isFull 6 = .ok (.iload_n 1, 1) := by decide +kernel
theorem d_Mo_isFull_7 : decode b_Mo_isFull 7 = .ok (.invokestatic 146, 3) := by decide +kernel
theorem d_Mo_isFull_10 : decode b_Mo_isFull 10 = .ok (.if_icmp .ne 7, 3) := by decide +kernel
theorem d_Mo_isFull_13 : decode b_Mo_isFull 13 = .ok (.iconst 1, 1) := by decide +kernel
theorem d_Mo_isFull_14 : decode b_Mo_isFull 14 = .ok (.goto 4, 3) := by decide +kernel
theorem d_Mo_isFull_17 : decode b_Mo_isFull 17 = .ok (.iconst 0, 1) := by decide +kernel
theorem d_Mo_isFull_18 : decode b_Mo_isFull 18 = .ok (.ireturn, 1) := by decide +kernel
theorem d_Mo_refuse_0 : decode b_Mo_refuse 0 = .ok (.aload_n 0, 1) := by decide +kernel
theorem d_Mo_refuse_1 : decode b_Mo_refuse 1 = .ok (.iload_n 1, 1) := by decide +kernel
theorem d_Mo_refuse_2 : decode b_Mo_refuse 2 = .ok (.putfield 149, 3) := by decide +kernel
theorem d_Mo_refuse_5 : decode b_Mo_refuse 5 = .ok (.iconst (-1), 1) := by decide +kernel
theorem d_Mo_refuse_6 : decode b_Mo_refuse 6 = .ok (.ireturn, 1) := by decide +kernel
theorem d_Mo_told_0 : decode b_Mo_told 0 = .ok (.aload_n 0, 1) := by decide +kernel
theorem d_Mo_told_1 : decode b_Mo_told 1 = .ok (.iconst 0, 1) := by decide +kernel
theorem d_Mo_told_2 : decode b_Mo_told 2 = .ok (.putfield 100, 3) := by decide +kernel
theorem d_Mo_told_5 : decode b_Mo_told 5 = .ok (.aload_n 0, 1) := by decide +kernel
theorem d_Mo_told_6 : decode b_Mo_told 6 = .ok (.getfield 149, 3) := by decide +kernel
theorem d_Mo_told_9 : decode b_Mo_told 9 = .ok (.ireturn, 1) := by decide +kernel
theorem d_Mo_net_0 : decode b_Mo_net 0 = .ok (.aload_n 0, 1) := by decide +kernel
theorem d_Mo_net_1 : decode b_Mo_net 1 = .ok (.iconst 0, 1) := by decide +kernel
theorem d_Mo_net_2 : decode b_Mo_net 2 = .ok (.putfield 100, 3) := by decide +kernel
theorem d_Mo_net_5 : decode b_Mo_net 5 = .ok (.aload_n 0, 1) := by decide +kernel
theorem d_Mo_net_6 : decode b_Mo_net 6 = .ok (.iconst 1, 1) := by decide +kernel
theorem d_Mo_net_7 : decode b_Mo_net 7 = .ok (.invokevirtual 152, 3) := by decide +kernel
theorem d_Mo_net_10 : decode b_Mo_net 10 = .ok (.ifCond .eq 9, 3) := by decide +kernel
theorem d_Mo_net_13 : decode b_Mo_net 13 = .ok (.aload_n 0, 1) := by decide +kernel
theorem d_Mo_net_14 : decode b_Mo_net 14 = .ok (.iconst 1, 1) := by decide +kernel
theorem d_Mo_net_15 : decode b_Mo_net 15 = .ok (.invokevirtual 155, 3) := by decide +kernel
theorem d_Mo_net_18 : decode b_Mo_net 18 = .ok (.ireturn, 1) := by decide +kernel
theorem d_Mo_net_19 : decode b_Mo_net 19 = .ok (.aload_n 0, 1) := by decide +kernel
theorem d_Mo_net_20 : decode b_Mo_net 20 = .ok (.iconst 0, 1) := by decide +kernel
theorem d_Mo_net_21 : decode b_Mo_net 21 = .ok (.putfield 149, 3) := by decide +kernel
theorem d_Mo_net_24 : decode b_Mo_net 24 = .ok (.aload_n 0, 1) := by decide +kernel
theorem d_Mo_net_25 : decode b_Mo_net 25 = .ok (.getfield 7, 3) := by decide +kernel
theorem d_Mo_net_28 : decode b_Mo_net 28 = .ok (.iconst 1, 1) := by decide +kernel
theorem d_Mo_net_29 : decode b_Mo_net 29 = .ok (.dup2, 1) := by decide +kernel
theorem d_Mo_net_30 : decode b_Mo_net 30 = .ok (.iaload, 1) := by decide +kernel
theorem d_Mo_net_31 : decode b_Mo_net 31 = .ok (.iconst 1, 1) := by decide +kernel
theorem d_Mo_net_32 : decode b_Mo_net 32 = .ok (.iadd, 1) := by decide +kernel
theorem d_Mo_net_33 : decode b_Mo_net 33 = .ok (.iastore, 1) := by decide +kernel
theorem d_Mo_net_34 : decode b_Mo_net 34 = .ok (.sipush 999, 3) := by decide +kernel
theorem d_Mo_net_37 : decode b_Mo_net 37 = .ok (.aload_n 0, 1) := by decide +kernel
theorem d_Mo_net_38 : decode b_Mo_net 38 = .ok (.getfield 7, 3) := by decide +kernel
theorem d_Mo_net_41 : decode b_Mo_net 41 = .ok (.iconst 1, 1) := by decide +kernel
theorem d_Mo_net_42 : decode b_Mo_net 42 = .ok (.iaload, 1) := by decide +kernel
theorem d_Mo_net_43 : decode b_Mo_net 43 = .ok (.iadd, 1) := by decide +kernel
theorem d_Mo_net_44 : decode b_Mo_net 44 = .ok (.ireturn, 1) := by decide +kernel
theorem d_Mo_part_0 : decode b_Mo_part 0 = .ok (.iload_n 1, 1) := by decide +kernel
theorem d_Mo_part_1 : decode b_Mo_part 1 = .ok (.iconst 1, 1) := by decide +kernel
theorem d_Mo_part_2 : decode b_Mo_part 2 = .ok (.if_icmp .lt 35, 3) := by decide +kernel
theorem d_Mo_part_5 : decode b_Mo_part 5 = .ok (.iload_n 1, 1) := by decide +kernel
theorem d_Mo_part_6 : decode b_Mo_part 6 = .ok (.bipush 8, 2) := by decide +kernel
theorem d_Mo_part_8 : decode b_Mo_part 8 = .ok (.if_icmp .gt 29, 3) := by decide +kernel
theorem d_Mo_part_11 : decode b_Mo_part 11 = .ok (.iload_n 2, 1) := by decide +kernel
theorem d_Mo_part_12 : decode b_Mo_part 12 = .ok (.iconst 1, 1) := by decide +kernel
theorem d_Mo_part_13 : decode b_Mo_part 13 = .ok (.if_icmp .lt 24, 3) := by decide +kernel
theorem d_Mo_part_16 : decode b_Mo_part 16 = .ok (.iload_n 2, 1) := by decide +kernel
theorem d_Mo_part_17 : decode b_Mo_part 17 = .ok (.bipush 8, 2) := by decide +kernel
theorem d_Mo_part_19 : decode b_Mo_part 19 = .ok (.if_icmp .gt 18, 3) := by decide +kernel
theorem d_Mo_part_22 : decode b_Mo_part 22 = .ok (.iload 5, 2) := by decide +kernel
theorem d_Mo_part_24 : decode b_Mo_part 24 = .ok (.ifCond .eq 9, 3) := by decide +kernel
theorem d_Mo_part_27 : decode b_Mo_part 27 = .ok (.iload 5, 2) := by decide +kernel
theorem d_Mo_part_29 : decode b_Mo_part 29 = .ok (.iconst 1, 1) := by decide +kernel
theorem d_Mo_part_30 : decode b_Mo_part 30 = .ok (.if_icmp .ne 7, 3) := by decide +kernel
theorem d_Mo_part_33 : decode b_Mo_part 33 = .ok (.iconst 1, 1) := by decide +kernel
theorem d_Mo_part_34 : decode b_Mo_part 34 = .ok (.goto 4, 3) := by decide +kernel
theorem d_Mo_part_37 : decode b_Mo_part 37 = .ok (.iconst 0, 1) := by decide +kernel
theorem d_Mo_part_38 : decode b_Mo_part 38 = .ok (.istore 6, 2) := by decide +kernel
theorem d_Mo_part_40 : decode b_Mo_part 40 = .ok (.aload_n 0, 1) := by decide +kernel
theorem d_Mo_part_41 : decode b_Mo_part 41 = .ok (.iload 6, 2) := by decide +kernel
theorem d_Mo_part_43 : decode b_Mo_part 43 = .ok (.ifCond .eq 7, 3) := by decide +kernel
theorem d_Mo_part_46 : decode b_Mo_part 46 = .ok (.iconst 0, 1) := by decide +kernel
theorem d_Mo_part_47 : decode b_Mo_part 47 = .ok (.goto 4, 3) := by decide +kernel
theorem d_Mo_part_50 : decode b_Mo_part 50 = .ok (.iconst 1, 1) := by decide +kernel
theorem d_Mo_part_51 : decode b_Mo_part 51 = .ok (.putfield 100, 3) := by decide +kernel
theorem d_Mo_part_54 : decode b_Mo_part 54 = .ok (.aload_n 0, 1) := by decide +kernel
theorem d_Mo_part_55 : decode b_Mo_part 55 = .ok (.getfield 100, 3) := by decide +kernel
theorem d_Mo_part_58 : decode b_Mo_part 58 = .ok (.ifCond .eq 5, 3) := by decide +kernel
theorem d_Mo_part_61 : decode b_Mo_part 61 = .ok (.iconst 0, 1) := by decide +kernel
theorem d_Mo_part_62 : decode b_Mo_part 62 = .ok (.ireturn, 1) := by decide +kernel
theorem d_Mo_part_63 : decode b_Mo_part 63 = .ok (.aload_n 0, 1) := by decide +kernel
theorem d_Mo_part_64 : decode b_Mo_part 64 = .ok (.aload_n 0, 1) := by decide +kernel
theorem d_Mo_part_65 : decode b_Mo_part 65 = .ok (.iconst 2, 1) := by decide +kernel
theorem d_Mo_part_66 : decode b_Mo_part 66 = .ok (.invokevirtual 152, 3) := by decide +kernel
theorem d_Mo_part_69 : decode b_Mo_part 69 = .ok (.ifCond .eq 7, 3) := by decide +kernel
theorem d_Mo_part_72 : decode b_Mo_part 72 = .ok (.iconst 1, 1) := by decide +kernel
theorem d_Mo_part_73 : decode b_Mo_part 73 = .ok (.goto 54, 3) := by decide +kernel
theorem d_Mo_part_76 : decode b_Mo_part 76 = .ok (.iload_n 3, 1) := by decide +kernel
theorem d_Mo_part_77 : decode b_Mo_part 77 = .ok (.iload 4, 2) := by decide +kernel
theorem d_Mo_part_79 : decode b_Mo_part 79 = .ok (.iload_n 1, 1) := by decide +kernel
theorem d_Mo_part_80 : decode b_Mo_part 80 = .ok (.iload_n 2, 1) := by decide +kernel
theorem d_Mo_part_81 : decode b_Mo_part 81 = .ok (.invokestatic 158, 3) := by decide +kernel
theorem d_Mo_part_84 : decode b_Mo_part 84 = .ok (.ifCond .ne 7, 3) := by decide +kernel
theorem d_Mo_part_87 : decode b_Mo_part 87 = .ok (.iconst 2, 1) := by decide +kernel
theorem d_Mo_part_88 : decode b_Mo_part 88 = .ok (.goto 39, 3) := by decide +kernel
theorem d_Mo_part_91 : decode b_Mo_part 91 = .ok (.aload_n 0, 1) := by decide +kernel
theorem d_Mo_part_92 : decode b_Mo_part 92 = .ok (.iload_n 3, 1) := by decide +kernel
theorem d_Mo_part_93 : decode b_Mo_part 93 = .ok (.iload 4, 2) := by decide +kernel
theorem d_Mo_part_95 : decode b_Mo_part 95 = .ok (.iload_n 1, 1) := by decide +kernel
theorem d_Mo_part_96 : decode b_Mo_part 96 = .ok (.iload_n 2, 1) := by decide +kernel
theorem d_Mo_part_97 : decode b_Mo_part 97 = .ok (.invokevirtual 122, 3) := by decide +kernel
theorem d_Mo_part_100 : decode b_Mo_part 100 = .ok (.ifCond .eq 7, 3) := by decide +kernel
theorem d_Mo_part_103 : decode b_Mo_part 103 = .ok (.iconst 3, 1) := by decide +kernel
theorem d_Mo_part_104 : decode b_Mo_part 104 = .ok (.goto 23, 3) := by decide +kernel
theorem d_Mo_part_107 : decode b_Mo_part 107 = .ok (.aload_n 0, 1) := by decide +kernel
theorem d_Mo_part_108 : decode b_Mo_part 108 = .ok (.iconst (-1), 1) := by decide +kernel
theorem d_Mo_part_109 : decode b_Mo_part 109 = .ok (.iload_n 3, 1) := by decide +kernel
theorem d_Mo_part_110 : decode b_Mo_part 110 = .ok (.iload 4, 2) := by decide +kernel
theorem d_Mo_part_112 : decode b_Mo_part 112 = .ok (.iload_n 1, 1) := by decide +kernel
theorem d_Mo_part_113 : decode b_Mo_part 113 = .ok (.iload_n 2, 1) := by decide +kernel
theorem d_Mo_part_114 : decode b_Mo_part 114 = .ok (.iload 5, 2) := by decide +kernel
theorem d_Mo_part_116 : decode b_Mo_part 116 = .ok (.invokevirtual 161, 3) := by decide +kernel
theorem d_Mo_part_119 : decode b_Mo_part 119 = .ok (.ifCond .eq 7, 3) := by decide +kernel
theorem d_Mo_part_122 : decode b_Mo_part 122 = .ok (.iconst 4, 1) := by decide +kernel
theorem d_Mo_part_123 : decode b_Mo_part 123 = .ok (.goto 4, 3) := by decide +kernel
theorem d_Mo_part_126 : decode b_Mo_part 126 = .ok (.iconst 0, 1) := by decide +kernel
theorem d_Mo_part_127 : decode b_Mo_part 127 = .ok (.putfield 149, 3) := by decide +kernel
theorem d_Mo_part_130 : decode b_Mo_part 130 = .ok (.aload_n 0, 1) := by decide +kernel
theorem d_Mo_part_131 : decode b_Mo_part 131 = .ok (.getfield 149, 3) := by decide +kernel
theorem d_Mo_part_134 : decode b_Mo_part 134 = .ok (.ifCond .ne 20, 3) := by decide +kernel
theorem d_Mo_part_137 : decode b_Mo_part 137 = .ok (.aload_n 0, 1) := by decide +kernel
theorem d_Mo_part_138 : decode b_Mo_part 138 = .ok (.iconst 2, 1) := by decide +kernel
theorem d_Mo_part_139 : decode b_Mo_part 139 = .ok (.iconst (-1), 1) := by decide +kernel
theorem d_Mo_part_140 : decode b_Mo_part 140 = .ok (.iload 5, 2) := by decide +kernel
theorem d_Mo_part_142 : decode b_Mo_part 142 = .ok (.iload_n 3, 1) := by decide +kernel
theorem d_Mo_part_143 : decode b_Mo_part 143 = .ok (.iload 4, 2) := by decide +kernel
theorem d_Mo_part_145 : decode b_Mo_part 145 = .ok (.iload_n 1, 1) := by decide +kernel
theorem d_Mo_part_146 : decode b_Mo_part 146 = .ok (.iload_n 2, 1) := by decide +kernel
theorem d_Mo_part_147 : decode b_Mo_part 147 = .ok (.iconst (-1), 1) := by decide +kernel
theorem d_Mo_part_148 : decode b_Mo_part 148 = .ok (.invokevirtual 165, 3) := by decide +kernel
theorem d_Mo_part_151 : decode b_Mo_part 151 = .ok (.goto 4, 3) := by decide +kernel
theorem d_Mo_part_154 : decode b_Mo_part 154 = .ok (.iconst (-1), 1) := by decide +kernel
theorem d_Mo_part_155 : decode b_Mo_part 155 = .ok (.ireturn, 1) := by decide +kernel
theorem d_Mo_makeCopper_0 : decode b_Mo_makeCopper 0 = .ok (.aload_n 0, 1) := by decide +kernel
theorem d_Mo_makeCopper_1 : decode b_Mo_makeCopper 1 = .ok (.aload_n 0, 1) := by decide +kernel
theorem d_Mo_makeCopper_2 : decode b_Mo_makeCopper 2 = .ok (.iload_n 1, 1) := by decide +kernel
theorem d_Mo_makeCopper_3 : decode b_Mo_makeCopper 3 = .ok (.invokevirtual 152, 3) := by decide +kernel
theorem d_Mo_makeCopper_6 : decode b_Mo_makeCopper 6 = .ok (.ifCond .eq 7, 3) := by decide +kernel
theorem d_Mo_makeCopper_9 : decode b_Mo_makeCopper 9 = .ok (.iconst 1, 1) := by decide +kernel
theorem d_Mo_makeCopper_10 : decode b_Mo_makeCopper 10 = .ok (.goto 41, 3) := by decide +kernel
theorem d_Mo_makeCopper_13 : decode b_Mo_makeCopper 13 = .ok (.iload 4, 2) := by decide +kernel
theorem d_Mo_makeCopper_15 : decode b_Mo_makeCopper 15 = .ok (.iload 5, 2) := by decide +kernel
theorem d_Mo_makeCopper_17 : decode b_Mo_makeCopper 17 = .ok (.iload 6, 2) := by decide +kernel
theorem d_Mo_makeCopper_19 : decode b_Mo_makeCopper 19 = .ok (.iload 7, 2) := by decide +kernel
theorem d_Mo_makeCopper_21 : decode b_Mo_makeCopper 21 = .ok (.invokestatic 158, 3) := by decide +kernel
theorem d_Mo_makeCopper_24 : decode b_Mo_makeCopper 24 = .ok (.ifCond .ne 7, 3) := by decide +kernel
theorem d_Mo_makeCopper_27 : decode b_Mo_makeCopper 27 = .ok (.iconst 2, 1) := by decide +kernel
theorem d_Mo_makeCopper_28 : decode b_Mo_makeCopper 28 = .ok (.goto 23, 3) := by decide +kernel
theorem d_Mo_makeCopper_31 : decode b_Mo_makeCopper 31 = .ok (.aload_n 0, 1) := by decide +kernel
theorem d_Mo_makeCopper_32 : decode b_Mo_makeCopper 32 = .ok (.iload 4, 2) := by decide +kernel
theorem d_Mo_makeCopper_34 : decode b_Mo_makeCopper 34 = .ok (.iload 5, 2) := by decide +kernel
theorem d_Mo_makeCopper_36 : decode b_Mo_makeCopper 36 = .ok (.iload 6, 2) := by decide +kernel
theorem d_Mo_makeCopper_38 : decode b_Mo_makeCopper 38 = .ok (.iload 7, 2) := by decide +kernel
theorem d_Mo_makeCopper_40 : decode b_Mo_makeCopper 40 = .ok (.invokevirtual 122, 3) := by decide +kernel
theorem d_Mo_makeCopper_43 : decode b_Mo_makeCopper 43 = .ok (.ifCond .eq 7, 3) := by decide +kernel
theorem d_Mo_makeCopper_46 : decode b_Mo_makeCopper 46 = .ok (.iconst 3, 1) := by decide +kernel
theorem d_Mo_makeCopper_47 : decode b_Mo_makeCopper 47 = .ok (.goto 4, 3) := by decide +kernel
theorem d_Mo_makeCopper_50 : decode b_Mo_makeCopper 50 = .ok (.iconst 0, 1) := by decide +kernel
theorem d_Mo_makeCopper_51 : decode b_Mo_makeCopper 51 = .ok (.putfield 149, 3) := by decide +kernel
theorem d_Mo_makeCopper_54 : decode b_Mo_makeCopper 54 = .ok (.aload_n 0, 1) := by decide +kernel
theorem d_Mo_makeCopper_55 : decode b_Mo_makeCopper 55 = .ok (.getfield 149, 3) := by decide +kernel
theorem d_Mo_makeCopper_58 : decode b_Mo_makeCopper 58 = .ok (.ifCond .eq 5, 3) := by decide +kernel
theorem d_Mo_makeCopper_61 : decode b_Mo_makeCopper 61 = .ok (.iconst (-1), 1) := by decide +kernel
theorem d_Mo_makeCopper_62 : decode b_Mo_makeCopper 62 = .ok (.ireturn, 1) := by decide +kernel
theorem d_Mo_makeCopper_63 : decode b_Mo_makeCopper 63 = .ok (.aload_n 0, 1) := by decide +kernel
theorem d_Mo_makeCopper_64 : decode b_Mo_makeCopper 64 = .ok (.iload_n 1, 1) := by decide +kernel
theorem d_Mo_makeCopper_65 : decode b_Mo_makeCopper 65 = .ok (.iload_n 2, 1) := by decide +kernel
theorem d_Mo_makeCopper_66 : decode b_Mo_makeCopper 66 = .ok (.iload_n 3, 1) := by decide +kernel
theorem d_Mo_makeCopper_67 : decode b_Mo_makeCopper 67 = .ok (.iload 4, 2) := by decide +kernel
theorem d_Mo_makeCopper_69 : decode b_Mo_makeCopper 69 = .ok (.iload 5, 2) := by decide +kernel
theorem d_Mo_makeCopper_71 : decode b_Mo_makeCopper 71 = .ok (.iload 6, 2) := by decide +kernel
theorem d_Mo_makeCopper_73 : decode b_Mo_makeCopper 73 = .ok (.iload 7, 2) := by decide +kernel
theorem d_Mo_makeCopper_75 : decode b_Mo_makeCopper 75 = .ok (.invokevirtual 169, 3) := by decide +kernel
theorem d_Mo_makeCopper_78 : decode b_Mo_makeCopper 78 = .ok (.istore 9, 2) := by decide +kernel
theorem d_Mo_makeCopper_80 : decode b_Mo_makeCopper 80 = .ok (.aload_n 0, 1) := by decide +kernel
theorem d_Mo_makeCopper_81 : decode b_Mo_makeCopper 81 = .ok (.iload 9, 2) := by decide +kernel
theorem d_Mo_makeCopper_83 : decode b_Mo_makeCopper 83 = .ok (.iconst 0, 1) := by decide +kernel
theorem d_Mo_makeCopper_84 : decode b_Mo_makeCopper 84 = .ok (.iconst 0, 1) := by decide +kernel
theorem d_Mo_makeCopper_85 : decode b_Mo_makeCopper 85 = .ok (.iconst (-1), 1) := by decide +kernel
theorem d_Mo_makeCopper_86 : decode b_Mo_makeCopper 86 = .ok (.invokevirtual 173, 3) := by decide +kernel
theorem d_Mo_makeCopper_89 : decode b_Mo_makeCopper 89 = .ok (.ifCond .eq 9, 3) := by decide +kernel
theorem d_Mo_makeCopper_92 : decode b_Mo_makeCopper 92 = .ok (.aload_n 0, 1) := by decide +kernel
theorem d_Mo_makeCopper_93 : decode b_Mo_makeCopper 93 = .ok (.iconst 5, 1) := by decide +kernel
theorem d_Mo_makeCopper_94 : decode b_Mo_makeCopper 94 = .ok (.invokevirtual 155, 3) := by decide +kernel
theorem d_Mo_makeCopper_97 : decode b_Mo_makeCopper 97 = .ok (.ireturn, 1) := by decide +kernel
theorem d_Mo_makeCopper_98 : decode b_Mo_makeCopper 98 = .ok (.aload_n 0, 1) := by decide +kernel
theorem d_Mo_makeCopper_99 : decode b_Mo_makeCopper 99 = .ok (.iload_n 1, 1) := by decide +kernel
theorem d_Mo_makeCopper_100 : decode b_Mo_makeCopper 100 = .ok (.iload_n 2, 1) := by decide +kernel
theorem d_Mo_makeCopper_101 : decode b_Mo_makeCopper 101 = .ok (.iload_n 3, 1) := by decide +kernel
theorem d_Mo_makeCopper_102 : decode b_Mo_makeCopper 102 = .ok (.iload 4, 2) := by decide +kernel
theorem d_Mo_makeCopper_104 : decode b_Mo_makeCopper 104 = .ok (.iload 5, 2) := by decide +kernel
theorem d_Mo_makeCopper_106 : decode b_Mo_makeCopper 106 = .ok (.iload 6, 2) := by decide +kernel
theorem d_Mo_makeCopper_108 : decode b_Mo_makeCopper 108 = .ok (.iload 7, 2) := by decide +kernel
theorem d_Mo_makeCopper_110 : decode b_Mo_makeCopper 110 = .ok (.iload 8, 2) := by decide +kernel
theorem d_Mo_makeCopper_112 : decode b_Mo_makeCopper 112 = .ok (.invokevirtual 165, 3) := by decide +kernel
theorem d_Mo_makeCopper_115 : decode b_Mo_makeCopper 115 = .ok (.ireturn, 1) := by decide +kernel
theorem d_Mo_pad_0 : decode b_Mo_pad 0 = .ok (.aload_n 0, 1) := by decide +kernel
theorem d_Mo_pad_1 : decode b_Mo_pad 1 = .ok (.aload_n 0, 1) := by decide +kernel
theorem d_Mo_pad_2 : decode b_Mo_pad 2 = .ok (.iload_n 1, 1) := by decide +kernel
theorem d_Mo_pad_3 : decode b_Mo_pad 3 = .ok (.iconst 2, 1) := by decide +kernel
theorem d_Mo_pad_4 : decode b_Mo_pad 4 = .ok (.invokevirtual 176, 3) := by decide +kernel
theorem d_Mo_pad_7 : decode b_Mo_pad 7 = .ok (.aload_n 0, 1) := by decide +kernel
theorem d_Mo_pad_8 : decode b_Mo_pad 8 = .ok (.iload_n 2, 1) := by decide +kernel
theorem d_Mo_pad_9 : decode b_Mo_pad 9 = .ok (.iconst 1, 1) := by decide +kernel
theorem d_Mo_pad_10 : decode b_Mo_pad 10 = .ok (.invokevirtual 176, 3) := by decide +kernel
theorem d_Mo_pad_13 : decode b_Mo_pad 13 = .ok (.invokestatic 180, 3) := by decide +kernel
theorem d_Mo_pad_16 : decode b_Mo_pad 16 = .ok (.putfield 100, 3) := by decide +kernel
theorem d_Mo_pad_19 : decode b_Mo_pad 19 = .ok (.iload_n 1, 1) := by decide +kernel
theorem d_Mo_pad_20 : decode b_Mo_pad 20 = .ok (.sipush 1000, 3) := by decide +kernel
theorem d_Mo_pad_23 : decode b_Mo_pad 23 = .ok (.irem, 1) := by decide +kernel
theorem d_Mo_pad_24 : decode b_Mo_pad 24 = .ok (.istore 5, 2) := by decide +kernel
theorem d_Mo_pad_26 : decode b_Mo_pad 26 = .ok (.aload_n 0, 1) := by decide +kernel
theorem d_Mo_pad_27 : decode b_Mo_pad 27 = .ok (.aload_n 0, 1) := by decide +kernel
theorem d_Mo_pad_28 : decode b_Mo_pad 28 = .ok (.getfield 100, 3) := by decide +kernel
theorem d_Mo_pad_31 : decode b_Mo_pad 31 = .ok (.ifCond .ne 17, 3) := by decide +kernel
theorem d_Mo_pad_34 : decode b_Mo_pad 34 = .ok (.aload_n 0, 1) := by decide +kernel
theorem d_Mo_pad_35 : decode b_Mo_pad 35 = .ok (.getfield 13, 3) := by decide +kernel
theorem d_Mo_pad_38 : decode b_Mo_pad 38 = .ok (.iload 5, 2) := by decide +kernel
theorem d_Mo_pad_40 : decode b_Mo_pad 40 = .ok (.baload, 1) := by decide +kernel
theorem d_Mo_pad_41 : decode b_Mo_pad 41 = .ok (.ifCond .ne 7, 3) := by decide +kernel
theorem d_Mo_pad_44 : decode b_Mo_pad 44 = .ok (.iconst 3, 1) := by decide +kernel
theorem d_Mo_pad_45 : decode b_Mo_pad 45 = .ok (.goto 7, 3) := by decide +kernel
theorem d_Mo_pad_48 : decode b_Mo_pad 48 = .ok (.aload_n 0, 1) := by decide +kernel
theorem d_Mo_pad_49 : decode b_Mo_pad 49 = .ok (.getfield 100, 3) := by decide +kernel
theorem d_Mo_pad_52 : decode b_Mo_pad 52 = .ok (.putfield 100, 3) := by decide +kernel
theorem d_Mo_pad_55 : decode b_Mo_pad 55 = .ok (.aload_n 0, 1) := by decide +kernel
theorem d_Mo_pad_56 : decode b_Mo_pad 56 = .ok (.getfield 100, 3) := by decide +kernel
theorem d_Mo_pad_59 : decode b_Mo_pad 59 = .ok (.ifCond .eq 5, 3) := by decide +kernel
theorem d_Mo_pad_62 : decode b_Mo_pad 62 = .ok (.iconst 0, 1) := by decide +kernel
theorem d_Mo_pad_63 : decode b_Mo_pad 63 = .ok (.ireturn, 1) := by decide +kernel
theorem d_Mo_pad_64 : decode b_Mo_pad 64 = .ok (.aload_n 0, 1) := by decide +kernel
theorem d_Mo_pad_65 : decode b_Mo_pad 65 = .ok (.iconst 3, 1) := by decide +kernel
theorem d_Mo_pad_66 : decode b_Mo_pad 66 = .ok (.invokevirtual 152, 3) := by decide +kernel
theorem d_Mo_pad_69 : decode b_Mo_pad 69 = .ok (.ifCond .eq 9, 3) := by decide +kernel
theorem d_Mo_pad_72 : decode b_Mo_pad 72 = .ok (.aload_n 0, 1) := by decide +kernel
theorem d_Mo_pad_73 : decode b_Mo_pad 73 = .ok (.iconst 1, 1) := by decide +kernel
theorem d_Mo_pad_74 : decode b_Mo_pad 74 = .ok (.invokevirtual 155, 3) := by decide +kernel
theorem d_Mo_pad_77 : decode b_Mo_pad 77 = .ok (.ireturn, 1) := by decide +kernel
theorem d_Mo_pad_78 : decode b_Mo_pad 78 = .ok (.iload_n 3, 1) := by decide +kernel
theorem d_Mo_pad_79 : decode b_Mo_pad 79 = .ok (.ifCond .lt 31, 3) := by decide +kernel
theorem d_Mo_pad_82 : decode b_Mo_pad 82 = .ok (.iload 4, 2) := by decide +kernel
theorem d_Mo_pad_84 : decode b_Mo_pad 84 = .ok (.ifCond .lt 26, 3) := by decide +kernel
theorem d_Mo_pad_87 : decode b_Mo_pad 87 = .ok (.iload_n 3, 1) := by decide +kernel
theorem d_Mo_pad_88 : decode b_Mo_pad 88 = .ok (.aload_n 0, 1) := by decide +kernel
theorem d_Mo_pad_89 : decode b_Mo_pad 89 = .ok (.getfield 23, 3) := by decide +kernel
theorem d_Mo_pad_92 : decode b_Mo_pad 92 = .ok (.iload 5, 2) := by decide +kernel
theorem d_Mo_pad_94 : decode b_Mo_pad 94 = .ok (.iaload, 1) := by decide +kernel
theorem d_Mo_pad_95 : decode b_Mo_pad 95 = .ok (.if_icmp .ge 15, 3) := by decide +kernel
theorem d_Mo_pad_98 : decode b_Mo_pad 98 = .ok (.iload 4, 2) := by decide +kernel
theorem d_Mo_pad_100 : decode b_Mo_pad 100 = .ok (.aload_n 0, 1) := by decide +kernel
theorem d_Mo_pad_101 : decode b_Mo_pad 101 = .ok (.getfield 26, 3) := by decide +kernel
theorem d_Mo_pad_104 : decode b_Mo_pad 104 = .ok (.iload 5, 2) := by decide +kernel
theorem d_Mo_pad_106 : decode b_Mo_pad 106 = .ok (.iaload, 1) := by decide +kernel
theorem d_Mo_pad_107 : decode b_Mo_pad 107 = .ok (.if_icmp .lt 9, 3) := by decide +kernel
theorem d_Mo_pad_110 : decode b_Mo_pad 110 = .ok (.aload_n 0, 1) := by decide +kernel
theorem d_Mo_pad_111 : decode b_Mo_pad 111 = .ok (.iconst 2, 1) := by decide +kernel
theorem d_Mo_pad_112 : decode b_Mo_pad 112 = .ok (.invokevirtual 155, 3) := by decide +kernel
theorem d_Mo_pad_115 : decode b_Mo_pad 115 = .ok (.ireturn, 1) := by decide +kernel
theorem d_Mo_pad_116 : decode b_Mo_pad 116 = .ok (.aload_n 0, 1) := by decide +kernel
theorem d_Mo_pad_117 : decode b_Mo_pad 117 = .ok (.iconst 3, 1) := by decide +kernel
theorem d_Mo_pad_118 : decode b_Mo_pad 118 = .ok (.iload_n 2, 1) := by decide +kernel
theorem d_Mo_pad_119 : decode b_Mo_pad 119 = .ok (.sipush 1000, 3) := by decide +kernel
theorem d_Mo_pad_122 : decode b_Mo_pad 122 = .ok (.irem, 1) := by decide +kernel
theorem d_Mo_pad_123 : decode b_Mo_pad 123 = .ok (.iconst 0, 1) := by decide +kernel
theorem d_Mo_pad_124 : decode b_Mo_pad 124 = .ok (.aload_n 0, 1) := by decide +kernel
theorem d_Mo_pad_125 : decode b_Mo_pad 125 = .ok (.getfield 17, 3) := by decide +kernel
theorem d_Mo_pad_128 : decode b_Mo_pad 128 = .ok (.iload 5, 2) := by decide +kernel
theorem d_Mo_pad_130 : decode b_Mo_pad 130 = .ok (.iaload, 1) := by decide +kernel
theorem d_Mo_pad_131 : decode b_Mo_pad 131 = .ok (.iload_n 3, 1) := by decide +kernel
theorem d_Mo_pad_132 : decode b_Mo_pad 132 = .ok (.iadd, 1) := by decide +kernel
theorem d_Mo_pad_133 : decode b_Mo_pad 133 = .ok (.aload_n 0, 1) := by decide +kernel
theorem d_Mo_pad_134 : decode b_Mo_pad 134 = .ok (.getfield 20, 3) := by decide +kernel
theorem d_Mo_pad_137 : decode b_Mo_pad 137 = .ok (.iload 5, 2) := by decide +kernel
theorem d_Mo_pad_139 : decode b_Mo_pad 139 = .ok (.iaload, 1) := by decide +kernel
theorem d_Mo_pad_140 : decode b_Mo_pad 140 = .ok (.iload 4, 2) := by decide +kernel
theorem d_Mo_pad_142 : decode b_Mo_pad 142 = .ok (.iadd, 1) := by decide +kernel
theorem d_Mo_pad_143 : decode b_Mo_pad 143 = .ok (.iconst 1, 1) := by decide +kernel
theorem d_Mo_pad_144 : decode b_Mo_pad 144 = .ok (.iconst 1, 1) := by decide +kernel
theorem d_Mo_pad_145 : decode b_Mo_pad 145 = .ok (.iload 5, 2) := by decide +kernel
theorem d_Mo_pad_147 : decode b_Mo_pad 147 = .ok (.invokevirtual 183, 3) := by decide +kernel
theorem d_Mo_pad_150 : decode b_Mo_pad 150 = .ok (.ireturn, 1) := by decide +kernel
theorem d_Mo_via_0 : decode b_Mo_via 0 = .ok (.aload_n 0, 1) := by decide +kernel
theorem d_Mo_via_1 : decode b_Mo_via 1 = .ok (.aload_n 0, 1) := by decide +kernel
theorem d_Mo_via_2 : decode b_Mo_via 2 = .ok (.iload_n 1, 1) := by decide +kernel
theorem d_Mo_via_3 : decode b_Mo_via 3 = .ok (.iconst 1, 1) := by decide +kernel
theorem d_Mo_via_4 : decode b_Mo_via 4 = .ok (.invokevirtual 176, 3) := by decide +kernel
theorem d_Mo_via_7 : decode b_Mo_via 7 = .ok (.putfield 100, 3) := by decide +kernel
theorem d_Mo_via_10 : decode b_Mo_via 10 = .ok (.aload_n 0, 1) := by decide +kernel
theorem d_Mo_via_11 : decode b_Mo_via 11 = .ok (.getfield 100, 3) := by decide +kernel
theorem d_Mo_via_14 : decode b_Mo_via 14 = .ok (.ifCond .ne 22, 3) := by decide +kernel
theorem d_Mo_via_17 : decode b_Mo_via 17 = .ok (.aload_n 0, 1) := by decide +kernel
theorem d_Mo_via_18 : decode b_Mo_via 18 = .ok (.iconst 3, 1) := by decide +kernel
theorem d_Mo_via_19 : decode b_Mo_via 19 = .ok (.iload_n 1, 1) := by decide +kernel
theorem d_Mo_via_20 : decode b_Mo_via 20 = .ok (.sipush 1000, 3) := by decide +kernel
theorem d_Mo_via_23 : decode b_Mo_via 23 = .ok (.irem, 1) := by decide +kernel
theorem d_Mo_via_24 : decode b_Mo_via 24 = .ok (.iconst 0, 1) := by decide +kernel
theorem d_Mo_via_25 : decode b_Mo_via 25 = .ok (.iload_n 2, 1) := by decide +kernel
theorem d_Mo_via_26 : decode b_Mo_via 26 = .ok (.iload_n 3, 1) := by decide +kernel
theorem d_Mo_via_27 : decode b_Mo_via 27 = .ok (.iconst 1, 1) := by decide +kernel
theorem d_Mo_via_28 : decode b_Mo_via 28 = .ok (.iconst 1, 1) := by decide +kernel
theorem d_Mo_via_29 : decode b_Mo_via 29 = .ok (.iconst (-1), 1) := by decide +kernel
theorem d_Mo_via_30 : decode b_Mo_via 30 = .ok (.invokevirtual 183, 3) := by decide +kernel
theorem d_Mo_via_33 : decode b_Mo_via 33 = .ok (.goto 4, 3) := by decide +kernel
theorem d_Mo_via_36 : decode b_Mo_via 36 = .ok (.iconst 0, 1) := by decide +kernel
theorem d_Mo_via_37 : decode b_Mo_via 37 = .ok (.ireturn, 1) := by decide +kernel
theorem d_Mo_track_0 : decode b_Mo_track 0 = .ok (.aload_n 0, 1) := by decide +kernel
theorem d_Mo_track_1 : decode b_Mo_track 1 = .ok (.iload_n 2, 1) := by decide +kernel
theorem d_Mo_track_2 : decode b_Mo_track 2 = .ok (.invokevirtual 186, 3) := by decide +kernel
theorem d_Mo_track_5 : decode b_Mo_track 5 = .ok (.istore 7, 2) := by decide +kernel
theorem d_Mo_track_7 : decode b_Mo_track 7 = .ok (.aload_n 0, 1) := by decide +kernel
theorem d_Mo_track_8 : decode b_Mo_track 8 = .ok (.iload_n 1, 1) := by decide +kernel
theorem d_Mo_track_9 : decode b_Mo_track 9 = .ok (.iconst 1, 1) := by decide +kernel
theorem d_Mo_track_10 : decode b_Mo_track 10 = .ok (.invokevirtual 176, 3) := by decide +kernel
theorem d_Mo_track_13 : decode b_Mo_track 13 = .ok (.istore 8, 2) := by decide +kernel
theorem d_Mo_track_15 : decode b_Mo_track 15 = .ok (.aload_n 0, 1) := by decide +kernel
theorem d_Mo_track_16 : decode b_Mo_track 16 = .ok (.iload 8, 2) := by decide +kernel
theorem d_Mo_track_18 : decode b_Mo_track 18 = .ok (.iconst 1, 1) := by decide +kernel
theorem d_Mo_track_19 : decode b_Mo_track 19 = .ok (.if_icmp .eq 8, 3) := by decide +kernel
theorem d_Mo_track_22 : decode b_Mo_track 22 = .ok (.iload 7, 2) := by decide +kernel
theorem d_Mo_track_24 : decode b_Mo_track 24 = .ok (.ifCond .ne 7, 3) := by decide +kernel
theorem d_Mo_track_27 : decode b_Mo_track 27 = .ok (.iconst 1, 1) := by decide +kernel
theorem d_Mo_track_28 : decode b_Mo_track 28 = .ok (.goto 27, 3) := by decide +kernel
theorem d_Mo_track_31 : decode b_Mo_track 31 = .ok (.iload 8, 2) := by decide +kernel
theorem d_Mo_track_33 : decode b_Mo_track 33 = .ok (.iconst 2, 1) := by decide +kernel
theorem d_Mo_track_34 : decode b_Mo_track 34 = .ok (.if_icmp .eq 16, 3) := by decide +kernel
theorem d_Mo_track_37 : decode b_Mo_track 37 = .ok (.iload_n 3, 1) := by decide +kernel
theorem d_Mo_track_38 : decode b_Mo_track 38 = .ok (.iload 5, 2) := by decide +kernel
theorem d_Mo_track_40 : decode b_Mo_track 40 = .ok (.if_icmp .eq 14, 3) := by decide +kernel
theorem d_Mo_track_43 : decode b_Mo_track 43 = .ok (.iload 4, 2) := by decide +kernel
theorem d_Mo_track_45 : decode b_Mo_track 45 = .ok (.iload 6, 2) := by decide +kernel
theorem d_Mo_track_47 : decode b_Mo_track 47 = .ok (.if_icmp .eq 7, 3) := by decide +kernel
theorem d_Mo_track_50 : decode b_Mo_track 50 = .ok (.iconst 2, 1) := by decide +kernel
theorem d_Mo_track_51 : decode b_Mo_track 51 = .ok (.goto 4, 3) := by decide +kernel
theorem d_Mo_track_54 : decode b_Mo_track 54 = .ok (.iconst 0, 1) := by decide +kernel
theorem d_Mo_track_55 : decode b_Mo_track 55 = .ok (.putfield 100, 3) := by decide +kernel
theorem d_Mo_track_58 : decode b_Mo_track 58 = .ok (.aload_n 0, 1) := by decide +kernel
theorem d_Mo_track_59 : decode b_Mo_track 59 = .ok (.getfield 100, 3) := by decide +kernel
theorem d_Mo_track_62 : decode b_Mo_track 62 = .ok (.ifCond .eq 5, 3) := by decide +kernel
theorem d_Mo_track_65 : decode b_Mo_track 65 = .ok (.iconst 0, 1) := by decide +kernel
theorem d_Mo_track_66 : decode b_Mo_track 66 = .ok (.ireturn, 1) := by decide +kernel
theorem d_Mo_track_67 : decode b_Mo_track 67 = .ok (.aload_n 0, 1) := by decide +kernel
theorem d_Mo_track_68 : decode b_Mo_track 68 = .ok (.iconst 4, 1) := by decide +kernel
theorem d_Mo_track_69 : decode b_Mo_track 69 = .ok (.invokevirtual 152, 3) := by decide +kernel
theorem d_Mo_track_72 : decode b_Mo_track 72 = .ok (.ifCond .eq 9, 3) := by decide +kernel
theorem d_Mo_track_75 : decode b_Mo_track 75 = .ok (.aload_n 0, 1) := by decide +kernel
theorem d_Mo_track_76 : decode b_Mo_track 76 = .ok (.iconst 1, 1) := by decide +kernel
theorem d_Mo_track_77 : decode b_Mo_track 77 = .ok (.invokevirtual 155, 3) := by decide +kernel
theorem d_Mo_track_80 : decode b_Mo_track 80 = .ok (.ireturn, 1) := by decide +kernel
theorem d_Mo_track_81 : decode b_Mo_track 81 = .ok (.iload_n 3, 1) := by decide +kernel
theorem d_Mo_track_82 : decode b_Mo_track 82 = .ok (.iload 4, 2) := by decide +kernel
theorem d_Mo_track_84 : decode b_Mo_track 84 = .ok (.invokestatic 114, 3) := by decide +kernel
theorem d_Mo_track_87 : decode b_Mo_track 87 = .ok (.ifCond .eq 13, 3) := by decide +kernel
theorem d_Mo_track_90 : decode b_Mo_track 90 = .ok (.iload 5, 2) := by decide +kernel
theorem d_Mo_track_92 : decode b_Mo_track 92 = .ok (.iload 6, 2) := by decide +kernel
theorem d_Mo_track_94 : decode b_Mo_track 94 = .ok (.invokestatic 114, 3) := by decide +kernel
theorem d_Mo_track_97 : decode b_Mo_track 97 = .ok (.ifCond .ne 9, 3) := by decide +kernel
theorem d_Mo_track_100 : decode b_Mo_track 100 = .ok (.aload_n 0, 1) := by decide +kernel
theorem d_Mo_track_101 : decode b_Mo_track 101 = .ok (.iconst 2, 1) := by decide +kernel
theorem d_Mo_track_102 : decode b_Mo_track 102 = .ok (.invokevirtual 155, 3) := by decide +kernel
theorem d_Mo_track_105 : decode b_Mo_track 105 = .ok (.ireturn, 1) := by decide +kernel
theorem d_Mo_track_106 : decode b_Mo_track 106 = .ok (.iload_n 3, 1) := by decide +kernel
theorem d_Mo_track_107 : decode b_Mo_track 107 = .ok (.iload 5, 2) := by decide +kernel
theorem d_Mo_track_109 : decode b_Mo_track 109 = .ok (.if_icmp .ge 7, 3) := by decide +kernel
theorem d_Mo_track_112 : decode b_Mo_track 112 = .ok (.iload_n 3, 1) := by decide +kernel
theorem d_Mo_track_113 : decode b_Mo_track 113 = .ok (.goto 5, 3) := by decide +kernel
theorem d_Mo_track_116 : decode b_Mo_track 116 = .ok (.iload 5, 2) := by decide +kernel
theorem d_Mo_track_118 : decode b_Mo_track 118 = .ok (.istore 9, 2) := by decide +kernel
theorem d_Mo_track_120 : decode b_Mo_track 120 = .ok (.iload 4, 2) := by decide +kernel
theorem d_Mo_track_122 : decode b_Mo_track 122 = .ok (.iload 6, 2) := by decide +kernel
theorem d_Mo_track_124 : decode b_Mo_track 124 = .ok (.if_icmp .ge 8, 3) := by decide +kernel
theorem d_Mo_track_127 : decode b_Mo_track 127 = .ok (.iload 4, 2) := by decide +kernel
theorem d_Mo_track_129 : decode b_Mo_track 129 = .ok (.goto 5, 3) := by decide +kernel
theorem d_Mo_track_132 : decode b_Mo_track 132 = .ok (.iload 6, 2) := by decide +kernel
theorem d_Mo_track_134 : decode b_Mo_track 134 = .ok (.istore 10, 2) := by decide +kernel
theorem d_Mo_track_136 : decode b_Mo_track 136 = .ok (.aload_n 0, 1) := by decide +kernel
theorem d_Mo_track_137 : decode b_Mo_track 137 = .ok (.iconst 4, 1) := by decide +kernel
theorem d_Mo_track_138 : decode b_Mo_track 138 = .ok (.iload_n 1, 1) := by decide +kernel
theorem d_Mo_track_139 : decode b_Mo_track 139 = .ok (.sipush 1000, 3) := by decide +kernel
theorem d_Mo_track_142 : decode b_Mo_track 142 = .ok (.irem, 1) := by decide +kernel
theorem d_Mo_track_143 : decode b_Mo_track 143 = .ok (.iload_n 2, 1) := by decide +kernel
theorem d_Mo_track_144 : decode b_Mo_track 144 = .ok (.iload 9, 2) := by decide +kernel
theorem d_Mo_track_146 : decode b_Mo_track 146 = .ok (.iload 10, 2) := by decide +kernel
theorem d_Mo_track_148 : decode b_Mo_track 148 = .ok (.iload_n 3, 1) := by decide +kernel
theorem d_Mo_track_149 : decode b_Mo_track 149 = .ok (.iload 5, 2) := by decide +kernel
theorem d_Mo_track_151 : decode b_Mo_track 151 = .ok (.iadd, 1) := by decide +kernel
theorem d_Mo_track_152 : decode b_Mo_track 152 = .ok (.iconst 2, 1) := by decide +kernel
theorem d_Mo_track_153 : decode b_Mo_track 153 = .ok (.iload 9, 2) := by decide +kernel
theorem d_Mo_track_155 : decode b_Mo_track 155 = .ok (.imul, 1) := by decide +kernel
theorem d_Mo_track_156 : decode b_Mo_track 156 = .ok (.isub, 1) := by decide +kernel
theorem d_Mo_track_157 : decode b_Mo_track 157 = .ok (.iconst 1, 1) := by decide +kernel
theorem d_Mo_track_158 : decode b_Mo_track 158 = .ok (.iadd, 1) := by decide +kernel
theorem d_Mo_track_159 : decode b_Mo_track 159 = .ok (.iload 4, 2) := by decide +kernel
theorem d_Mo_track_161 : decode b_Mo_track 161 = .ok (.iload 6, 2) := by decide +kernel
theorem d_Mo_track_163 : decode b_Mo_track 163 = .ok (.iadd, 1) := by decide +kernel
theorem d_Mo_track_164 : decode b_Mo_track 164 = .ok (.iconst 2, 1) := by decide +kernel
theorem d_Mo_track_165 : decode b_Mo_track 165 = .ok (.iload 10, 2) := by decide +kernel
theorem d_Mo_track_167 : decode b_Mo_track 167 = .ok (.imul, 1) := by decide +kernel
theorem d_Mo_track_168 : decode b_Mo_track 168 = .ok (.isub, 1) := by decide +kernel
theorem d_Mo_track_169 : decode b_Mo_track 169 = .ok (.iconst 1, 1) := by decide +kernel
theorem d_Mo_track_170 : decode b_Mo_track 170 = .ok (.iadd, 1) := by decide +kernel
theorem d_Mo_track_171 : decode b_Mo_track 171 = .ok (.iconst (-1), 1) := by decide +kernel
theorem d_Mo_track_172 : decode b_Mo_track 172 = .ok (.invokevirtual 183, 3) := by decide +kernel
theorem d_Mo_track_175 : decode b_Mo_track 175 = .ok (.ireturn, 1) := by decide +kernel
theorem d_Mo_plane_0 : decode b_Mo_plane 0 = .ok (.aload_n 0, 1) := by decide +kernel
theorem d_Mo_plane_1 : decode b_Mo_plane 1 = .ok (.iload_n 1, 1) := by decide +kernel
theorem d_Mo_plane_2 : decode b_Mo_plane 2 = .ok (.iconst 1, 1) := by decide +kernel
theorem d_Mo_plane_3 : decode b_Mo_plane 3 = .ok (.invokevirtual 176, 3) := by decide +kernel
theorem d_Mo_plane_6 : decode b_Mo_plane 6 = .ok (.istore_n 3, 1) := by decide +kernel
theorem d_Mo_plane_7 : decode b_Mo_plane 7 = .ok (.aload_n 0, 1) := by decide +kernel
theorem d_Mo_plane_8 : decode b_Mo_plane 8 = .ok (.iload_n 3, 1) := by decide +kernel
theorem d_Mo_plane_9 : decode b_Mo_plane 9 = .ok (.iconst 1, 1) := by decide +kernel
theorem d_Mo_plane_10 : decode b_Mo_plane 10 = .ok (.if_icmp .eq 11, 3) := by decide +kernel
theorem d_Mo_plane_13 : decode b_Mo_plane 13 = .ok (.aload_n 0, 1) := by decide +kernel
theorem d_Mo_plane_14 : decode b_Mo_plane 14 = .ok (.iload_n 2, 1) := by decide +kernel
theorem d_Mo_plane_15 : decode b_Mo_plane 15 = .ok (.invokevirtual 186, 3) := by decide +kernel
theorem d_Mo_plane_18 : decode b_Mo_plane 18 = .ok (.ifCond .ne 7, 3) := by decide +kernel
theorem d_Mo_plane_21 : decode b_Mo_plane 21 = .ok (.iconst 1, 1) := by decide +kernel
theorem d_Mo_plane_22 : decode b_Mo_plane 22 = .ok (.goto 4, 3) := by decide +kernel
theorem d_Mo_plane_25 : decode b_Mo_plane 25 = .ok (.iload_n 3, 1) := by decide +kernel
theorem d_Mo_plane_26 : decode b_Mo_plane 26 = .ok (.putfield 100, 3) := by decide +kernel
theorem d_Mo_plane_29 : decode b_Mo_plane 29 = .ok (.aload_n 0, 1) := by decide +kernel
theorem d_Mo_plane_30 : decode b_Mo_plane 30 = .ok (.getfield 100, 3) := by decide +kernel
theorem d_Mo_plane_33 : decode b_Mo_plane 33 = .ok (.ifCond .eq 5, 3) := by decide +kernel
theorem d_Mo_plane_36 : decode b_Mo_plane 36 = .ok (.iconst 0, 1) := by decide +kernel
theorem d_Mo_plane_37 : decode b_Mo_plane 37 = .ok (.ireturn, 1) := by decide +kernel
theorem d_Mo_plane_38 : decode b_Mo_plane 38 = .ok (.iconst 0, 1) := by decide +kernel
theorem d_Mo_plane_39 : decode b_Mo_plane 39 = .ok (.istore 4, 2) := by decide +kernel
theorem d_Mo_plane_41 : decode b_Mo_plane 41 = .ok (.sipush 140, 3) := by decide +kernel
theorem d_Mo_plane_44 : decode b_Mo_plane 44 = .ok (.istore 5, 2) := by decide +kernel
theorem d_Mo_plane_46 : decode b_Mo_plane 46 = .ok (.iload 5, 2) := by decide +kernel
theorem d_Mo_plane_48 : decode b_Mo_plane 48 = .ok (.sipush 140, 3) := by decide +kernel
theorem d_Mo_plane_51 : decode b_Mo_plane 51 = .ok (.aload_n 0, 1) := by decide +kernel
theorem d_Mo_plane_52 : decode b_Mo_plane 52 = .ok (.getfield 7, 3) := by decide +kernel
theorem d_Mo_plane_55 : decode b_Mo_plane 55 = .ok (.iconst 5, 1) := by decide +kernel
theorem d_Mo_plane_56 : decode b_Mo_plane 56 = .ok (.iaload, 1) := by decide +kernel
theorem d_Mo_plane_57 : decode b_Mo_plane 57 = .ok (.iadd, 1) := by decide +kernel
theorem d_Mo_plane_58 : decode b_Mo_plane 58 = .ok (.if_icmp .ge 42, 3) := by decide +kernel
theorem d_Mo_plane_61 : decode b_Mo_plane 61 = .ok (.iload 4, 2) := by decide +kernel
theorem d_Mo_plane_63 : decode b_Mo_plane 63 = .ok (.ifCond .ne 24, 3) := by decide +kernel
theorem d_Mo_plane_66 : decode b_Mo_plane 66 = .ok (.aload_n 0, 1) := by decide +kernel
theorem d_Mo_plane_67 : decode b_Mo_plane 67 = .ok (.getfield 13, 3) := by decide +kernel
theorem d_Mo_plane_70 : decode b_Mo_plane 70 = .ok (.iload 5, 2) := by decide +kernel
theorem d_Mo_plane_72 : decode b_Mo_plane 72 = .ok (.baload, 1) := by decide +kernel
theorem d_Mo_plane_73 : decode b_Mo_plane 73 = .ok (.ifCond .eq 18, 3) := by decide +kernel
theorem d_Mo_plane_76 : decode b_Mo_plane 76 = .ok (.aload_n 0, 1) := by decide +kernel
theorem d_Mo_plane_77 : decode b_Mo_plane 77 = .ok (.getfield 29, 3) := by decide +kernel
theorem d_Mo_plane_80 : decode b_Mo_plane 80 = .ok (.iload 5, 2) := by decide +kernel
theorem d_Mo_plane_82 : decode b_Mo_plane 82 = .ok (.iaload, 1) := by decide +kernel
theorem d_Mo_plane_83 : decode b_Mo_plane 83 = .ok (.iload_n 2, 1) := by decide +kernel
theorem d_Mo_plane_84 : decode b_Mo_plane 84 = .ok (.if_icmp .ne 7, 3) := by decide +kernel
theorem d_Mo_plane_87 : decode b_Mo_plane 87 = .ok (.iconst 1, 1) := by decide +kernel
theorem d_Mo_plane_88 : decode b_Mo_plane 88 = .ok (.goto 4, 3) := by decide +kernel
theorem d_Mo_plane_91 : decode b_Mo_plane 91 = .ok (.iconst 0, 1) := by decide +kernel
theorem d_Mo_plane_92 : decode b_Mo_plane 92 = .ok (.istore 4, 2) := by decide +kernel
theorem d_Mo_plane_94 : decode b_Mo_plane 94 = .ok (.iinc 5 1, 3) := by decide +kernel
theorem d_Mo_plane_97 : decode b_Mo_plane 97 = .ok (.goto (-51), 3) := by decide +kernel
theorem d_Mo_plane_100 : decode b_Mo_plane 100 = .ok (.aload_n 0, 1) := by decide +kernel
theorem d_Mo_plane_101 : decode b_Mo_plane 101 = .ok (.aload_n 0, 1) := by decide +kernel
theorem d_Mo_plane_102 : decode b_Mo_plane 102 = .ok (.iconst 5, 1) := by decide +kernel
theorem d_Mo_plane_103 : decode b_Mo_plane 103 = .ok (.invokevirtual 152, 3) := by decide +kernel
theorem d_Mo_plane_106 : decode b_Mo_plane 106 = .ok (.ifCond .eq 7, 3) := by decide +kernel
theorem d_Mo_plane_109 : decode b_Mo_plane 109 = .ok (.iconst 1, 1) := by decide +kernel
theorem d_Mo_plane_110 : decode b_Mo_plane 110 = .ok (.goto 30, 3) := by decide +kernel
theorem d_Mo_plane_113 : decode b_Mo_plane 113 = .ok (.aload_n 0, 1) := by decide +kernel
theorem d_Mo_plane_114 : decode b_Mo_plane 114 = .ok (.iconst 0, 1) := by decide +kernel
theorem d_Mo_plane_115 : decode b_Mo_plane 115 = .ok (.iconst 0, 1) := by decide +kernel
theorem d_Mo_plane_116 : decode b_Mo_plane 116 = .ok (.bipush 32, 2) := by decide +kernel
theorem d_Mo_plane_118 : decode b_Mo_plane 118 = .ok (.bipush 24, 2) := by decide +kernel
theorem d_Mo_plane_120 : decode b_Mo_plane 120 = .ok (.invokevirtual 122, 3) := by decide +kernel
theorem d_Mo_plane_123 : decode b_Mo_plane 123 = .ok (.ifCond .eq 7, 3) := by decide +kernel
theorem d_Mo_plane_126 : decode b_Mo_plane 126 = .ok (.iconst 3, 1) := by decide +kernel
theorem d_Mo_plane_127 : decode b_Mo_plane 127 = .ok (.goto 13, 3) := by decide +kernel
theorem d_Mo_plane_130 : decode b_Mo_plane 130 = .ok (.iload 4, 2) := by decide +kernel
theorem d_Mo_plane_132 : decode b_Mo_plane 132 = .ok (.ifCond .eq 7, 3) := by decide +kernel
theorem d_Mo_plane_135 : decode b_Mo_plane 135 = .ok (.iconst 4, 1) := by decide +kernel
theorem d_Mo_plane_136 : decode b_Mo_plane 136 = .ok (.goto 4, 3) := by decide +kernel
theorem d_Mo_plane_139 : decode b_Mo_plane 139 = .ok (.iconst 0, 1) := by decide +kernel
theorem d_Mo_plane_140 : decode b_Mo_plane 140 = .ok (.putfield 149, 3) := by decide +kernel
theorem d_Mo_plane_143 : decode b_Mo_plane 143 = .ok (.aload_n 0, 1) := by decide +kernel
theorem d_Mo_plane_144 : decode b_Mo_plane 144 = .ok (.getfield 149, 3) := by decide +kernel
theorem d_Mo_plane_147 : decode b_Mo_plane 147 = .ok (.ifCond .ne 24, 3) := by decide +kernel
theorem d_Mo_plane_150 : decode b_Mo_plane 150 = .ok (.aload_n 0, 1) := by decide +kernel
theorem d_Mo_plane_151 : decode b_Mo_plane 151 = .ok (.iconst 5, 1) := by decide +kernel
theorem d_Mo_plane_152 : decode b_Mo_plane 152 = .ok (.iload_n 1, 1) := by decide +kernel
theorem d_Mo_plane_153 : decode b_Mo_plane 153 = .ok (.sipush 1000, 3) := by decide +kernel
theorem d_Mo_plane_156 : decode b_Mo_plane 156 = .ok (.irem, 1) := by decide +kernel
theorem d_Mo_plane_157 : decode b_Mo_plane 157 = .ok (.iload_n 2, 1) := by decide +kernel
theorem d_Mo_plane_158 : decode b_Mo_plane 158 = .ok (.iconst 0, 1) := by decide +kernel
theorem d_Mo_plane_159 : decode b_Mo_plane 159 = .ok (.iconst 0, 1) := by decide +kernel
theorem d_Mo_plane_160 : decode b_Mo_plane 160 = .ok (.bipush 32, 2) := by decide +kernel
theorem d_Mo_plane_162 : decode b_Mo_plane 162 = .ok (.bipush 24, 2) := by decide +kernel
theorem d_Mo_plane_164 : decode b_Mo_plane 164 = .ok (.iconst (-1), 1) := by decide +kernel
theorem d_Mo_plane_165 : decode b_Mo_plane 165 = .ok (.invokevirtual 165, 3) := by decide +kernel
theorem d_Mo_plane_168 : decode b_Mo_plane 168 = .ok (.goto 4, 3) := by decide +kernel
theorem d_Mo_plane_171 : decode b_Mo_plane 171 = .ok (.iconst (-1), 1) := by decide +kernel
theorem d_Mo_plane_172 : decode b_Mo_plane 172 = .ok (.ireturn, 1) := by decide +kernel
theorem d_Mo_isOf_0 : decode b_Mo_isOf 0 = .ok (.iload_n 1, 1) := by decide +kernel
theorem d_Mo_isOf_1 : decode b_Mo_isOf 1 = .ok (.bipush 20, 2) := by decide +kernel
theorem d_Mo_isOf_3 : decode b_Mo_isOf 3 = .ok (.if_icmp .lt 32, 3) := by decide +kernel
theorem d_Mo_isOf_6 : decode b_Mo_isOf 6 = .ok (.iload_n 1, 1) := by decide +kernel
theorem d_Mo_isOf_7 : decode b_Mo_isOf 7 = .ok (.bipush 80, 2) := by decide +kernel
theorem d_Mo_isOf_9 : decode b_Mo_isOf 9 = .ok (.if_icmp .ge 26, 3) := by decide +kernel
theorem d_Mo_isOf_12 : decode b_Mo_isOf 12 = .ok (.aload_n 0, 1) := by decide +kernel
theorem d_Mo_isOf_13 : decode b_Mo_isOf 13 = .ok (.getfield 13, 3) := by decide +kernel
theorem d_Mo_isOf_16 : decode b_Mo_isOf 16 = .ok (.iload_n 1, 1) := by decide +kernel
theorem d_Mo_isOf_17 : decode b_Mo_isOf 17 = .ok (.baload, 1) := by decide +kernel
theorem d_Mo_isOf_18 : decode b_Mo_isOf 18 = .ok (.ifCond .eq 17, 3) := by decide +kernel
theorem d_Mo_isOf_21 : decode b_Mo_isOf 21 = .ok (.aload_n 0, 1) := by decide +kernel
theorem d_Mo_isOf_22 : decode b_Mo_isOf 22 = .ok (.getfield 35, 3) := by decide +kernel
theorem d_Mo_isOf_25 : decode b_Mo_isOf 25 = .ok (.iload_n 1, 1) := by decide +kernel
theorem d_Mo_isOf_26 : decode b_Mo_isOf 26 = .ok (.iaload, 1) := by decide +kernel
theorem d_Mo_isOf_27 : decode b_Mo_isOf 27 = .ok (.iload_n 2, 1) := by decide +kernel
theorem d_Mo_isOf_28 : decode b_Mo_isOf 28 = .ok (.if_icmp .ne 7, 3) := by decide +kernel
theorem d_Mo_isOf_31 : decode b_Mo_isOf 31 = .ok (.iconst 1, 1) := by decide +kernel
theorem d_Mo_isOf_32 : decode b_Mo_isOf 32 = .ok (.goto 4, 3) := by decide +kernel
theorem d_Mo_isOf_35 : decode b_Mo_isOf 35 = .ok (.iconst 0, 1) := by decide +kernel
theorem d_Mo_isOf_36 : decode b_Mo_isOf 36 = .ok (.ireturn, 1) := by decide +kernel
theorem d_Mo_move_0 : decode b_Mo_move 0 = .ok (.aload_n 0, 1) := by decide +kernel
theorem d_Mo_move_1 : decode b_Mo_move 1 = .ok (.aload_n 0, 1) := by decide +kernel
theorem d_Mo_move_2 : decode b_Mo_move 2 = .ok (.iload_n 1, 1) := by decide +kernel
theorem d_Mo_move_3 : decode b_Mo_move 3 = .ok (.iconst 2, 1) := by decide +kernel
theorem d_Mo_move_4 : decode b_Mo_move 4 = .ok (.invokevirtual 176, 3) := by decide +kernel
theorem d_Mo_move_7 : decode b_Mo_move 7 = .ok (.putfield 100, 3) := by decide +kernel
theorem d_Mo_move_10 : decode b_Mo_move 10 = .ok (.iload_n 1, 1) := by decide +kernel
theorem d_Mo_move_11 : decode b_Mo_move 11 = .ok (.sipush 1000, 3) := by decide +kernel
theorem d_Mo_move_14 : decode b_Mo_move 14 = .ok (.irem, 1) := by decide +kernel
theorem d_Mo_move_15 : decode b_Mo_move 15 = .ok (.istore 4, 2) := by decide +kernel
theorem d_Mo_move_17 : decode b_Mo_move 17 = .ok (.aload_n 0, 1) := by decide +kernel
theorem d_Mo_move_18 : decode b_Mo_move 18 = .ok (.aload_n 0, 1) := by decide +kernel
theorem d_Mo_move_19 : decode b_Mo_move 19 = .ok (.getfield 100, 3) := by decide +kernel
theorem d_Mo_move_22 : decode b_Mo_move 22 = .ok (.ifCond .ne 17, 3) := by decide +kernel
theorem d_Mo_move_25 : decode b_Mo_move 25 = .ok (.aload_n 0, 1) := by decide +kernel
theorem d_Mo_move_26 : decode b_Mo_move 26 = .ok (.getfield 13, 3) := by decide +kernel
theorem d_Mo_move_29 : decode b_Mo_move 29 = .ok (.iload 4, 2) := by decide +kernel
theorem d_Mo_move_31 : decode b_Mo_move 31 = .ok (.baload, 1) := by decide +kernel
theorem d_Mo_move_32 : decode b_Mo_move 32 = .ok (.ifCond .ne 7, 3) := by decide +kernel
theorem d_Mo_move_35 : decode b_Mo_move 35 = .ok (.iconst 3, 1) := by decide +kernel
theorem d_Mo_move_36 : decode b_Mo_move 36 = .ok (.goto 7, 3) := by decide +kernel
theorem d_Mo_move_39 : decode b_Mo_move 39 = .ok (.aload_n 0, 1) := by decide +kernel
theorem d_Mo_move_40 : decode b_Mo_move 40 = .ok (.getfield 100, 3) := by decide +kernel
theorem d_Mo_move_43 : decode b_Mo_move 43 = .ok (.putfield 100, 3) := by decide +kernel
theorem d_Mo_move_46 : decode b_Mo_move 46 = .ok (.aload_n 0, 1) := by decide +kernel
theorem d_Mo_move_47 : decode b_Mo_move 47 = .ok (.getfield 100, 3) := by decide +kernel
theorem d_Mo_move_50 : decode b_Mo_move 50 = .ok (.ifCond .eq 5, 3) := by decide +kernel
theorem d_Mo_move_53 : decode b_Mo_move 53 = .ok (.iconst 0, 1) := by decide +kernel
theorem d_Mo_move_54 : decode b_Mo_move 54 = .ok (.ireturn, 1) := by decide +kernel
theorem d_Mo_move_55 : decode b_Mo_move 55 = .ok (.aload_n 0, 1) := by decide +kernel
theorem d_Mo_move_56 : decode b_Mo_move 56 = .ok (.iload_n 2, 1) := by decide +kernel
theorem d_Mo_move_57 : decode b_Mo_move 57 = .ok (.iload_n 3, 1) := by decide +kernel
theorem d_Mo_move_58 : decode b_Mo_move 58 = .ok (.aload_n 0, 1) := by decide +kernel
theorem d_Mo_move_59 : decode b_Mo_move 59 = .ok (.getfield 23, 3) := by decide +kernel
theorem d_Mo_move_62 : decode b_Mo_move 62 = .ok (.iload 4, 2) := by decide +kernel
theorem d_Mo_move_64 : decode b_Mo_move 64 = .ok (.iaload, 1) := by decide +kernel
theorem d_Mo_move_65 : decode b_Mo_move 65 = .ok (.aload_n 0, 1) := by decide +kernel
theorem d_Mo_move_66 : decode b_Mo_move 66 = .ok (.getfield 26, 3) := by decide +kernel
theorem d_Mo_move_69 : decode b_Mo_move 69 = .ok (.iload 4, 2) := by decide +kernel
theorem d_Mo_move_71 : decode b_Mo_move 71 = .ok (.iaload, 1) := by decide +kernel
theorem d_Mo_move_72 : decode b_Mo_move 72 = .ok (.invokestatic 158, 3) := by decide +kernel
theorem d_Mo_move_75 : decode b_Mo_move 75 = .ok (.ifCond .ne 7, 3) := by decide +kernel
theorem d_Mo_move_78 : decode b_Mo_move 78 = .ok (.iconst 2, 1) := by decide +kernel
theorem d_Mo_move_79 : decode b_Mo_move 79 = .ok (.goto 76, 3) := by decide +kernel
theorem d_Mo_move_82 : decode b_Mo_move 82 = .ok (.aload_n 0, 1) := by decide +kernel
theorem d_Mo_move_83 : decode b_Mo_move 83 = .ok (.iload 4, 2) := by decide +kernel
theorem d_Mo_move_85 : decode b_Mo_move 85 = .ok (.invokevirtual 189, 3) := by decide +kernel
theorem d_Mo_move_88 : decode b_Mo_move 88 = .ok (.ifCond .ne 26, 3) := by decide +kernel
theorem d_Mo_move_91 : decode b_Mo_move 91 = .ok (.aload_n 0, 1) := by decide +kernel
theorem d_Mo_move_92 : decode b_Mo_move 92 = .ok (.iload_n 2, 1) := by decide +kernel
theorem d_Mo_move_93 : decode b_Mo_move 93 = .ok (.iload_n 3, 1) := by decide +kernel
theorem d_Mo_move_94 : decode b_Mo_move 94 = .ok (.aload_n 0, 1) := by decide +kernel
theorem d_Mo_move_95 : decode b_Mo_move 95 = .ok (.getfield 23, 3) := by decide +kernel
theorem d_Mo_move_98 : decode b_Mo_move 98 = .ok (.iload 4, 2) := by decide +kernel
theorem d_Mo_move_100 : decode b_Mo_move 100 = .ok (.iaload, 1) := by decide +kernel
theorem d_Mo_move_101 : decode b_Mo_move 101 = .ok (.aload_n 0, 1) := by decide +kernel
theorem d_Mo_move_102 : decode b_Mo_move 102 = .ok (.getfield 26, 3) := by decide +kernel
theorem d_Mo_move_105 : decode b_Mo_move 105 = .ok (.iload 4, 2) := by decide +kernel
theorem d_Mo_move_107 : decode b_Mo_move 107 = .ok (.iaload, 1) := by decide +kernel
theorem d_Mo_move_108 : decode b_Mo_move 108 = .ok (.invokevirtual 122, 3) := by decide +kernel
theorem d_Mo_move_111 : decode b_Mo_move 111 = .ok (.ifCond .eq 7, 3) := by decide +kernel
theorem d_Mo_move_114 : decode b_Mo_move 114 = .ok (.iconst 3, 1) := by decide +kernel
theorem d_Mo_move_115 : decode b_Mo_move 115 = .ok (.goto 40, 3) := by decide +kernel
theorem d_Mo_move_118 : decode b_Mo_move 118 = .ok (.aload_n 0, 1) := by decide +kernel
theorem d_Mo_move_119 : decode b_Mo_move 119 = .ok (.iload 4, 2) := by decide +kernel
theorem d_Mo_move_121 : decode b_Mo_move 121 = .ok (.iload_n 2, 1) := by decide +kernel
theorem d_Mo_move_122 : decode b_Mo_move 122 = .ok (.iload_n 3, 1) := by decide +kernel
theorem d_Mo_move_123 : decode b_Mo_move 123 = .ok (.aload_n 0, 1) := by decide +kernel
theorem d_Mo_move_124 : decode b_Mo_move 124 = .ok (.getfield 23, 3) := by decide +kernel
theorem d_Mo_move_127 : decode b_Mo_move 127 = .ok (.iload 4, 2) := by decide +kernel
theorem d_Mo_move_129 : decode b_Mo_move 129 = .ok (.iaload, 1) := by decide +kernel
theorem d_Mo_move_130 : decode b_Mo_move 130 = .ok (.aload_n 0, 1) := by decide +kernel
theorem d_Mo_move_131 : decode b_Mo_move 131 = .ok (.getfield 26, 3) := by decide +kernel
theorem d_Mo_move_134 : decode b_Mo_move 134 = .ok (.iload 4, 2) := by decide +kernel
theorem d_Mo_move_136 : decode b_Mo_move 136 = .ok (.iaload, 1) := by decide +kernel
theorem d_Mo_move_137 : decode b_Mo_move 137 = .ok (.aload_n 0, 1) := by decide +kernel
theorem d_Mo_move_138 : decode b_Mo_move 138 = .ok (.getfield 29, 3) := by decide +kernel
theorem d_Mo_move_141 : decode b_Mo_move 141 = .ok (.iload 4, 2) := by decide +kernel
theorem d_Mo_move_143 : decode b_Mo_move 143 = .ok (.iaload, 1) := by decide +kernel
theorem d_Mo_move_144 : decode b_Mo_move 144 = .ok (.invokevirtual 161, 3) := by decide +kernel
theorem d_Mo_move_147 : decode b_Mo_move 147 = .ok (.ifCond .eq 7, 3) := by decide +kernel
theorem d_Mo_move_150 : decode b_Mo_move 150 = .ok (.iconst 4, 1) := by decide +kernel
theorem d_Mo_move_151 : decode b_Mo_move 151 = .ok (.goto 4, 3) := by decide +kernel
theorem d_Mo_move_154 : decode b_Mo_move 154 = .ok (.iconst 0, 1) := by decide +kernel
theorem d_Mo_move_155 : decode b_Mo_move 155 = .ok (.putfield 149, 3) := by decide +kernel
theorem d_Mo_move_158 : decode b_Mo_move 158 = .ok (.iload_n 2, 1) := by decide +kernel
theorem d_Mo_move_159 : decode b_Mo_move 159 = .ok (.aload_n 0, 1) := by decide +kernel
theorem d_Mo_move_160 : decode b_Mo_move 160 = .ok (.getfield 17, 3) := by decide +kernel
theorem d_Mo_move_163 : decode b_Mo_move 163 = .ok (.iload 4, 2) := by decide +kernel
theorem d_Mo_move_165 : decode b_Mo_move 165 = .ok (.iaload, 1) := by decide +kernel
theorem d_Mo_move_166 : decode b_Mo_move 166 = .ok (.isub, 1) := by decide +kernel
theorem d_Mo_move_167 : decode b_Mo_move 167 = .ok (.istore 5, 2) := by decide +kernel
theorem d_Mo_move_169 : decode b_Mo_move 169 = .ok (.iload_n 3, 1) := by decide +kernel
theorem d_Mo_move_170 : decode b_Mo_move 170 = .ok (.aload_n 0, 1) := by decide +kernel
theorem d_Mo_move_171 : decode b_Mo_move 171 = .ok (.getfield 20, 3) := by decide +kernel
theorem d_Mo_move_174 : decode b_Mo_move 174 = .ok (.iload 4, 2) := by decide +kernel
theorem d_Mo_move_176 : decode b_Mo_move 176 = .ok (.iaload, 1) := by decide +kernel
theorem d_Mo_move_177 : decode b_Mo_move 177 = .ok (.isub, 1) := by decide +kernel
theorem d_Mo_move_178 : decode b_Mo_move 178 = .ok (.istore 6, 2) := by decide +kernel
theorem d_Mo_move_180 : decode b_Mo_move 180 = .ok (.bipush 20, 2) := by decide +kernel
theorem d_Mo_move_182 : decode b_Mo_move 182 = .ok (.istore 7, 2) := by decide +kernel
theorem d_Mo_move_184 : decode b_Mo_move 184 = .ok (.iload 7, 2) := by decide +kernel
theorem d_Mo_move_186 : decode b_Mo_move 186 = .ok (.bipush 80, 2) := by decide +kernel
theorem d_Mo_move_188 : decode b_Mo_move 188 = .ok (.if_icmp .ge 51, 3) := by decide +kernel
theorem d_Mo_move_191 : decode b_Mo_move 191 = .ok (.aload_n 0, 1) := by decide +kernel
theorem d_Mo_move_192 : decode b_Mo_move 192 = .ok (.getfield 149, 3) := by decide +kernel
theorem d_Mo_move_195 : decode b_Mo_move 195 = .ok (.ifCond .ne 44, 3) := by decide +kernel
theorem d_Mo_move_198 : decode b_Mo_move 198 = .ok (.aload_n 0, 1) := by decide +kernel
theorem d_Mo_move_199 : decode b_Mo_move 199 = .ok (.aload_n 0, 1) := by decide +kernel
theorem d_Mo_move_200 : decode b_Mo_move 200 = .ok (.iload 7, 2) := by decide +kernel
theorem d_Mo_move_202 : decode b_Mo_move 202 = .ok (.iload 4, 2) := by decide +kernel
theorem d_Mo_move_204 : decode b_Mo_move 204 = .ok (.invokevirtual 192, 3) := by decide +kernel
theorem d_Mo_move_207 : decode b_Mo_move 207 = .ok (.ifCond .eq 22, 3) := by decide +kernel
theorem d_Mo_move_210 : decode b_Mo_move 210 = .ok (.aload_n 0, 1) := by decide +kernel
theorem d_Mo_move_211 : decode b_Mo_move 211 = .ok (.iload 7, 2) := by decide +kernel
theorem d_Mo_move_213 : decode b_Mo_move 213 = .ok (.iload 5, 2) := by decide +kernel
theorem d_Mo_move_215 : decode b_Mo_move 215 = .ok (.iload 6, 2) := by decide +kernel
theorem d_Mo_move_217 : decode b_Mo_move 217 = .ok (.iload 4, 2) := by decide +kernel
theorem d_Mo_move_219 : decode b_Mo_move 219 = .ok (.invokevirtual 173, 3) := by decide +kernel
theorem d_Mo_move_222 : decode b_Mo_move 222 = .ok (.ifCond .eq 7, 3) := by decide +kernel
theorem d_Mo_move_225 : decode b_Mo_move 225 = .ok (.iconst 5, 1) := by decide +kernel
theorem d_Mo_move_226 : decode b_Mo_move 226 = .ok (.goto 4, 3) := by decide +kernel
theorem d_Mo_move_229 : decode b_Mo_move 229 = .ok (.iconst 0, 1) := by decide +kernel
theorem d_Mo_move_230 : decode b_Mo_move 230 = .ok (.putfield 149, 3) := by decide +kernel
theorem d_Mo_move_233 : decode b_Mo_move 233 = .ok (.iinc 7 1, 3) := by decide +kernel
theorem d_Mo_move_236 : decode b_Mo_move 236 = .ok (.goto (-52), 3) := by decide +kernel
theorem d_Mo_move_239 : decode b_Mo_move 239 = .ok (.aload_n 0, 1) := by decide +kernel
theorem d_Mo_move_240 : decode b_Mo_move 240 = .ok (.getfield 149, 3) := by decide +kernel
theorem d_Mo_move_243 : decode b_Mo_move 243 = .ok (.ifCond .eq 5, 3) := by decide +kernel
theorem d_Mo_move_246 : decode b_Mo_move 246 = .ok (.iconst 0, 1) := by decide +kernel
theorem d_Mo_move_247 : decode b_Mo_move 247 = .ok (.ireturn, 1) := by decide +kernel
theorem d_Mo_move_248 : decode b_Mo_move 248 = .ok (.iconst 0, 1) := by decide +kernel
theorem d_Mo_move_249 : decode b_Mo_move 249 = .ok (.istore 7, 2) := by decide +kernel
theorem d_Mo_move_251 : decode b_Mo_move 251 = .ok (.iload 7, 2) := by decide +kernel
theorem d_Mo_move_253 : decode b_Mo_move 253 = .ok (.bipush 80, 2) := by decide +kernel
theorem d_Mo_move_255 : decode b_Mo_move 255 = .ok (.if_icmp .ge 61, 3) := by decide +kernel
theorem d_Mo_move_258 : decode b_Mo_move 258 = .ok (.iload 7, 2) := by decide +kernel
theorem d_Mo_move_260 : decode b_Mo_move 260 = .ok (.iload 4, 2) := by decide +kernel
theorem d_Mo_move_262 : decode b_Mo_move 262 = .ok (.if_icmp .eq 17, 3) := by decide +kernel
theorem d_Mo_move_265 : decode b_Mo_move 265 = .ok (.aload_n 0, 1) := by decide +kernel
theorem d_Mo_move_266 : decode b_Mo_move 266 = .ok (.iload 7, 2) := by decide +kernel
theorem d_Mo_move_268 : decode b_Mo_move 268 = .ok (.iload 4, 2) := by decide +kernel
theorem d_Mo_move_270 : decode b_Mo_move 270 = .ok (.invokevirtual 192, 3) := by decide +kernel
theorem d_Mo_move_273 : decode b_Mo_move 273 = .ok (.ifCond .ne 6, 3) := by decide +kernel
theorem d_Mo_move_276 : decode b_Mo_move 276 = .ok (.goto 34, 3) := by decide +kernel
theorem d_Mo_move_279 : decode b_Mo_move 279 = .ok (.aload_n 0, 1) := by decide +kernel
theorem d_Mo_move_280 : decode b_Mo_move 280 = .ok (.iload 7, 2) := by decide +kernel
theorem d_Mo_move_282 : decode b_Mo_move 282 = .ok (.iconst 1, 1) := by decide +kernel
theorem d_Mo_move_283 : decode b_Mo_move 283 = .ok (.invokevirtual 139, 3) := by decide +kernel
theorem d_Mo_move_286 : decode b_Mo_move 286 = .ok (.aload_n 0, 1) := by decide +kernel
theorem d_Mo_move_287 : decode b_Mo_move 287 = .ok (.getfield 17, 3) := by decide +kernel
theorem d_Mo_move_290 : decode b_Mo_move 290 = .ok (.iload 7, 2) := by decide +kernel
theorem d_Mo_move_292 : decode b_Mo_move 292 = .ok (.dup2, 1) := by decide +kernel
theorem d_Mo_move_293 : decode b_Mo_move 293 = .ok (.iaload, 1) := by decide +kernel
theorem d_Mo_move_294 : decode b_Mo_move 294 = .ok (.iload 5, 2) := by decide +kernel
theorem d_Mo_move_296 : decode b_Mo_move 296 = .ok (.iadd, 1) := by decide +kernel
theorem d_Mo_move_297 : decode b_Mo_move 297 = .ok (.iastore, 1) := by decide +kernel
theorem d_Mo_move_298 : decode b_Mo_move 298 = .ok (.aload_n 0, 1) := by decide +kernel
theorem d_Mo_move_299 : decode b_Mo_move 299 = .ok (.getfield 20, 3) := by decide +kernel
theorem d_Mo_move_302 : decode b_Mo_move 302 = .ok (.iload 7, 2) := by decide +kernel
theorem d_Mo_move_304 : decode b_Mo_move 304 = .ok (.dup2, 1) := by decide +kernel
theorem d_Mo_move_305 : decode b_Mo_move 305 = .ok (.iaload, 1) := by decide +kernel
theorem d_Mo_move_306 : decode b_Mo_move 306 = .ok (.iload 6, 2) := by decide +kernel
theorem d_Mo_move_308 : decode b_Mo_move 308 = .ok (.iadd, 1) := by decide +kernel
theorem d_Mo_move_309 : decode b_Mo_move 309 = .ok (.iastore, 1) := by decide +kernel
theorem d_Mo_move_310 : decode b_Mo_move 310 = .ok (.iinc 7 1, 3) := by decide +kernel
theorem d_Mo_move_313 : decode b_Mo_move 313 = .ok (.goto (-62), 3) := by decide +kernel
theorem d_Mo_move_316 : decode b_Mo_move 316 = .ok (.iconst 1, 1) := by decide +kernel
theorem d_Mo_move_317 : decode b_Mo_move 317 = .ok (.ireturn, 1) := by decide +kernel
theorem d_Mo_thingFault_0 : decode b_Mo_thingFault 0 = .ok (.iload_n 1, 1) := by decide +kernel
theorem d_Mo_thingFault_1 : decode b_Mo_thingFault 1 = .ok (.sipush 1000, 3) := by decide +kernel
theorem d_Mo_thingFault_4 : decode b_Mo_thingFault 4 = .ok (.idiv, 1) := by decide +kernel
theorem d_Mo_thingFault_5 : decode b_Mo_thingFault 5 = .ok (.istore_n 2, 1) := by decide +kernel
theorem d_Mo_thingFault_6 : decode b_Mo_thingFault 6 = .ok (.aload_n 0, 1) := by decide +kernel
theorem d_Mo_thingFault_7 : decode b_Mo_thingFault 7 = .ok (.iload_n 1, 1) := by decide +kernel
theorem d_Mo_thingFault_8 : decode b_Mo_thingFault 8 = .ok (.invokevirtual 110, 3) := by decide +kernel
theorem d_Mo_thingFault_11 : decode b_Mo_thingFault 11 = .ok (.ifCond .ne 7, 3) := by decide +kernel
theorem d_Mo_thingFault_14 : decode b_Mo_thingFault 14 = .ok (.iconst 1, 1) := by decide +kernel
theorem d_Mo_thingFault_15 : decode b_Mo_thingFault 15 = .ok (.goto 18, 3) := by decide +kernel
theorem d_Mo_thingFault_18 : decode b_Mo_thingFault 18 = .ok (.iload_n 2, 1) := by decide +kernel
theorem d_Mo_thingFault_19 : decode b_Mo_thingFault 19 = .ok (.iconst 2, 1) := by decide +kernel
theorem d_Mo_thingFault_20 : decode b_Mo_thingFault 20 = .ok (.if_icmp .lt 8, 3) := by decide +kernel
theorem d_Mo_thingFault_23 : decode b_Mo_thingFault 23 = .ok (.iload_n 2, 1) := by decide +kernel
theorem d_Mo_thingFault_24 : decode b_Mo_thingFault 24 = .ok (.iconst 5, 1) := by decide +kernel
theorem d_Mo_thingFault_25 : decode b_Mo_thingFault 25 = .ok (.if_icmp .le 7, 3) := by decide +kernel
theorem d_Mo_thingFault_28 : decode b_Mo_thingFault 28 = .ok (.iconst 2, 1) := by decide +kernel
theorem d_Mo_thingFault_29 : decode b_Mo_thingFault 29 = .ok (.goto 4, 3) := by decide +kernel
theorem d_Mo_thingFault_32 : decode b_Mo_thingFault 32 = .ok (.iconst 0, 1) := by decide +kernel
theorem d_Mo_thingFault_33 : decode b_Mo_thingFault 33 = .ok (.ireturn, 1) := by decide +kernel
theorem d_Mo_drop_0 : decode b_Mo_drop 0 = .ok (.aload_n 0, 1) := by decide +kernel
theorem d_Mo_drop_1 : decode b_Mo_drop 1 = .ok (.aload_n 0, 1) := by decide +kernel
theorem d_Mo_drop_2 : decode b_Mo_drop 2 = .ok (.iload_n 1, 1) := by decide +kernel
theorem d_Mo_drop_3 : decode b_Mo_drop 3 = .ok (.invokevirtual 195, 3) := by decide +kernel
theorem d_Mo_drop_6 : decode b_Mo_drop 6 = .ok (.putfield 100, 3) := by decide +kernel
theorem d_Mo_drop_9 : decode b_Mo_drop 9 = .ok (.aload_n 0, 1) := by decide +kernel
theorem d_Mo_drop_10 : decode b_Mo_drop 10 = .ok (.aload_n 0, 1) := by decide +kernel
theorem d_Mo_drop_11 : decode b_Mo_drop 11 = .ok (.getfield 100, 3) := by decide +kernel
theorem d_Mo_drop_14 : decode b_Mo_drop 14 = .ok (.ifCond .ne 19, 3) := by decide +kernel
theorem d_Mo_drop_17 : decode b_Mo_drop 17 = .ok (.aload_n 0, 1) := by decide +kernel
theorem d_Mo_drop_18 : decode b_Mo_drop 18 = .ok (.getfield 13, 3) := by decide +kernel
theorem d_Mo_drop_21 : decode b_Mo_drop 21 = .ok (.iload_n 1, 1) := by decide +kernel
theorem d_Mo_drop_22 : decode b_Mo_drop 22 = .ok (.invokestatic 198, 3) := by decide +kernel
theorem d_Mo_drop_25 : decode b_Mo_drop 25 = .ok (.baload, 1) := by decide +kernel
theorem d_Mo_drop_26 : decode b_Mo_drop 26 = .ok (.ifCond .ne 7, 3) := by decide +kernel
theorem d_Mo_drop_29 : decode b_Mo_drop 29 = .ok (.iconst 3, 1) := by decide +kernel
theorem d_Mo_drop_30 : decode b_Mo_drop 30 = .ok (.goto 7, 3) := by decide +kernel
theorem d_Mo_drop_33 : decode b_Mo_drop 33 = .ok (.aload_n 0, 1) := by decide +kernel
theorem d_Mo_drop_34 : decode b_Mo_drop 34 = .ok (.getfield 100, 3) := by decide +kernel
theorem d_Mo_drop_37 : decode b_Mo_drop 37 = .ok (.putfield 100, 3) := by decide +kernel
theorem d_Mo_drop_40 : decode b_Mo_drop 40 = .ok (.aload_n 0, 1) := by decide +kernel
theorem d_Mo_drop_41 : decode b_Mo_drop 41 = .ok (.getfield 100, 3) := by decide +kernel
theorem d_Mo_drop_44 : decode b_Mo_drop 44 = .ok (.ifCond .eq 5, 3) := by decide +kernel
theorem d_Mo_drop_47 : decode b_Mo_drop 47 = .ok (.iconst 0, 1) := by decide +kernel
theorem d_Mo_drop_48 : decode b_Mo_drop 48 = .ok (.ireturn, 1) := by decide +kernel
theorem d_Mo_drop_49 : decode b_Mo_drop 49 = .ok (.iload_n 1, 1) := by decide +kernel
theorem d_Mo_drop_50 : decode b_Mo_drop 50 = .ok (.invokestatic 198, 3) := by decide +kernel
theorem d_Mo_drop_53 : decode b_Mo_drop 53 = .ok (.istore_n 2, 1) := by decide +kernel
theorem d_Mo_drop_54 : decode b_Mo_drop 54 = .ok (.aload_n 0, 1) := by decide +kernel
theorem d_Mo_drop_55 : decode b_Mo_drop 55 = .ok (.aload_n 0, 1) := by decide +kernel
