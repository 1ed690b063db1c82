theorem dX5_init_0 : decode cX5_init 0 = .ok (.aload_n 0, 1) := by decide +kernel
theorem dX5_init_1 : decode cX5_init 1 = .ok (.invokespecial 1, 3) := by decide +kernel
theorem dX5_init_4 : decode cX5_init 4 = .ok (.aload_n 0, 1) := by decide +kernel
theorem dX5_init_5 : decode cX5_init 5 = .ok (.bipush 60, 2) := by decide +kernel
theorem dX5_init_7 : decode cX5_init 7 = .ok (.newarray .int, 2) := by decide +kernel
theorem dX5_init_9 : decode cX5_init 9 = .ok (.putfield 7, 3) := by decide +kernel
theorem dX5_init_12 : decode cX5_init 12 = .ok (.aload_n 0, 1) := by decide +kernel
theorem dX5_init_13 : decode cX5_init 13 = .ok (.bipush 120, 2) := by decide +kernel
theorem dX5_init_15 : decode cX5_init 15 = .ok (.newarray .int, 2) := by decide +kernel
theorem dX5_init_17 : decode cX5_init 17 = .ok (.putfield 13, 3) := by decide +kernel
theorem dX5_init_20 : decode cX5_init 20 = .ok (.aload_n 0, 1) := by decide +kernel
theorem dX5_init_21 : decode cX5_init 21 = .ok (.bipush 24, 2) := by decide +kernel
theorem dX5_init_23 : decode cX5_init 23 = .ok (.newarray .int, 2) := by decide +kernel
theorem dX5_init_25 : decode cX5_init 25 = .ok (.putfield 16, 3) := by decide +kernel
theorem dX5_init_28 : decode cX5_init 28 = .ok (.aload_n 0, 1) := by decide +kernel
theorem dX5_init_29 : decode cX5_init 29 = .ok (.sipush 504, 3) := by decide +kernel
theorem dX5_init_32 : decode cX5_init 32 = .ok (.newarray .int, 2) := by decide +kernel
theorem dX5_init_34 : decode cX5_init 34 = .ok (.putfield 19, 3) := by decide +kernel
theorem dX5_init_37 : decode cX5_init 37 = .ok (.aload_n 0, 1) := by decide +kernel
theorem dX5_init_38 : decode cX5_init 38 = .ok (.bipush 30, 2) := by decide +kernel
theorem dX5_init_40 : decode cX5_init 40 = .ok (.newarray .int, 2) := by decide +kernel
theorem dX5_init_42 : decode cX5_init 42 = .ok (.putfield 22, 3) := by decide +kernel
theorem dX5_init_45 : decode cX5_init 45 = .ok (.aload_n 0, 1) := by decide +kernel
theorem dX5_init_46 : decode cX5_init 46 = .ok (.iconst 5, 1) := by decide +kernel
theorem dX5_init_47 : decode cX5_init 47 = .ok (.putfield 25, 3) := by decide +kernel
theorem dX5_init_50 : decode cX5_init 50 = .ok (.aload_n 0, 1) := by decide +kernel
theorem dX5_init_51 : decode cX5_init 51 = .ok (.bipush 6, 2) := by decide +kernel
theorem dX5_init_53 : decode cX5_init 53 = .ok (.newarray .int, 2) := by decide +kernel
theorem dX5_init_55 : decode cX5_init 55 = .ok (.putfield 29, 3) := by decide +kernel
theorem dX5_init_58 : decode cX5_init 58 = .ok (.aload_n 0, 1) := by decide +kernel
theorem dX5_init_59 : decode cX5_init 59 = .ok (.bipush 100, 2) := by decide +kernel
theorem dX5_init_61 : decode cX5_init 61 = .ok (.newarray .int, 2) := by decide +kernel
theorem dX5_init_63 : decode cX5_init 63 = .ok (.putfield 32, 3) := by decide +kernel
theorem dX5_init_66 : decode cX5_init 66 = .ok (.aload_n 0, 1) := by decide +kernel
theorem dX5_init_67 : decode cX5_init 67 = .ok (.iconst 4, 1) := by decide +kernel
theorem dX5_init_68 : decode cX5_init 68 = .ok (.newarray .int, 2) := by decide +kernel
theorem dX5_init_70 : decode cX5_init 70 = .ok (.putfield 35, 3) := by decide +kernel
theorem dX5_init_73 : decode cX5_init 73 = .ok (.aload_n 0, 1) := by decide +kernel
theorem dX5_init_74 : decode cX5_init 74 = .ok (.iconst 4, 1) := by decide +kernel
theorem dX5_init_75 : decode cX5_init 75 = .ok (.newarray .int, 2) := by decide +kernel
theorem dX5_init_77 : decode cX5_init 77 = .ok (.putfield 38, 3) := by decide +kernel
theorem dX5_init_80 : decode cX5_init 80 = .ok (.aload_n 0, 1) := by decide +kernel
theorem dX5_init_81 : decode cX5_init 81 = .ok (.iconst 4, 1) := by decide +kernel
theorem dX5_init_82 : decode cX5_init 82 = .ok (.newarray .int, 2) := by decide +kernel
theorem dX5_init_84 : decode cX5_init 84 = .ok (.putfield 41, 3) := by decide +kernel
theorem dX5_init_87 : decode cX5_init 87 = .ok (.aload_n 0, 1) := by decide +kernel
theorem dX5_init_88 : decode cX5_init 88 = .ok (.iconst 4, 1) := by decide +kernel
theorem dX5_init_89 : decode cX5_init 89 = .ok (.newarray .int, 2) := by decide +kernel
theorem dX5_init_91 : decode cX5_init 91 = .ok (.putfield 44, 3) := by decide +kernel
theorem dX5_init_94 : decode cX5_init 94 = .ok (.aload_n 0, 1) := by decide +kernel
theorem dX5_init_95 : decode cX5_init 95 = .ok (.bipush 120, 2) := by decide +kernel
theorem dX5_init_97 : decode cX5_init 97 = .ok (.newarray .int, 2) := by decide +kernel
theorem dX5_init_99 : decode cX5_init 99 = .ok (.putfield 47, 3) := by decide +kernel
theorem dX5_init_102 : decode cX5_init 102 = .ok (.aload_n 0, 1) := by decide +kernel
theorem dX5_init_103 : decode cX5_init 103 = .ok (.bipush 120, 2) := by decide +kernel
theorem dX5_init_105 : decode cX5_init 105 = .ok (.newarray .int, 2) := by decide +kernel
theorem dX5_init_107 : decode cX5_init 107 = .ok (.putfield 50, 3) := by decide +kernel
theorem dX5_init_110 : decode cX5_init 110 = .ok (.aload_n 0, 1) := by decide +kernel
theorem dX5_init_111 : decode cX5_init 111 = .ok (.bipush 120, 2) := by decide +kernel
theorem dX5_init_113 : decode cX5_init 113 = .ok (.newarray .int, 2) := by decide +kernel
theorem dX5_init_115 : decode cX5_init 115 = .ok (.putfield 53, 3) := by decide +kernel
theorem dX5_init_118 : decode cX5_init 118 = .ok (.aload_n 0, 1) := by decide +kernel
theorem dX5_init_119 : decode cX5_init 119 = .ok (.bipush 120, 2) := by decide +kernel
theorem dX5_init_121 : decode cX5_init 121 = .ok (.newarray .int, 2) := by decide +kernel
theorem dX5_init_123 : decode cX5_init 123 = .ok (.putfield 56, 3) := by decide +kernel
theorem dX5_init_126 : decode cX5_init 126 = .ok (.aload_n 0, 1) := by decide +kernel
theorem dX5_init_127 : decode cX5_init 127 = .ok (.sipush 1372, 3) := by decide +kernel
theorem dX5_init_130 : decode cX5_init 130 = .ok (.newarray .int, 2) := by decide +kernel
theorem dX5_init_132 : decode cX5_init 132 = .ok (.putfield 59, 3) := by decide +kernel
theorem dX5_init_135 : decode cX5_init 135 = .ok (.aload_n 0, 1) := by decide +kernel
theorem dX5_init_136 : decode cX5_init 136 = .ok (.iconst 2, 1) := by decide +kernel
theorem dX5_init_137 : decode cX5_init 137 = .ok (.newarray .boolean, 2) := by decide +kernel
theorem dX5_init_139 : decode cX5_init 139 = .ok (.putfield 62, 3) := by decide +kernel
theorem dX5_init_142 : decode cX5_init 142 = .ok (.iconst 0, 1) := by decide +kernel
theorem dX5_init_143 : decode cX5_init 143 = .ok (.istore_n 1, 1) := by decide +kernel
theorem dX5_init_144 : decode cX5_init 144 = .ok (.iload_n 1, 1) := by decide +kernel
theorem dX5_init_145 : decode cX5_init 145 = .ok (.bipush 120, 2) := by decide +kernel
theorem dX5_init_147 : decode cX5_init 147 = .ok (.if_icmp .ge 52, 3) := by decide +kernel
theorem dX5_init_150 : decode cX5_init 150 = .ok (.iload_n 1, 1) := by decide +kernel
theorem dX5_init_151 : decode cX5_init 151 = .ok (.bipush 24, 2) := by decide +kernel
theorem dX5_init_153 : decode cX5_init 153 = .ok (.idiv, 1) := by decide +kernel
theorem dX5_init_154 : decode cX5_init 154 = .ok (.istore_n 2, 1) := by decide +kernel
theorem dX5_init_155 : decode cX5_init 155 = .ok (.aload_n 0, 1) := by decide +kernel
theorem dX5_init_156 : decode cX5_init 156 = .ok (.getfield 13, 3) := by decide +kernel
theorem dX5_init_159 : decode cX5_init 159 = .ok (.iload_n 1, 1) := by decide +kernel
theorem dX5_init_160 : decode cX5_init 160 = .ok (.iload_n 2, 1) := by decide +kernel
theorem dX5_init_161 : decode cX5_init 161 = .ok (.iconst 2, 1) := by decide +kernel
theorem dX5_init_162 : decode cX5_init 162 = .ok (.if_icmp .ge 8, 3) := by decide +kernel
theorem dX5_init_165 : decode cX5_init 165 = .ok (.bipush 118, 2) := by decide +kernel
theorem dX5_init_167 : decode cX5_init 167 = .ok (.goto 25, 3) := by decide +kernel
theorem dX5_init_170 : decode cX5_init 170 = .ok (.iload_n 2, 1) := by decide +kernel
theorem dX5_init_171 : decode cX5_init 171 = .ok (.iconst 2, 1) := by decide +kernel
theorem dX5_init_172 : decode cX5_init 172 = .ok (.if_icmp .ne 8, 3) := by decide +kernel
theorem dX5_init_175 : decode cX5_init 175 = .ok (.bipush 109, 2) := by decide +kernel
theorem dX5_init_177 : decode cX5_init 177 = .ok (.goto 15, 3) := by decide +kernel
theorem dX5_init_180 : decode cX5_init 180 = .ok (.iload_n 2, 1) := by decide +kernel
theorem dX5_init_181 : decode cX5_init 181 = .ok (.iconst 3, 1) := by decide +kernel
theorem dX5_init_182 : decode cX5_init 182 = .ok (.if_icmp .ne 8, 3) := by decide +kernel
theorem dX5_init_185 : decode cX5_init 185 = .ok (.bipush 114, 2) := by decide +kernel
theorem dX5_init_187 : decode cX5_init 187 = .ok (.goto 5, 3) := by decide +kernel
theorem dX5_init_190 : decode cX5_init 190 = .ok (.bipush 115, 2) := by decide +kernel
theorem dX5_init_192 : decode cX5_init 192 = .ok (.iastore, 1) := by decide +kernel
theorem dX5_init_193 : decode cX5_init 193 = .ok (.iinc 1 1, 3) := by decide +kernel
theorem dX5_init_196 : decode cX5_init 196 = .ok (.goto (-52), 3) := by decide +kernel
theorem dX5_init_199 : decode cX5_init 199 = .ok (.iconst 0, 1) := by decide +kernel
theorem dX5_init_200 : decode cX5_init 200 = .ok (.istore_n 1, 1) := by decide +kernel
theorem dX5_init_201 : decode cX5_init 201 = .ok (.iload_n 1, 1) := by decide +kernel
theorem dX5_init_202 : decode cX5_init 202 = .ok (.bipush 6, 2) := by decide +kernel
theorem dX5_init_204 : decode cX5_init 204 = .ok (.if_icmp .ge 52, 3) := by decide +kernel
theorem dX5_init_207 : decode cX5_init 207 = .ok (.aload_n 0, 1) := by decide +kernel
theorem dX5_init_208 : decode cX5_init 208 = .ok (.getfield 22, 3) := by decide +kernel
theorem dX5_init_211 : decode cX5_init 211 = .ok (.iconst 5, 1) := by decide +kernel
theorem dX5_init_212 : decode cX5_init 212 = .ok (.iload_n 1, 1) := by decide +kernel
theorem dX5_init_213 : decode cX5_init 213 = .ok (.imul, 1) := by decide +kernel
theorem dX5_init_214 : decode cX5_init 214 = .ok (.bipush 10, 2) := by decide +kernel
theorem dX5_init_216 : decode cX5_init 216 = .ok (.iastore, 1) := by decide +kernel
theorem dX5_init_217 : decode cX5_init 217 = .ok (.aload_n 0, 1) := by decide +kernel
theorem dX5_init_218 : decode cX5_init 218 = .ok (.getfield 22, 3) := by decide +kernel
theorem dX5_init_221 : decode cX5_init 221 = .ok (.iconst 5, 1) := by decide +kernel
theorem dX5_init_222 : decode cX5_init 222 = .ok (.iload_n 1, 1) := by decide +kernel
theorem dX5_init_223 : decode cX5_init 223 = .ok (.imul, 1) := by decide +kernel
theorem dX5_init_224 : decode cX5_init 224 = .ok (.iconst 1, 1) := by decide +kernel
theorem dX5_init_225 : decode cX5_init 225 = .ok (.iadd, 1) := by decide +kernel
theorem dX5_init_226 : decode cX5_init 226 = .ok (.iconst 4, 1) := by decide +kernel
theorem dX5_init_227 : decode cX5_init 227 = .ok (.iastore, 1) := by decide +kernel
theorem dX5_init_228 : decode cX5_init 228 = .ok (.aload_n 0, 1) := by decide +kernel
theorem dX5_init_229 : decode cX5_init 229 = .ok (.getfield 22, 3) := by decide +kernel
theorem dX5_init_232 : decode cX5_init 232 = .ok (.iconst 5, 1) := by decide +kernel
theorem dX5_init_233 : decode cX5_init 233 = .ok (.iload_n 1, 1) := by decide +kernel
theorem dX5_init_234 : decode cX5_init 234 = .ok (.imul, 1) := by decide +kernel
theorem dX5_init_235 : decode cX5_init 235 = .ok (.iconst 2, 1) := by decide +kernel
theorem dX5_init_236 : decode cX5_init 236 = .ok (.iadd, 1) := by decide +kernel
theorem dX5_init_237 : decode cX5_init 237 = .ok (.iconst 3, 1) := by decide +kernel
theorem dX5_init_238 : decode cX5_init 238 = .ok (.iastore, 1) := by decide +kernel
theorem dX5_init_239 : decode cX5_init 239 = .ok (.aload_n 0, 1) := by decide +kernel
theorem dX5_init_240 : decode cX5_init 240 = .ok (.getfield 22, 3) := by decide +kernel
theorem dX5_init_243 : decode cX5_init 243 = .ok (.iconst 5, 1) := by decide +kernel
theorem dX5_init_244 : decode cX5_init 244 = .ok (.iload_n 1, 1) := by decide +kernel
theorem dX5_init_245 : decode cX5_init 245 = .ok (.imul, 1) := by decide +kernel
theorem dX5_init_246 : decode cX5_init 246 = .ok (.iconst 4, 1) := by decide +kernel
theorem dX5_init_247 : decode cX5_init 247 = .ok (.iadd, 1) := by decide +kernel
theorem dX5_init_248 : decode cX5_init 248 = .ok (.iconst 1, 1) := by decide +kernel
theorem dX5_init_249 : decode cX5_init 249 = .ok (.iastore, 1) := by decide +kernel
theorem dX5_init_250 : decode cX5_init 250 = .ok (.iinc 1 1, 3) := by decide +kernel
theorem dX5_init_253 : decode cX5_init 253 = .ok (.goto (-52), 3) := by decide +kernel
theorem dX5_init_256 : decode cX5_init 256 = .ok (.return_, 1) := by decide +kernel
theorem dX5_in_0 : decode cX5_in 0 = .ok (.iload_n 0, 1) := by decide +kernel
theorem dX5_in_1 : decode cX5_in 1 = .ok (.iload_n 1, 1) := by decide +kernel
theorem dX5_in_2 : decode cX5_in 2 = .ok (.if_icmp .lt 12, 3) := by decide +kernel
theorem dX5_in_5 : decode cX5_in 5 = .ok (.iload_n 0, 1) := by decide +kernel
theorem dX5_in_6 : decode cX5_in 6 = .ok (.iload_n 2, 1) := by decide +kernel
theorem dX5_in_7 : decode cX5_in 7 = .ok (.if_icmp .gt 7, 3) := by decide +kernel
theorem dX5_in_10 : decode cX5_in 10 = .ok (.iconst 1, 1) := by decide +kernel
theorem dX5_in_11 : decode cX5_in 11 = .ok (.goto 4, 3) := by decide +kernel
theorem dX5_in_14 : decode cX5_in 14 = .ok (.iconst 0, 1) := by decide +kernel
theorem dX5_in_15 : decode cX5_in 15 = .ok (.ireturn, 1) := by decide +kernel
theorem dX5_isHeir_0 : decode cX5_isHeir 0 = .ok (.iload_n 0, 1) := by decide +kernel
theorem dX5_isHeir_1 : decode cX5_isHeir 1 = .ok (.iconst 0, 1) := by decide +kernel
theorem dX5_isHeir_2 : decode cX5_isHeir 2 = .ok (.iconst 5, 1) := by decide +kernel
theorem dX5_isHeir_3 : decode cX5_isHeir 3 = .ok (.invokestatic 66, 3) := by decide +kernel
theorem dX5_isHeir_6 : decode cX5_isHeir 6 = .ok (.ireturn, 1) := by decide +kernel
theorem dX5_isSector_0 : decode cX5_isSector 0 = .ok (.iload_n 0, 1) := by decide +kernel
theorem dX5_isSector_1 : decode cX5_isSector 1 = .ok (.iconst 0, 1) := by decide +kernel
theorem dX5_isSector_2 : decode cX5_isSector 2 = .ok (.bipush 23, 2) := by decide +kernel
theorem dX5_isSector_4 : decode cX5_isSector 4 = .ok (.invokestatic 66, 3) := by decide +kernel
theorem dX5_isSector_7 : decode cX5_isSector 7 = .ok (.ireturn, 1) := by decide +kernel
theorem dX5_isRing_0 : decode cX5_isRing 0 = .ok (.iload_n 0, 1) := by decide +kernel
theorem dX5_isRing_1 : decode cX5_isRing 1 = .ok (.iconst 0, 1) := by decide +kernel
theorem dX5_isRing_2 : decode cX5_isRing 2 = .ok (.iconst 4, 1) := by decide +kernel
theorem dX5_isRing_3 : decode cX5_isRing 3 = .ok (.invokestatic 66, 3) := by decide +kernel
theorem dX5_isRing_6 : decode cX5_isRing 6 = .ok (.ireturn, 1) := by decide +kernel
theorem dX5_hasBit_0 : decode cX5_hasBit 0 = .ok (.iload_n 0, 1) := by decide +kernel
theorem dX5_hasBit_1 : decode cX5_hasBit 1 = .ok (.iload_n 1, 1) := by decide +kernel
theorem dX5_hasBit_2 : decode cX5_hasBit 2 = .ok (.ishr, 1) := by decide +kernel
theorem dX5_hasBit_3 : decode cX5_hasBit 3 = .ok (.iconst 1, 1) := by decide +kernel
theorem dX5_hasBit_4 : decode cX5_hasBit 4 = .ok (.iand, 1) := by decide +kernel
theorem dX5_hasBit_5 : decode cX5_hasBit 5 = .ok (.iconst 1, 1) := by decide +kernel
theorem dX5_hasBit_6 : decode cX5_hasBit 6 = .ok (.if_icmp .ne 7, 3) := by decide +kernel
theorem dX5_hasBit_9 : decode cX5_hasBit 9 = .ok (.iconst 1, 1) := by decide +kernel
theorem dX5_hasBit_10 : decode cX5_hasBit 10 = .ok (.goto 4, 3) := by decide +kernel
theorem dX5_hasBit_13 : decode cX5_hasBit 13 = .ok (.iconst 0, 1) := by decide +kernel
theorem dX5_hasBit_14 : decode cX5_hasBit 14 = .ok (.ireturn, 1) := by decide +kernel
theorem dX5_next_0 : decode cX5_next 0 = .ok (.iload_n 0, 1) := by decide +kernel
theorem dX5_next_1 : decode cX5_next 1 = .ok (.iconst 1, 1) := by decide +kernel
theorem dX5_next_2 : decode cX5_next 2 = .ok (.iadd, 1) := by decide +kernel
theorem dX5_next_3 : decode cX5_next 3 = .ok (.bipush 24, 2) := by decide +kernel
theorem dX5_next_5 : decode cX5_next 5 = .ok (.irem, 1) := by decide +kernel
theorem dX5_next_6 : decode cX5_next 6 = .ok (.ireturn, 1) := by decide +kernel
theorem dX5_before_0 : decode cX5_before 0 = .ok (.iload_n 0, 1) := by decide +kernel
theorem dX5_before_1 : decode cX5_before 1 = .ok (.bipush 24, 2) := by decide +kernel
theorem dX5_before_3 : decode cX5_before 3 = .ok (.iadd, 1) := by decide +kernel
theorem dX5_before_4 : decode cX5_before 4 = .ok (.iconst 1, 1) := by decide +kernel
theorem dX5_before_5 : decode cX5_before 5 = .ok (.isub, 1) := by decide +kernel
theorem dX5_before_6 : decode cX5_before 6 = .ok (.bipush 24, 2) := by decide +kernel
theorem dX5_before_8 : decode cX5_before 8 = .ok (.irem, 1) := by decide +kernel
theorem dX5_before_9 : decode cX5_before 9 = .ok (.ireturn, 1) := by decide +kernel
theorem dX5_say_0 : decode cX5_say 0 = .ok (.iload_n 1, 1) := by decide +kernel
theorem dX5_say_1 : decode cX5_say 1 = .ok (.bipush 33, 2) := by decide +kernel
theorem dX5_say_3 : decode cX5_say 3 = .ok (.bipush 126, 2) := by decide +kernel
theorem dX5_say_5 : decode cX5_say 5 = .ok (.invokestatic 66, 3) := by decide +kernel
theorem dX5_say_8 : decode cX5_say 8 = .ok (.ifCond .ne 6, 3) := by decide +kernel
theorem dX5_say_11 : decode cX5_say 11 = .ok (.bipush (-2), 2) := by decide +kernel
theorem dX5_say_13 : decode cX5_say 13 = .ok (.ireturn, 1) := by decide +kernel
theorem dX5_say_14 : decode cX5_say 14 = .ok (.aload_n 0, 1) := by decide +kernel
theorem dX5_say_15 : decode cX5_say 15 = .ok (.getfield 70, 3) := by decide +kernel
theorem dX5_say_18 : decode cX5_say 18 = .ok (.bipush 60, 2) := by decide +kernel
theorem dX5_say_20 : decode cX5_say 20 = .ok (.if_icmp .ne 6, 3) := by decide +kernel
theorem dX5_say_23 : decode cX5_say 23 = .ok (.bipush (-4), 2) := by decide +kernel
theorem dX5_say_25 : decode cX5_say 25 = .ok (.ireturn, 1) := by decide +kernel
theorem dX5_say_26 : decode cX5_say 26 = .ok (.aload_n 0, 1) := by decide +kernel
theorem dX5_say_27 : decode cX5_say 27 = .ok (.getfield 7, 3) := by decide +kernel
theorem dX5_say_30 : decode cX5_say 30 = .ok (.aload_n 0, 1) := by decide +kernel
theorem dX5_say_31 : decode cX5_say 31 = .ok (.getfield 70, 3) := by decide +kernel
theorem dX5_say_34 : decode cX5_say 34 = .ok (.iload_n 1, 1) := by decide +kernel
theorem dX5_say_35 : decode cX5_say 35 = .ok (.iastore, 1) := by decide +kernel
theorem dX5_say_36 : decode cX5_say 36 = .ok (.aload_n 0, 1) := by decide +kernel
theorem dX5_say_37 : decode cX5_say 37 = .ok (.dup, 1) := by decide +kernel
theorem dX5_say_38 : decode cX5_say 38 = .ok (.getfield 70, 3) := by decide +kernel
theorem dX5_say_41 : decode cX5_say 41 = .ok (.iconst 1, 1) := by decide +kernel
theorem dX5_say_42 : decode cX5_say 42 = .ok (.iadd, 1) := by decide +kernel
theorem dX5_say_43 : decode cX5_say 43 = .ok (.putfield 70, 3) := by decide +kernel
theorem dX5_say_46 : decode cX5_say 46 = .ok (.aload_n 0, 1) := by decide +kernel
theorem dX5_say_47 : decode cX5_say 47 = .ok (.getfield 70, 3) := by decide +kernel
theorem dX5_say_50 : decode cX5_say 50 = .ok (.ireturn, 1) := by decide +kernel
theorem dX5_wipe_0 : decode cX5_wipe 0 = .ok (.aload_n 0, 1) := by decide +kernel
theorem dX5_wipe_1 : decode cX5_wipe 1 = .ok (.getfield 70, 3) := by decide +kernel
theorem dX5_wipe_4 : decode cX5_wipe 4 = .ok (.istore_n 1, 1) := by decide +kernel
theorem dX5_wipe_5 : decode cX5_wipe 5 = .ok (.aload_n 0, 1) := by decide +kernel
theorem dX5_wipe_6 : decode cX5_wipe 6 = .ok (.iconst 0, 1) := by decide +kernel
theorem dX5_wipe_7 : decode cX5_wipe 7 = .ok (.putfield 70, 3) := by decide +kernel
theorem dX5_wipe_10 : decode cX5_wipe 10 = .ok (.iload_n 1, 1) := by decide +kernel
theorem dX5_wipe_11 : decode cX5_wipe 11 = .ok (.ireturn, 1) := by decide +kernel
theorem dX5_sortOf_0 : decode cX5_sortOf 0 = .ok (.iload_n 0, 1) := by decide +kernel
theorem dX5_sortOf_1 : decode cX5_sortOf 1 = .ok (.tableswitch 69 109 119 #[63, 69, 69, 69, 69, 65, 67, 69, 69, 59, 61], 59) := by decide +kernel
theorem dX5_sortOf_60 : decode cX5_sortOf 60 = .ok (.iconst 0, 1) := by decide +kernel
theorem dX5_sortOf_61 : decode cX5_sortOf 61 = .ok (.ireturn, 1) := by decide +kernel
theorem dX5_sortOf_62 : decode cX5_sortOf 62 = .ok (.iconst 1, 1) := by decide +kernel
theorem dX5_sortOf_63 : decode cX5_sortOf 63 = .ok (.ireturn, 1) := by decide +kernel
theorem dX5_sortOf_64 : decode cX5_sortOf 64 = .ok (.iconst 2, 1) := by decide +kernel
theorem dX5_sortOf_65 : decode cX5_sortOf 65 = .ok (.ireturn, 1) := by decide +kernel
theorem dX5_sortOf_66 : decode cX5_sortOf 66 = .ok (.iconst 3, 1) := by decide +kernel
theorem dX5_sortOf_67 : decode cX5_sortOf 67 = .ok (.ireturn, 1) := by decide +kernel
theorem dX5_sortOf_68 : decode cX5_sortOf 68 = .ok (.iconst 4, 1) := by decide +kernel
theorem dX5_sortOf_69 : decode cX5_sortOf 69 = .ok (.ireturn, 1) := by decide +kernel
theorem dX5_sortOf_70 : decode cX5_sortOf 70 = .ok (.bipush (-6), 2) := by decide +kernel
theorem dX5_sortOf_72 : decode cX5_sortOf 72 = .ok (.ireturn, 1) := by decide +kernel
theorem dX5_sectorsOf_0 : decode cX5_sectorsOf 0 = .ok (.iconst 0, 1) := by decide +kernel
theorem dX5_sectorsOf_1 : decode cX5_sectorsOf 1 = .ok (.istore_n 2, 1) := by decide +kernel
theorem dX5_sectorsOf_2 : decode cX5_sectorsOf 2 = .ok (.iconst 0, 1) := by decide +kernel
theorem dX5_sectorsOf_3 : decode cX5_sectorsOf 3 = .ok (.istore_n 3, 1) := by decide +kernel
theorem dX5_sectorsOf_4 : decode cX5_sectorsOf 4 = .ok (.iload_n 3, 1) := by decide +kernel
theorem dX5_sectorsOf_5 : decode cX5_sectorsOf 5 = .ok (.bipush 24, 2) := by decide +kernel
theorem dX5_sectorsOf_7 : decode cX5_sectorsOf 7 = .ok (.if_icmp .ge 27, 3) := by decide +kernel
theorem dX5_sectorsOf_10 : decode cX5_sectorsOf 10 = .ok (.iload_n 2, 1) := by decide +kernel
theorem dX5_sectorsOf_11 : decode cX5_sectorsOf 11 = .ok (.aload_n 0, 1) := by decide +kernel
theorem dX5_sectorsOf_12 : decode cX5_sectorsOf 12 = .ok (.getfield 16, 3) := by decide +kernel
theorem dX5_sectorsOf_15 : decode cX5_sectorsOf 15 = .ok (.iload_n 3, 1) := by decide +kernel
theorem dX5_sectorsOf_16 : decode cX5_sectorsOf 16 = .ok (.iaload, 1) := by decide +kernel
theorem dX5_sectorsOf_17 : decode cX5_sectorsOf 17 = .ok (.iload_n 1, 1) := by decide +kernel
theorem dX5_sectorsOf_18 : decode cX5_sectorsOf 18 = .ok (.if_icmp .ne 7, 3) := by decide +kernel
theorem dX5_sectorsOf_21 : decode cX5_sectorsOf 21 = .ok (.iconst 1, 1) := by decide +kernel
theorem dX5_sectorsOf_22 : decode cX5_sectorsOf 22 = .ok (.goto 4, 3) := by decide +kernel
theorem dX5_sectorsOf_25 : decode cX5_sectorsOf 25 = .ok (.iconst 0, 1) := by decide +kernel
theorem dX5_sectorsOf_26 : decode cX5_sectorsOf 26 = .ok (.iadd, 1) := by decide +kernel
theorem dX5_sectorsOf_27 : decode cX5_sectorsOf 27 = .ok (.istore_n 2, 1) := by decide +kernel
theorem dX5_sectorsOf_28 : decode cX5_sectorsOf 28 = .ok (.iinc 3 1, 3) := by decide +kernel
theorem dX5_sectorsOf_31 : decode cX5_sectorsOf 31 = .ok (.goto (-27), 3) := by decide +kernel
theorem dX5_sectorsOf_34 : decode cX5_sectorsOf 34 = .ok (.iload_n 2, 1) := by decide +kernel
theorem dX5_sectorsOf_35 : decode cX5_sectorsOf 35 = .ok (.ireturn, 1) := by decide +kernel
theorem dX5_isLetter_0 : decode cX5_isLetter 0 = .ok (.iload_n 0, 1) := by decide +kernel
theorem dX5_isLetter_1 : decode cX5_isLetter 1 = .ok (.ifCond .ne 18, 3) := by decide +kernel
theorem dX5_isLetter_4 : decode cX5_isLetter 4 = .ok (.iload_n 1, 1) := by decide +kernel
theorem dX5_isLetter_5 : decode cX5_isLetter 5 = .ok (.invokestatic 73, 3) := by decide +kernel
theorem dX5_isLetter_8 : decode cX5_isLetter 8 = .ok (.ifCond .lt 7, 3) := by decide +kernel
theorem dX5_isLetter_11 : decode cX5_isLetter 11 = .ok (.iconst 1, 1) := by decide +kernel
theorem dX5_isLetter_12 : decode cX5_isLetter 12 = .ok (.goto 15, 3) := by decide +kernel
theorem dX5_isLetter_15 : decode cX5_isLetter 15 = .ok (.iconst 0, 1) := by decide +kernel
theorem dX5_isLetter_16 : decode cX5_isLetter 16 = .ok (.goto 11, 3) := by decide +kernel
theorem dX5_isLetter_19 : decode cX5_isLetter 19 = .ok (.iload_n 1, 1) := by decide +kernel
theorem dX5_isLetter_20 : decode cX5_isLetter 20 = .ok (.bipush 97, 2) := by decide +kernel
theorem dX5_isLetter_22 : decode cX5_isLetter 22 = .ok (.bipush 102, 2) := by decide +kernel
theorem dX5_isLetter_24 : decode cX5_isLetter 24 = .ok (.invokestatic 66, 3) := by decide +kernel
theorem dX5_isLetter_27 : decode cX5_isLetter 27 = .ok (.ireturn, 1) := by decide +kernel
theorem dX5_faultOf_0 : decode cX5_faultOf 0 = .ok (.iconst 0, 1) := by decide +kernel
theorem dX5_faultOf_1 : decode cX5_faultOf 1 = .ok (.istore_n 2, 1) := by decide +kernel
theorem dX5_faultOf_2 : decode cX5_faultOf 2 = .ok (.bipush 24, 2) := by decide +kernel
theorem dX5_faultOf_4 : decode cX5_faultOf 4 = .ok (.istore_n 3, 1) := by decide +kernel
theorem dX5_faultOf_5 : decode cX5_faultOf 5 = .ok (.iload_n 1, 1) := by decide +kernel
theorem dX5_faultOf_6 : decode cX5_faultOf 6 = .ok (.iconst 2, 1) := by decide +kernel
theorem dX5_faultOf_7 : decode cX5_faultOf 7 = .ok (.if_icmp .ne 65, 3) := by decide +kernel
theorem dX5_faultOf_10 : decode cX5_faultOf 10 = .ok (.aload_n 0, 1) := by decide +kernel
theorem dX5_faultOf_11 : decode cX5_faultOf 11 = .ok (.getfield 70, 3) := by decide +kernel
theorem dX5_faultOf_14 : decode cX5_faultOf 14 = .ok (.ifCond .eq 19, 3) := by decide +kernel
theorem dX5_faultOf_17 : decode cX5_faultOf 17 = .ok (.aload_n 0, 1) := by decide +kernel
theorem dX5_faultOf_18 : decode cX5_faultOf 18 = .ok (.getfield 7, 3) := by decide +kernel
theorem dX5_faultOf_21 : decode cX5_faultOf 21 = .ok (.iconst 0, 1) := by decide +kernel
theorem dX5_faultOf_22 : decode cX5_faultOf 22 = .ok (.iaload, 1) := by decide +kernel
theorem dX5_faultOf_23 : decode cX5_faultOf 23 = .ok (.bipush 97, 2) := by decide +kernel
theorem dX5_faultOf_25 : decode cX5_faultOf 25 = .ok (.bipush 102, 2) := by decide +kernel
theorem dX5_faultOf_27 : decode cX5_faultOf 27 = .ok (.invokestatic 66, 3) := by decide +kernel
theorem dX5_faultOf_30 : decode cX5_faultOf 30 = .ok (.ifCond .ne 5, 3) := by decide +kernel
theorem dX5_faultOf_33 : decode cX5_faultOf 33 = .ok (.iconst 0, 1) := by decide +kernel
theorem dX5_faultOf_34 : decode cX5_faultOf 34 = .ok (.ireturn, 1) := by decide +kernel
theorem dX5_faultOf_35 : decode cX5_faultOf 35 = .ok (.aload_n 0, 1) := by decide +kernel
theorem dX5_faultOf_36 : decode cX5_faultOf 36 = .ok (.getfield 70, 3) := by decide +kernel
theorem dX5_faultOf_39 : decode cX5_faultOf 39 = .ok (.iconst 1, 1) := by decide +kernel
theorem dX5_faultOf_40 : decode cX5_faultOf 40 = .ok (.if_icmp .eq 14, 3) := by decide +kernel
theorem dX5_faultOf_43 : decode cX5_faultOf 43 = .ok (.aload_n 0, 1) := by decide +kernel
theorem dX5_faultOf_44 : decode cX5_faultOf 44 = .ok (.getfield 7, 3) := by decide +kernel
theorem dX5_faultOf_47 : decode cX5_faultOf 47 = .ok (.iconst 1, 1) := by decide +kernel
theorem dX5_faultOf_48 : decode cX5_faultOf 48 = .ok (.iaload, 1) := by decide +kernel
theorem dX5_faultOf_49 : decode cX5_faultOf 49 = .ok (.bipush 58, 2) := by decide +kernel
theorem dX5_faultOf_51 : decode cX5_faultOf 51 = .ok (.if_icmp .eq 5, 3) := by decide +kernel
theorem dX5_faultOf_54 : decode cX5_faultOf 54 = .ok (.iconst 1, 1) := by decide +kernel
theorem dX5_faultOf_55 : decode cX5_faultOf 55 = .ok (.ireturn, 1) := by decide +kernel
theorem dX5_faultOf_56 : decode cX5_faultOf 56 = .ok (.iconst 2, 1) := by decide +kernel
theorem dX5_faultOf_57 : decode cX5_faultOf 57 = .ok (.istore_n 2, 1) := by decide +kernel
theorem dX5_faultOf_58 : decode cX5_faultOf 58 = .ok (.aload_n 0, 1) := by decide +kernel
theorem dX5_faultOf_59 : decode cX5_faultOf 59 = .ok (.aload_n 0, 1) := by decide +kernel
theorem dX5_faultOf_60 : decode cX5_faultOf 60 = .ok (.getfield 7, 3) := by decide +kernel
theorem dX5_faultOf_63 : decode cX5_faultOf 63 = .ok (.iconst 0, 1) := by decide +kernel
theorem dX5_faultOf_64 : decode cX5_faultOf 64 = .ok (.iaload, 1) := by decide +kernel
theorem dX5_faultOf_65 : decode cX5_faultOf 65 = .ok (.bipush 97, 2) := by decide +kernel
theorem dX5_faultOf_67 : decode cX5_faultOf 67 = .ok (.isub, 1) := by decide +kernel
theorem dX5_faultOf_68 : decode cX5_faultOf 68 = .ok (.invokevirtual 77, 3) := by decide +kernel
theorem dX5_faultOf_71 : decode cX5_faultOf 71 = .ok (.istore_n 3, 1) := by decide +kernel
theorem dX5_faultOf_72 : decode cX5_faultOf 72 = .ok (.iload_n 2, 1) := by decide +kernel
theorem dX5_faultOf_73 : decode cX5_faultOf 73 = .ok (.istore 4, 2) := by decide +kernel
theorem dX5_faultOf_75 : decode cX5_faultOf 75 = .ok (.iload 4, 2) := by decide +kernel
theorem dX5_faultOf_77 : decode cX5_faultOf 77 = .ok (.aload_n 0, 1) := by decide +kernel
theorem dX5_faultOf_78 : decode cX5_faultOf 78 = .ok (.getfield 70, 3) := by decide +kernel
theorem dX5_faultOf_81 : decode cX5_faultOf 81 = .ok (.if_icmp .ge 124, 3) := by decide +kernel
theorem dX5_faultOf_84 : decode cX5_faultOf 84 = .ok (.iload 4, 2) := by decide +kernel
theorem dX5_faultOf_86 : decode cX5_faultOf 86 = .ok (.iload_n 2, 1) := by decide +kernel
theorem dX5_faultOf_87 : decode cX5_faultOf 87 = .ok (.isub, 1) := by decide +kernel
theorem dX5_faultOf_88 : decode cX5_faultOf 88 = .ok (.iconst 2, 1) := by decide +kernel
theorem dX5_faultOf_89 : decode cX5_faultOf 89 = .ok (.irem, 1) := by decide +kernel
theorem dX5_faultOf_90 : decode cX5_faultOf 90 = .ok (.ifCond .ne 7, 3) := by decide +kernel
theorem dX5_faultOf_93 : decode cX5_faultOf 93 = .ok (.iconst 1, 1) := by decide +kernel
theorem dX5_faultOf_94 : decode cX5_faultOf 94 = .ok (.goto 4, 3) := by decide +kernel
theorem dX5_faultOf_97 : decode cX5_faultOf 97 = .ok (.iconst 0, 1) := by decide +kernel
theorem dX5_faultOf_98 : decode cX5_faultOf 98 = .ok (.istore 5, 2) := by decide +kernel
theorem dX5_faultOf_100 : decode cX5_faultOf 100 = .ok (.iload 5, 2) := by decide +kernel
theorem dX5_faultOf_102 : decode cX5_faultOf 102 = .ok (.ifCond .eq 29, 3) := by decide +kernel
theorem dX5_faultOf_105 : decode cX5_faultOf 105 = .ok (.iload_n 3, 1) := by decide +kernel
theorem dX5_faultOf_106 : decode cX5_faultOf 106 = .ok (.ifCond .le 21, 3) := by decide +kernel
theorem dX5_faultOf_109 : decode cX5_faultOf 109 = .ok (.iload_n 1, 1) := by decide +kernel
theorem dX5_faultOf_110 : decode cX5_faultOf 110 = .ok (.aload_n 0, 1) := by decide +kernel
theorem dX5_faultOf_111 : decode cX5_faultOf 111 = .ok (.getfield 7, 3) := by decide +kernel
theorem dX5_faultOf_114 : decode cX5_faultOf 114 = .ok (.iload 4, 2) := by decide +kernel
theorem dX5_faultOf_116 : decode cX5_faultOf 116 = .ok (.iaload, 1) := by decide +kernel
theorem dX5_faultOf_117 : decode cX5_faultOf 117 = .ok (.invokestatic 80, 3) := by decide +kernel
theorem dX5_faultOf_120 : decode cX5_faultOf 120 = .ok (.ifCond .eq 7, 3) := by decide +kernel
theorem dX5_faultOf_123 : decode cX5_faultOf 123 = .ok (.iconst 1, 1) := by decide +kernel
theorem dX5_faultOf_124 : decode cX5_faultOf 124 = .ok (.goto 43, 3) := by decide +kernel
theorem dX5_faultOf_127 : decode cX5_faultOf 127 = .ok (.iconst 0, 1) := by decide +kernel
theorem dX5_faultOf_128 : decode cX5_faultOf 128 = .ok (.goto 39, 3) := by decide +kernel
theorem dX5_faultOf_131 : decode cX5_faultOf 131 = .ok (.aload_n 0, 1) := by decide +kernel
theorem dX5_faultOf_132 : decode cX5_faultOf 132 = .ok (.getfield 7, 3) := by decide +kernel
theorem dX5_faultOf_135 : decode cX5_faultOf 135 = .ok (.iload 4, 2) := by decide +kernel
theorem dX5_faultOf_137 : decode cX5_faultOf 137 = .ok (.iaload, 1) := by decide +kernel
theorem dX5_faultOf_138 : decode cX5_faultOf 138 = .ok (.bipush 49, 2) := by decide +kernel
theorem dX5_faultOf_140 : decode cX5_faultOf 140 = .ok (.bipush 57, 2) := by decide +kernel
theorem dX5_faultOf_142 : decode cX5_faultOf 142 = .ok (.invokestatic 66, 3) := by decide +kernel
theorem dX5_faultOf_145 : decode cX5_faultOf 145 = .ok (.ifCond .eq 21, 3) := by decide +kernel
theorem dX5_faultOf_148 : decode cX5_faultOf 148 = .ok (.aload_n 0, 1) := by decide +kernel
theorem dX5_faultOf_149 : decode cX5_faultOf 149 = .ok (.getfield 7, 3) := by decide +kernel
theorem dX5_faultOf_152 : decode cX5_faultOf 152 = .ok (.iload 4, 2) := by decide +kernel
theorem dX5_faultOf_154 : decode cX5_faultOf 154 = .ok (.iaload, 1) := by decide +kernel
theorem dX5_faultOf_155 : decode cX5_faultOf 155 = .ok (.bipush 48, 2) := by decide +kernel
theorem dX5_faultOf_157 : decode cX5_faultOf 157 = .ok (.isub, 1) := by decide +kernel
theorem dX5_faultOf_158 : decode cX5_faultOf 158 = .ok (.iload_n 3, 1) := by decide +kernel
theorem dX5_faultOf_159 : decode cX5_faultOf 159 = .ok (.if_icmp .gt 7, 3) := by decide +kernel
theorem dX5_faultOf_162 : decode cX5_faultOf 162 = .ok (.iconst 1, 1) := by decide +kernel
theorem dX5_faultOf_163 : decode cX5_faultOf 163 = .ok (.goto 4, 3) := by decide +kernel
theorem dX5_faultOf_166 : decode cX5_faultOf 166 = .ok (.iconst 0, 1) := by decide +kernel
theorem dX5_faultOf_167 : decode cX5_faultOf 167 = .ok (.istore 6, 2) := by decide +kernel
theorem dX5_faultOf_169 : decode cX5_faultOf 169 = .ok (.iload 6, 2) := by decide +kernel
theorem dX5_faultOf_171 : decode cX5_faultOf 171 = .ok (.ifCond .ne 6, 3) := by decide +kernel
theorem dX5_faultOf_174 : decode cX5_faultOf 174 = .ok (.iload 4, 2) := by decide +kernel
theorem dX5_faultOf_176 : decode cX5_faultOf 176 = .ok (.ireturn, 1) := by decide +kernel
theorem dX5_faultOf_177 : decode cX5_faultOf 177 = .ok (.iload_n 3, 1) := by decide +kernel
theorem dX5_faultOf_178 : decode cX5_faultOf 178 = .ok (.iload 5, 2) := by decide +kernel
theorem dX5_faultOf_180 : decode cX5_faultOf 180 = .ok (.ifCond .eq 7, 3) := by decide +kernel
theorem dX5_faultOf_183 : decode cX5_faultOf 183 = .ok (.iconst 0, 1) := by decide +kernel
theorem dX5_faultOf_184 : decode cX5_faultOf 184 = .ok (.goto 13, 3) := by decide +kernel
theorem dX5_faultOf_187 : decode cX5_faultOf 187 = .ok (.aload_n 0, 1) := by decide +kernel
theorem dX5_faultOf_188 : decode cX5_faultOf 188 = .ok (.getfield 7, 3) := by decide +kernel
theorem dX5_faultOf_191 : decode cX5_faultOf 191 = .ok (.iload 4, 2) := by decide +kernel
theorem dX5_faultOf_193 : decode cX5_faultOf 193 = .ok (.iaload, 1) := by decide +kernel
theorem dX5_faultOf_194 : decode cX5_faultOf 194 = .ok (.bipush 48, 2) := by decide +kernel
theorem dX5_faultOf_196 : decode cX5_faultOf 196 = .ok (.isub, 1) := by decide +kernel
theorem dX5_faultOf_197 : decode cX5_faultOf 197 = .ok (.isub, 1) := by decide +kernel
theorem dX5_faultOf_198 : decode cX5_faultOf 198 = .ok (.istore_n 3, 1) := by decide +kernel
theorem dX5_faultOf_199 : decode cX5_faultOf 199 = .ok (.iinc 4 1, 3) := by decide +kernel
theorem dX5_faultOf_202 : decode cX5_faultOf 202 = .ok (.goto (-127), 3) := by decide +kernel
theorem dX5_faultOf_205 : decode cX5_faultOf 205 = .ok (.iload_n 3, 1) := by decide +kernel
theorem dX5_faultOf_206 : decode cX5_faultOf 206 = .ok (.ifCond .gt 15, 3) := by decide +kernel
theorem dX5_faultOf_209 : decode cX5_faultOf 209 = .ok (.aload_n 0, 1) := by decide +kernel
theorem dX5_faultOf_210 : decode cX5_faultOf 210 = .ok (.getfield 70, 3) := by decide +kernel
theorem dX5_faultOf_213 : decode cX5_faultOf 213 = .ok (.iload_n 2, 1) := by decide +kernel
theorem dX5_faultOf_214 : decode cX5_faultOf 214 = .ok (.isub, 1) := by decide +kernel
theorem dX5_faultOf_215 : decode cX5_faultOf 215 = .ok (.iconst 2, 1) := by decide +kernel
theorem dX5_faultOf_216 : decode cX5_faultOf 216 = .ok (.irem, 1) := by decide +kernel
theorem dX5_faultOf_217 : decode cX5_faultOf 217 = .ok (.iconst 1, 1) := by decide +kernel
theorem dX5_faultOf_218 : decode cX5_faultOf 218 = .ok (.if_icmp .ne 10, 3) := by decide +kernel
theorem dX5_faultOf_221 : decode cX5_faultOf 221 = .ok (.aload_n 0, 1) := by decide +kernel
theorem dX5_faultOf_222 : decode cX5_faultOf 222 = .ok (.getfield 70, 3) := by decide +kernel
theorem dX5_faultOf_225 : decode cX5_faultOf 225 = .ok (.goto 5, 3) := by decide +kernel
theorem dX5_faultOf_228 : decode cX5_faultOf 228 = .ok (.bipush (-6), 2) := by decide +kernel
theorem dX5_faultOf_230 : decode cX5_faultOf 230 = .ok (.ireturn, 1) := by decide +kernel
theorem dX5_fault_0 : decode cX5_fault 0 = .ok (.iload_n 1, 1) := by decide +kernel
theorem dX5_fault_1 : decode cX5_fault 1 = .ok (.iconst 0, 1) := by decide +kernel
theorem dX5_fault_2 : decode cX5_fault 2 = .ok (.iconst 2, 1) := by decide +kernel
theorem dX5_fault_3 : decode cX5_fault 3 = .ok (.invokestatic 66, 3) := by decide +kernel
theorem dX5_fault_6 : decode cX5_fault 6 = .ok (.ifCond .eq 11, 3) := by decide +kernel
theorem dX5_fault_9 : decode cX5_fault 9 = .ok (.aload_n 0, 1) := by decide +kernel
theorem dX5_fault_10 : decode cX5_fault 10 = .ok (.iload_n 1, 1) := by decide +kernel
theorem dX5_fault_11 : decode cX5_fault 11 = .ok (.invokevirtual 84, 3) := by decide +kernel
theorem dX5_fault_14 : decode cX5_fault 14 = .ok (.goto 5, 3) := by decide +kernel
theorem dX5_fault_17 : decode cX5_fault 17 = .ok (.bipush (-2), 2) := by decide +kernel
theorem dX5_fault_19 : decode cX5_fault 19 = .ok (.ireturn, 1) := by decide +kernel
theorem dX5_ring_0 : decode cX5_ring 0 = .ok (.iload_n 1, 1) := by decide +kernel
theorem dX5_ring_1 : decode cX5_ring 1 = .ok (.invokestatic 87, 3) := by decide +kernel
theorem dX5_ring_4 : decode cX5_ring 4 = .ok (.ifCond .ne 5, 3) := by decide +kernel
theorem dX5_ring_7 : decode cX5_ring 7 = .ok (.iconst (-1), 1) := by decide +kernel
theorem dX5_ring_8 : decode cX5_ring 8 = .ok (.ireturn, 1) := by decide +kernel
theorem dX5_ring_9 : decode cX5_ring 9 = .ok (.aload_n 0, 1) := by decide +kernel
theorem dX5_ring_10 : decode cX5_ring 10 = .ok (.iconst 0, 1) := by decide +kernel
theorem dX5_ring_11 : decode cX5_ring 11 = .ok (.invokevirtual 84, 3) := by decide +kernel
theorem dX5_ring_14 : decode cX5_ring 14 = .ok (.ifCond .lt 6, 3) := by decide +kernel
theorem dX5_ring_17 : decode cX5_ring 17 = .ok (.bipush (-5), 2) := by decide +kernel
theorem dX5_ring_19 : decode cX5_ring 19 = .ok (.ireturn, 1) := by decide +kernel
theorem dX5_ring_20 : decode cX5_ring 20 = .ok (.iconst 0, 1) := by decide +kernel
theorem dX5_ring_21 : decode cX5_ring 21 = .ok (.istore_n 2, 1) := by decide +kernel
theorem dX5_ring_22 : decode cX5_ring 22 = .ok (.iconst 0, 1) := by decide +kernel
theorem dX5_ring_23 : decode cX5_ring 23 = .ok (.istore_n 3, 1) := by decide +kernel
theorem dX5_ring_24 : decode cX5_ring 24 = .ok (.iload_n 3, 1) := by decide +kernel
theorem dX5_ring_25 : decode cX5_ring 25 = .ok (.aload_n 0, 1) := by decide +kernel
theorem dX5_ring_26 : decode cX5_ring 26 = .ok (.getfield 70, 3) := by decide +kernel
theorem dX5_ring_29 : decode cX5_ring 29 = .ok (.if_icmp .ge 54, 3) := by decide +kernel
theorem dX5_ring_32 : decode cX5_ring 32 = .ok (.iconst 0, 1) := by decide +kernel
theorem dX5_ring_33 : decode cX5_ring 33 = .ok (.istore 4, 2) := by decide +kernel
theorem dX5_ring_35 : decode cX5_ring 35 = .ok (.iload 4, 2) := by decide +kernel
theorem dX5_ring_37 : decode cX5_ring 37 = .ok (.aload_n 0, 1) := by decide +kernel
theorem dX5_ring_38 : decode cX5_ring 38 = .ok (.getfield 7, 3) := by decide +kernel
theorem dX5_ring_41 : decode cX5_ring 41 = .ok (.iload_n 3, 1) := by decide +kernel
theorem dX5_ring_42 : decode cX5_ring 42 = .ok (.iconst 1, 1) := by decide +kernel
theorem dX5_ring_43 : decode cX5_ring 43 = .ok (.iadd, 1) := by decide +kernel
theorem dX5_ring_44 : decode cX5_ring 44 = .ok (.iaload, 1) := by decide +kernel
theorem dX5_ring_45 : decode cX5_ring 45 = .ok (.bipush 48, 2) := by decide +kernel
theorem dX5_ring_47 : decode cX5_ring 47 = .ok (.isub, 1) := by decide +kernel
theorem dX5_ring_48 : decode cX5_ring 48 = .ok (.if_icmp .ge 29, 3) := by decide +kernel
theorem dX5_ring_51 : decode cX5_ring 51 = .ok (.aload_n 0, 1) := by decide +kernel
theorem dX5_ring_52 : decode cX5_ring 52 = .ok (.getfield 13, 3) := by decide +kernel
theorem dX5_ring_55 : decode cX5_ring 55 = .ok (.bipush 24, 2) := by decide +kernel
theorem dX5_ring_57 : decode cX5_ring 57 = .ok (.iload_n 1, 1) := by decide +kernel
theorem dX5_ring_58 : decode cX5_ring 58 = .ok (.imul, 1) := by decide +kernel
theorem dX5_ring_59 : decode cX5_ring 59 = .ok (.iload_n 2, 1) := by decide +kernel
theorem dX5_ring_60 : decode cX5_ring 60 = .ok (.iadd, 1) := by decide +kernel
theorem dX5_ring_61 : decode cX5_ring 61 = .ok (.aload_n 0, 1) := by decide +kernel
theorem dX5_ring_62 : decode cX5_ring 62 = .ok (.getfield 7, 3) := by decide +kernel
theorem dX5_ring_65 : decode cX5_ring 65 = .ok (.iload_n 3, 1) := by decide +kernel
theorem dX5_ring_66 : decode cX5_ring 66 = .ok (.iaload, 1) := by decide +kernel
theorem dX5_ring_67 : decode cX5_ring 67 = .ok (.iastore, 1) := by decide +kernel
theorem dX5_ring_68 : decode cX5_ring 68 = .ok (.iinc 2 1, 3) := by decide +kernel
theorem dX5_ring_71 : decode cX5_ring 71 = .ok (.iinc 4 1, 3) := by decide +kernel
theorem dX5_ring_74 : decode cX5_ring 74 = .ok (.goto (-39), 3) := by decide +kernel
theorem dX5_ring_77 : decode cX5_ring 77 = .ok (.iinc 3 2, 3) := by decide +kernel
theorem dX5_ring_80 : decode cX5_ring 80 = .ok (.goto (-56), 3) := by decide +kernel
theorem dX5_ring_83 : decode cX5_ring 83 = .ok (.aload_n 0, 1) := by decide +kernel
theorem dX5_ring_84 : decode cX5_ring 84 = .ok (.getfield 70, 3) := by decide +kernel
theorem dX5_ring_87 : decode cX5_ring 87 = .ok (.iconst 2, 1) := by decide +kernel
theorem dX5_ring_88 : decode cX5_ring 88 = .ok (.idiv, 1) := by decide +kernel
theorem dX5_ring_89 : decode cX5_ring 89 = .ok (.istore_n 3, 1) := by decide +kernel
theorem dX5_ring_90 : decode cX5_ring 90 = .ok (.aload_n 0, 1) := by decide +kernel
theorem dX5_ring_91 : decode cX5_ring 91 = .ok (.iconst 0, 1) := by decide +kernel
theorem dX5_ring_92 : decode cX5_ring 92 = .ok (.putfield 70, 3) := by decide +kernel
theorem dX5_ring_95 : decode cX5_ring 95 = .ok (.iload_n 3, 1) := by decide +kernel
theorem dX5_ring_96 : decode cX5_ring 96 = .ok (.ireturn, 1) := by decide +kernel
theorem dX5_keepGeneration_0 : decode cX5_keepGeneration 0 = .ok (.iconst 0, 1) := by decide +kernel
theorem dX5_keepGeneration_1 : decode cX5_keepGeneration 1 = .ok (.istore_n 1, 1) := by decide +kernel
theorem dX5_keepGeneration_2 : decode cX5_keepGeneration 2 = .ok (.iload_n 1, 1) := by decide +kernel
theorem dX5_keepGeneration_3 : decode cX5_keepGeneration 3 = .ok (.bipush 24, 2) := by decide +kernel
theorem dX5_keepGeneration_5 : decode cX5_keepGeneration 5 = .ok (.if_icmp .ge 29, 3) := by decide +kernel
theorem dX5_keepGeneration_8 : decode cX5_keepGeneration 8 = .ok (.aload_n 0, 1) := by decide +kernel
theorem dX5_keepGeneration_9 : decode cX5_keepGeneration 9 = .ok (.getfield 19, 3) := by decide +kernel
theorem dX5_keepGeneration_12 : decode cX5_keepGeneration 12 = .ok (.bipush 24, 2) := by decide +kernel
theorem dX5_keepGeneration_14 : decode cX5_keepGeneration 14 = .ok (.aload_n 0, 1) := by decide +kernel
theorem dX5_keepGeneration_15 : decode cX5_keepGeneration 15 = .ok (.getfield 91, 3) := by decide +kernel
theorem dX5_keepGeneration_18 : decode cX5_keepGeneration 18 = .ok (.imul, 1) := by decide +kernel
theorem dX5_keepGeneration_19 : decode cX5_keepGeneration 19 = .ok (.iload_n 1, 1) := by decide +kernel
theorem dX5_keepGeneration_20 : decode cX5_keepGeneration 20 = .ok (.iadd, 1) := by decide +kernel
theorem dX5_keepGeneration_21 : decode cX5_keepGeneration 21 = .ok (.aload_n 0, 1) := by decide +kernel
theorem dX5_keepGeneration_22 : decode cX5_keepGeneration 22 = .ok (.getfield 16, 3) := by decide +kernel
theorem dX5_keepGeneration_25 : decode cX5_keepGeneration 25 = .ok (.iload_n 1, 1) := by decide +kernel
theorem dX5_keepGeneration_26 : decode cX5_keepGeneration 26 = .ok (.iaload, 1) := by decide +kernel
theorem dX5_keepGeneration_27 : decode cX5_keepGeneration 27 = .ok (.iastore, 1) := by decide +kernel
theorem dX5_keepGeneration_28 : decode cX5_keepGeneration 28 = .ok (.iinc 1 1, 3) := by decide +kernel
theorem dX5_keepGeneration_31 : decode cX5_keepGeneration 31 = .ok (.goto (-29), 3) := by decide +kernel
theorem dX5_keepGeneration_34 : decode cX5_keepGeneration 34 = .ok (.return_, 1) := by decide +kernel
theorem dX5_slices_0 : decode cX5_slices 0 = .ok (.aload_n 0, 1) := by decide +kernel
theorem dX5_slices_1 : decode cX5_slices 1 = .ok (.iconst 1, 1) := by decide +kernel
theorem dX5_slices_2 : decode cX5_slices 2 = .ok (.invokevirtual 84, 3) := by decide +kernel
theorem dX5_slices_5 : decode cX5_slices 5 = .ok (.ifCond .lt 6, 3) := by decide +kernel
theorem dX5_slices_8 : decode cX5_slices 8 = .ok (.bipush (-5), 2) := by decide +kernel
theorem dX5_slices_10 : decode cX5_slices 10 = .ok (.ireturn, 1) := by decide +kernel
theorem dX5_slices_11 : decode cX5_slices 11 = .ok (.iconst 0, 1) := by decide +kernel
theorem dX5_slices_12 : decode cX5_slices 12 = .ok (.istore_n 1, 1) := by decide +kernel
theorem dX5_slices_13 : decode cX5_slices 13 = .ok (.iconst 0, 1) := by decide +kernel
theorem dX5_slices_14 : decode cX5_slices 14 = .ok (.istore_n 2, 1) := by decide +kernel
theorem dX5_slices_15 : decode cX5_slices 15 = .ok (.iload_n 2, 1) := by decide +kernel
theorem dX5_slices_16 : decode cX5_slices 16 = .ok (.aload_n 0, 1) := by decide +kernel
theorem dX5_slices_17 : decode cX5_slices 17 = .ok (.getfield 70, 3) := by decide +kernel
theorem dX5_slices_20 : decode cX5_slices 20 = .ok (.if_icmp .ge 50, 3) := by decide +kernel
theorem dX5_slices_23 : decode cX5_slices 23 = .ok (.iconst 0, 1) := by decide +kernel
theorem dX5_slices_24 : decode cX5_slices 24 = .ok (.istore_n 3, 1) := by decide +kernel
theorem dX5_slices_25 : decode cX5_slices 25 = .ok (.iload_n 3, 1) := by decide +kernel
theorem dX5_slices_26 : decode cX5_slices 26 = .ok (.aload_n 0, 1) := by decide +kernel
theorem dX5_slices_27 : decode cX5_slices 27 = .ok (.getfield 7, 3) := by decide +kernel
theorem dX5_slices_30 : decode cX5_slices 30 = .ok (.iload_n 2, 1) := by decide +kernel
theorem dX5_slices_31 : decode cX5_slices 31 = .ok (.iconst 1, 1) := by decide +kernel
theorem dX5_slices_32 : decode cX5_slices 32 = .ok (.iadd, 1) := by decide +kernel
theorem dX5_slices_33 : decode cX5_slices 33 = .ok (.iaload, 1) := by decide +kernel
theorem dX5_slices_34 : decode cX5_slices 34 = .ok (.bipush 48, 2) := by decide +kernel
theorem dX5_slices_36 : decode cX5_slices 36 = .ok (.isub, 1) := by decide +kernel
theorem dX5_slices_37 : decode cX5_slices 37 = .ok (.if_icmp .ge 27, 3) := by decide +kernel
theorem dX5_slices_40 : decode cX5_slices 40 = .ok (.aload_n 0, 1) := by decide +kernel
theorem dX5_slices_41 : decode cX5_slices 41 = .ok (.getfield 16, 3) := by decide +kernel
theorem dX5_slices_44 : decode cX5_slices 44 = .ok (.iload_n 1, 1) := by decide +kernel
theorem dX5_slices_45 : decode cX5_slices 45 = .ok (.aload_n 0, 1) := by decide +kernel
theorem dX5_slices_46 : decode cX5_slices 46 = .ok (.getfield 7, 3) := by decide +kernel
theorem dX5_slices_49 : decode cX5_slices 49 = .ok (.iload_n 2, 1) := by decide +kernel
theorem dX5_slices_50 : decode cX5_slices 50 = .ok (.iaload, 1) := by decide +kernel
theorem dX5_slices_51 : decode cX5_slices 51 = .ok (.bipush 97, 2) := by decide +kernel
theorem dX5_slices_53 : decode cX5_slices 53 = .ok (.isub, 1) := by decide +kernel
theorem dX5_slices_54 : decode cX5_slices 54 = .ok (.iastore, 1) := by decide +kernel
theorem dX5_slices_55 : decode cX5_slices 55 = .ok (.iinc 1 1, 3) := by decide +kernel
theorem dX5_slices_58 : decode cX5_slices 58 = .ok (.iinc 3 1, 3) := by decide +kernel
theorem dX5_slices_61 : decode cX5_slices 61 = .ok (.goto (-36), 3) := by decide +kernel
theorem dX5_slices_64 : decode cX5_slices 64 = .ok (.iinc 2 2, 3) := by decide +kernel
theorem dX5_slices_67 : decode cX5_slices 67 = .ok (.goto (-52), 3) := by decide +kernel
theorem dX5_slices_70 : decode cX5_slices 70 = .ok (.aload_n 0, 1) := by decide +kernel
theorem dX5_slices_71 : decode cX5_slices 71 = .ok (.getfield 70, 3) := by decide +kernel
theorem dX5_slices_74 : decode cX5_slices 74 = .ok (.iconst 2, 1) := by decide +kernel
theorem dX5_slices_75 : decode cX5_slices 75 = .ok (.idiv, 1) := by decide +kernel
theorem dX5_slices_76 : decode cX5_slices 76 = .ok (.istore_n 2, 1) := by decide +kernel
theorem dX5_slices_77 : decode cX5_slices 77 = .ok (.aload_n 0, 1) := by decide +kernel
theorem dX5_slices_78 : decode cX5_slices 78 = .ok (.iconst 0, 1) := by decide +kernel
theorem dX5_slices_79 : decode cX5_slices 79 = .ok (.putfield 70, 3) := by decide +kernel
theorem dX5_slices_82 : decode cX5_slices 82 = .ok (.aload_n 0, 1) := by decide +kernel
theorem dX5_slices_83 : decode cX5_slices 83 = .ok (.iconst 0, 1) := by decide +kernel
theorem dX5_slices_84 : decode cX5_slices 84 = .ok (.putfield 91, 3) := by decide +kernel
theorem dX5_slices_87 : decode cX5_slices 87 = .ok (.aload_n 0, 1) := by decide +kernel
theorem dX5_slices_88 : decode cX5_slices 88 = .ok (.invokevirtual 94, 3) := by decide +kernel
theorem dX5_slices_91 : decode cX5_slices 91 = .ok (.iload_n 2, 1) := by decide +kernel
theorem dX5_slices_92 : decode cX5_slices 92 = .ok (.ireturn, 1) := by decide +kernel
theorem dX5_will_0 : decode cX5_will 0 = .ok (.aload_n 0, 1) := by decide +kernel
theorem dX5_will_1 : decode cX5_will 1 = .ok (.getfield 91, 3) := by decide +kernel
theorem dX5_will_4 : decode cX5_will 4 = .ok (.bipush 20, 2) := by decide +kernel
theorem dX5_will_6 : decode cX5_will 6 = .ok (.if_icmp .ne 6, 3) := by decide +kernel
theorem dX5_will_9 : decode cX5_will 9 = .ok (.bipush (-4), 2) := by decide +kernel
theorem dX5_will_11 : decode cX5_will 11 = .ok (.ireturn, 1) := by decide +kernel
theorem dX5_will_12 : decode cX5_will 12 = .ok (.aload_n 0, 1) := by decide +kernel
theorem dX5_will_13 : decode cX5_will 13 = .ok (.iconst 2, 1) := by decide +kernel
theorem dX5_will_14 : decode cX5_will 14 = .ok (.invokevirtual 84, 3) := by decide +kernel
theorem dX5_will_17 : decode cX5_will 17 = .ok (.ifCond .lt 6, 3) := by decide +kernel
theorem dX5_will_20 : decode cX5_will 20 = .ok (.bipush (-5), 2) := by decide +kernel
theorem dX5_will_22 : decode cX5_will 22 = .ok (.ireturn, 1) := by decide +kernel
theorem dX5_will_23 : decode cX5_will 23 = .ok (.aload_n 0, 1) := by decide +kernel
theorem dX5_will_24 : decode cX5_will 24 = .ok (.getfield 7, 3) := by decide +kernel
theorem dX5_will_27 : decode cX5_will 27 = .ok (.iconst 0, 1) := by decide +kernel
theorem dX5_will_28 : decode cX5_will 28 = .ok (.iaload, 1) := by decide +kernel
theorem dX5_will_29 : decode cX5_will 29 = .ok (.bipush 97, 2) := by decide +kernel
theorem dX5_will_31 : decode cX5_will 31 = .ok (.isub, 1) := by decide +kernel
theorem dX5_will_32 : decode cX5_will 32 = .ok (.istore_n 1, 1) := by decide +kernel
theorem dX5_will_33 : decode cX5_will 33 = .ok (.iconst 2, 1) := by decide +kernel
theorem dX5_will_34 : decode cX5_will 34 = .ok (.istore_n 2, 1) := by decide +kernel
theorem dX5_will_35 : decode cX5_will 35 = .ok (.iconst 0, 1) := by decide +kernel
theorem dX5_will_36 : decode cX5_will 36 = .ok (.istore_n 3, 1) := by decide +kernel
theorem dX5_will_37 : decode cX5_will 37 = .ok (.iconst 0, 1) := by decide +kernel
theorem dX5_will_38 : decode cX5_will 38 = .ok (.istore 4, 2) := by decide +kernel
theorem dX5_will_40 : decode cX5_will 40 = .ok (.iload 4, 2) := by decide +kernel
theorem dX5_will_42 : decode cX5_will 42 = .ok (.bipush 24, 2) := by decide +kernel
theorem dX5_will_44 : decode cX5_will 44 = .ok (.if_icmp .ge 67, 3) := by decide +kernel
theorem dX5_will_47 : decode cX5_will 47 = .ok (.aload_n 0, 1) := by decide +kernel
theorem dX5_will_48 : decode cX5_will 48 = .ok (.getfield 19, 3) := by decide +kernel
theorem dX5_will_51 : decode cX5_will 51 = .ok (.bipush 24, 2) := by decide +kernel
theorem dX5_will_53 : decode cX5_will 53 = .ok (.aload_n 0, 1) := by decide +kernel
theorem dX5_will_54 : decode cX5_will 54 = .ok (.getfield 91, 3) := by decide +kernel
theorem dX5_will_57 : decode cX5_will 57 = .ok (.imul, 1) := by decide +kernel
theorem dX5_will_58 : decode cX5_will 58 = .ok (.iload 4, 2) := by decide +kernel
theorem dX5_will_60 : decode cX5_will 60 = .ok (.iadd, 1) := by decide +kernel
theorem dX5_will_61 : decode cX5_will 61 = .ok (.iaload, 1) := by decide +kernel
theorem dX5_will_62 : decode cX5_will 62 = .ok (.iload_n 1, 1) := by decide +kernel
theorem dX5_will_63 : decode cX5_will 63 = .ok (.if_icmp .ne 42, 3) := by decide +kernel
theorem dX5_will_66 : decode cX5_will 66 = .ok (.aload_n 0, 1) := by decide +kernel
theorem dX5_will_67 : decode cX5_will 67 = .ok (.getfield 16, 3) := by decide +kernel
theorem dX5_will_70 : decode cX5_will 70 = .ok (.iload 4, 2) := by decide +kernel
theorem dX5_will_72 : decode cX5_will 72 = .ok (.aload_n 0, 1) := by decide +kernel
theorem dX5_will_73 : decode cX5_will 73 = .ok (.getfield 7, 3) := by decide +kernel
theorem dX5_will_76 : decode cX5_will 76 = .ok (.iload_n 2, 1) := by decide +kernel
theorem dX5_will_77 : decode cX5_will 77 = .ok (.iaload, 1) := by decide +kernel
theorem dX5_will_78 : decode cX5_will 78 = .ok (.bipush 97, 2) := by decide +kernel
theorem dX5_will_80 : decode cX5_will 80 = .ok (.isub, 1) := by decide +kernel
theorem dX5_will_81 : decode cX5_will 81 = .ok (.iastore, 1) := by decide +kernel
theorem dX5_will_82 : decode cX5_will 82 = .ok (.iinc 3 1, 3) := by decide +kernel
theorem dX5_will_85 : decode cX5_will 85 = .ok (.iload_n 3, 1) := by decide +kernel
theorem dX5_will_86 : decode cX5_will 86 = .ok (.aload_n 0, 1) := by decide +kernel
theorem dX5_will_87 : decode cX5_will 87 = .ok (.getfield 7, 3) := by decide +kernel
theorem dX5_will_90 : decode cX5_will 90 = .ok (.iload_n 2, 1) := by decide +kernel
theorem dX5_will_91 : decode cX5_will 91 = .ok (.iconst 1, 1) := by decide +kernel
theorem dX5_will_92 : decode cX5_will 92 = .ok (.iadd, 1) := by decide +kernel
theorem dX5_will_93 : decode cX5_will 93 = .ok (.iaload, 1) := by decide +kernel
theorem dX5_will_94 : decode cX5_will 94 = .ok (.bipush 48, 2) := by decide +kernel
theorem dX5_will_96 : decode cX5_will 96 = .ok (.isub, 1) := by decide +kernel
theorem dX5_will_97 : decode cX5_will 97 = .ok (.if_icmp .ne 8, 3) := by decide +kernel
theorem dX5_will_100 : decode cX5_will 100 = .ok (.iinc 2 2, 3) := by decide +kernel
theorem dX5_will_103 : decode cX5_will 103 = .ok (.iconst 0, 1) := by decide +kernel
theorem dX5_will_104 : decode cX5_will 104 = .ok (.istore_n 3, 1) := by decide +kernel
theorem dX5_will_105 : decode cX5_will 105 = .ok (.iinc 4 1, 3) := by decide +kernel
theorem dX5_will_108 : decode cX5_will 108 = .ok (.goto (-68), 3) := by decide +kernel
theorem dX5_will_111 : decode cX5_will 111 = .ok (.aload_n 0, 1) := by decide +kernel
theorem dX5_will_112 : decode cX5_will 112 = .ok (.iconst 0, 1) := by decide +kernel
theorem dX5_will_113 : decode cX5_will 113 = .ok (.putfield 70, 3) := by decide +kernel
theorem dX5_will_116 : decode cX5_will 116 = .ok (.aload_n 0, 1) := by decide +kernel
theorem dX5_will_117 : decode cX5_will 117 = .ok (.dup, 1) := by decide +kernel
theorem dX5_will_118 : decode cX5_will 118 = .ok (.getfield 91, 3) := by decide +kernel
theorem dX5_will_121 : decode cX5_will 121 = .ok (.iconst 1, 1) := by decide +kernel
theorem dX5_will_122 : decode cX5_will 122 = .ok (.iadd, 1) := by decide +kernel
theorem dX5_will_123 : decode cX5_will 123 = .ok (.putfield 91, 3) := by decide +kernel
theorem dX5_will_126 : decode cX5_will 126 = .ok (.aload_n 0, 1) := by decide +kernel
theorem dX5_will_127 : decode cX5_will 127 = .ok (.invokevirtual 94, 3) := by decide +kernel
theorem dX5_will_130 : decode cX5_will 130 = .ok (.aload_n 0, 1) := by decide +kernel
theorem dX5_will_131 : decode cX5_will 131 = .ok (.getfield 91, 3) := by decide +kernel
theorem dX5_will_134 : decode cX5_will 134 = .ok (.ireturn, 1) := by decide +kernel
theorem dX5_wedding_0 : decode cX5_wedding 0 = .ok (.iload_n 1, 1) := by decide +kernel
theorem dX5_wedding_1 : decode cX5_wedding 1 = .ok (.invokestatic 97, 3) := by decide +kernel
theorem dX5_wedding_4 : decode cX5_wedding 4 = .ok (.ifCond .eq 15, 3) := by decide +kernel
theorem dX5_wedding_7 : decode cX5_wedding 7 = .ok (.iload_n 2, 1) := by decide +kernel
theorem dX5_wedding_8 : decode cX5_wedding 8 = .ok (.invokestatic 97, 3) := by decide +kernel
theorem dX5_wedding_11 : decode cX5_wedding 11 = .ok (.ifCond .eq 8, 3) := by decide +kernel
theorem dX5_wedding_14 : decode cX5_wedding 14 = .ok (.iload_n 1, 1) := by decide +kernel
theorem dX5_wedding_15 : decode cX5_wedding 15 = .ok (.iload_n 2, 1) := by decide +kernel
theorem dX5_wedding_16 : decode cX5_wedding 16 = .ok (.if_icmp .ne 5, 3) := by decide +kernel
theorem dX5_wedding_19 : decode cX5_wedding 19 = .ok (.iconst (-1), 1) := by decide +kernel
theorem dX5_wedding_20 : decode cX5_wedding 20 = .ok (.ireturn, 1) := by decide +kernel
theorem dX5_wedding_21 : decode cX5_wedding 21 = .ok (.aload_n 0, 1) := by decide +kernel
theorem dX5_wedding_22 : decode cX5_wedding 22 = .ok (.getfield 91, 3) := by decide +kernel
theorem dX5_wedding_25 : decode cX5_wedding 25 = .ok (.bipush 20, 2) := by decide +kernel
theorem dX5_wedding_27 : decode cX5_wedding 27 = .ok (.if_icmp .ne 6, 3) := by decide +kernel
theorem dX5_wedding_30 : decode cX5_wedding 30 = .ok (.bipush (-4), 2) := by decide +kernel
theorem dX5_wedding_32 : decode cX5_wedding 32 = .ok (.ireturn, 1) := by decide +kernel
theorem dX5_wedding_33 : decode cX5_wedding 33 = .ok (.iconst 0, 1) := by decide +kernel
theorem dX5_wedding_34 : decode cX5_wedding 34 = .ok (.istore_n 3, 1) := by decide +kernel
theorem dX5_wedding_35 : decode cX5_wedding 35 = .ok (.iload_n 3, 1) := by decide +kernel
theorem dX5_wedding_36 : decode cX5_wedding 36 = .ok (.bipush 24, 2) := by decide +kernel
theorem dX5_wedding_38 : decode cX5_wedding 38 = .ok (.if_icmp .ge 35, 3) := by decide +kernel
theorem dX5_wedding_41 : decode cX5_wedding 41 = .ok (.aload_n 0, 1) := by decide +kernel
theorem dX5_wedding_42 : decode cX5_wedding 42 = .ok (.getfield 16, 3) := by decide +kernel
theorem dX5_wedding_45 : decode cX5_wedding 45 = .ok (.iload_n 3, 1) := by decide +kernel
theorem dX5_wedding_46 : decode cX5_wedding 46 = .ok (.aload_n 0, 1) := by decide +kernel
theorem dX5_wedding_47 : decode cX5_wedding 47 = .ok (.getfield 16, 3) := by decide +kernel
theorem dX5_wedding_50 : decode cX5_wedding 50 = .ok (.iload_n 3, 1) := by decide +kernel
theorem dX5_wedding_51 : decode cX5_wedding 51 = .ok (.iaload, 1) := by decide +kernel
theorem dX5_wedding_52 : decode cX5_wedding 52 = .ok (.iload_n 2, 1) := by decide +kernel
theorem dX5_wedding_53 : decode cX5_wedding 53 = .ok (.if_icmp .ne 7, 3) := by decide +kernel
theorem dX5_wedding_56 : decode cX5_wedding 56 = .ok (.iload_n 1, 1) := by decide +kernel
theorem dX5_wedding_57 : decode cX5_wedding 57 = .ok (.goto 9, 3) := by decide +kernel
theorem dX5_wedding_60 : decode cX5_wedding 60 = .ok (.aload_n 0, 1) := by decide +kernel
theorem dX5_wedding_61 : decode cX5_wedding 61 = .ok (.getfield 16, 3) := by decide +kernel
theorem dX5_wedding_64 : decode cX5_wedding 64 = .ok (.iload_n 3, 1) := by decide +kernel
theorem dX5_wedding_65 : decode cX5_wedding 65 = .ok (.iaload, 1) := by decide +kernel
theorem dX5_wedding_66 : decode cX5_wedding 66 = .ok (.iastore, 1) := by decide +kernel
theorem dX5_wedding_67 : decode cX5_wedding 67 = .ok (.iinc 3 1, 3) := by decide +kernel
theorem dX5_wedding_70 : decode cX5_wedding 70 = .ok (.goto (-35), 3) := by decide +kernel
theorem dX5_wedding_73 : decode cX5_wedding 73 = .ok (.aload_n 0, 1) := by decide +kernel
theorem dX5_wedding_74 : decode cX5_wedding 74 = .ok (.dup, 1) := by decide +kernel
theorem dX5_wedding_75 : decode cX5_wedding 75 = .ok (.getfield 91, 3) := by decide +kernel
theorem dX5_wedding_78 : decode cX5_wedding 78 = .ok (.iconst 1, 1) := by decide +kernel
theorem dX5_wedding_79 : decode cX5_wedding 79 = .ok (.iadd, 1) := by decide +kernel
theorem dX5_wedding_80 : decode cX5_wedding 80 = .ok (.putfield 91, 3) := by decide +kernel
theorem dX5_wedding_83 : decode cX5_wedding 83 = .ok (.aload_n 0, 1) := by decide +kernel
theorem dX5_wedding_84 : decode cX5_wedding 84 = .ok (.invokevirtual 94, 3) := by decide +kernel
theorem dX5_wedding_87 : decode cX5_wedding 87 = .ok (.aload_n 0, 1) := by decide +kernel
theorem dX5_wedding_88 : decode cX5_wedding 88 = .ok (.getfield 91, 3) := by decide +kernel
theorem dX5_wedding_91 : decode cX5_wedding 91 = .ok (.ireturn, 1) := by decide +kernel
theorem dX5_cell_0 : decode cX5_cell 0 = .ok (.iload_n 1, 1) := by decide +kernel
theorem dX5_cell_1 : decode cX5_cell 1 = .ok (.invokestatic 87, 3) := by decide +kernel
theorem dX5_cell_4 : decode cX5_cell 4 = .ok (.ifCond .eq 24, 3) := by decide +kernel
theorem dX5_cell_7 : decode cX5_cell 7 = .ok (.iload_n 2, 1) := by decide +kernel
theorem dX5_cell_8 : decode cX5_cell 8 = .ok (.invokestatic 100, 3) := by decide +kernel
theorem dX5_cell_11 : decode cX5_cell 11 = .ok (.ifCond .eq 17, 3) := by decide +kernel
theorem dX5_cell_14 : decode cX5_cell 14 = .ok (.aload_n 0, 1) := by decide +kernel
theorem dX5_cell_15 : decode cX5_cell 15 = .ok (.getfield 13, 3) := by decide +kernel
theorem dX5_cell_18 : decode cX5_cell 18 = .ok (.bipush 24, 2) := by decide +kernel
theorem dX5_cell_20 : decode cX5_cell 20 = .ok (.iload_n 1, 1) := by decide +kernel
theorem dX5_cell_21 : decode cX5_cell 21 = .ok (.imul, 1) := by decide +kernel
theorem dX5_cell_22 : decode cX5_cell 22 = .ok (.iload_n 2, 1) := by decide +kernel
theorem dX5_cell_23 : decode cX5_cell 23 = .ok (.iadd, 1) := by decide +kernel
theorem dX5_cell_24 : decode cX5_cell 24 = .ok (.iaload, 1) := by decide +kernel
theorem dX5_cell_25 : decode cX5_cell 25 = .ok (.goto 4, 3) := by decide +kernel
theorem dX5_cell_28 : decode cX5_cell 28 = .ok (.iconst (-1), 1) := by decide +kernel
theorem dX5_cell_29 : decode cX5_cell 29 = .ok (.ireturn, 1) := by decide +kernel
theorem dX5_was_0 : decode cX5_was 0 = .ok (.iload_n 1, 1) := by decide +kernel
theorem dX5_was_1 : decode cX5_was 1 = .ok (.invokestatic 100, 3) := by decide +kernel
theorem dX5_was_4 : decode cX5_was 4 = .ok (.ifCond .ne 5, 3) := by decide +kernel
theorem dX5_was_7 : decode cX5_was 7 = .ok (.iconst (-1), 1) := by decide +kernel
theorem dX5_was_8 : decode cX5_was 8 = .ok (.ireturn, 1) := by decide +kernel
theorem dX5_was_9 : decode cX5_was 9 = .ok (.iload_n 2, 1) := by decide +kernel
theorem dX5_was_10 : decode cX5_was 10 = .ok (.iconst 0, 1) := by decide +kernel
theorem dX5_was_11 : decode cX5_was 11 = .ok (.aload_n 0, 1) := by decide +kernel
theorem dX5_was_12 : decode cX5_was 12 = .ok (.getfield 91, 3) := by decide +kernel
theorem dX5_was_15 : decode cX5_was 15 = .ok (.invokestatic 66, 3) := by decide +kernel
theorem dX5_was_18 : decode cX5_was 18 = .ok (.ifCond .eq 17, 3) := by decide +kernel
theorem dX5_was_21 : decode cX5_was 21 = .ok (.aload_n 0, 1) := by decide +kernel
theorem dX5_was_22 : decode cX5_was 22 = .ok (.getfield 19, 3) := by decide +kernel
theorem dX5_was_25 : decode cX5_was 25 = .ok (.bipush 24, 2) := by decide +kernel
theorem dX5_was_27 : decode cX5_was 27 = .ok (.iload_n 2, 1) := by decide +kernel
theorem dX5_was_28 : decode cX5_was 28 = .ok (.imul, 1) := by decide +kernel
theorem dX5_was_29 : decode cX5_was 29 = .ok (.iload_n 1, 1) := by decide +kernel
theorem dX5_was_30 : decode cX5_was 30 = .ok (.iadd, 1) := by decide +kernel
theorem dX5_was_31 : decode cX5_was 31 = .ok (.iaload, 1) := by decide +kernel
theorem dX5_was_32 : decode cX5_was 32 = .ok (.goto 5, 3) := by decide +kernel
theorem dX5_was_35 : decode cX5_was 35 = .ok (.bipush (-2), 2) := by decide +kernel
theorem dX5_was_37 : decode cX5_was 37 = .ok (.ireturn, 1) := by decide +kernel
theorem dX5_sectors_0 : decode cX5_sectors 0 = .ok (.iconst 0, 1) := by decide +kernel
theorem dX5_sectors_1 : decode cX5_sectors 1 = .ok (.istore_n 2, 1) := by decide +kernel
theorem dX5_sectors_2 : decode cX5_sectors 2 = .ok (.iconst 0, 1) := by decide +kernel
theorem dX5_sectors_3 : decode cX5_sectors 3 = .ok (.istore_n 3, 1) := by decide +kernel
theorem dX5_sectors_4 : decode cX5_sectors 4 = .ok (.iload_n 3, 1) := by decide +kernel
theorem dX5_sectors_5 : decode cX5_sectors 5 = .ok (.bipush 24, 2) := by decide +kernel
theorem dX5_sectors_7 : decode cX5_sectors 7 = .ok (.if_icmp .ge 29, 3) := by decide +kernel
theorem dX5_sectors_10 : decode cX5_sectors 10 = .ok (.iload_n 2, 1) := by decide +kernel
theorem dX5_sectors_11 : decode cX5_sectors 11 = .ok (.aload_n 0, 1) := by decide +kernel
theorem dX5_sectors_12 : decode cX5_sectors 12 = .ok (.getfield 16, 3) := by decide +kernel
theorem dX5_sectors_15 : decode cX5_sectors 15 = .ok (.iload_n 3, 1) := by decide +kernel
theorem dX5_sectors_16 : decode cX5_sectors 16 = .ok (.iaload, 1) := by decide +kernel
theorem dX5_sectors_17 : decode cX5_sectors 17 = .ok (.iload_n 1, 1) := by decide +kernel
theorem dX5_sectors_18 : decode cX5_sectors 18 = .ok (.if_icmp .ne 9, 3) := by decide +kernel
theorem dX5_sectors_21 : decode cX5_sectors 21 = .ok (.iconst 1, 1) := by decide +kernel
theorem dX5_sectors_22 : decode cX5_sectors 22 = .ok (.iload_n 3, 1) := by decide +kernel
theorem dX5_sectors_23 : decode cX5_sectors 23 = .ok (.ishl, 1) := by decide +kernel
theorem dX5_sectors_24 : decode cX5_sectors 24 = .ok (.goto 4, 3) := by decide +kernel
theorem dX5_sectors_27 : decode cX5_sectors 27 = .ok (.iconst 0, 1) := by decide +kernel
theorem dX5_sectors_28 : decode cX5_sectors 28 = .ok (.ior, 1) := by decide +kernel
theorem dX5_sectors_29 : decode cX5_sectors 29 = .ok (.istore_n 2, 1) := by decide +kernel
theorem dX5_sectors_30 : decode cX5_sectors 30 = .ok (.iinc 3 1, 3) := by decide +kernel
theorem dX5_sectors_33 : decode cX5_sectors 33 = .ok (.goto (-29), 3) := by decide +kernel
theorem dX5_sectors_36 : decode cX5_sectors 36 = .ok (.iload_n 2, 1) := by decide +kernel
theorem dX5_sectors_37 : decode cX5_sectors 37 = .ok (.ireturn, 1) := by decide +kernel
theorem dX5_has_0 : decode cX5_has 0 = .ok (.iload_n 1, 1) := by decide +kernel
theorem dX5_has_1 : decode cX5_has 1 = .ok (.invokestatic 97, 3) := by decide +kernel
theorem dX5_has_4 : decode cX5_has 4 = .ok (.ifCond .eq 11, 3) := by decide +kernel
theorem dX5_has_7 : decode cX5_has 7 = .ok (.aload_n 0, 1) := by decide +kernel
theorem dX5_has_8 : decode cX5_has 8 = .ok (.iload_n 1, 1) := by decide +kernel
theorem dX5_has_9 : decode cX5_has 9 = .ok (.invokevirtual 103, 3) := by decide +kernel
theorem dX5_has_12 : decode cX5_has 12 = .ok (.goto 4, 3) := by decide +kernel
theorem dX5_has_15 : decode cX5_has 15 = .ok (.iconst (-1), 1) := by decide +kernel
theorem dX5_has_16 : decode cX5_has 16 = .ok (.ireturn, 1) := by decide +kernel
theorem dX5_worth_0 : decode cX5_worth 0 = .ok (.iload_n 1, 1) := by decide +kernel
theorem dX5_worth_1 : decode cX5_worth 1 = .ok (.invokestatic 97, 3) := by decide +kernel
theorem dX5_worth_4 : decode cX5_worth 4 = .ok (.ifCond .ne 5, 3) := by decide +kernel
theorem dX5_worth_7 : decode cX5_worth 7 = .ok (.iconst (-1), 1) := by decide +kernel
theorem dX5_worth_8 : decode cX5_worth 8 = .ok (.ireturn, 1) := by decide +kernel
theorem dX5_worth_9 : decode cX5_worth 9 = .ok (.iload_n 2, 1) := by decide +kernel
theorem dX5_worth_10 : decode cX5_worth 10 = .ok (.invokestatic 73, 3) := by decide +kernel
theorem dX5_worth_13 : decode cX5_worth 13 = .ok (.ifCond .lt 13, 3) := by decide +kernel
theorem dX5_worth_16 : decode cX5_worth 16 = .ok (.iload_n 3, 1) := by decide +kernel
theorem dX5_worth_17 : decode cX5_worth 17 = .ok (.iconst 0, 1) := by decide +kernel
theorem dX5_worth_18 : decode cX5_worth 18 = .ok (.bipush 99, 2) := by decide +kernel
theorem dX5_worth_20 : decode cX5_worth 20 = .ok (.invokestatic 66, 3) := by decide +kernel
theorem dX5_worth_23 : decode cX5_worth 23 = .ok (.ifCond .ne 6, 3) := by decide +kernel
theorem dX5_worth_26 : decode cX5_worth 26 = .ok (.bipush (-2), 2) := by decide +kernel
theorem dX5_worth_28 : decode cX5_worth 28 = .ok (.ireturn, 1) := by decide +kernel
theorem dX5_worth_29 : decode cX5_worth 29 = .ok (.aload_n 0, 1) := by decide +kernel
theorem dX5_worth_30 : decode cX5_worth 30 = .ok (.getfield 22, 3) := by decide +kernel
theorem dX5_worth_33 : decode cX5_worth 33 = .ok (.iconst 5, 1) := by decide +kernel
theorem dX5_worth_34 : decode cX5_worth 34 = .ok (.iload_n 1, 1) := by decide +kernel
theorem dX5_worth_35 : decode cX5_worth 35 = .ok (.imul, 1) := by decide +kernel
theorem dX5_worth_36 : decode cX5_worth 36 = .ok (.iload_n 2, 1) := by decide +kernel
theorem dX5_worth_37 : decode cX5_worth 37 = .ok (.invokestatic 73, 3) := by decide +kernel
theorem dX5_worth_40 : decode cX5_worth 40 = .ok (.iadd, 1) := by decide +kernel
theorem dX5_worth_41 : decode cX5_worth 41 = .ok (.iaload, 1) := by decide +kernel
theorem dX5_worth_42 : decode cX5_worth 42 = .ok (.istore 4, 2) := by decide +kernel
theorem dX5_worth_44 : decode cX5_worth 44 = .ok (.aload_n 0, 1) := by decide +kernel
theorem dX5_worth_45 : decode cX5_worth 45 = .ok (.getfield 22, 3) := by decide +kernel
theorem dX5_worth_48 : decode cX5_worth 48 = .ok (.iconst 5, 1) := by decide +kernel
theorem dX5_worth_49 : decode cX5_worth 49 = .ok (.iload_n 1, 1) := by decide +kernel
theorem dX5_worth_50 : decode cX5_worth 50 = .ok (.imul, 1) := by decide +kernel
theorem dX5_worth_51 : decode cX5_worth 51 = .ok (.iload_n 2, 1) := by decide +kernel
theorem dX5_worth_52 : decode cX5_worth 52 = .ok (.invokestatic 73, 3) := by decide +kernel
theorem dX5_worth_55 : decode cX5_worth 55 = .ok (.iadd, 1) := by decide +kernel
theorem dX5_worth_56 : decode cX5_worth 56 = .ok (.iload_n 3, 1) := by decide +kernel
theorem dX5_worth_57 : decode cX5_worth 57 = .ok (.iastore, 1) := by decide +kernel
theorem dX5_worth_58 : decode cX5_worth 58 = .ok (.iload 4, 2) := by decide +kernel
theorem dX5_worth_60 : decode cX5_worth 60 = .ok (.ireturn, 1) := by decide +kernel
theorem dX5_sectorWorth_0 : decode cX5_sectorWorth 0 = .ok (.iconst 0, 1) := by decide +kernel
theorem dX5_sectorWorth_1 : decode cX5_sectorWorth 1 = .ok (.istore_n 3, 1) := by decide +kernel
theorem dX5_sectorWorth_2 : decode cX5_sectorWorth 2 = .ok (.iconst 0, 1) := by decide +kernel
theorem dX5_sectorWorth_3 : decode cX5_sectorWorth 3 = .ok (.istore 4, 2) := by decide +kernel
theorem dX5_sectorWorth_5 : decode cX5_sectorWorth 5 = .ok (.iload 4, 2) := by decide +kernel
theorem dX5_sectorWorth_7 : decode cX5_sectorWorth 7 = .ok (.iconst 5, 1) := by decide +kernel
theorem dX5_sectorWorth_8 : decode cX5_sectorWorth 8 = .ok (.if_icmp .ge 36, 3) := by decide +kernel
theorem dX5_sectorWorth_11 : decode cX5_sectorWorth 11 = .ok (.iload_n 3, 1) := by decide +kernel
theorem dX5_sectorWorth_12 : decode cX5_sectorWorth 12 = .ok (.aload_n 0, 1) := by decide +kernel
theorem dX5_sectorWorth_13 : decode cX5_sectorWorth 13 = .ok (.getfield 22, 3) := by decide +kernel
theorem dX5_sectorWorth_16 : decode cX5_sectorWorth 16 = .ok (.iconst 5, 1) := by decide +kernel
theorem dX5_sectorWorth_17 : decode cX5_sectorWorth 17 = .ok (.iload_n 1, 1) := by decide +kernel
theorem dX5_sectorWorth_18 : decode cX5_sectorWorth 18 = .ok (.imul, 1) := by decide +kernel
theorem dX5_sectorWorth_19 : decode cX5_sectorWorth 19 = .ok (.aload_n 0, 1) := by decide +kernel
theorem dX5_sectorWorth_20 : decode cX5_sectorWorth 20 = .ok (.getfield 13, 3) := by decide +kernel
theorem dX5_sectorWorth_23 : decode cX5_sectorWorth 23 = .ok (.bipush 24, 2) := by decide +kernel
theorem dX5_sectorWorth_25 : decode cX5_sectorWorth 25 = .ok (.iload 4, 2) := by decide +kernel
theorem dX5_sectorWorth_27 : decode cX5_sectorWorth 27 = .ok (.imul, 1) := by decide +kernel
theorem dX5_sectorWorth_28 : decode cX5_sectorWorth 28 = .ok (.iload_n 2, 1) := by decide +kernel
theorem dX5_sectorWorth_29 : decode cX5_sectorWorth 29 = .ok (.iadd, 1) := by decide +kernel
theorem dX5_sectorWorth_30 : decode cX5_sectorWorth 30 = .ok (.iaload, 1) := by decide +kernel
theorem dX5_sectorWorth_31 : decode cX5_sectorWorth 31 = .ok (.invokestatic 73, 3) := by decide +kernel
theorem dX5_sectorWorth_34 : decode cX5_sectorWorth 34 = .ok (.iadd, 1) := by decide +kernel
theorem dX5_sectorWorth_35 : decode cX5_sectorWorth 35 = .ok (.iaload, 1) := by decide +kernel
theorem dX5_sectorWorth_36 : decode cX5_sectorWorth 36 = .ok (.iadd, 1) := by decide +kernel
theorem dX5_sectorWorth_37 : decode cX5_sectorWorth 37 = .ok (.istore_n 3, 1) := by decide +kernel
theorem dX5_sectorWorth_38 : decode cX5_sectorWorth 38 = .ok (.iinc 4 1, 3) := by decide +kernel
theorem dX5_sectorWorth_41 : decode cX5_sectorWorth 41 = .ok (.goto (-36), 3) := by decide +kernel
theorem dX5_sectorWorth_44 : decode cX5_sectorWorth 44 = .ok (.iload_n 3, 1) := by decide +kernel
theorem dX5_sectorWorth_45 : decode cX5_sectorWorth 45 = .ok (.ireturn, 1) := by decide +kernel
theorem dX5_shareOf_0 : decode cX5_shareOf 0 = .ok (.iconst 0, 1) := by decide +kernel
theorem dX5_shareOf_1 : decode cX5_shareOf 1 = .ok (.istore_n 3, 1) := by decide +kernel
theorem dX5_shareOf_2 : decode cX5_shareOf 2 = .ok (.iconst 0, 1) := by decide +kernel
theorem dX5_shareOf_3 : decode cX5_shareOf 3 = .ok (.istore 4, 2) := by decide +kernel
theorem dX5_shareOf_5 : decode cX5_shareOf 5 = .ok (.iload 4, 2) := by decide +kernel
theorem dX5_shareOf_7 : decode cX5_shareOf 7 = .ok (.bipush 24, 2) := by decide +kernel
theorem dX5_shareOf_9 : decode cX5_shareOf 9 = .ok (.if_icmp .ge 32, 3) := by decide +kernel
theorem dX5_shareOf_12 : decode cX5_shareOf 12 = .ok (.iload_n 3, 1) := by decide +kernel
theorem dX5_shareOf_13 : decode cX5_shareOf 13 = .ok (.iload_n 2, 1) := by decide +kernel
theorem dX5_shareOf_14 : decode cX5_shareOf 14 = .ok (.iload 4, 2) := by decide +kernel
theorem dX5_shareOf_16 : decode cX5_shareOf 16 = .ok (.invokestatic 106, 3) := by decide +kernel
theorem dX5_shareOf_19 : decode cX5_shareOf 19 = .ok (.ifCond .eq 13, 3) := by decide +kernel
theorem dX5_shareOf_22 : decode cX5_shareOf 22 = .ok (.aload_n 0, 1) := by decide +kernel
theorem dX5_shareOf_23 : decode cX5_shareOf 23 = .ok (.iload_n 1, 1) := by decide +kernel
theorem dX5_shareOf_24 : decode cX5_shareOf 24 = .ok (.iload 4, 2) := by decide +kernel
theorem dX5_shareOf_26 : decode cX5_shareOf 26 = .ok (.invokevirtual 109, 3) := by decide +kernel
theorem dX5_shareOf_29 : decode cX5_shareOf 29 = .ok (.goto 4, 3) := by decide +kernel
theorem dX5_shareOf_32 : decode cX5_shareOf 32 = .ok (.iconst 0, 1) := by decide +kernel
theorem dX5_shareOf_33 : decode cX5_shareOf 33 = .ok (.iadd, 1) := by decide +kernel
theorem dX5_shareOf_34 : decode cX5_shareOf 34 = .ok (.istore_n 3, 1) := by decide +kernel
theorem dX5_shareOf_35 : decode cX5_shareOf 35 = .ok (.iinc 4 1, 3) := by decide +kernel
theorem dX5_shareOf_38 : decode cX5_shareOf 38 = .ok (.goto (-33), 3) := by decide +kernel
theorem dX5_shareOf_41 : decode cX5_shareOf 41 = .ok (.iload_n 3, 1) := by decide +kernel
theorem dX5_shareOf_42 : decode cX5_shareOf 42 = .ok (.ireturn, 1) := by decide +kernel
theorem dX5_share_0 : decode cX5_share 0 = .ok (.iload_n 1, 1) := by decide +kernel
theorem dX5_share_1 : decode cX5_share 1 = .ok (.invokestatic 97, 3) := by decide +kernel
theorem dX5_share_4 : decode cX5_share 4 = .ok (.ifCond .ne 5, 3) := by decide +kernel
theorem dX5_share_7 : decode cX5_share 7 = .ok (.iconst (-1), 1) := by decide +kernel
theorem dX5_share_8 : decode cX5_share 8 = .ok (.ireturn, 1) := by decide +kernel
theorem dX5_share_9 : decode cX5_share 9 = .ok (.iload_n 2, 1) := by decide +kernel
theorem dX5_share_10 : decode cX5_share 10 = .ok (.iconst 0, 1) := by decide +kernel
theorem dX5_share_11 : decode cX5_share 11 = .ok (.ldc 113, 2) := by decide +kernel
theorem dX5_share_13 : decode cX5_share 13 = .ok (.invokestatic 66, 3) := by decide +kernel
theorem dX5_share_16 : decode cX5_share 16 = .ok (.ifCond .eq 12, 3) := by decide +kernel
theorem dX5_share_19 : decode cX5_share 19 = .ok (.aload_n 0, 1) := by decide +kernel
theorem dX5_share_20 : decode cX5_share 20 = .ok (.iload_n 1, 1) := by decide +kernel
theorem dX5_share_21 : decode cX5_share 21 = .ok (.iload_n 2, 1) := by decide +kernel
theorem dX5_share_22 : decode cX5_share 22 = .ok (.invokevirtual 114, 3) := by decide +kernel
theorem dX5_share_25 : decode cX5_share 25 = .ok (.goto 5, 3) := by decide +kernel
theorem dX5_share_28 : decode cX5_share 28 = .ok (.bipush (-2), 2) := by decide +kernel
theorem dX5_share_30 : decode cX5_share 30 = .ok (.ireturn, 1) := by decide +kernel
theorem dX5_envies_0 : decode cX5_envies 0 = .ok (.iload_n 1, 1) := by decide +kernel
theorem dX5_envies_1 : decode cX5_envies 1 = .ok (.invokestatic 97, 3) := by decide +kernel
theorem dX5_envies_4 : decode cX5_envies 4 = .ok (.ifCond .ne 5, 3) := by decide +kernel
theorem dX5_envies_7 : decode cX5_envies 7 = .ok (.iconst (-1), 1) := by decide +kernel
theorem dX5_envies_8 : decode cX5_envies 8 = .ok (.ireturn, 1) := by decide +kernel
theorem dX5_envies_9 : decode cX5_envies 9 = .ok (.aload_n 0, 1) := by decide +kernel
theorem dX5_envies_10 : decode cX5_envies 10 = .ok (.iload_n 1, 1) := by decide +kernel
theorem dX5_envies_11 : decode cX5_envies 11 = .ok (.aload_n 0, 1) := by decide +kernel
theorem dX5_envies_12 : decode cX5_envies 12 = .ok (.iload_n 1, 1) := by decide +kernel
theorem dX5_envies_13 : decode cX5_envies 13 = .ok (.invokevirtual 103, 3) := by decide +kernel
theorem dX5_envies_16 : decode cX5_envies 16 = .ok (.invokevirtual 114, 3) := by decide +kernel
theorem dX5_envies_19 : decode cX5_envies 19 = .ok (.istore_n 2, 1) := by decide +kernel
theorem dX5_envies_20 : decode cX5_envies 20 = .ok (.iconst 0, 1) := by decide +kernel
theorem dX5_envies_21 : decode cX5_envies 21 = .ok (.istore_n 3, 1) := by decide +kernel
theorem dX5_envies_22 : decode cX5_envies 22 = .ok (.iconst 0, 1) := by decide +kernel
theorem dX5_envies_23 : decode cX5_envies 23 = .ok (.istore 4, 2) := by decide +kernel
theorem dX5_envies_25 : decode cX5_envies 25 = .ok (.iload 4, 2) := by decide +kernel
theorem dX5_envies_27 : decode cX5_envies 27 = .ok (.bipush 6, 2) := by decide +kernel
theorem dX5_envies_29 : decode cX5_envies 29 = .ok (.if_icmp .ge 41, 3) := by decide +kernel
theorem dX5_envies_32 : decode cX5_envies 32 = .ok (.iload_n 3, 1) := by decide +kernel
theorem dX5_envies_33 : decode cX5_envies 33 = .ok (.iload 4, 2) := by decide +kernel
theorem dX5_envies_35 : decode cX5_envies 35 = .ok (.iload_n 1, 1) := by decide +kernel
theorem dX5_envies_36 : decode cX5_envies 36 = .ok (.if_icmp .eq 25, 3) := by decide +kernel
theorem dX5_envies_39 : decode cX5_envies 39 = .ok (.aload_n 0, 1) := by decide +kernel
theorem dX5_envies_40 : decode cX5_envies 40 = .ok (.iload_n 1, 1) := by decide +kernel
theorem dX5_envies_41 : decode cX5_envies 41 = .ok (.aload_n 0, 1) := by decide +kernel
theorem dX5_envies_42 : decode cX5_envies 42 = .ok (.iload 4, 2) := by decide +kernel
theorem dX5_envies_44 : decode cX5_envies 44 = .ok (.invokevirtual 103, 3) := by decide +kernel
theorem dX5_envies_47 : decode cX5_envies 47 = .ok (.invokevirtual 114, 3) := by decide +kernel
theorem dX5_envies_50 : decode cX5_envies 50 = .ok (.iload_n 2, 1) := by decide +kernel
theorem dX5_envies_51 : decode cX5_envies 51 = .ok (.if_icmp .le 10, 3) := by decide +kernel
theorem dX5_envies_54 : decode cX5_envies 54 = .ok (.iconst 1, 1) := by decide +kernel
theorem dX5_envies_55 : decode cX5_envies 55 = .ok (.iload 4, 2) := by decide +kernel
theorem dX5_envies_57 : decode cX5_envies 57 = .ok (.ishl, 1) := by decide +kernel
theorem dX5_envies_58 : decode cX5_envies 58 = .ok (.goto 4, 3) := by decide +kernel
theorem dX5_envies_61 : decode cX5_envies 61 = .ok (.iconst 0, 1) := by decide +kernel
theorem dX5_envies_62 : decode cX5_envies 62 = .ok (.ior, 1) := by decide +kernel
theorem dX5_envies_63 : decode cX5_envies 63 = .ok (.istore_n 3, 1) := by decide +kernel
theorem dX5_envies_64 : decode cX5_envies 64 = .ok (.iinc 4 1, 3) := by decide +kernel
theorem dX5_envies_67 : decode cX5_envies 67 = .ok (.goto (-42), 3) := by decide +kernel
theorem dX5_envies_70 : decode cX5_envies 70 = .ok (.iload_n 3, 1) := by decide +kernel
theorem dX5_envies_71 : decode cX5_envies 71 = .ok (.ireturn, 1) := by decide +kernel
theorem dX5_layAhead_0 : decode cX5_layAhead 0 = .ok (.iconst 0, 1) := by decide +kernel
theorem dX5_layAhead_1 : decode cX5_layAhead 1 = .ok (.istore_n 1, 1) := by decide +kernel
theorem dX5_layAhead_2 : decode cX5_layAhead 2 = .ok (.iload_n 1, 1) := by decide +kernel
theorem dX5_layAhead_3 : decode cX5_layAhead 3 = .ok (.iconst 4, 1) := by decide +kernel
theorem dX5_layAhead_4 : decode cX5_layAhead 4 = .ok (.if_icmp .ge 64, 3) := by decide +kernel
theorem dX5_layAhead_7 : decode cX5_layAhead 7 = .ok (.aload_n 0, 1) := by decide +kernel
theorem dX5_layAhead_8 : decode cX5_layAhead 8 = .ok (.getfield 32, 3) := by decide +kernel
theorem dX5_layAhead_11 : decode cX5_layAhead 11 = .ok (.bipush 25, 2) := by decide +kernel
theorem dX5_layAhead_13 : decode cX5_layAhead 13 = .ok (.iload_n 1, 1) := by decide +kernel
theorem dX5_layAhead_14 : decode cX5_layAhead 14 = .ok (.imul, 1) := by decide +kernel
theorem dX5_layAhead_15 : decode cX5_layAhead 15 = .ok (.iconst 0, 1) := by decide +kernel
theorem dX5_layAhead_16 : decode cX5_layAhead 16 = .ok (.iastore, 1) := by decide +kernel
theorem dX5_layAhead_17 : decode cX5_layAhead 17 = .ok (.iconst 0, 1) := by decide +kernel
theorem dX5_layAhead_18 : decode cX5_layAhead 18 = .ok (.istore_n 2, 1) := by decide +kernel
theorem dX5_layAhead_19 : decode cX5_layAhead 19 = .ok (.iload_n 2, 1) := by decide +kernel
theorem dX5_layAhead_20 : decode cX5_layAhead 20 = .ok (.bipush 24, 2) := by decide +kernel
theorem dX5_layAhead_22 : decode cX5_layAhead 22 = .ok (.if_icmp .ge 40, 3) := by decide +kernel
theorem dX5_layAhead_25 : decode cX5_layAhead 25 = .ok (.aload_n 0, 1) := by decide +kernel
theorem dX5_layAhead_26 : decode cX5_layAhead 26 = .ok (.getfield 32, 3) := by decide +kernel
theorem dX5_layAhead_29 : decode cX5_layAhead 29 = .ok (.bipush 25, 2) := by decide +kernel
theorem dX5_layAhead_31 : decode cX5_layAhead 31 = .ok (.iload_n 1, 1) := by decide +kernel
theorem dX5_layAhead_32 : decode cX5_layAhead 32 = .ok (.imul, 1) := by decide +kernel
theorem dX5_layAhead_33 : decode cX5_layAhead 33 = .ok (.iload_n 2, 1) := by decide +kernel
theorem dX5_layAhead_34 : decode cX5_layAhead 34 = .ok (.iadd, 1) := by decide +kernel
theorem dX5_layAhead_35 : decode cX5_layAhead 35 = .ok (.iconst 1, 1) := by decide +kernel
theorem dX5_layAhead_36 : decode cX5_layAhead 36 = .ok (.iadd, 1) := by decide +kernel
theorem dX5_layAhead_37 : decode cX5_layAhead 37 = .ok (.aload_n 0, 1) := by decide +kernel
theorem dX5_layAhead_38 : decode cX5_layAhead 38 = .ok (.getfield 32, 3) := by decide +kernel
theorem dX5_layAhead_41 : decode cX5_layAhead 41 = .ok (.bipush 25, 2) := by decide +kernel
theorem dX5_layAhead_43 : decode cX5_layAhead 43 = .ok (.iload_n 1, 1) := by decide +kernel
theorem dX5_layAhead_44 : decode cX5_layAhead 44 = .ok (.imul, 1) := by decide +kernel
theorem dX5_layAhead_45 : decode cX5_layAhead 45 = .ok (.iload_n 2, 1) := by decide +kernel
theorem dX5_layAhead_46 : decode cX5_layAhead 46 = .ok (.iadd, 1) := by decide +kernel
theorem dX5_layAhead_47 : decode cX5_layAhead 47 = .ok (.iaload, 1) := by decide +kernel
theorem dX5_layAhead_48 : decode cX5_layAhead 48 = .ok (.aload_n 0, 1) := by decide +kernel
theorem dX5_layAhead_49 : decode cX5_layAhead 49 = .ok (.iload_n 1, 1) := by decide +kernel
theorem dX5_layAhead_50 : decode cX5_layAhead 50 = .ok (.iload_n 2, 1) := by decide +kernel
theorem dX5_layAhead_51 : decode cX5_layAhead 51 = .ok (.invokevirtual 109, 3) := by decide +kernel
theorem dX5_layAhead_54 : decode cX5_layAhead 54 = .ok (.iadd, 1) := by decide +kernel
theorem dX5_layAhead_55 : decode cX5_layAhead 55 = .ok (.iastore, 1) := by decide +kernel
theorem dX5_layAhead_56 : decode cX5_layAhead 56 = .ok (.iinc 2 1, 3) := by decide +kernel
theorem dX5_layAhead_59 : decode cX5_layAhead 59 = .ok (.goto (-40), 3) := by decide +kernel
theorem dX5_layAhead_62 : decode cX5_layAhead 62 = .ok (.iinc 1 1, 3) := by decide +kernel
theorem dX5_layAhead_65 : decode cX5_layAhead 65 = .ok (.goto (-63), 3) := by decide +kernel
theorem dX5_layAhead_68 : decode cX5_layAhead 68 = .ok (.return_, 1) := by decide +kernel
theorem dX5_arcWorth_0 : decode cX5_arcWorth 0 = .ok (.aload_n 0, 1) := by decide +kernel
theorem dX5_arcWorth_1 : decode cX5_arcWorth 1 = .ok (.getfield 35, 3) := by decide +kernel
theorem dX5_arcWorth_4 : decode cX5_arcWorth 4 = .ok (.iload_n 2, 1) := by decide +kernel
theorem dX5_arcWorth_5 : decode cX5_arcWorth 5 = .ok (.iaload, 1) := by decide +kernel
theorem dX5_arcWorth_6 : decode cX5_arcWorth 6 = .ok (.istore 4, 2) := by decide +kernel
theorem dX5_arcWorth_8 : decode cX5_arcWorth 8 = .ok (.aload_n 0, 1) := by decide +kernel
theorem dX5_arcWorth_9 : decode cX5_arcWorth 9 = .ok (.getfield 35, 3) := by decide +kernel
theorem dX5_arcWorth_12 : decode cX5_arcWorth 12 = .ok (.iload_n 2, 1) := by decide +kernel
theorem dX5_arcWorth_13 : decode cX5_arcWorth 13 = .ok (.iconst 1, 1) := by decide +kernel
theorem dX5_arcWorth_14 : decode cX5_arcWorth 14 = .ok (.iadd, 1) := by decide +kernel
theorem dX5_arcWorth_15 : decode cX5_arcWorth 15 = .ok (.iload_n 3, 1) := by decide +kernel
theorem dX5_arcWorth_16 : decode cX5_arcWorth 16 = .ok (.irem, 1) := by decide +kernel
theorem dX5_arcWorth_17 : decode cX5_arcWorth 17 = .ok (.iaload, 1) := by decide +kernel
theorem dX5_arcWorth_18 : decode cX5_arcWorth 18 = .ok (.istore 5, 2) := by decide +kernel
theorem dX5_arcWorth_20 : decode cX5_arcWorth 20 = .ok (.aload_n 0, 1) := by decide +kernel
theorem dX5_arcWorth_21 : decode cX5_arcWorth 21 = .ok (.getfield 32, 3) := by decide +kernel
theorem dX5_arcWorth_24 : decode cX5_arcWorth 24 = .ok (.bipush 25, 2) := by decide +kernel
theorem dX5_arcWorth_26 : decode cX5_arcWorth 26 = .ok (.iload_n 1, 1) := by decide +kernel
theorem dX5_arcWorth_27 : decode cX5_arcWorth 27 = .ok (.imul, 1) := by decide +kernel
theorem dX5_arcWorth_28 : decode cX5_arcWorth 28 = .ok (.iload 5, 2) := by decide +kernel
theorem dX5_arcWorth_30 : decode cX5_arcWorth 30 = .ok (.iadd, 1) := by decide +kernel
theorem dX5_arcWorth_31 : decode cX5_arcWorth 31 = .ok (.iaload, 1) := by decide +kernel
theorem dX5_arcWorth_32 : decode cX5_arcWorth 32 = .ok (.aload_n 0, 1) := by decide +kernel
theorem dX5_arcWorth_33 : decode cX5_arcWorth 33 = .ok (.getfield 32, 3) := by decide +kernel
theorem dX5_arcWorth_36 : decode cX5_arcWorth 36 = .ok (.bipush 25, 2) := by decide +kernel
theorem dX5_arcWorth_38 : decode cX5_arcWorth 38 = .ok (.iload_n 1, 1) := by decide +kernel
theorem dX5_arcWorth_39 : decode cX5_arcWorth 39 = .ok (.imul, 1) := by decide +kernel
theorem dX5_arcWorth_40 : decode cX5_arcWorth 40 = .ok (.iload 4, 2) := by decide +kernel
theorem dX5_arcWorth_42 : decode cX5_arcWorth 42 = .ok (.iadd, 1) := by decide +kernel
theorem dX5_arcWorth_43 : decode cX5_arcWorth 43 = .ok (.iaload, 1) := by decide +kernel
theorem dX5_arcWorth_44 : decode cX5_arcWorth 44 = .ok (.isub, 1) := by decide +kernel
theorem dX5_arcWorth_45 : decode cX5_arcWorth 45 = .ok (.istore 6, 2) := by decide +kernel
theorem dX5_arcWorth_47 : decode cX5_arcWorth 47 = .ok (.iload_n 2, 1) := by decide +kernel
theorem dX5_arcWorth_48 : decode cX5_arcWorth 48 = .ok (.iload_n 3, 1) := by decide +kernel
theorem dX5_arcWorth_49 : decode cX5_arcWorth 49 = .ok (.iconst 1, 1) := by decide +kernel
theorem dX5_arcWorth_50 : decode cX5_arcWorth 50 = .ok (.isub, 1) := by decide +kernel
theorem dX5_arcWorth_51 : decode cX5_arcWorth 51 = .ok (.if_icmp .ne 21, 3) := by decide +kernel
theorem dX5_arcWorth_54 : decode cX5_arcWorth 54 = .ok (.iload 6, 2) := by decide +kernel
theorem dX5_arcWorth_56 : decode cX5_arcWorth 56 = .ok (.aload_n 0, 1) := by decide +kernel
theorem dX5_arcWorth_57 : decode cX5_arcWorth 57 = .ok (.getfield 32, 3) := by decide +kernel
theorem dX5_arcWorth_60 : decode cX5_arcWorth 60 = .ok (.bipush 25, 2) := by decide +kernel
theorem dX5_arcWorth_62 : decode cX5_arcWorth 62 = .ok (.iload_n 1, 1) := by decide +kernel
theorem dX5_arcWorth_63 : decode cX5_arcWorth 63 = .ok (.imul, 1) := by decide +kernel
theorem dX5_arcWorth_64 : decode cX5_arcWorth 64 = .ok (.bipush 24, 2) := by decide +kernel
theorem dX5_arcWorth_66 : decode cX5_arcWorth 66 = .ok (.iadd, 1) := by decide +kernel
theorem dX5_arcWorth_67 : decode cX5_arcWorth 67 = .ok (.iaload, 1) := by decide +kernel
theorem dX5_arcWorth_68 : decode cX5_arcWorth 68 = .ok (.iadd, 1) := by decide +kernel
theorem dX5_arcWorth_69 : decode cX5_arcWorth 69 = .ok (.goto 5, 3) := by decide +kernel
theorem dX5_arcWorth_72 : decode cX5_arcWorth 72 = .ok (.iload 6, 2) := by decide +kernel
theorem dX5_arcWorth_74 : decode cX5_arcWorth 74 = .ok (.ireturn, 1) := by decide +kernel
theorem dX5_isFair_0 : decode cX5_isFair 0 = .ok (.iconst 1, 1) := by decide +kernel
theorem dX5_isFair_1 : decode cX5_isFair 1 = .ok (.istore_n 2, 1) := by decide +kernel
theorem dX5_isFair_2 : decode cX5_isFair 2 = .ok (.iconst 0, 1) := by decide +kernel
theorem dX5_isFair_3 : decode cX5_isFair 3 = .ok (.istore_n 3, 1) := by decide +kernel
theorem dX5_isFair_4 : decode cX5_isFair 4 = .ok (.iload_n 3, 1) := by decide +kernel
theorem dX5_isFair_5 : decode cX5_isFair 5 = .ok (.iload_n 1, 1) := by decide +kernel
theorem dX5_isFair_6 : decode cX5_isFair 6 = .ok (.if_icmp .ge 66, 3) := by decide +kernel
theorem dX5_isFair_9 : decode cX5_isFair 9 = .ok (.iload_n 2, 1) := by decide +kernel
theorem dX5_isFair_10 : decode cX5_isFair 10 = .ok (.ifCond .eq 62, 3) := by decide +kernel
theorem dX5_isFair_13 : decode cX5_isFair 13 = .ok (.iconst 0, 1) := by decide +kernel
theorem dX5_isFair_14 : decode cX5_isFair 14 = .ok (.istore 4, 2) := by decide +kernel
theorem dX5_isFair_16 : decode cX5_isFair 16 = .ok (.iload 4, 2) := by decide +kernel
theorem dX5_isFair_18 : decode cX5_isFair 18 = .ok (.iload_n 1, 1) := by decide +kernel
theorem dX5_isFair_19 : decode cX5_isFair 19 = .ok (.if_icmp .ge 47, 3) := by decide +kernel
theorem dX5_isFair_22 : decode cX5_isFair 22 = .ok (.iload_n 2, 1) := by decide +kernel
theorem dX5_isFair_23 : decode cX5_isFair 23 = .ok (.ifCond .eq 35, 3) := by decide +kernel
theorem dX5_isFair_26 : decode cX5_isFair 26 = .ok (.aload_n 0, 1) := by decide +kernel
theorem dX5_isFair_27 : decode cX5_isFair 27 = .ok (.aload_n 0, 1) := by decide +kernel
theorem dX5_isFair_28 : decode cX5_isFair 28 = .ok (.getfield 38, 3) := by decide +kernel
theorem dX5_isFair_31 : decode cX5_isFair 31 = .ok (.iload_n 3, 1) := by decide +kernel
theorem dX5_isFair_32 : decode cX5_isFair 32 = .ok (.iaload, 1) := by decide +kernel
theorem dX5_isFair_33 : decode cX5_isFair 33 = .ok (.iload 4, 2) := by decide +kernel
theorem dX5_isFair_35 : decode cX5_isFair 35 = .ok (.iload_n 1, 1) := by decide +kernel
theorem dX5_isFair_36 : decode cX5_isFair 36 = .ok (.invokevirtual 117, 3) := by decide +kernel
theorem dX5_isFair_39 : decode cX5_isFair 39 = .ok (.aload_n 0, 1) := by decide +kernel
theorem dX5_isFair_40 : decode cX5_isFair 40 = .ok (.aload_n 0, 1) := by decide +kernel
theorem dX5_isFair_41 : decode cX5_isFair 41 = .ok (.getfield 38, 3) := by decide +kernel
theorem dX5_isFair_44 : decode cX5_isFair 44 = .ok (.iload_n 3, 1) := by decide +kernel
theorem dX5_isFair_45 : decode cX5_isFair 45 = .ok (.iaload, 1) := by decide +kernel
theorem dX5_isFair_46 : decode cX5_isFair 46 = .ok (.iload_n 3, 1) := by decide +kernel
theorem dX5_isFair_47 : decode cX5_isFair 47 = .ok (.iload_n 1, 1) := by decide +kernel
theorem dX5_isFair_48 : decode cX5_isFair 48 = .ok (.invokevirtual 117, 3) := by decide +kernel
theorem dX5_isFair_51 : decode cX5_isFair 51 = .ok (.if_icmp .gt 7, 3) := by decide +kernel
theorem dX5_isFair_54 : decode cX5_isFair 54 = .ok (.iconst 1, 1) := by decide +kernel
theorem dX5_isFair_55 : decode cX5_isFair 55 = .ok (.goto 4, 3) := by decide +kernel
theorem dX5_isFair_58 : decode cX5_isFair 58 = .ok (.iconst 0, 1) := by decide +kernel
theorem dX5_isFair_59 : decode cX5_isFair 59 = .ok (.istore_n 2, 1) := by decide +kernel
theorem dX5_isFair_60 : decode cX5_isFair 60 = .ok (.iinc 4 1, 3) := by decide +kernel
theorem dX5_isFair_63 : decode cX5_isFair 63 = .ok (.goto (-47), 3) := by decide +kernel
theorem dX5_isFair_66 : decode cX5_isFair 66 = .ok (.iinc 3 1, 3) := by decide +kernel
theorem dX5_isFair_69 : decode cX5_isFair 69 = .ok (.goto (-65), 3) := by decide +kernel
theorem dX5_isFair_72 : decode cX5_isFair 72 = .ok (.iload_n 2, 1) := by decide +kernel
theorem dX5_isFair_73 : decode cX5_isFair 73 = .ok (.ireturn, 1) := by decide +kernel
theorem dX5_leastShare_0 : decode cX5_leastShare 0 = .ok (.aload_n 0, 1) := by decide +kernel
theorem dX5_leastShare_1 : decode cX5_leastShare 1 = .ok (.aload_n 0, 1) := by decide +kernel
theorem dX5_leastShare_2 : decode cX5_leastShare 2 = .ok (.getfield 38, 3) := by decide +kernel
theorem dX5_leastShare_5 : decode cX5_leastShare 5 = .ok (.iconst 0, 1) := by decide +kernel
theorem dX5_leastShare_6 : decode cX5_leastShare 6 = .ok (.iaload, 1) := by decide +kernel
theorem dX5_leastShare_7 : decode cX5_leastShare 7 = .ok (.iconst 0, 1) := by decide +kernel
theorem dX5_leastShare_8 : decode cX5_leastShare 8 = .ok (.iload_n 1, 1) := by decide +kernel
theorem dX5_leastShare_9 : decode cX5_leastShare 9 = .ok (.invokevirtual 117, 3) := by decide +kernel
theorem dX5_leastShare_12 : decode cX5_leastShare 12 = .ok (.istore_n 2, 1) := by decide +kernel
theorem dX5_leastShare_13 : decode cX5_leastShare 13 = .ok (.iconst 1, 1) := by decide +kernel
theorem dX5_leastShare_14 : decode cX5_leastShare 14 = .ok (.istore_n 3, 1) := by decide +kernel
theorem dX5_leastShare_15 : decode cX5_leastShare 15 = .ok (.iload_n 3, 1) := by decide +kernel
theorem dX5_leastShare_16 : decode cX5_leastShare 16 = .ok (.iload_n 1, 1) := by decide +kernel
theorem dX5_leastShare_17 : decode cX5_leastShare 17 = .ok (.if_icmp .ge 36, 3) := by decide +kernel
theorem dX5_leastShare_20 : decode cX5_leastShare 20 = .ok (.aload_n 0, 1) := by decide +kernel
theorem dX5_leastShare_21 : decode cX5_leastShare 21 = .ok (.aload_n 0, 1) := by decide +kernel
theorem dX5_leastShare_22 : decode cX5_leastShare 22 = .ok (.getfield 38, 3) := by decide +kernel
theorem dX5_leastShare_25 : decode cX5_leastShare 25 = .ok (.iload_n 3, 1) := by decide +kernel
theorem dX5_leastShare_26 : decode cX5_leastShare 26 = .ok (.iaload, 1) := by decide +kernel
theorem dX5_leastShare_27 : decode cX5_leastShare 27 = .ok (.iload_n 3, 1) := by decide +kernel
theorem dX5_leastShare_28 : decode cX5_leastShare 28 = .ok (.iload_n 1, 1) := by decide +kernel
theorem dX5_leastShare_29 : decode cX5_leastShare 29 = .ok (.invokevirtual 117, 3) := by decide +kernel
theorem dX5_leastShare_32 : decode cX5_leastShare 32 = .ok (.istore 4, 2) := by decide +kernel
theorem dX5_leastShare_34 : decode cX5_leastShare 34 = .ok (.iload 4, 2) := by decide +kernel
theorem dX5_leastShare_36 : decode cX5_leastShare 36 = .ok (.iload_n 2, 1) := by decide +kernel
theorem dX5_leastShare_37 : decode cX5_leastShare 37 = .ok (.if_icmp .ge 8, 3) := by decide +kernel
theorem dX5_leastShare_40 : decode cX5_leastShare 40 = .ok (.iload 4, 2) := by decide +kernel
theorem dX5_leastShare_42 : decode cX5_leastShare 42 = .ok (.goto 4, 3) := by decide +kernel
theorem dX5_leastShare_45 : decode cX5_leastShare 45 = .ok (.iload_n 2, 1) := by decide +kernel
theorem dX5_leastShare_46 : decode cX5_leastShare 46 = .ok (.istore_n 2, 1) := by decide +kernel
theorem dX5_leastShare_47 : decode cX5_leastShare 47 = .ok (.iinc 3 1, 3) := by decide +kernel
theorem dX5_leastShare_50 : decode cX5_leastShare 50 = .ok (.goto (-35), 3) := by decide +kernel
theorem dX5_leastShare_53 : decode cX5_leastShare 53 = .ok (.iload_n 2, 1) := by decide +kernel
theorem dX5_leastShare_54 : decode cX5_leastShare 54 = .ok (.ireturn, 1) := by decide +kernel
theorem dX5_nextBounds_0 : decode cX5_nextBounds 0 = .ok (.iload_n 1, 1) := by decide +kernel
theorem dX5_nextBounds_1 : decode cX5_nextBounds 1 = .ok (.iconst 1, 1) := by decide +kernel
theorem dX5_nextBounds_2 : decode cX5_nextBounds 2 = .ok (.isub, 1) := by decide +kernel
theorem dX5_nextBounds_3 : decode cX5_nextBounds 3 = .ok (.istore_n 2, 1) := by decide +kernel
theorem dX5_nextBounds_4 : decode cX5_nextBounds 4 = .ok (.iload_n 2, 1) := by decide +kernel
theorem dX5_nextBounds_5 : decode cX5_nextBounds 5 = .ok (.ifCond .lt 24, 3) := by decide +kernel
theorem dX5_nextBounds_8 : decode cX5_nextBounds 8 = .ok (.aload_n 0, 1) := by decide +kernel
theorem dX5_nextBounds_9 : decode cX5_nextBounds 9 = .ok (.getfield 35, 3) := by decide +kernel
theorem dX5_nextBounds_12 : decode cX5_nextBounds 12 = .ok (.iload_n 2, 1) := by decide +kernel
theorem dX5_nextBounds_13 : decode cX5_nextBounds 13 = .ok (.iaload, 1) := by decide +kernel
theorem dX5_nextBounds_14 : decode cX5_nextBounds 14 = .ok (.bipush 24, 2) := by decide +kernel
theorem dX5_nextBounds_16 : decode cX5_nextBounds 16 = .ok (.iload_n 1, 1) := by decide +kernel
theorem dX5_nextBounds_17 : decode cX5_nextBounds 17 = .ok (.isub, 1) := by decide +kernel
theorem dX5_nextBounds_18 : decode cX5_nextBounds 18 = .ok (.iload_n 2, 1) := by decide +kernel
theorem dX5_nextBounds_19 : decode cX5_nextBounds 19 = .ok (.iadd, 1) := by decide +kernel
theorem dX5_nextBounds_20 : decode cX5_nextBounds 20 = .ok (.if_icmp .ne 9, 3) := by decide +kernel
theorem dX5_nextBounds_23 : decode cX5_nextBounds 23 = .ok (.iinc 2 (-1), 3) := by decide +kernel
theorem dX5_nextBounds_26 : decode cX5_nextBounds 26 = .ok (.goto (-22), 3) := by decide +kernel
theorem dX5_nextBounds_29 : decode cX5_nextBounds 29 = .ok (.iload_n 2, 1) := by decide +kernel
theorem dX5_nextBounds_30 : decode cX5_nextBounds 30 = .ok (.ifCond .ge 5, 3) := by decide +kernel
theorem dX5_nextBounds_33 : decode cX5_nextBounds 33 = .ok (.iconst 0, 1) := by decide +kernel
theorem dX5_nextBounds_34 : decode cX5_nextBounds 34 = .ok (.ireturn, 1) := by decide +kernel
theorem dX5_nextBounds_35 : decode cX5_nextBounds 35 = .ok (.aload_n 0, 1) := by decide +kernel
theorem dX5_nextBounds_36 : decode cX5_nextBounds 36 = .ok (.getfield 35, 3) := by decide +kernel
theorem dX5_nextBounds_39 : decode cX5_nextBounds 39 = .ok (.iload_n 2, 1) := by decide +kernel
theorem dX5_nextBounds_40 : decode cX5_nextBounds 40 = .ok (.dup2, 1) := by decide +kernel
theorem dX5_nextBounds_41 : decode cX5_nextBounds 41 = .ok (.iaload, 1) := by decide +kernel
theorem dX5_nextBounds_42 : decode cX5_nextBounds 42 = .ok (.iconst 1, 1) := by decide +kernel
theorem dX5_nextBounds_43 : decode cX5_nextBounds 43 = .ok (.iadd, 1) := by decide +kernel
theorem dX5_nextBounds_44 : decode cX5_nextBounds 44 = .ok (.iastore, 1) := by decide +kernel
theorem dX5_nextBounds_45 : decode cX5_nextBounds 45 = .ok (.iload_n 2, 1) := by decide +kernel
theorem dX5_nextBounds_46 : decode cX5_nextBounds 46 = .ok (.iconst 1, 1) := by decide +kernel
theorem dX5_nextBounds_47 : decode cX5_nextBounds 47 = .ok (.iadd, 1) := by decide +kernel
theorem dX5_nextBounds_48 : decode cX5_nextBounds 48 = .ok (.istore_n 3, 1) := by decide +kernel
theorem dX5_nextBounds_49 : decode cX5_nextBounds 49 = .ok (.iload_n 3, 1) := by decide +kernel
theorem dX5_nextBounds_50 : decode cX5_nextBounds 50 = .ok (.iload_n 1, 1) := by decide +kernel
theorem dX5_nextBounds_51 : decode cX5_nextBounds 51 = .ok (.if_icmp .ge 25, 3) := by decide +kernel
theorem dX5_nextBounds_54 : decode cX5_nextBounds 54 = .ok (.aload_n 0, 1) := by decide +kernel
theorem dX5_nextBounds_55 : decode cX5_nextBounds 55 = .ok (.getfield 35, 3) := by decide +kernel
theorem dX5_nextBounds_58 : decode cX5_nextBounds 58 = .ok (.iload_n 3, 1) := by decide +kernel
theorem dX5_nextBounds_59 : decode cX5_nextBounds 59 = .ok (.aload_n 0, 1) := by decide +kernel
theorem dX5_nextBounds_60 : decode cX5_nextBounds 60 = .ok (.getfield 35, 3) := by decide +kernel
theorem dX5_nextBounds_63 : decode cX5_nextBounds 63 = .ok (.iload_n 3, 1) := by decide +kernel
theorem dX5_nextBounds_64 : decode cX5_nextBounds 64 = .ok (.iconst 1, 1) := by decide +kernel
theorem dX5_nextBounds_65 : decode cX5_nextBounds 65 = .ok (.isub, 1) := by decide +kernel
theorem dX5_nextBounds_66 : decode cX5_nextBounds 66 = .ok (.iaload, 1) := by decide +kernel
theorem dX5_nextBounds_67 : decode cX5_nextBounds 67 = .ok (.iconst 1, 1) := by decide +kernel
theorem dX5_nextBounds_68 : decode cX5_nextBounds 68 = .ok (.iadd, 1) := by decide +kernel
theorem dX5_nextBounds_69 : decode cX5_nextBounds 69 = .ok (.iastore, 1) := by decide +kernel
theorem dX5_nextBounds_70 : decode cX5_nextBounds 70 = .ok (.iinc 3 1, 3) := by decide +kernel
theorem dX5_nextBounds_73 : decode cX5_nextBounds 73 = .ok (.goto (-24), 3) := by decide +kernel
theorem dX5_nextBounds_76 : decode cX5_nextBounds 76 = .ok (.iconst 1, 1) := by decide +kernel
theorem dX5_nextBounds_77 : decode cX5_nextBounds 77 = .ok (.ireturn, 1) := by decide +kernel
theorem dX5_layOwners_0 : decode cX5_layOwners 0 = .ok (.iload_n 1, 1) := by decide +kernel
theorem dX5_layOwners_1 : decode cX5_layOwners 1 = .ok (.istore_n 3, 1) := by decide +kernel
theorem dX5_layOwners_2 : decode cX5_layOwners 2 = .ok (.iconst 0, 1) := by decide +kernel
theorem dX5_layOwners_3 : decode cX5_layOwners 3 = .ok (.istore 4, 2) := by decide +kernel
theorem dX5_layOwners_5 : decode cX5_layOwners 5 = .ok (.iload_n 2, 1) := by decide +kernel
theorem dX5_layOwners_6 : decode cX5_layOwners 6 = .ok (.iconst 1, 1) := by decide +kernel
theorem dX5_layOwners_7 : decode cX5_layOwners 7 = .ok (.isub, 1) := by decide +kernel
theorem dX5_layOwners_8 : decode cX5_layOwners 8 = .ok (.istore 5, 2) := by decide +kernel
theorem dX5_layOwners_10 : decode cX5_layOwners 10 = .ok (.iload 5, 2) := by decide +kernel
theorem dX5_layOwners_12 : decode cX5_layOwners 12 = .ok (.ifCond .lt 37, 3) := by decide +kernel
theorem dX5_layOwners_15 : decode cX5_layOwners 15 = .ok (.aload_n 0, 1) := by decide +kernel
theorem dX5_layOwners_16 : decode cX5_layOwners 16 = .ok (.getfield 38, 3) := by decide +kernel
theorem dX5_layOwners_19 : decode cX5_layOwners 19 = .ok (.iload 5, 2) := by decide +kernel
theorem dX5_layOwners_21 : decode cX5_layOwners 21 = .ok (.iload_n 3, 1) := by decide +kernel
theorem dX5_layOwners_22 : decode cX5_layOwners 22 = .ok (.iload_n 2, 1) := by decide +kernel
theorem dX5_layOwners_23 : decode cX5_layOwners 23 = .ok (.irem, 1) := by decide +kernel
theorem dX5_layOwners_24 : decode cX5_layOwners 24 = .ok (.iastore, 1) := by decide +kernel
theorem dX5_layOwners_25 : decode cX5_layOwners 25 = .ok (.iload_n 3, 1) := by decide +kernel
theorem dX5_layOwners_26 : decode cX5_layOwners 26 = .ok (.iload_n 2, 1) := by decide +kernel
theorem dX5_layOwners_27 : decode cX5_layOwners 27 = .ok (.idiv, 1) := by decide +kernel
theorem dX5_layOwners_28 : decode cX5_layOwners 28 = .ok (.istore_n 3, 1) := by decide +kernel
theorem dX5_layOwners_29 : decode cX5_layOwners 29 = .ok (.iload 4, 2) := by decide +kernel
theorem dX5_layOwners_31 : decode cX5_layOwners 31 = .ok (.iconst 1, 1) := by decide +kernel
theorem dX5_layOwners_32 : decode cX5_layOwners 32 = .ok (.aload_n 0, 1) := by decide +kernel
theorem dX5_layOwners_33 : decode cX5_layOwners 33 = .ok (.getfield 38, 3) := by decide +kernel
theorem dX5_layOwners_36 : decode cX5_layOwners 36 = .ok (.iload 5, 2) := by decide +kernel
theorem dX5_layOwners_38 : decode cX5_layOwners 38 = .ok (.iaload, 1) := by decide +kernel
theorem dX5_layOwners_39 : decode cX5_layOwners 39 = .ok (.ishl, 1) := by decide +kernel
theorem dX5_layOwners_40 : decode cX5_layOwners 40 = .ok (.ior, 1) := by decide +kernel
theorem dX5_layOwners_41 : decode cX5_layOwners 41 = .ok (.istore 4, 2) := by decide +kernel
theorem dX5_layOwners_43 : decode cX5_layOwners 43 = .ok (.iinc 5 (-1), 3) := by decide +kernel
theorem dX5_layOwners_46 : decode cX5_layOwners 46 = .ok (.goto (-36), 3) := by decide +kernel
theorem dX5_layOwners_49 : decode cX5_layOwners 49 = .ok (.iload 4, 2) := by decide +kernel
theorem dX5_layOwners_51 : decode cX5_layOwners 51 = .ok (.iconst 1, 1) := by decide +kernel
theorem dX5_layOwners_52 : decode cX5_layOwners 52 = .ok (.iload_n 2, 1) := by decide +kernel
theorem dX5_layOwners_53 : decode cX5_layOwners 53 = .ok (.ishl, 1) := by decide +kernel
theorem dX5_layOwners_54 : decode cX5_layOwners 54 = .ok (.iconst 1, 1) := by decide +kernel
theorem dX5_layOwners_55 : decode cX5_layOwners 55 = .ok (.isub, 1) := by decide +kernel
theorem dX5_layOwners_56 : decode cX5_layOwners 56 = .ok (.if_icmp .ne 7, 3) := by decide +kernel
theorem dX5_layOwners_59 : decode cX5_layOwners 59 = .ok (.iconst 1, 1) := by decide +kernel
theorem dX5_layOwners_60 : decode cX5_layOwners 60 = .ok (.goto 4, 3) := by decide +kernel
theorem dX5_layOwners_63 : decode cX5_layOwners 63 = .ok (.iconst 0, 1) := by decide +kernel
theorem dX5_layOwners_64 : decode cX5_layOwners 64 = .ok (.ireturn, 1) := by decide +kernel
theorem dX5_keepCut_0 : decode cX5_keepCut 0 = .ok (.iconst 0, 1) := by decide +kernel
theorem dX5_keepCut_1 : decode cX5_keepCut 1 = .ok (.istore_n 2, 1) := by decide +kernel
theorem dX5_keepCut_2 : decode cX5_keepCut 2 = .ok (.iload_n 2, 1) := by decide +kernel
theorem dX5_keepCut_3 : decode cX5_keepCut 3 = .ok (.iload_n 1, 1) := by decide +kernel
theorem dX5_keepCut_4 : decode cX5_keepCut 4 = .ok (.if_icmp .ge 33, 3) := by decide +kernel
theorem dX5_keepCut_7 : decode cX5_keepCut 7 = .ok (.aload_n 0, 1) := by decide +kernel
theorem dX5_keepCut_8 : decode cX5_keepCut 8 = .ok (.getfield 41, 3) := by decide +kernel
theorem dX5_keepCut_11 : decode cX5_keepCut 11 = .ok (.iload_n 2, 1) := by decide +kernel
theorem dX5_keepCut_12 : decode cX5_keepCut 12 = .ok (.aload_n 0, 1) := by decide +kernel
theorem dX5_keepCut_13 : decode cX5_keepCut 13 = .ok (.getfield 35, 3) := by decide +kernel
theorem dX5_keepCut_16 : decode cX5_keepCut 16 = .ok (.iload_n 2, 1) := by decide +kernel
theorem dX5_keepCut_17 : decode cX5_keepCut 17 = .ok (.iaload, 1) := by decide +kernel
theorem dX5_keepCut_18 : decode cX5_keepCut 18 = .ok (.iastore, 1) := by decide +kernel
theorem dX5_keepCut_19 : decode cX5_keepCut 19 = .ok (.aload_n 0, 1) := by decide +kernel
theorem dX5_keepCut_20 : decode cX5_keepCut 20 = .ok (.getfield 44, 3) := by decide +kernel
theorem dX5_keepCut_23 : decode cX5_keepCut 23 = .ok (.iload_n 2, 1) := by decide +kernel
theorem dX5_keepCut_24 : decode cX5_keepCut 24 = .ok (.aload_n 0, 1) := by decide +kernel
theorem dX5_keepCut_25 : decode cX5_keepCut 25 = .ok (.getfield 38, 3) := by decide +kernel
theorem dX5_keepCut_28 : decode cX5_keepCut 28 = .ok (.iload_n 2, 1) := by decide +kernel
theorem dX5_keepCut_29 : decode cX5_keepCut 29 = .ok (.iaload, 1) := by decide +kernel
theorem dX5_keepCut_30 : decode cX5_keepCut 30 = .ok (.iastore, 1) := by decide +kernel
theorem dX5_keepCut_31 : decode cX5_keepCut 31 = .ok (.iinc 2 1, 3) := by decide +kernel
theorem dX5_keepCut_34 : decode cX5_keepCut 34 = .ok (.goto (-32), 3) := by decide +kernel
theorem dX5_keepCut_37 : decode cX5_keepCut 37 = .ok (.return_, 1) := by decide +kernel
theorem dX5_layCut_0 : decode cX5_layCut 0 = .ok (.aload_n 0, 1) := by decide +kernel
theorem dX5_layCut_1 : decode cX5_layCut 1 = .ok (.invokevirtual 121, 3) := by decide +kernel
theorem dX5_layCut_4 : decode cX5_layCut 4 = .ok (.iconst 1, 1) := by decide +kernel
theorem dX5_layCut_5 : decode cX5_layCut 5 = .ok (.istore_n 3, 1) := by decide +kernel
theorem dX5_layCut_6 : decode cX5_layCut 6 = .ok (.iconst 0, 1) := by decide +kernel
theorem dX5_layCut_7 : decode cX5_layCut 7 = .ok (.istore 4, 2) := by decide +kernel
theorem dX5_layCut_9 : decode cX5_layCut 9 = .ok (.iload 4, 2) := by decide +kernel
theorem dX5_layCut_11 : decode cX5_layCut 11 = .ok (.iload_n 1, 1) := by decide +kernel
theorem dX5_layCut_12 : decode cX5_layCut 12 = .ok (.if_icmp .ge 22, 3) := by decide +kernel
theorem dX5_layCut_15 : decode cX5_layCut 15 = .ok (.aload_n 0, 1) := by decide +kernel
theorem dX5_layCut_16 : decode cX5_layCut 16 = .ok (.getfield 35, 3) := by decide +kernel
theorem dX5_layCut_19 : decode cX5_layCut 19 = .ok (.iload 4, 2) := by decide +kernel
theorem dX5_layCut_21 : decode cX5_layCut 21 = .ok (.iload 4, 2) := by decide +kernel
theorem dX5_layCut_23 : decode cX5_layCut 23 = .ok (.iastore, 1) := by decide +kernel
theorem dX5_layCut_24 : decode cX5_layCut 24 = .ok (.iload_n 3, 1) := by decide +kernel
theorem dX5_layCut_25 : decode cX5_layCut 25 = .ok (.iload_n 1, 1) := by decide +kernel
theorem dX5_layCut_26 : decode cX5_layCut 26 = .ok (.imul, 1) := by decide +kernel
theorem dX5_layCut_27 : decode cX5_layCut 27 = .ok (.istore_n 3, 1) := by decide +kernel
theorem dX5_layCut_28 : decode cX5_layCut 28 = .ok (.iinc 4 1, 3) := by decide +kernel
theorem dX5_layCut_31 : decode cX5_layCut 31 = .ok (.goto (-22), 3) := by decide +kernel
theorem dX5_layCut_34 : decode cX5_layCut 34 = .ok (.iconst 0, 1) := by decide +kernel
theorem dX5_layCut_35 : decode cX5_layCut 35 = .ok (.istore 4, 2) := by decide +kernel
theorem dX5_layCut_37 : decode cX5_layCut 37 = .ok (.iconst 1, 1) := by decide +kernel
theorem dX5_layCut_38 : decode cX5_layCut 38 = .ok (.istore 5, 2) := by decide +kernel
theorem dX5_layCut_40 : decode cX5_layCut 40 = .ok (.iload 5, 2) := by decide +kernel
theorem dX5_layCut_42 : decode cX5_layCut 42 = .ok (.ifCond .eq 106, 3) := by decide +kernel
theorem dX5_layCut_45 : decode cX5_layCut 45 = .ok (.iload_n 2, 1) := by decide +kernel
theorem dX5_layCut_46 : decode cX5_layCut 46 = .ok (.ifCond .eq 8, 3) := by decide +kernel
theorem dX5_layCut_49 : decode cX5_layCut 49 = .ok (.iload 4, 2) := by decide +kernel
theorem dX5_layCut_51 : decode cX5_layCut 51 = .ok (.ifCond .ne 97, 3) := by decide +kernel
theorem dX5_layCut_54 : decode cX5_layCut 54 = .ok (.iconst 0, 1) := by decide +kernel
theorem dX5_layCut_55 : decode cX5_layCut 55 = .ok (.istore 6, 2) := by decide +kernel
theorem dX5_layCut_57 : decode cX5_layCut 57 = .ok (.iload 6, 2) := by decide +kernel
theorem dX5_layCut_59 : decode cX5_layCut 59 = .ok (.iload_n 3, 1) := by decide +kernel
theorem dX5_layCut_60 : decode cX5_layCut 60 = .ok (.if_icmp .ge 78, 3) := by decide +kernel
theorem dX5_layCut_63 : decode cX5_layCut 63 = .ok (.iload_n 2, 1) := by decide +kernel
theorem dX5_layCut_64 : decode cX5_layCut 64 = .ok (.ifCond .eq 8, 3) := by decide +kernel
theorem dX5_layCut_67 : decode cX5_layCut 67 = .ok (.iload 4, 2) := by decide +kernel
theorem dX5_layCut_69 : decode cX5_layCut 69 = .ok (.ifCond .ne 69, 3) := by decide +kernel
theorem dX5_layCut_72 : decode cX5_layCut 72 = .ok (.aload_n 0, 1) := by decide +kernel
theorem dX5_layCut_73 : decode cX5_layCut 73 = .ok (.iload 6, 2) := by decide +kernel
theorem dX5_layCut_75 : decode cX5_layCut 75 = .ok (.iload_n 1, 1) := by decide +kernel
theorem dX5_layCut_76 : decode cX5_layCut 76 = .ok (.invokevirtual 124, 3) := by decide +kernel
theorem dX5_layCut_79 : decode cX5_layCut 79 = .ok (.ifCond .eq 53, 3) := by decide +kernel
theorem dX5_layCut_82 : decode cX5_layCut 82 = .ok (.aload_n 0, 1) := by decide +kernel
theorem dX5_layCut_83 : decode cX5_layCut 83 = .ok (.iload_n 1, 1) := by decide +kernel
theorem dX5_layCut_84 : decode cX5_layCut 84 = .ok (.invokevirtual 127, 3) := by decide +kernel
theorem dX5_layCut_87 : decode cX5_layCut 87 = .ok (.istore 7, 2) := by decide +kernel
theorem dX5_layCut_89 : decode cX5_layCut 89 = .ok (.iload_n 2, 1) := by decide +kernel
theorem dX5_layCut_90 : decode cX5_layCut 90 = .ok (.ifCond .eq 14, 3) := by decide +kernel
theorem dX5_layCut_93 : decode cX5_layCut 93 = .ok (.aload_n 0, 1) := by decide +kernel
theorem dX5_layCut_94 : decode cX5_layCut 94 = .ok (.iload_n 1, 1) := by decide +kernel
theorem dX5_layCut_95 : decode cX5_layCut 95 = .ok (.invokevirtual 130, 3) := by decide +kernel
theorem dX5_layCut_98 : decode cX5_layCut 98 = .ok (.ifCond .eq 34, 3) := by decide +kernel
theorem dX5_layCut_101 : decode cX5_layCut 101 = .ok (.goto 17, 3) := by decide +kernel
theorem dX5_layCut_104 : decode cX5_layCut 104 = .ok (.iload 4, 2) := by decide +kernel
theorem dX5_layCut_106 : decode cX5_layCut 106 = .ok (.ifCond .eq 12, 3) := by decide +kernel
theorem dX5_layCut_109 : decode cX5_layCut 109 = .ok (.iload 7, 2) := by decide +kernel
theorem dX5_layCut_111 : decode cX5_layCut 111 = .ok (.aload_n 0, 1) := by decide +kernel
theorem dX5_layCut_112 : decode cX5_layCut 112 = .ok (.getfield 133, 3) := by decide +kernel
theorem dX5_layCut_115 : decode cX5_layCut 115 = .ok (.if_icmp .le 17, 3) := by decide +kernel
theorem dX5_layCut_118 : decode cX5_layCut 118 = .ok (.iconst 1, 1) := by decide +kernel
theorem dX5_layCut_119 : decode cX5_layCut 119 = .ok (.istore 4, 2) := by decide +kernel
theorem dX5_layCut_121 : decode cX5_layCut 121 = .ok (.aload_n 0, 1) := by decide +kernel
theorem dX5_layCut_122 : decode cX5_layCut 122 = .ok (.iload 7, 2) := by decide +kernel
theorem dX5_layCut_124 : decode cX5_layCut 124 = .ok (.putfield 133, 3) := by decide +kernel
theorem dX5_layCut_127 : decode cX5_layCut 127 = .ok (.aload_n 0, 1) := by decide +kernel
theorem dX5_layCut_128 : decode cX5_layCut 128 = .ok (.iload_n 1, 1) := by decide +kernel
theorem dX5_layCut_129 : decode cX5_layCut 129 = .ok (.invokevirtual 136, 3) := by decide +kernel
theorem dX5_layCut_132 : decode cX5_layCut 132 = .ok (.iinc 6 1, 3) := by decide +kernel
theorem dX5_layCut_135 : decode cX5_layCut 135 = .ok (.goto (-78), 3) := by decide +kernel
theorem dX5_layCut_138 : decode cX5_layCut 138 = .ok (.aload_n 0, 1) := by decide +kernel
theorem dX5_layCut_139 : decode cX5_layCut 139 = .ok (.iload_n 1, 1) := by decide +kernel
theorem dX5_layCut_140 : decode cX5_layCut 140 = .ok (.invokevirtual 140, 3) := by decide +kernel
theorem dX5_layCut_143 : decode cX5_layCut 143 = .ok (.istore 5, 2) := by decide +kernel
theorem dX5_layCut_145 : decode cX5_layCut 145 = .ok (.goto (-105), 3) := by decide +kernel
theorem dX5_layCut_148 : decode cX5_layCut 148 = .ok (.iload 4, 2) := by decide +kernel
theorem dX5_layCut_150 : decode cX5_layCut 150 = .ok (.ireturn, 1) := by decide +kernel
theorem dX5_toldCut_0 : decode cX5_toldCut 0 = .ok (.iload_n 3, 1) := by decide +kernel
theorem dX5_toldCut_1 : decode cX5_toldCut 1 = .ok (.ifCond .ne 6, 3) := by decide +kernel
theorem dX5_toldCut_4 : decode cX5_toldCut 4 = .ok (.bipush (-6), 2) := by decide +kernel
theorem dX5_toldCut_6 : decode cX5_toldCut 6 = .ok (.ireturn, 1) := by decide +kernel
theorem dX5_toldCut_7 : decode cX5_toldCut 7 = .ok (.iload_n 2, 1) := by decide +kernel
theorem dX5_toldCut_8 : decode cX5_toldCut 8 = .ok (.iconst (-1), 1) := by decide +kernel
theorem dX5_toldCut_9 : decode cX5_toldCut 9 = .ok (.if_icmp .ne 8, 3) := by decide +kernel
theorem dX5_toldCut_12 : decode cX5_toldCut 12 = .ok (.iload 4, 2) := by decide +kernel
theorem dX5_toldCut_14 : decode cX5_toldCut 14 = .ok (.goto 50, 3) := by decide +kernel
theorem dX5_toldCut_17 : decode cX5_toldCut 17 = .ok (.iload_n 2, 1) := by decide +kernel
theorem dX5_toldCut_18 : decode cX5_toldCut 18 = .ok (.iconst 0, 1) := by decide +kernel
theorem dX5_toldCut_19 : decode cX5_toldCut 19 = .ok (.iload_n 1, 1) := by decide +kernel
theorem dX5_toldCut_20 : decode cX5_toldCut 20 = .ok (.iconst 1, 1) := by decide +kernel
theorem dX5_toldCut_21 : decode cX5_toldCut 21 = .ok (.isub, 1) := by decide +kernel
theorem dX5_toldCut_22 : decode cX5_toldCut 22 = .ok (.invokestatic 66, 3) := by decide +kernel
theorem dX5_toldCut_25 : decode cX5_toldCut 25 = .ok (.ifCond .eq 12, 3) := by decide +kernel
theorem dX5_toldCut_28 : decode cX5_toldCut 28 = .ok (.aload_n 0, 1) := by decide +kernel
theorem dX5_toldCut_29 : decode cX5_toldCut 29 = .ok (.getfield 41, 3) := by decide +kernel
theorem dX5_toldCut_32 : decode cX5_toldCut 32 = .ok (.iload_n 2, 1) := by decide +kernel
theorem dX5_toldCut_33 : decode cX5_toldCut 33 = .ok (.iaload, 1) := by decide +kernel
theorem dX5_toldCut_34 : decode cX5_toldCut 34 = .ok (.goto 30, 3) := by decide +kernel
theorem dX5_toldCut_37 : decode cX5_toldCut 37 = .ok (.iload_n 2, 1) := by decide +kernel
theorem dX5_toldCut_38 : decode cX5_toldCut 38 = .ok (.bipush 10, 2) := by decide +kernel
theorem dX5_toldCut_40 : decode cX5_toldCut 40 = .ok (.bipush 9, 2) := by decide +kernel
theorem dX5_toldCut_42 : decode cX5_toldCut 42 = .ok (.iload_n 1, 1) := by decide +kernel
theorem dX5_toldCut_43 : decode cX5_toldCut 43 = .ok (.iadd, 1) := by decide +kernel
theorem dX5_toldCut_44 : decode cX5_toldCut 44 = .ok (.invokestatic 66, 3) := by decide +kernel
theorem dX5_toldCut_47 : decode cX5_toldCut 47 = .ok (.ifCond .eq 15, 3) := by decide +kernel
theorem dX5_toldCut_50 : decode cX5_toldCut 50 = .ok (.aload_n 0, 1) := by decide +kernel
theorem dX5_toldCut_51 : decode cX5_toldCut 51 = .ok (.getfield 44, 3) := by decide +kernel
theorem dX5_toldCut_54 : decode cX5_toldCut 54 = .ok (.iload_n 2, 1) := by decide +kernel
theorem dX5_toldCut_55 : decode cX5_toldCut 55 = .ok (.bipush 10, 2) := by decide +kernel
theorem dX5_toldCut_57 : decode cX5_toldCut 57 = .ok (.isub, 1) := by decide +kernel
theorem dX5_toldCut_58 : decode cX5_toldCut 58 = .ok (.iaload, 1) := by decide +kernel
theorem dX5_toldCut_59 : decode cX5_toldCut 59 = .ok (.goto 5, 3) := by decide +kernel
theorem dX5_toldCut_62 : decode cX5_toldCut 62 = .ok (.bipush (-6), 2) := by decide +kernel
theorem dX5_toldCut_64 : decode cX5_toldCut 64 = .ok (.ireturn, 1) := by decide +kernel
theorem dX5_fair_0 : decode cX5_fair 0 = .ok (.iload_n 1, 1) := by decide +kernel
theorem dX5_fair_1 : decode cX5_fair 1 = .ok (.iconst 2, 1) := by decide +kernel
theorem dX5_fair_2 : decode cX5_fair 2 = .ok (.iconst 4, 1) := by decide +kernel
theorem dX5_fair_3 : decode cX5_fair 3 = .ok (.invokestatic 66, 3) := by decide +kernel
theorem dX5_fair_6 : decode cX5_fair 6 = .ok (.ifCond .eq 19, 3) := by decide +kernel
theorem dX5_fair_9 : decode cX5_fair 9 = .ok (.aload_n 0, 1) := by decide +kernel
theorem dX5_fair_10 : decode cX5_fair 10 = .ok (.iload_n 1, 1) := by decide +kernel
theorem dX5_fair_11 : decode cX5_fair 11 = .ok (.iload_n 2, 1) := by decide +kernel
theorem dX5_fair_12 : decode cX5_fair 12 = .ok (.aload_n 0, 1) := by decide +kernel
theorem dX5_fair_13 : decode cX5_fair 13 = .ok (.iload_n 1, 1) := by decide +kernel
