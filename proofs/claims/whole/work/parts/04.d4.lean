theorem d_RM_init_0 : decode b_RM_init 0 = .ok (.aload_n 0, 1) := by decide +kernel
theorem d_RM_init_1 : decode b_RM_init 1 = .ok (.invokespecial 1, 3) := by decide +kernel
theorem d_RM_init_4 : decode b_RM_init 4 = .ok (.aload_n 0, 1) := by decide +kernel
theorem d_RM_init_5 : decode b_RM_init 5 = .ok (.iconst 1, 1) := by decide +kernel
theorem d_RM_init_6 : decode b_RM_init 6 = .ok (.putfield 7, 3) := by decide +kernel
theorem d_RM_init_9 : decode b_RM_init 9 = .ok (.aload_n 0, 1) := by decide +kernel
theorem d_RM_init_10 : decode b_RM_init 10 = .ok (.bipush 40, 2) := by decide +kernel
theorem d_RM_init_12 : decode b_RM_init 12 = .ok (.newarray .int, 2) := by decide +kernel
theorem d_RM_init_14 : decode b_RM_init 14 = .ok (.putfield 13, 3) := by decide +kernel
theorem d_RM_init_17 : decode b_RM_init 17 = .ok (.aload_n 0, 1) := by decide +kernel
theorem d_RM_init_18 : decode b_RM_init 18 = .ok (.bipush 40, 2) := by decide +kernel
theorem d_RM_init_20 : decode b_RM_init 20 = .ok (.newarray .int, 2) := by decide +kernel
theorem d_RM_init_22 : decode b_RM_init 22 = .ok (.putfield 17, 3) := by decide +kernel
theorem d_RM_init_25 : decode b_RM_init 25 = .ok (.aload_n 0, 1) := by decide +kernel
theorem d_RM_init_26 : decode b_RM_init 26 = .ok (.bipush 40, 2) := by decide +kernel
theorem d_RM_init_28 : decode b_RM_init 28 = .ok (.newarray .int, 2) := by decide +kernel
theorem d_RM_init_30 : decode b_RM_init 30 = .ok (.putfield 20, 3) := by decide +kernel
theorem d_RM_init_33 : decode b_RM_init 33 = .ok (.aload_n 0, 1) := by decide +kernel
theorem d_RM_init_34 : decode b_RM_init 34 = .ok (.bipush 40, 2) := by decide +kernel
theorem d_RM_init_36 : decode b_RM_init 36 = .ok (.newarray .int, 2) := by decide +kernel
theorem d_RM_init_38 : decode b_RM_init 38 = .ok (.putfield 23, 3) := by decide +kernel
theorem d_RM_init_41 : decode b_RM_init 41 = .ok (.aload_n 0, 1) := by decide +kernel
theorem d_RM_init_42 : decode b_RM_init 42 = .ok (.sipush 160, 3) := by decide +kernel
theorem d_RM_init_45 : decode b_RM_init 45 = .ok (.newarray .int, 2) := by decide +kernel
theorem d_RM_init_47 : decode b_RM_init 47 = .ok (.putfield 26, 3) := by decide +kernel
theorem d_RM_init_50 : decode b_RM_init 50 = .ok (.aload_n 0, 1) := by decide +kernel
theorem d_RM_init_51 : decode b_RM_init 51 = .ok (.sipush 160, 3) := by decide +kernel
theorem d_RM_init_54 : decode b_RM_init 54 = .ok (.newarray .int, 2) := by decide +kernel
theorem d_RM_init_56 : decode b_RM_init 56 = .ok (.putfield 29, 3) := by decide +kernel
theorem d_RM_init_59 : decode b_RM_init 59 = .ok (.aload_n 0, 1) := by decide +kernel
theorem d_RM_init_60 : decode b_RM_init 60 = .ok (.bipush 64, 2) := by decide +kernel
theorem d_RM_init_62 : decode b_RM_init 62 = .ok (.newarray .boolean, 2) := by decide +kernel
theorem d_RM_init_64 : decode b_RM_init 64 = .ok (.putfield 32, 3) := by decide +kernel
theorem d_RM_init_67 : decode b_RM_init 67 = .ok (.aload_n 0, 1) := by decide +kernel
theorem d_RM_init_68 : decode b_RM_init 68 = .ok (.bipush 96, 2) := by decide +kernel
theorem d_RM_init_70 : decode b_RM_init 70 = .ok (.newarray .int, 2) := by decide +kernel
theorem d_RM_init_72 : decode b_RM_init 72 = .ok (.putfield 36, 3) := by decide +kernel
theorem d_RM_init_75 : decode b_RM_init 75 = .ok (.aload_n 0, 1) := by decide +kernel
theorem d_RM_init_76 : decode b_RM_init 76 = .ok (.ldc 39, 2) := by decide +kernel
theorem d_RM_init_78 : decode b_RM_init 78 = .ok (.newarray .int, 2) := by decide +kernel
theorem d_RM_init_80 : decode b_RM_init 80 = .ok (.putfield 40, 3) := by decide +kernel
theorem d_RM_init_83 : decode b_RM_init 83 = .ok (.aload_n 0, 1) := by decide +kernel
theorem d_RM_init_84 : decode b_RM_init 84 = .ok (.sipush 8192, 3) := by decide +kernel
theorem d_RM_init_87 : decode b_RM_init 87 = .ok (.newarray .int, 2) := by decide +kernel
theorem d_RM_init_89 : decode b_RM_init 89 = .ok (.putfield 43, 3) := by decide +kernel
theorem d_RM_init_92 : decode b_RM_init 92 = .ok (.aload_n 0, 1) := by decide +kernel
theorem d_RM_init_93 : decode b_RM_init 93 = .ok (.sipush 8192, 3) := by decide +kernel
theorem d_RM_init_96 : decode b_RM_init 96 = .ok (.newarray .int, 2) := by decide +kernel
theorem d_RM_init_98 : decode b_RM_init 98 = .ok (.putfield 46, 3) := by decide +kernel
theorem d_RM_init_101 : decode b_RM_init 101 = .ok (.aload_n 0, 1) := by decide +kernel
theorem d_RM_init_102 : decode b_RM_init 102 = .ok (.sipush 8192, 3) := by decide +kernel
theorem d_RM_init_105 : decode b_RM_init 105 = .ok (.newarray .int, 2) := by decide +kernel
theorem d_RM_init_107 : decode b_RM_init 107 = .ok (.putfield 49, 3) := by decide +kernel
theorem d_RM_init_110 : decode b_RM_init 110 = .ok (.aload_n 0, 1) := by decide +kernel
theorem d_RM_init_111 : decode b_RM_init 111 = .ok (.sipush 8192, 3) := by decide +kernel
theorem d_RM_init_114 : decode b_RM_init 114 = .ok (.newarray .int, 2) := by decide +kernel
theorem d_RM_init_116 : decode b_RM_init 116 = .ok (.putfield 52, 3) := by decide +kernel
theorem d_RM_init_119 : decode b_RM_init 119 = .ok (.aload_n 0, 1) := by decide +kernel
theorem d_RM_init_120 : decode b_RM_init 120 = .ok (.sipush 8192, 3) := by decide +kernel
theorem d_RM_init_123 : decode b_RM_init 123 = .ok (.newarray .int, 2) := by decide +kernel
theorem d_RM_init_125 : decode b_RM_init 125 = .ok (.putfield 55, 3) := by decide +kernel
theorem d_RM_init_128 : decode b_RM_init 128 = .ok (.aload_n 0, 1) := by decide +kernel
theorem d_RM_init_129 : decode b_RM_init 129 = .ok (.sipush 8192, 3) := by decide +kernel
theorem d_RM_init_132 : decode b_RM_init 132 = .ok (.newarray .int, 2) := by decide +kernel
theorem d_RM_init_134 : decode b_RM_init 134 = .ok (.putfield 58, 3) := by decide +kernel
theorem d_RM_init_137 : decode b_RM_init 137 = .ok (.aload_n 0, 1) := by decide +kernel
theorem d_RM_init_138 : decode b_RM_init 138 = .ok (.bipush 12, 2) := by decide +kernel
theorem d_RM_init_140 : decode b_RM_init 140 = .ok (.newarray .int, 2) := by decide +kernel
theorem d_RM_init_142 : decode b_RM_init 142 = .ok (.putfield 61, 3) := by decide +kernel
theorem d_RM_init_145 : decode b_RM_init 145 = .ok (.aload_n 0, 1) := by decide +kernel
theorem d_RM_init_146 : decode b_RM_init 146 = .ok (.bipush 12, 2) := by decide +kernel
theorem d_RM_init_148 : decode b_RM_init 148 = .ok (.newarray .int, 2) := by decide +kernel
theorem d_RM_init_150 : decode b_RM_init 150 = .ok (.putfield 64, 3) := by decide +kernel
theorem d_RM_init_153 : decode b_RM_init 153 = .ok (.aload_n 0, 1) := by decide +kernel
theorem d_RM_init_154 : decode b_RM_init 154 = .ok (.bipush 12, 2) := by decide +kernel
theorem d_RM_init_156 : decode b_RM_init 156 = .ok (.newarray .int, 2) := by decide +kernel
theorem d_RM_init_158 : decode b_RM_init 158 = .ok (.putfield 67, 3) := by decide +kernel
theorem d_RM_init_161 : decode b_RM_init 161 = .ok (.aload_n 0, 1) := by decide +kernel
theorem d_RM_init_162 : decode b_RM_init 162 = .ok (.iconst 1, 1) := by decide +kernel
theorem d_RM_init_163 : decode b_RM_init 163 = .ok (.iload_n 1, 1) := by decide +kernel
theorem d_RM_init_164 : decode b_RM_init 164 = .ok (.iconst 1, 1) := by decide +kernel
theorem d_RM_init_165 : decode b_RM_init 165 = .ok (.isub, 1) := by decide +kernel
theorem d_RM_init_166 : decode b_RM_init 166 = .ok (.iconst 3, 1) := by decide +kernel
theorem d_RM_init_167 : decode b_RM_init 167 = .ok (.iand, 1) := by decide +kernel
theorem d_RM_init_168 : decode b_RM_init 168 = .ok (.iadd, 1) := by decide +kernel
theorem d_RM_init_169 : decode b_RM_init 169 = .ok (.putfield 70, 3) := by decide +kernel
theorem d_RM_init_172 : decode b_RM_init 172 = .ok (.aload_n 0, 1) := by decide +kernel
theorem d_RM_init_173 : decode b_RM_init 173 = .ok (.iconst 1, 1) := by decide +kernel
theorem d_RM_init_174 : decode b_RM_init 174 = .ok (.iload_n 2, 1) := by decide +kernel
theorem d_RM_init_175 : decode b_RM_init 175 = .ok (.iconst 1, 1) := by decide +kernel
theorem d_RM_init_176 : decode b_RM_init 176 = .ok (.isub, 1) := by decide +kernel
theorem d_RM_init_177 : decode b_RM_init 177 = .ok (.sipush 8191, 3) := by decide +kernel
theorem d_RM_init_180 : decode b_RM_init 180 = .ok (.iand, 1) := by decide +kernel
theorem d_RM_init_181 : decode b_RM_init 181 = .ok (.iadd, 1) := by decide +kernel
theorem d_RM_init_182 : decode b_RM_init 182 = .ok (.putfield 73, 3) := by decide +kernel
theorem d_RM_init_185 : decode b_RM_init 185 = .ok (.iconst 0, 1) := by decide +kernel
theorem d_RM_init_186 : decode b_RM_init 186 = .ok (.istore_n 3, 1) := by decide +kernel
theorem d_RM_init_187 : decode b_RM_init 187 = .ok (.iload_n 3, 1) := by decide +kernel
theorem d_RM_init_188 : decode b_RM_init 188 = .ok (.sipush 256, 3) := by decide +kernel
theorem d_RM_init_191 : decode b_RM_init 191 = .ok (.if_icmp .ge 122, 3) := by decide +kernel
theorem d_RM_init_194 : decode b_RM_init 194 = .ok (.iconst 0, 1) := by decide +kernel
theorem d_RM_init_195 : decode b_RM_init 195 = .ok (.istore 4, 2) := by decide +kernel
theorem d_RM_init_197 : decode b_RM_init 197 = .ok (.iconst 0, 1) := by decide +kernel
theorem d_RM_init_198 : decode b_RM_init 198 = .ok (.istore 5, 2) := by decide +kernel
theorem d_RM_init_200 : decode b_RM_init 200 = .ok (.iload 5, 2) := by decide +kernel
theorem d_RM_init_202 : decode b_RM_init 202 = .ok (.aload_n 0, 1) := by decide +kernel
theorem d_RM_init_203 : decode b_RM_init 203 = .ok (.getfield 70, 3) := by decide +kernel
theorem d_RM_init_206 : decode b_RM_init 206 = .ok (.if_icmp .ge 24, 3) := by decide +kernel
theorem d_RM_init_209 : decode b_RM_init 209 = .ok (.iload 4, 2) := by decide +kernel
theorem d_RM_init_211 : decode b_RM_init 211 = .ok (.iconst 1, 1) := by decide +kernel
theorem d_RM_init_212 : decode b_RM_init 212 = .ok (.iload_n 3, 1) := by decide +kernel
theorem d_RM_init_213 : decode b_RM_init 213 = .ok (.iconst 2, 1) := by decide +kernel
theorem d_RM_init_214 : decode b_RM_init 214 = .ok (.iload 5, 2) := by decide +kernel
theorem d_RM_init_216 : decode b_RM_init 216 = .ok (.imul, 1) := by decide +kernel
theorem d_RM_init_217 : decode b_RM_init 217 = .ok (.ishr, 1) := by decide +kernel
theorem d_RM_init_218 : decode b_RM_init 218 = .ok (.iconst 3, 1) := by decide +kernel
theorem d_RM_init_219 : decode b_RM_init 219 = .ok (.iand, 1) := by decide +kernel
theorem d_RM_init_220 : decode b_RM_init 220 = .ok (.ishl, 1) := by decide +kernel
theorem d_RM_init_221 : decode b_RM_init 221 = .ok (.ior, 1) := by decide +kernel
theorem d_RM_init_222 : decode b_RM_init 222 = .ok (.istore 4, 2) := by decide +kernel
theorem d_RM_init_224 : decode b_RM_init 224 = .ok (.iinc 5 1, 3) := by decide +kernel
theorem d_RM_init_227 : decode b_RM_init 227 = .ok (.goto (-27), 3) := by decide +kernel
theorem d_RM_init_230 : decode b_RM_init 230 = .ok (.iload 4, 2) := by decide +kernel
theorem d_RM_init_232 : decode b_RM_init 232 = .ok (.iconst 1, 1) := by decide +kernel
theorem d_RM_init_233 : decode b_RM_init 233 = .ok (.aload_n 0, 1) := by decide +kernel
theorem d_RM_init_234 : decode b_RM_init 234 = .ok (.getfield 70, 3) := by decide +kernel
theorem d_RM_init_237 : decode b_RM_init 237 = .ok (.ishl, 1) := by decide +kernel
theorem d_RM_init_238 : decode b_RM_init 238 = .ok (.iconst 1, 1) := by decide +kernel
theorem d_RM_init_239 : decode b_RM_init 239 = .ok (.isub, 1) := by decide +kernel
theorem d_RM_init_240 : decode b_RM_init 240 = .ok (.if_icmp .ne 67, 3) := by decide +kernel
theorem d_RM_init_243 : decode b_RM_init 243 = .ok (.iload_n 3, 1) := by decide +kernel
theorem d_RM_init_244 : decode b_RM_init 244 = .ok (.iconst 2, 1) := by decide +kernel
theorem d_RM_init_245 : decode b_RM_init 245 = .ok (.aload_n 0, 1) := by decide +kernel
theorem d_RM_init_246 : decode b_RM_init 246 = .ok (.getfield 70, 3) := by decide +kernel
theorem d_RM_init_249 : decode b_RM_init 249 = .ok (.imul, 1) := by decide +kernel
theorem d_RM_init_250 : decode b_RM_init 250 = .ok (.ishr, 1) := by decide +kernel
theorem d_RM_init_251 : decode b_RM_init 251 = .ok (.ifCond .le 6, 3) := by decide +kernel
theorem d_RM_init_254 : decode b_RM_init 254 = .ok (.goto 53, 3) := by decide +kernel
theorem d_RM_init_257 : decode b_RM_init 257 = .ok (.iconst 0, 1) := by decide +kernel
theorem d_RM_init_258 : decode b_RM_init 258 = .ok (.istore 5, 2) := by decide +kernel
theorem d_RM_init_260 : decode b_RM_init 260 = .ok (.iload 5, 2) := by decide +kernel
theorem d_RM_init_262 : decode b_RM_init 262 = .ok (.aload_n 0, 1) := by decide +kernel
theorem d_RM_init_263 : decode b_RM_init 263 = .ok (.getfield 70, 3) := by decide +kernel
theorem d_RM_init_266 : decode b_RM_init 266 = .ok (.if_icmp .ge 31, 3) := by decide +kernel
theorem d_RM_init_269 : decode b_RM_init 269 = .ok (.aload_n 0, 1) := by decide +kernel
theorem d_RM_init_270 : decode b_RM_init 270 = .ok (.getfield 36, 3) := by decide +kernel
theorem d_RM_init_273 : decode b_RM_init 273 = .ok (.iconst 4, 1) := by decide +kernel
theorem d_RM_init_274 : decode b_RM_init 274 = .ok (.aload_n 0, 1) := by decide +kernel
theorem d_RM_init_275 : decode b_RM_init 275 = .ok (.getfield 76, 3) := by decide +kernel
theorem d_RM_init_278 : decode b_RM_init 278 = .ok (.imul, 1) := by decide +kernel
theorem d_RM_init_279 : decode b_RM_init 279 = .ok (.iload 5, 2) := by decide +kernel
theorem d_RM_init_281 : decode b_RM_init 281 = .ok (.iadd, 1) := by decide +kernel
theorem d_RM_init_282 : decode b_RM_init 282 = .ok (.iload_n 3, 1) := by decide +kernel
theorem d_RM_init_283 : decode b_RM_init 283 = .ok (.iconst 2, 1) := by decide +kernel
theorem d_RM_init_284 : decode b_RM_init 284 = .ok (.iload 5, 2) := by decide +kernel
theorem d_RM_init_286 : decode b_RM_init 286 = .ok (.imul, 1) := by decide +kernel
theorem d_RM_init_287 : decode b_RM_init 287 = .ok (.ishr, 1) := by decide +kernel
theorem d_RM_init_288 : decode b_RM_init 288 = .ok (.iconst 3, 1) := by decide +kernel
theorem d_RM_init_289 : decode b_RM_init 289 = .ok (.iand, 1) := by decide +kernel
theorem d_RM_init_290 : decode b_RM_init 290 = .ok (.iastore, 1) := by decide +kernel
theorem d_RM_init_291 : decode b_RM_init 291 = .ok (.iinc 5 1, 3) := by decide +kernel
theorem d_RM_init_294 : decode b_RM_init 294 = .ok (.goto (-34), 3) := by decide +kernel
theorem d_RM_init_297 : decode b_RM_init 297 = .ok (.aload_n 0, 1) := by decide +kernel
theorem d_RM_init_298 : decode b_RM_init 298 = .ok (.dup, 1) := by decide +kernel
theorem d_RM_init_299 : decode b_RM_init 299 = .ok (.getfield 76, 3) := by decide +kernel
theorem d_RM_init_302 : decode b_RM_init 302 = .ok (.iconst 1, 1) := by decide +kernel
theorem d_RM_init_303 : decode b_RM_init 303 = .ok (.iadd, 1) := by decide +kernel
theorem d_RM_init_304 : decode b_RM_init 304 = .ok (.putfield 76, 3) := by decide +kernel
theorem d_RM_init_307 : decode b_RM_init 307 = .ok (.iinc 3 1, 3) := by decide +kernel
theorem d_RM_init_310 : decode b_RM_init 310 = .ok (.goto (-123), 3) := by decide +kernel
theorem d_RM_init_313 : decode b_RM_init 313 = .ok (.return_, 1) := by decide +kernel
theorem d_RM_thrown_0 : decode b_RM_thrown 0 = .ok (.aload_n 0, 1) := by decide +kernel
theorem d_RM_thrown_1 : decode b_RM_thrown 1 = .ok (.getfield 79, 3) := by decide +kernel
theorem d_RM_thrown_4 : decode b_RM_thrown 4 = .ok (.ireturn, 1) := by decide +kernel
theorem d_RM_throwing_0 : decode b_RM_throwing 0 = .ok (.aload_n 0, 1) := by decide +kernel
theorem d_RM_throwing_1 : decode b_RM_throwing 1 = .ok (.iload_n 1, 1) := by decide +kernel
theorem d_RM_throwing_2 : decode b_RM_throwing 2 = .ok (.ifCond .eq 7, 3) := by decide +kernel
theorem d_RM_throwing_5 : decode b_RM_throwing 5 = .ok (.iconst 1, 1) := by decide +kernel
theorem d_RM_throwing_6 : decode b_RM_throwing 6 = .ok (.goto 12, 3) := by decide +kernel
theorem d_RM_throwing_9 : decode b_RM_throwing 9 = .ok (.iload_n 2, 1) := by decide +kernel
theorem d_RM_throwing_10 : decode b_RM_throwing 10 = .ok (.ifCond .eq 7, 3) := by decide +kernel
theorem d_RM_throwing_13 : decode b_RM_throwing 13 = .ok (.iconst 2, 1) := by decide +kernel
theorem d_RM_throwing_14 : decode b_RM_throwing 14 = .ok (.goto 4, 3) := by decide +kernel
theorem d_RM_throwing_17 : decode b_RM_throwing 17 = .ok (.iconst 0, 1) := by decide +kernel
theorem d_RM_throwing_18 : decode b_RM_throwing 18 = .ok (.putfield 79, 3) := by decide +kernel
theorem d_RM_throwing_21 : decode b_RM_throwing 21 = .ok (.aload_n 0, 1) := by decide +kernel
theorem d_RM_throwing_22 : decode b_RM_throwing 22 = .ok (.getfield 79, 3) := by decide +kernel
theorem d_RM_throwing_25 : decode b_RM_throwing 25 = .ok (.ifCond .le 7, 3) := by decide +kernel
theorem d_RM_throwing_28 : decode b_RM_throwing 28 = .ok (.iconst 1, 1) := by decide +kernel
theorem d_RM_throwing_29 : decode b_RM_throwing 29 = .ok (.goto 4, 3) := by decide +kernel
theorem d_RM_throwing_32 : decode b_RM_throwing 32 = .ok (.iconst 0, 1) := by decide +kernel
theorem d_RM_throwing_33 : decode b_RM_throwing 33 = .ok (.ireturn, 1) := by decide +kernel
theorem d_RM_isOf_0 : decode b_RM_isOf 0 = .ok (.iload_n 0, 1) := by decide +kernel
theorem d_RM_isOf_1 : decode b_RM_isOf 1 = .ok (.ifCond .lt 12, 3) := by decide +kernel
theorem d_RM_isOf_4 : decode b_RM_isOf 4 = .ok (.iload_n 0, 1) := by decide +kernel
theorem d_RM_isOf_5 : decode b_RM_isOf 5 = .ok (.iload_n 1, 1) := by decide +kernel
theorem d_RM_isOf_6 : decode b_RM_isOf 6 = .ok (.if_icmp .ge 7, 3) := by decide +kernel
theorem d_RM_isOf_9 : decode b_RM_isOf 9 = .ok (.iconst 1, 1) := by decide +kernel
theorem d_RM_isOf_10 : decode b_RM_isOf 10 = .ok (.goto 4, 3) := by decide +kernel
theorem d_RM_isOf_13 : decode b_RM_isOf 13 = .ok (.iconst 0, 1) := by decide +kernel
theorem d_RM_isOf_14 : decode b_RM_isOf 14 = .ok (.ireturn, 1) := by decide +kernel
theorem d_RM_forget_0 : decode b_RM_forget 0 = .ok (.aload_n 0, 1) := by decide +kernel
theorem d_RM_forget_1 : decode b_RM_forget 1 = .ok (.iconst 0, 1) := by decide +kernel
theorem d_RM_forget_2 : decode b_RM_forget 2 = .ok (.putfield 82, 3) := by decide +kernel
theorem d_RM_forget_5 : decode b_RM_forget 5 = .ok (.aload_n 0, 1) := by decide +kernel
theorem d_RM_forget_6 : decode b_RM_forget 6 = .ok (.iconst 0, 1) := by decide +kernel
theorem d_RM_forget_7 : decode b_RM_forget 7 = .ok (.putfield 85, 3) := by decide +kernel
theorem d_RM_forget_10 : decode b_RM_forget 10 = .ok (.aload_n 0, 1) := by decide +kernel
theorem d_RM_forget_11 : decode b_RM_forget 11 = .ok (.iconst 0, 1) := by decide +kernel
theorem d_RM_forget_12 : decode b_RM_forget 12 = .ok (.putfield 88, 3) := by decide +kernel
theorem d_RM_forget_15 : decode b_RM_forget 15 = .ok (.aload_n 0, 1) := by decide +kernel
theorem d_RM_forget_16 : decode b_RM_forget 16 = .ok (.iconst 0, 1) := by decide +kernel
theorem d_RM_forget_17 : decode b_RM_forget 17 = .ok (.putfield 91, 3) := by decide +kernel
theorem d_RM_forget_20 : decode b_RM_forget 20 = .ok (.aload_n 0, 1) := by decide +kernel
theorem d_RM_forget_21 : decode b_RM_forget 21 = .ok (.iconst 0, 1) := by decide +kernel
theorem d_RM_forget_22 : decode b_RM_forget 22 = .ok (.putfield 94, 3) := by decide +kernel
theorem d_RM_forget_25 : decode b_RM_forget 25 = .ok (.aload_n 0, 1) := by decide +kernel
theorem d_RM_forget_26 : decode b_RM_forget 26 = .ok (.iconst 0, 1) := by decide +kernel
theorem d_RM_forget_27 : decode b_RM_forget 27 = .ok (.putfield 97, 3) := by decide +kernel
theorem d_RM_forget_30 : decode b_RM_forget 30 = .ok (.aload_n 0, 1) := by decide +kernel
theorem d_RM_forget_31 : decode b_RM_forget 31 = .ok (.iconst (-1), 1) := by decide +kernel
theorem d_RM_forget_32 : decode b_RM_forget 32 = .ok (.putfield 100, 3) := by decide +kernel
theorem d_RM_forget_35 : decode b_RM_forget 35 = .ok (.return_, 1) := by decide +kernel
theorem d_RM_state_0 : decode b_RM_state 0 = .ok (.aload_n 0, 1) := by decide +kernel
theorem d_RM_state_1 : decode b_RM_state 1 = .ok (.aload_n 0, 1) := by decide +kernel
theorem d_RM_state_2 : decode b_RM_state 2 = .ok (.getfield 7, 3) := by decide +kernel
theorem d_RM_state_5 : decode b_RM_state 5 = .ok (.bipush 8, 2) := by decide +kernel
theorem d_RM_state_7 : decode b_RM_state 7 = .ok (.if_icmp .ne 7, 3) := by decide +kernel
theorem d_RM_state_10 : decode b_RM_state 10 = .ok (.iconst 1, 1) := by decide +kernel
theorem d_RM_state_11 : decode b_RM_state 11 = .ok (.goto 4, 3) := by decide +kernel
theorem d_RM_state_14 : decode b_RM_state 14 = .ok (.iconst 0, 1) := by decide +kernel
theorem d_RM_state_15 : decode b_RM_state 15 = .ok (.iconst 0, 1) := by decide +kernel
theorem d_RM_state_16 : decode b_RM_state 16 = .ok (.invokevirtual 103, 3) := by decide +kernel
theorem d_RM_state_19 : decode b_RM_state 19 = .ok (.ifCond .eq 5, 3) := by decide +kernel
theorem d_RM_state_22 : decode b_RM_state 22 = .ok (.iconst 0, 1) := by decide +kernel
theorem d_RM_state_23 : decode b_RM_state 23 = .ok (.ireturn, 1) := by decide +kernel
theorem d_RM_state_24 : decode b_RM_state 24 = .ok (.aload_n 0, 1) := by decide +kernel
theorem d_RM_state_25 : decode b_RM_state 25 = .ok (.invokevirtual 107, 3) := by decide +kernel
theorem d_RM_state_28 : decode b_RM_state 28 = .ok (.aload_n 0, 1) := by decide +kernel
theorem d_RM_state_29 : decode b_RM_state 29 = .ok (.dup, 1) := by decide +kernel
theorem d_RM_state_30 : decode b_RM_state 30 = .ok (.getfield 7, 3) := by decide +kernel
theorem d_RM_state_33 : decode b_RM_state 33 = .ok (.iconst 1, 1) := by decide +kernel
theorem d_RM_state_34 : decode b_RM_state 34 = .ok (.iadd, 1) := by decide +kernel
theorem d_RM_state_35 : decode b_RM_state 35 = .ok (.putfield 7, 3) := by decide +kernel
theorem d_RM_state_38 : decode b_RM_state 38 = .ok (.aload_n 0, 1) := by decide +kernel
theorem d_RM_state_39 : decode b_RM_state 39 = .ok (.getfield 7, 3) := by decide +kernel
theorem d_RM_state_42 : decode b_RM_state 42 = .ok (.iconst 1, 1) := by decide +kernel
theorem d_RM_state_43 : decode b_RM_state 43 = .ok (.isub, 1) := by decide +kernel
theorem d_RM_state_44 : decode b_RM_state 44 = .ok (.ireturn, 1) := by decide +kernel
theorem d_RM_message_0 : decode b_RM_message 0 = .ok (.aload_n 0, 1) := by decide +kernel
theorem d_RM_message_1 : decode b_RM_message 1 = .ok (.aload_n 0, 1) := by decide +kernel
theorem d_RM_message_2 : decode b_RM_message 2 = .ok (.getfield 110, 3) := by decide +kernel
theorem d_RM_message_5 : decode b_RM_message 5 = .ok (.bipush 6, 2) := by decide +kernel
theorem d_RM_message_7 : decode b_RM_message 7 = .ok (.if_icmp .ne 7, 3) := by decide +kernel
theorem d_RM_message_10 : decode b_RM_message 10 = .ok (.iconst 1, 1) := by decide +kernel
theorem d_RM_message_11 : decode b_RM_message 11 = .ok (.goto 4, 3) := by decide +kernel
theorem d_RM_message_14 : decode b_RM_message 14 = .ok (.iconst 0, 1) := by decide +kernel
theorem d_RM_message_15 : decode b_RM_message 15 = .ok (.iconst 0, 1) := by decide +kernel
theorem d_RM_message_16 : decode b_RM_message 16 = .ok (.invokevirtual 103, 3) := by decide +kernel
theorem d_RM_message_19 : decode b_RM_message 19 = .ok (.ifCond .eq 5, 3) := by decide +kernel
theorem d_RM_message_22 : decode b_RM_message 22 = .ok (.iconst 0, 1) := by decide +kernel
theorem d_RM_message_23 : decode b_RM_message 23 = .ok (.ireturn, 1) := by decide +kernel
theorem d_RM_message_24 : decode b_RM_message 24 = .ok (.aload_n 0, 1) := by decide +kernel
theorem d_RM_message_25 : decode b_RM_message 25 = .ok (.invokevirtual 107, 3) := by decide +kernel
theorem d_RM_message_28 : decode b_RM_message 28 = .ok (.aload_n 0, 1) := by decide +kernel
theorem d_RM_message_29 : decode b_RM_message 29 = .ok (.dup, 1) := by decide +kernel
theorem d_RM_message_30 : decode b_RM_message 30 = .ok (.getfield 110, 3) := by decide +kernel
theorem d_RM_message_33 : decode b_RM_message 33 = .ok (.iconst 1, 1) := by decide +kernel
theorem d_RM_message_34 : decode b_RM_message 34 = .ok (.iadd, 1) := by decide +kernel
theorem d_RM_message_35 : decode b_RM_message 35 = .ok (.putfield 110, 3) := by decide +kernel
theorem d_RM_message_38 : decode b_RM_message 38 = .ok (.aload_n 0, 1) := by decide +kernel
theorem d_RM_message_39 : decode b_RM_message 39 = .ok (.getfield 110, 3) := by decide +kernel
theorem d_RM_message_42 : decode b_RM_message 42 = .ok (.iconst 1, 1) := by decide +kernel
theorem d_RM_message_43 : decode b_RM_message 43 = .ok (.isub, 1) := by decide +kernel
theorem d_RM_message_44 : decode b_RM_message 44 = .ok (.ireturn, 1) := by decide +kernel
theorem d_RM_rule_0 : decode b_RM_rule 0 = .ok (.aload_n 0, 1) := by decide +kernel
theorem d_RM_rule_1 : decode b_RM_rule 1 = .ok (.iload_n 1, 1) := by decide +kernel
theorem d_RM_rule_2 : decode b_RM_rule 2 = .ok (.aload_n 0, 1) := by decide +kernel
theorem d_RM_rule_3 : decode b_RM_rule 3 = .ok (.getfield 7, 3) := by decide +kernel
theorem d_RM_rule_6 : decode b_RM_rule 6 = .ok (.invokestatic 113, 3) := by decide +kernel
theorem d_RM_rule_9 : decode b_RM_rule 9 = .ok (.ifCond .eq 30, 3) := by decide +kernel
theorem d_RM_rule_12 : decode b_RM_rule 12 = .ok (.iload_n 3, 1) := by decide +kernel
theorem d_RM_rule_13 : decode b_RM_rule 13 = .ok (.aload_n 0, 1) := by decide +kernel
theorem d_RM_rule_14 : decode b_RM_rule 14 = .ok (.getfield 7, 3) := by decide +kernel
theorem d_RM_rule_17 : decode b_RM_rule 17 = .ok (.invokestatic 113, 3) := by decide +kernel
theorem d_RM_rule_20 : decode b_RM_rule 20 = .ok (.ifCond .eq 19, 3) := by decide +kernel
theorem d_RM_rule_23 : decode b_RM_rule 23 = .ok (.iload_n 2, 1) := by decide +kernel
theorem d_RM_rule_24 : decode b_RM_rule 24 = .ok (.iconst (-1), 1) := by decide +kernel
theorem d_RM_rule_25 : decode b_RM_rule 25 = .ok (.if_icmp .eq 18, 3) := by decide +kernel
theorem d_RM_rule_28 : decode b_RM_rule 28 = .ok (.iload_n 2, 1) := by decide +kernel
theorem d_RM_rule_29 : decode b_RM_rule 29 = .ok (.aload_n 0, 1) := by decide +kernel
theorem d_RM_rule_30 : decode b_RM_rule 30 = .ok (.getfield 110, 3) := by decide +kernel
theorem d_RM_rule_33 : decode b_RM_rule 33 = .ok (.invokestatic 113, 3) := by decide +kernel
theorem d_RM_rule_36 : decode b_RM_rule 36 = .ok (.ifCond .ne 7, 3) := by decide +kernel
theorem d_RM_rule_39 : decode b_RM_rule 39 = .ok (.iconst 1, 1) := by decide +kernel
theorem d_RM_rule_40 : decode b_RM_rule 40 = .ok (.goto 4, 3) := by decide +kernel
theorem d_RM_rule_43 : decode b_RM_rule 43 = .ok (.iconst 0, 1) := by decide +kernel
theorem d_RM_rule_44 : decode b_RM_rule 44 = .ok (.aload_n 0, 1) := by decide +kernel
theorem d_RM_rule_45 : decode b_RM_rule 45 = .ok (.getfield 117, 3) := by decide +kernel
theorem d_RM_rule_48 : decode b_RM_rule 48 = .ok (.bipush 40, 2) := by decide +kernel
theorem d_RM_rule_50 : decode b_RM_rule 50 = .ok (.if_icmp .ne 7, 3) := by decide +kernel
theorem d_RM_rule_53 : decode b_RM_rule 53 = .ok (.iconst 1, 1) := by decide +kernel
theorem d_RM_rule_54 : decode b_RM_rule 54 = .ok (.goto 4, 3) := by decide +kernel
theorem d_RM_rule_57 : decode b_RM_rule 57 = .ok (.iconst 0, 1) := by decide +kernel
theorem d_RM_rule_58 : decode b_RM_rule 58 = .ok (.invokevirtual 103, 3) := by decide +kernel
theorem d_RM_rule_61 : decode b_RM_rule 61 = .ok (.ifCond .eq 5, 3) := by decide +kernel
theorem d_RM_rule_64 : decode b_RM_rule 64 = .ok (.iconst 0, 1) := by decide +kernel
theorem d_RM_rule_65 : decode b_RM_rule 65 = .ok (.ireturn, 1) := by decide +kernel
theorem d_RM_rule_66 : decode b_RM_rule 66 = .ok (.aload_n 0, 1) := by decide +kernel
theorem d_RM_rule_67 : decode b_RM_rule 67 = .ok (.invokevirtual 107, 3) := by decide +kernel
theorem d_RM_rule_70 : decode b_RM_rule 70 = .ok (.aload_n 0, 1) := by decide +kernel
theorem d_RM_rule_71 : decode b_RM_rule 71 = .ok (.getfield 13, 3) := by decide +kernel
theorem d_RM_rule_74 : decode b_RM_rule 74 = .ok (.aload_n 0, 1) := by decide +kernel
theorem d_RM_rule_75 : decode b_RM_rule 75 = .ok (.getfield 117, 3) := by decide +kernel
theorem d_RM_rule_78 : decode b_RM_rule 78 = .ok (.iload_n 1, 1) := by decide +kernel
theorem d_RM_rule_79 : decode b_RM_rule 79 = .ok (.iastore, 1) := by decide +kernel
theorem d_RM_rule_80 : decode b_RM_rule 80 = .ok (.aload_n 0, 1) := by decide +kernel
theorem d_RM_rule_81 : decode b_RM_rule 81 = .ok (.getfield 17, 3) := by decide +kernel
theorem d_RM_rule_84 : decode b_RM_rule 84 = .ok (.aload_n 0, 1) := by decide +kernel
theorem d_RM_rule_85 : decode b_RM_rule 85 = .ok (.getfield 117, 3) := by decide +kernel
theorem d_RM_rule_88 : decode b_RM_rule 88 = .ok (.iload_n 2, 1) := by decide +kernel
theorem d_RM_rule_89 : decode b_RM_rule 89 = .ok (.iastore, 1) := by decide +kernel
theorem d_RM_rule_90 : decode b_RM_rule 90 = .ok (.aload_n 0, 1) := by decide +kernel
theorem d_RM_rule_91 : decode b_RM_rule 91 = .ok (.getfield 20, 3) := by decide +kernel
theorem d_RM_rule_94 : decode b_RM_rule 94 = .ok (.aload_n 0, 1) := by decide +kernel
theorem d_RM_rule_95 : decode b_RM_rule 95 = .ok (.getfield 117, 3) := by decide +kernel
theorem d_RM_rule_98 : decode b_RM_rule 98 = .ok (.iload_n 3, 1) := by decide +kernel
theorem d_RM_rule_99 : decode b_RM_rule 99 = .ok (.iastore, 1) := by decide +kernel
theorem d_RM_rule_100 : decode b_RM_rule 100 = .ok (.aload_n 0, 1) := by decide +kernel
theorem d_RM_rule_101 : decode b_RM_rule 101 = .ok (.getfield 23, 3) := by decide +kernel
theorem d_RM_rule_104 : decode b_RM_rule 104 = .ok (.aload_n 0, 1) := by decide +kernel
theorem d_RM_rule_105 : decode b_RM_rule 105 = .ok (.getfield 117, 3) := by decide +kernel
theorem d_RM_rule_108 : decode b_RM_rule 108 = .ok (.iconst 0, 1) := by decide +kernel
theorem d_RM_rule_109 : decode b_RM_rule 109 = .ok (.iastore, 1) := by decide +kernel
theorem d_RM_rule_110 : decode b_RM_rule 110 = .ok (.aload_n 0, 1) := by decide +kernel
theorem d_RM_rule_111 : decode b_RM_rule 111 = .ok (.dup, 1) := by decide +kernel
theorem d_RM_rule_112 : decode b_RM_rule 112 = .ok (.getfield 117, 3) := by decide +kernel
theorem d_RM_rule_115 : decode b_RM_rule 115 = .ok (.iconst 1, 1) := by decide +kernel
theorem d_RM_rule_116 : decode b_RM_rule 116 = .ok (.iadd, 1) := by decide +kernel
theorem d_RM_rule_117 : decode b_RM_rule 117 = .ok (.putfield 117, 3) := by decide +kernel
theorem d_RM_rule_120 : decode b_RM_rule 120 = .ok (.aload_n 0, 1) := by decide +kernel
theorem d_RM_rule_121 : decode b_RM_rule 121 = .ok (.getfield 117, 3) := by decide +kernel
theorem d_RM_rule_124 : decode b_RM_rule 124 = .ok (.iconst 1, 1) := by decide +kernel
theorem d_RM_rule_125 : decode b_RM_rule 125 = .ok (.isub, 1) := by decide +kernel
theorem d_RM_rule_126 : decode b_RM_rule 126 = .ok (.ireturn, 1) := by decide +kernel
theorem d_RM_sends_0 : decode b_RM_sends 0 = .ok (.iload_n 1, 1) := by decide +kernel
theorem d_RM_sends_1 : decode b_RM_sends 1 = .ok (.aload_n 0, 1) := by decide +kernel
theorem d_RM_sends_2 : decode b_RM_sends 2 = .ok (.getfield 117, 3) := by decide +kernel
theorem d_RM_sends_5 : decode b_RM_sends 5 = .ok (.invokestatic 113, 3) := by decide +kernel
theorem d_RM_sends_8 : decode b_RM_sends 8 = .ok (.ifCond .eq 22, 3) := by decide +kernel
theorem d_RM_sends_11 : decode b_RM_sends 11 = .ok (.iload_n 2, 1) := by decide +kernel
theorem d_RM_sends_12 : decode b_RM_sends 12 = .ok (.aload_n 0, 1) := by decide +kernel
theorem d_RM_sends_13 : decode b_RM_sends 13 = .ok (.getfield 110, 3) := by decide +kernel
theorem d_RM_sends_16 : decode b_RM_sends 16 = .ok (.invokestatic 113, 3) := by decide +kernel
theorem d_RM_sends_19 : decode b_RM_sends 19 = .ok (.ifCond .eq 11, 3) := by decide +kernel
theorem d_RM_sends_22 : decode b_RM_sends 22 = .ok (.iload_n 3, 1) := by decide +kernel
theorem d_RM_sends_23 : decode b_RM_sends 23 = .ok (.iconst 2, 1) := by decide +kernel
theorem d_RM_sends_24 : decode b_RM_sends 24 = .ok (.invokestatic 113, 3) := by decide +kernel
theorem d_RM_sends_27 : decode b_RM_sends 27 = .ok (.ifCond .ne 7, 3) := by decide +kernel
theorem d_RM_sends_30 : decode b_RM_sends 30 = .ok (.iconst 1, 1) := by decide +kernel
theorem d_RM_sends_31 : decode b_RM_sends 31 = .ok (.goto 4, 3) := by decide +kernel
theorem d_RM_sends_34 : decode b_RM_sends 34 = .ok (.iconst 0, 1) := by decide +kernel
theorem d_RM_sends_35 : decode b_RM_sends 35 = .ok (.istore 4, 2) := by decide +kernel
theorem d_RM_sends_37 : decode b_RM_sends 37 = .ok (.aload_n 0, 1) := by decide +kernel
theorem d_RM_sends_38 : decode b_RM_sends 38 = .ok (.iload 4, 2) := by decide +kernel
theorem d_RM_sends_40 : decode b_RM_sends 40 = .ok (.ifCond .ne 17, 3) := by decide +kernel
theorem d_RM_sends_43 : decode b_RM_sends 43 = .ok (.iload_n 3, 1) := by decide +kernel
theorem d_RM_sends_44 : decode b_RM_sends 44 = .ok (.ifCond .ne 17, 3) := by decide +kernel
theorem d_RM_sends_47 : decode b_RM_sends 47 = .ok (.aload_n 0, 1) := by decide +kernel
theorem d_RM_sends_48 : decode b_RM_sends 48 = .ok (.getfield 17, 3) := by decide +kernel
theorem d_RM_sends_51 : decode b_RM_sends 51 = .ok (.iload_n 1, 1) := by decide +kernel
theorem d_RM_sends_52 : decode b_RM_sends 52 = .ok (.iaload, 1) := by decide +kernel
theorem d_RM_sends_53 : decode b_RM_sends 53 = .ok (.iconst (-1), 1) := by decide +kernel
theorem d_RM_sends_54 : decode b_RM_sends 54 = .ok (.if_icmp .ne 7, 3) := by decide +kernel
theorem d_RM_sends_57 : decode b_RM_sends 57 = .ok (.iconst 1, 1) := by decide +kernel
theorem d_RM_sends_58 : decode b_RM_sends 58 = .ok (.goto 4, 3) := by decide +kernel
theorem d_RM_sends_61 : decode b_RM_sends 61 = .ok (.iconst 0, 1) := by decide +kernel
theorem d_RM_sends_62 : decode b_RM_sends 62 = .ok (.iload 4, 2) := by decide +kernel
theorem d_RM_sends_64 : decode b_RM_sends 64 = .ok (.ifCond .ne 17, 3) := by decide +kernel
theorem d_RM_sends_67 : decode b_RM_sends 67 = .ok (.aload_n 0, 1) := by decide +kernel
theorem d_RM_sends_68 : decode b_RM_sends 68 = .ok (.getfield 23, 3) := by decide +kernel
theorem d_RM_sends_71 : decode b_RM_sends 71 = .ok (.iload_n 1, 1) := by decide +kernel
theorem d_RM_sends_72 : decode b_RM_sends 72 = .ok (.iaload, 1) := by decide +kernel
theorem d_RM_sends_73 : decode b_RM_sends 73 = .ok (.iconst 4, 1) := by decide +kernel
theorem d_RM_sends_74 : decode b_RM_sends 74 = .ok (.if_icmp .ne 7, 3) := by decide +kernel
theorem d_RM_sends_77 : decode b_RM_sends 77 = .ok (.iconst 1, 1) := by decide +kernel
theorem d_RM_sends_78 : decode b_RM_sends 78 = .ok (.goto 4, 3) := by decide +kernel
theorem d_RM_sends_81 : decode b_RM_sends 81 = .ok (.iconst 0, 1) := by decide +kernel
theorem d_RM_sends_82 : decode b_RM_sends 82 = .ok (.invokevirtual 103, 3) := by decide +kernel
theorem d_RM_sends_85 : decode b_RM_sends 85 = .ok (.ifCond .eq 5, 3) := by decide +kernel
theorem d_RM_sends_88 : decode b_RM_sends 88 = .ok (.iconst 0, 1) := by decide +kernel
theorem d_RM_sends_89 : decode b_RM_sends 89 = .ok (.ireturn, 1) := by decide +kernel
theorem d_RM_sends_90 : decode b_RM_sends 90 = .ok (.aload_n 0, 1) := by decide +kernel
theorem d_RM_sends_91 : decode b_RM_sends 91 = .ok (.invokevirtual 107, 3) := by decide +kernel
theorem d_RM_sends_94 : decode b_RM_sends 94 = .ok (.aload_n 0, 1) := by decide +kernel
theorem d_RM_sends_95 : decode b_RM_sends 95 = .ok (.getfield 26, 3) := by decide +kernel
theorem d_RM_sends_98 : decode b_RM_sends 98 = .ok (.iconst 4, 1) := by decide +kernel
theorem d_RM_sends_99 : decode b_RM_sends 99 = .ok (.iload_n 1, 1) := by decide +kernel
theorem d_RM_sends_100 : decode b_RM_sends 100 = .ok (.imul, 1) := by decide +kernel
theorem d_RM_sends_101 : decode b_RM_sends 101 = .ok (.aload_n 0, 1) := by decide +kernel
theorem d_RM_sends_102 : decode b_RM_sends 102 = .ok (.getfield 23, 3) := by decide +kernel
theorem d_RM_sends_105 : decode b_RM_sends 105 = .ok (.iload_n 1, 1) := by decide +kernel
theorem d_RM_sends_106 : decode b_RM_sends 106 = .ok (.iaload, 1) := by decide +kernel
theorem d_RM_sends_107 : decode b_RM_sends 107 = .ok (.iadd, 1) := by decide +kernel
theorem d_RM_sends_108 : decode b_RM_sends 108 = .ok (.iload_n 2, 1) := by decide +kernel
theorem d_RM_sends_109 : decode b_RM_sends 109 = .ok (.iastore, 1) := by decide +kernel
theorem d_RM_sends_110 : decode b_RM_sends 110 = .ok (.aload_n 0, 1) := by decide +kernel
theorem d_RM_sends_111 : decode b_RM_sends 111 = .ok (.getfield 29, 3) := by decide +kernel
theorem d_RM_sends_114 : decode b_RM_sends 114 = .ok (.iconst 4, 1) := by decide +kernel
theorem d_RM_sends_115 : decode b_RM_sends 115 = .ok (.iload_n 1, 1) := by decide +kernel
theorem d_RM_sends_116 : decode b_RM_sends 116 = .ok (.imul, 1) := by decide +kernel
theorem d_RM_sends_117 : decode b_RM_sends 117 = .ok (.aload_n 0, 1) := by decide +kernel
theorem d_RM_sends_118 : decode b_RM_sends 118 = .ok (.getfield 23, 3) := by decide +kernel
theorem d_RM_sends_121 : decode b_RM_sends 121 = .ok (.iload_n 1, 1) := by decide +kernel
theorem d_RM_sends_122 : decode b_RM_sends 122 = .ok (.iaload, 1) := by decide +kernel
theorem d_RM_sends_123 : decode b_RM_sends 123 = .ok (.iadd, 1) := by decide +kernel
theorem d_RM_sends_124 : decode b_RM_sends 124 = .ok (.iload_n 3, 1) := by decide +kernel
theorem d_RM_sends_125 : decode b_RM_sends 125 = .ok (.iastore, 1) := by decide +kernel
theorem d_RM_sends_126 : decode b_RM_sends 126 = .ok (.aload_n 0, 1) := by decide +kernel
theorem d_RM_sends_127 : decode b_RM_sends 127 = .ok (.getfield 23, 3) := by decide +kernel
theorem d_RM_sends_130 : decode b_RM_sends 130 = .ok (.iload_n 1, 1) := by decide +kernel
theorem d_RM_sends_131 : decode b_RM_sends 131 = .ok (.dup2, 1) := by decide +kernel
theorem d_RM_sends_132 : decode b_RM_sends 132 = .ok (.iaload, 1) := by decide +kernel
theorem d_RM_sends_133 : decode b_RM_sends 133 = .ok (.iconst 1, 1) := by decide +kernel
theorem d_RM_sends_134 : decode b_RM_sends 134 = .ok (.iadd, 1) := by decide +kernel
theorem d_RM_sends_135 : decode b_RM_sends 135 = .ok (.iastore, 1) := by decide +kernel
theorem d_RM_sends_136 : decode b_RM_sends 136 = .ok (.aload_n 0, 1) := by decide +kernel
theorem d_RM_sends_137 : decode b_RM_sends 137 = .ok (.getfield 23, 3) := by decide +kernel
theorem d_RM_sends_140 : decode b_RM_sends 140 = .ok (.iload_n 1, 1) := by decide +kernel
theorem d_RM_sends_141 : decode b_RM_sends 141 = .ok (.iaload, 1) := by decide +kernel
theorem d_RM_sends_142 : decode b_RM_sends 142 = .ok (.ireturn, 1) := by decide +kernel
theorem d_RM_bad_0 : decode b_RM_bad 0 = .ok (.aload_n 0, 1) := by decide +kernel
theorem d_RM_bad_1 : decode b_RM_bad 1 = .ok (.iload_n 1, 1) := by decide +kernel
theorem d_RM_bad_2 : decode b_RM_bad 2 = .ok (.aload_n 0, 1) := by decide +kernel
theorem d_RM_bad_3 : decode b_RM_bad 3 = .ok (.getfield 7, 3) := by decide +kernel
theorem d_RM_bad_6 : decode b_RM_bad 6 = .ok (.invokestatic 113, 3) := by decide +kernel
theorem d_RM_bad_9 : decode b_RM_bad 9 = .ok (.ifCond .eq 14, 3) := by decide +kernel
theorem d_RM_bad_12 : decode b_RM_bad 12 = .ok (.iload_n 2, 1) := by decide +kernel
theorem d_RM_bad_13 : decode b_RM_bad 13 = .ok (.aload_n 0, 1) := by decide +kernel
theorem d_RM_bad_14 : decode b_RM_bad 14 = .ok (.getfield 7, 3) := by decide +kernel
theorem d_RM_bad_17 : decode b_RM_bad 17 = .ok (.invokestatic 113, 3) := by decide +kernel
theorem d_RM_bad_20 : decode b_RM_bad 20 = .ok (.ifCond .ne 7, 3) := by decide +kernel
theorem d_RM_bad_23 : decode b_RM_bad 23 = .ok (.iconst 1, 1) := by decide +kernel
theorem d_RM_bad_24 : decode b_RM_bad 24 = .ok (.goto 4, 3) := by decide +kernel
theorem d_RM_bad_27 : decode b_RM_bad 27 = .ok (.iconst 0, 1) := by decide +kernel
theorem d_RM_bad_28 : decode b_RM_bad 28 = .ok (.iconst 0, 1) := by decide +kernel
theorem d_RM_bad_29 : decode b_RM_bad 29 = .ok (.invokevirtual 103, 3) := by decide +kernel
theorem d_RM_bad_32 : decode b_RM_bad 32 = .ok (.ifCond .eq 5, 3) := by decide +kernel
theorem d_RM_bad_35 : decode b_RM_bad 35 = .ok (.iconst 0, 1) := by decide +kernel
theorem d_RM_bad_36 : decode b_RM_bad 36 = .ok (.ireturn, 1) := by decide +kernel
theorem d_RM_bad_37 : decode b_RM_bad 37 = .ok (.aload_n 0, 1) := by decide +kernel
theorem d_RM_bad_38 : decode b_RM_bad 38 = .ok (.getfield 32, 3) := by decide +kernel
theorem d_RM_bad_41 : decode b_RM_bad 41 = .ok (.bipush 8, 2) := by decide +kernel
theorem d_RM_bad_43 : decode b_RM_bad 43 = .ok (.iload_n 1, 1) := by decide +kernel
theorem d_RM_bad_44 : decode b_RM_bad 44 = .ok (.imul, 1) := by decide +kernel
theorem d_RM_bad_45 : decode b_RM_bad 45 = .ok (.iload_n 2, 1) := by decide +kernel
theorem d_RM_bad_46 : decode b_RM_bad 46 = .ok (.iadd, 1) := by decide +kernel
theorem d_RM_bad_47 : decode b_RM_bad 47 = .ok (.baload, 1) := by decide +kernel
theorem d_RM_bad_48 : decode b_RM_bad 48 = .ok (.ifCond .eq 5, 3) := by decide +kernel
theorem d_RM_bad_51 : decode b_RM_bad 51 = .ok (.iconst 0, 1) := by decide +kernel
theorem d_RM_bad_52 : decode b_RM_bad 52 = .ok (.ireturn, 1) := by decide +kernel
theorem d_RM_bad_53 : decode b_RM_bad 53 = .ok (.aload_n 0, 1) := by decide +kernel
theorem d_RM_bad_54 : decode b_RM_bad 54 = .ok (.invokevirtual 107, 3) := by decide +kernel
theorem d_RM_bad_57 : decode b_RM_bad 57 = .ok (.aload_n 0, 1) := by decide +kernel
theorem d_RM_bad_58 : decode b_RM_bad 58 = .ok (.getfield 32, 3) := by decide +kernel
theorem d_RM_bad_61 : decode b_RM_bad 61 = .ok (.bipush 8, 2) := by decide +kernel
theorem d_RM_bad_63 : decode b_RM_bad 63 = .ok (.iload_n 1, 1) := by decide +kernel
theorem d_RM_bad_64 : decode b_RM_bad 64 = .ok (.imul, 1) := by decide +kernel
theorem d_RM_bad_65 : decode b_RM_bad 65 = .ok (.iload_n 2, 1) := by decide +kernel
theorem d_RM_bad_66 : decode b_RM_bad 66 = .ok (.iadd, 1) := by decide +kernel
theorem d_RM_bad_67 : decode b_RM_bad 67 = .ok (.iconst 1, 1) := by decide +kernel
theorem d_RM_bad_68 : decode b_RM_bad 68 = .ok (.bastore, 1) := by decide +kernel
theorem d_RM_bad_69 : decode b_RM_bad 69 = .ok (.aload_n 0, 1) := by decide +kernel
theorem d_RM_bad_70 : decode b_RM_bad 70 = .ok (.getfield 32, 3) := by decide +kernel
theorem d_RM_bad_73 : decode b_RM_bad 73 = .ok (.bipush 8, 2) := by decide +kernel
theorem d_RM_bad_75 : decode b_RM_bad 75 = .ok (.iload_n 2, 1) := by decide +kernel
theorem d_RM_bad_76 : decode b_RM_bad 76 = .ok (.imul, 1) := by decide +kernel
theorem d_RM_bad_77 : decode b_RM_bad 77 = .ok (.iload_n 1, 1) := by decide +kernel
theorem d_RM_bad_78 : decode b_RM_bad 78 = .ok (.iadd, 1) := by decide +kernel
theorem d_RM_bad_79 : decode b_RM_bad 79 = .ok (.iconst 1, 1) := by decide +kernel
theorem d_RM_bad_80 : decode b_RM_bad 80 = .ok (.bastore, 1) := by decide +kernel
theorem d_RM_bad_81 : decode b_RM_bad 81 = .ok (.iconst 1, 1) := by decide +kernel
theorem d_RM_bad_82 : decode b_RM_bad 82 = .ok (.ireturn, 1) := by decide +kernel
theorem d_RM_add_0 : decode b_RM_add 0 = .ok (.aload_n 1, 1) := by decide +kernel
theorem d_RM_add_1 : decode b_RM_add 1 = .ok (.iconst 4, 1) := by decide +kernel
theorem d_RM_add_2 : decode b_RM_add 2 = .ok (.iaload, 1) := by decide +kernel
theorem d_RM_add_3 : decode b_RM_add 3 = .ok (.istore_n 3, 1) := by decide +kernel
theorem d_RM_add_4 : decode b_RM_add 4 = .ok (.iload_n 3, 1) := by decide +kernel
theorem d_RM_add_5 : decode b_RM_add 5 = .ok (.istore 4, 2) := by decide +kernel
theorem d_RM_add_7 : decode b_RM_add 7 = .ok (.iload 4, 2) := by decide +kernel
theorem d_RM_add_9 : decode b_RM_add 9 = .ok (.ifCond .le 31, 3) := by decide +kernel
theorem d_RM_add_12 : decode b_RM_add 12 = .ok (.aload_n 1, 1) := by decide +kernel
theorem d_RM_add_13 : decode b_RM_add 13 = .ok (.iconst 4, 1) := by decide +kernel
theorem d_RM_add_14 : decode b_RM_add 14 = .ok (.iload 4, 2) := by decide +kernel
theorem d_RM_add_16 : decode b_RM_add 16 = .ok (.iadd, 1) := by decide +kernel
theorem d_RM_add_17 : decode b_RM_add 17 = .ok (.iaload, 1) := by decide +kernel
theorem d_RM_add_18 : decode b_RM_add 18 = .ok (.iload_n 2, 1) := by decide +kernel
theorem d_RM_add_19 : decode b_RM_add 19 = .ok (.if_icmp .le 21, 3) := by decide +kernel
theorem d_RM_add_22 : decode b_RM_add 22 = .ok (.aload_n 1, 1) := by decide +kernel
theorem d_RM_add_23 : decode b_RM_add 23 = .ok (.iconst 5, 1) := by decide +kernel
theorem d_RM_add_24 : decode b_RM_add 24 = .ok (.iload 4, 2) := by decide +kernel
theorem d_RM_add_26 : decode b_RM_add 26 = .ok (.iadd, 1) := by decide +kernel
theorem d_RM_add_27 : decode b_RM_add 27 = .ok (.aload_n 1, 1) := by decide +kernel
theorem d_RM_add_28 : decode b_RM_add 28 = .ok (.iconst 4, 1) := by decide +kernel
theorem d_RM_add_29 : decode b_RM_add 29 = .ok (.iload 4, 2) := by decide +kernel
theorem d_RM_add_31 : decode b_RM_add 31 = .ok (.iadd, 1) := by decide +kernel
theorem d_RM_add_32 : decode b_RM_add 32 = .ok (.iaload, 1) := by decide +kernel
theorem d_RM_add_33 : decode b_RM_add 33 = .ok (.iastore, 1) := by decide +kernel
theorem d_RM_add_34 : decode b_RM_add 34 = .ok (.iinc 4 (-1), 3) := by decide +kernel
theorem d_RM_add_37 : decode b_RM_add 37 = .ok (.goto (-30), 3) := by decide +kernel
theorem d_RM_add_40 : decode b_RM_add 40 = .ok (.aload_n 1, 1) := by decide +kernel
theorem d_RM_add_41 : decode b_RM_add 41 = .ok (.iconst 5, 1) := by decide +kernel
theorem d_RM_add_42 : decode b_RM_add 42 = .ok (.iload 4, 2) := by decide +kernel
theorem d_RM_add_44 : decode b_RM_add 44 = .ok (.iadd, 1) := by decide +kernel
theorem d_RM_add_45 : decode b_RM_add 45 = .ok (.iload_n 2, 1) := by decide +kernel
theorem d_RM_add_46 : decode b_RM_add 46 = .ok (.iastore, 1) := by decide +kernel
theorem d_RM_add_47 : decode b_RM_add 47 = .ok (.aload_n 1, 1) := by decide +kernel
theorem d_RM_add_48 : decode b_RM_add 48 = .ok (.iconst 4, 1) := by decide +kernel
theorem d_RM_add_49 : decode b_RM_add 49 = .ok (.iload_n 3, 1) := by decide +kernel
theorem d_RM_add_50 : decode b_RM_add 50 = .ok (.iconst 1, 1) := by decide +kernel
theorem d_RM_add_51 : decode b_RM_add 51 = .ok (.iadd, 1) := by decide +kernel
theorem d_RM_add_52 : decode b_RM_add 52 = .ok (.iastore, 1) := by decide +kernel
theorem d_RM_add_53 : decode b_RM_add 53 = .ok (.return_, 1) := by decide +kernel
theorem d_RM_compare_0 : decode b_RM_compare 0 = .ok (.iconst 0, 1) := by decide +kernel
theorem d_RM_compare_1 : decode b_RM_compare 1 = .ok (.istore_n 3, 1) := by decide +kernel
theorem d_RM_compare_2 : decode b_RM_compare 2 = .ok (.iload_n 3, 1) := by decide +kernel
theorem d_RM_compare_3 : decode b_RM_compare 3 = .ok (.iload_n 2, 1) := by decide +kernel
theorem d_RM_compare_4 : decode b_RM_compare 4 = .ok (.if_icmp .ge 33, 3) := by decide +kernel
theorem d_RM_compare_7 : decode b_RM_compare 7 = .ok (.aload_n 0, 1) := by decide +kernel
theorem d_RM_compare_8 : decode b_RM_compare 8 = .ok (.iload_n 3, 1) := by decide +kernel
theorem d_RM_compare_9 : decode b_RM_compare 9 = .ok (.iaload, 1) := by decide +kernel
theorem d_RM_compare_10 : decode b_RM_compare 10 = .ok (.aload_n 1, 1) := by decide +kernel
theorem d_RM_compare_11 : decode b_RM_compare 11 = .ok (.iload_n 3, 1) := by decide +kernel
theorem d_RM_compare_12 : decode b_RM_compare 12 = .ok (.iaload, 1) := by decide +kernel
theorem d_RM_compare_13 : decode b_RM_compare 13 = .ok (.if_icmp .eq 18, 3) := by decide +kernel
theorem d_RM_compare_16 : decode b_RM_compare 16 = .ok (.aload_n 0, 1) := by decide +kernel
theorem d_RM_compare_17 : decode b_RM_compare 17 = .ok (.iload_n 3, 1) := by decide +kernel
theorem d_RM_compare_18 : decode b_RM_compare 18 = .ok (.iaload, 1) := by decide +kernel
theorem d_RM_compare_19 : decode b_RM_compare 19 = .ok (.aload_n 1, 1) := by decide +kernel
theorem d_RM_compare_20 : decode b_RM_compare 20 = .ok (.iload_n 3, 1) := by decide +kernel
theorem d_RM_compare_21 : decode b_RM_compare 21 = .ok (.iaload, 1) := by decide +kernel
theorem d_RM_compare_22 : decode b_RM_compare 22 = .ok (.if_icmp .ge 7, 3) := by decide +kernel
theorem d_RM_compare_25 : decode b_RM_compare 25 = .ok (.iconst (-1), 1) := by decide +kernel
theorem d_RM_compare_26 : decode b_RM_compare 26 = .ok (.goto 4, 3) := by decide +kernel
theorem d_RM_compare_29 : decode b_RM_compare 29 = .ok (.iconst 1, 1) := by decide +kernel
theorem d_RM_compare_30 : decode b_RM_compare 30 = .ok (.ireturn, 1) := by decide +kernel
theorem d_RM_compare_31 : decode b_RM_compare 31 = .ok (.iinc 3 1, 3) := by decide +kernel
theorem d_RM_compare_34 : decode b_RM_compare 34 = .ok (.goto (-32), 3) := by decide +kernel
theorem d_RM_compare_37 : decode b_RM_compare 37 = .ok (.iconst 0, 1) := by decide +kernel
theorem d_RM_compare_38 : decode b_RM_compare 38 = .ok (.ireturn, 1) := by decide +kernel
theorem d_RM_number_0 : decode b_RM_number 0 = .ok (.iconst 0, 1) := by decide +kernel
theorem d_RM_number_1 : decode b_RM_number 1 = .ok (.istore_n 2, 1) := by decide +kernel
theorem d_RM_number_2 : decode b_RM_number 2 = .ok (.iload_n 2, 1) := by decide +kernel
theorem d_RM_number_3 : decode b_RM_number 3 = .ok (.iconst 5, 1) := by decide +kernel
theorem d_RM_number_4 : decode b_RM_number 4 = .ok (.if_icmp .ge 16, 3) := by decide +kernel
theorem d_RM_number_7 : decode b_RM_number 7 = .ok (.aload_n 0, 1) := by decide +kernel
theorem d_RM_number_8 : decode b_RM_number 8 = .ok (.getfield 64, 3) := by decide +kernel
theorem d_RM_number_11 : decode b_RM_number 11 = .ok (.iload_n 2, 1) := by decide +kernel
theorem d_RM_number_12 : decode b_RM_number 12 = .ok (.iconst 0, 1) := by decide +kernel
theorem d_RM_number_13 : decode b_RM_number 13 = .ok (.iastore, 1) := by decide +kernel
theorem d_RM_number_14 : decode b_RM_number 14 = .ok (.iinc 2 1, 3) := by decide +kernel
theorem d_RM_number_17 : decode b_RM_number 17 = .ok (.goto (-15), 3) := by decide +kernel
theorem d_RM_number_20 : decode b_RM_number 20 = .ok (.iconst 0, 1) := by decide +kernel
theorem d_RM_number_21 : decode b_RM_number 21 = .ok (.istore_n 2, 1) := by decide +kernel
theorem d_RM_number_22 : decode b_RM_number 22 = .ok (.iload_n 2, 1) := by decide +kernel
theorem d_RM_number_23 : decode b_RM_number 23 = .ok (.aload_n 0, 1) := by decide +kernel
theorem d_RM_number_24 : decode b_RM_number 24 = .ok (.getfield 70, 3) := by decide +kernel
theorem d_RM_number_27 : decode b_RM_number 27 = .ok (.if_icmp .ge 30, 3) := by decide +kernel
theorem d_RM_number_30 : decode b_RM_number 30 = .ok (.aload_n 0, 1) := by decide +kernel
theorem d_RM_number_31 : decode b_RM_number 31 = .ok (.getfield 64, 3) := by decide +kernel
theorem d_RM_number_34 : decode b_RM_number 34 = .ok (.aload_n 0, 1) := by decide +kernel
theorem d_RM_number_35 : decode b_RM_number 35 = .ok (.getfield 36, 3) := by decide +kernel
theorem d_RM_number_38 : decode b_RM_number 38 = .ok (.iconst 4, 1) := by decide +kernel
theorem d_RM_number_39 : decode b_RM_number 39 = .ok (.iload_n 1, 1) := by decide +kernel
theorem d_RM_number_40 : decode b_RM_number 40 = .ok (.imul, 1) := by decide +kernel
theorem d_RM_number_41 : decode b_RM_number 41 = .ok (.iload_n 2, 1) := by decide +kernel
theorem d_RM_number_42 : decode b_RM_number 42 = .ok (.iadd, 1) := by decide +kernel
theorem d_RM_number_43 : decode b_RM_number 43 = .ok (.iaload, 1) := by decide +kernel
theorem d_RM_number_44 : decode b_RM_number 44 = .ok (.aload_n 0, 1) := by decide +kernel
theorem d_RM_number_45 : decode b_RM_number 45 = .ok (.getfield 61, 3) := by decide +kernel
theorem d_RM_number_48 : decode b_RM_number 48 = .ok (.iload_n 2, 1) := by decide +kernel
theorem d_RM_number_49 : decode b_RM_number 49 = .ok (.iaload, 1) := by decide +kernel
theorem d_RM_number_50 : decode b_RM_number 50 = .ok (.iastore, 1) := by decide +kernel
theorem d_RM_number_51 : decode b_RM_number 51 = .ok (.iinc 2 1, 3) := by decide +kernel
theorem d_RM_number_54 : decode b_RM_number 54 = .ok (.goto (-32), 3) := by decide +kernel
theorem d_RM_number_57 : decode b_RM_number 57 = .ok (.iconst 0, 1) := by decide +kernel
theorem d_RM_number_58 : decode b_RM_number 58 = .ok (.istore_n 2, 1) := by decide +kernel
theorem d_RM_number_59 : decode b_RM_number 59 = .ok (.iload_n 2, 1) := by decide +kernel
theorem d_RM_number_60 : decode b_RM_number 60 = .ok (.aload_n 0, 1) := by decide +kernel
theorem d_RM_number_61 : decode b_RM_number 61 = .ok (.getfield 61, 3) := by decide +kernel
theorem d_RM_number_64 : decode b_RM_number 64 = .ok (.iconst 4, 1) := by decide +kernel
theorem d_RM_number_65 : decode b_RM_number 65 = .ok (.iaload, 1) := by decide +kernel
theorem d_RM_number_66 : decode b_RM_number 66 = .ok (.if_icmp .ge 63, 3) := by decide +kernel
theorem d_RM_number_69 : decode b_RM_number 69 = .ok (.aload_n 0, 1) := by decide +kernel
theorem d_RM_number_70 : decode b_RM_number 70 = .ok (.getfield 61, 3) := by decide +kernel
theorem d_RM_number_73 : decode b_RM_number 73 = .ok (.iconst 5, 1) := by decide +kernel
theorem d_RM_number_74 : decode b_RM_number 74 = .ok (.iload_n 2, 1) := by decide +kernel
theorem d_RM_number_75 : decode b_RM_number 75 = .ok (.iadd, 1) := by decide +kernel
theorem d_RM_number_76 : decode b_RM_number 76 = .ok (.iaload, 1) := by decide +kernel
theorem d_RM_number_77 : decode b_RM_number 77 = .ok (.istore_n 3, 1) := by decide +kernel
theorem d_RM_number_78 : decode b_RM_number 78 = .ok (.aload_n 0, 1) := by decide +kernel
theorem d_RM_number_79 : decode b_RM_number 79 = .ok (.aload_n 0, 1) := by decide +kernel
theorem d_RM_number_80 : decode b_RM_number 80 = .ok (.getfield 64, 3) := by decide +kernel
theorem d_RM_number_83 : decode b_RM_number 83 = .ok (.bipush 16, 2) := by decide +kernel
theorem d_RM_number_85 : decode b_RM_number 85 = .ok (.iload_n 3, 1) := by decide +kernel
theorem d_RM_number_86 : decode b_RM_number 86 = .ok (.bipush 16, 2) := by decide +kernel
theorem d_RM_number_88 : decode b_RM_number 88 = .ok (.idiv, 1) := by decide +kernel
theorem d_RM_number_89 : decode b_RM_number 89 = .ok (.imul, 1) := by decide +kernel
theorem d_RM_number_90 : decode b_RM_number 90 = .ok (.iconst 4, 1) := by decide +kernel
theorem d_RM_number_91 : decode b_RM_number 91 = .ok (.aload_n 0, 1) := by decide +kernel
theorem d_RM_number_92 : decode b_RM_number 92 = .ok (.getfield 36, 3) := by decide +kernel
theorem d_RM_number_95 : decode b_RM_number 95 = .ok (.iconst 4, 1) := by decide +kernel
theorem d_RM_number_96 : decode b_RM_number 96 = .ok (.iload_n 1, 1) := by decide +kernel
theorem d_RM_number_97 : decode b_RM_number 97 = .ok (.imul, 1) := by decide +kernel
theorem d_RM_number_98 : decode b_RM_number 98 = .ok (.iload_n 3, 1) := by decide +kernel
theorem d_RM_number_99 : decode b_RM_number 99 = .ok (.iconst 4, 1) := by decide +kernel
theorem d_RM_number_100 : decode b_RM_number 100 = .ok (.idiv, 1) := by decide +kernel
theorem d_RM_number_101 : decode b_RM_number 101 = .ok (.iconst 4, 1) := by decide +kernel
theorem d_RM_number_102 : decode b_RM_number 102 = .ok (.irem, 1) := by decide +kernel
theorem d_RM_number_103 : decode b_RM_number 103 = .ok (.iadd, 1) := by decide +kernel
theorem d_RM_number_104 : decode b_RM_number 104 = .ok (.iaload, 1) := by decide +kernel
theorem d_RM_number_105 : decode b_RM_number 105 = .ok (.imul, 1) := by decide +kernel
theorem d_RM_number_106 : decode b_RM_number 106 = .ok (.iadd, 1) := by decide +kernel
theorem d_RM_number_107 : decode b_RM_number 107 = .ok (.aload_n 0, 1) := by decide +kernel
theorem d_RM_number_108 : decode b_RM_number 108 = .ok (.getfield 36, 3) := by decide +kernel
theorem d_RM_number_111 : decode b_RM_number 111 = .ok (.iconst 4, 1) := by decide +kernel
theorem d_RM_number_112 : decode b_RM_number 112 = .ok (.iload_n 1, 1) := by decide +kernel
theorem d_RM_number_113 : decode b_RM_number 113 = .ok (.imul, 1) := by decide +kernel
theorem d_RM_number_114 : decode b_RM_number 114 = .ok (.iload_n 3, 1) := by decide +kernel
theorem d_RM_number_115 : decode b_RM_number 115 = .ok (.iconst 4, 1) := by decide +kernel
theorem d_RM_number_116 : decode b_RM_number 116 = .ok (.irem, 1) := by decide +kernel
theorem d_RM_number_117 : decode b_RM_number 117 = .ok (.iadd, 1) := by decide +kernel
theorem d_RM_number_118 : decode b_RM_number 118 = .ok (.iaload, 1) := by decide +kernel
theorem d_RM_number_119 : decode b_RM_number 119 = .ok (.iadd, 1) := by decide +kernel
theorem d_RM_number_120 : decode b_RM_number 120 = .ok (.invokevirtual 120, 3) := by decide +kernel
theorem d_RM_number_123 : decode b_RM_number 123 = .ok (.iinc 2 1, 3) := by decide +kernel
theorem d_RM_number_126 : decode b_RM_number 126 = .ok (.goto (-67), 3) := by decide +kernel
theorem d_RM_number_129 : decode b_RM_number 129 = .ok (.return_, 1) := by decide +kernel
theorem d_RM_form_0 : decode b_RM_form 0 = .ok (.aload_n 0, 1) := by decide +kernel
theorem d_RM_form_1 : decode b_RM_form 1 = .ok (.iconst 0, 1) := by decide +kernel
theorem d_RM_form_2 : decode b_RM_form 2 = .ok (.putfield 124, 3) := by decide +kernel
theorem d_RM_form_5 : decode b_RM_form 5 = .ok (.iconst 0, 1) := by decide +kernel
theorem d_RM_form_6 : decode b_RM_form 6 = .ok (.istore_n 1, 1) := by decide +kernel
theorem d_RM_form_7 : decode b_RM_form 7 = .ok (.iload_n 1, 1) := by decide +kernel
theorem d_RM_form_8 : decode b_RM_form 8 = .ok (.aload_n 0, 1) := by decide +kernel
theorem d_RM_form_9 : decode b_RM_form 9 = .ok (.getfield 76, 3) := by decide +kernel
theorem d_RM_form_12 : decode b_RM_form 12 = .ok (.if_icmp .ge 101, 3) := by decide +kernel
theorem d_RM_form_15 : decode b_RM_form 15 = .ok (.aload_n 0, 1) := by decide +kernel
theorem d_RM_form_16 : decode b_RM_form 16 = .ok (.iload_n 1, 1) := by decide +kernel
theorem d_RM_form_17 : decode b_RM_form 17 = .ok (.invokevirtual 127, 3) := by decide +kernel
theorem d_RM_form_20 : decode b_RM_form 20 = .ok (.iload_n 1, 1) := by decide +kernel
theorem d_RM_form_21 : decode b_RM_form 21 = .ok (.ifCond .ne 7, 3) := by decide +kernel
theorem d_RM_form_24 : decode b_RM_form 24 = .ok (.iconst (-1), 1) := by decide +kernel
theorem d_RM_form_25 : decode b_RM_form 25 = .ok (.goto 22, 3) := by decide +kernel
theorem d_RM_form_28 : decode b_RM_form 28 = .ok (.aload_n 0, 1) := by decide +kernel
theorem d_RM_form_29 : decode b_RM_form 29 = .ok (.getfield 64, 3) := by decide +kernel
theorem d_RM_form_32 : decode b_RM_form 32 = .ok (.aload_n 0, 1) := by decide +kernel
theorem d_RM_form_33 : decode b_RM_form 33 = .ok (.getfield 67, 3) := by decide +kernel
theorem d_RM_form_36 : decode b_RM_form 36 = .ok (.iconst 5, 1) := by decide +kernel
theorem d_RM_form_37 : decode b_RM_form 37 = .ok (.aload_n 0, 1) := by decide +kernel
theorem d_RM_form_38 : decode b_RM_form 38 = .ok (.getfield 61, 3) := by decide +kernel
theorem d_RM_form_41 : decode b_RM_form 41 = .ok (.iconst 4, 1) := by decide +kernel
theorem d_RM_form_42 : decode b_RM_form 42 = .ok (.iaload, 1) := by decide +kernel
theorem d_RM_form_43 : decode b_RM_form 43 = .ok (.iadd, 1) := by decide +kernel
theorem d_RM_form_44 : decode b_RM_form 44 = .ok (.invokestatic 131, 3) := by decide +kernel
theorem d_RM_form_47 : decode b_RM_form 47 = .ok (.istore_n 2, 1) := by decide +kernel
theorem d_RM_form_48 : decode b_RM_form 48 = .ok (.iload_n 2, 1) := by decide +kernel
theorem d_RM_form_49 : decode b_RM_form 49 = .ok (.ifCond .ge 8, 3) := by decide +kernel
theorem d_RM_form_52 : decode b_RM_form 52 = .ok (.aload_n 0, 1) := by decide +kernel
theorem d_RM_form_53 : decode b_RM_form 53 = .ok (.iconst 0, 1) := by decide +kernel
theorem d_RM_form_54 : decode b_RM_form 54 = .ok (.putfield 124, 3) := by decide +kernel
theorem d_RM_form_57 : decode b_RM_form 57 = .ok (.iload_n 2, 1) := by decide +kernel
theorem d_RM_form_58 : decode b_RM_form 58 = .ok (.ifCond .gt 13, 3) := by decide +kernel
theorem d_RM_form_61 : decode b_RM_form 61 = .ok (.aload_n 0, 1) := by decide +kernel
theorem d_RM_form_62 : decode b_RM_form 62 = .ok (.dup, 1) := by decide +kernel
theorem d_RM_form_63 : decode b_RM_form 63 = .ok (.getfield 124, 3) := by decide +kernel
theorem d_RM_form_66 : decode b_RM_form 66 = .ok (.iconst 1, 1) := by decide +kernel
theorem d_RM_form_67 : decode b_RM_form 67 = .ok (.iadd, 1) := by decide +kernel
theorem d_RM_form_68 : decode b_RM_form 68 = .ok (.putfield 124, 3) := by decide +kernel
theorem d_RM_form_71 : decode b_RM_form 71 = .ok (.iconst 0, 1) := by decide +kernel
theorem d_RM_form_72 : decode b_RM_form 72 = .ok (.istore_n 3, 1) := by decide +kernel
theorem d_RM_form_73 : decode b_RM_form 73 = .ok (.iload_n 3, 1) := by decide +kernel
theorem d_RM_form_74 : decode b_RM_form 74 = .ok (.iconst 5, 1) := by decide +kernel
theorem d_RM_form_75 : decode b_RM_form 75 = .ok (.aload_n 0, 1) := by decide +kernel
theorem d_RM_form_76 : decode b_RM_form 76 = .ok (.getfield 61, 3) := by decide +kernel
theorem d_RM_form_79 : decode b_RM_form 79 = .ok (.iconst 4, 1) := by decide +kernel
theorem d_RM_form_80 : decode b_RM_form 80 = .ok (.iaload, 1) := by decide +kernel
theorem d_RM_form_81 : decode b_RM_form 81 = .ok (.iadd, 1) := by decide +kernel
theorem d_RM_form_82 : decode b_RM_form 82 = .ok (.if_icmp .ge 25, 3) := by decide +kernel
theorem d_RM_form_85 : decode b_RM_form 85 = .ok (.iload_n 2, 1) := by decide +kernel
theorem d_RM_form_86 : decode b_RM_form 86 = .ok (.ifCond .ge 21, 3) := by decide +kernel
theorem d_RM_form_89 : decode b_RM_form 89 = .ok (.aload_n 0, 1) := by decide +kernel
theorem d_RM_form_90 : decode b_RM_form 90 = .ok (.getfield 67, 3) := by decide +kernel
theorem d_RM_form_93 : decode b_RM_form 93 = .ok (.iload_n 3, 1) := by decide +kernel
theorem d_RM_form_94 : decode b_RM_form 94 = .ok (.aload_n 0, 1) := by decide +kernel
theorem d_RM_form_95 : decode b_RM_form 95 = .ok (.getfield 64, 3) := by decide +kernel
theorem d_RM_form_98 : decode b_RM_form 98 = .ok (.iload_n 3, 1) := by decide +kernel
theorem d_RM_form_99 : decode b_RM_form 99 = .ok (.iaload, 1) := by decide +kernel
theorem d_RM_form_100 : decode b_RM_form 100 = .ok (.iastore, 1) := by decide +kernel
theorem d_RM_form_101 : decode b_RM_form 101 = .ok (.iinc 3 1, 3) := by decide +kernel
theorem d_RM_form_104 : decode b_RM_form 104 = .ok (.goto (-31), 3) := by decide +kernel
theorem d_RM_form_107 : decode b_RM_form 107 = .ok (.iinc 1 1, 3) := by decide +kernel
theorem d_RM_form_110 : decode b_RM_form 110 = .ok (.goto (-103), 3) := by decide +kernel
theorem d_RM_form_113 : decode b_RM_form 113 = .ok (.return_, 1) := by decide +kernel
theorem d_RM_compareRow_0 : decode b_RM_compareRow 0 = .ok (.iconst 0, 1) := by decide +kernel
theorem d_RM_compareRow_1 : decode b_RM_compareRow 1 = .ok (.istore_n 2, 1) := by decide +kernel
theorem d_RM_compareRow_2 : decode b_RM_compareRow 2 = .ok (.iload_n 2, 1) := by decide +kernel
theorem d_RM_compareRow_3 : decode b_RM_compareRow 3 = .ok (.iconst 5, 1) := by decide +kernel
theorem d_RM_compareRow_4 : decode b_RM_compareRow 4 = .ok (.if_icmp .ge 55, 3) := by decide +kernel
theorem d_RM_compareRow_7 : decode b_RM_compareRow 7 = .ok (.aload_n 0, 1) := by decide +kernel
theorem d_RM_compareRow_8 : decode b_RM_compareRow 8 = .ok (.getfield 40, 3) := by decide +kernel
theorem d_RM_compareRow_11 : decode b_RM_compareRow 11 = .ok (.bipush 12, 2) := by decide +kernel
theorem d_RM_compareRow_13 : decode b_RM_compareRow 13 = .ok (.iload_n 1, 1) := by decide +kernel
theorem d_RM_compareRow_14 : decode b_RM_compareRow 14 = .ok (.imul, 1) := by decide +kernel
theorem d_RM_compareRow_15 : decode b_RM_compareRow 15 = .ok (.iload_n 2, 1) := by decide +kernel
theorem d_RM_compareRow_16 : decode b_RM_compareRow 16 = .ok (.iadd, 1) := by decide +kernel
theorem d_RM_compareRow_17 : decode b_RM_compareRow 17 = .ok (.iaload, 1) := by decide +kernel
theorem d_RM_compareRow_18 : decode b_RM_compareRow 18 = .ok (.aload_n 0, 1) := by decide +kernel
theorem d_RM_compareRow_19 : decode b_RM_compareRow 19 = .ok (.getfield 67, 3) := by decide +kernel
theorem d_RM_compareRow_22 : decode b_RM_compareRow 22 = .ok (.iload_n 2, 1) := by decide +kernel
theorem d_RM_compareRow_23 : decode b_RM_compareRow 23 = .ok (.iaload, 1) := by decide +kernel
theorem d_RM_compareRow_24 : decode b_RM_compareRow 24 = .ok (.if_icmp .eq 29, 3) := by decide +kernel
theorem d_RM_compareRow_27 : decode b_RM_compareRow 27 = .ok (.aload_n 0, 1) := by decide +kernel
theorem d_RM_compareRow_28 : decode b_RM_compareRow 28 = .ok (.getfield 40, 3) := by decide +kernel
theorem d_RM_compareRow_31 : decode b_RM_compareRow 31 = .ok (.bipush 12, 2) := by decide +kernel
theorem d_RM_compareRow_33 : decode b_RM_compareRow 33 = .ok (.iload_n 1, 1) := by decide +kernel
theorem d_RM_compareRow_34 : decode b_RM_compareRow 34 = .ok (.imul, 1) := by decide +kernel
theorem d_RM_compareRow_35 : decode b_RM_compareRow 35 = .ok (.iload_n 2, 1) := by decide +kernel
theorem d_RM_compareRow_36 : decode b_RM_compareRow 36 = .ok (.iadd, 1) := by decide +kernel
theorem d_RM_compareRow_37 : decode b_RM_compareRow 37 = .ok (.iaload, 1) := by decide +kernel
theorem d_RM_compareRow_38 : decode b_RM_compareRow 38 = .ok (.aload_n 0, 1) := by decide +kernel
theorem d_RM_compareRow_39 : decode b_RM_compareRow 39 = .ok (.getfield 67, 3) := by decide +kernel
theorem d_RM_compareRow_42 : decode b_RM_compareRow 42 = .ok (.iload_n 2, 1) := by decide +kernel
theorem d_RM_compareRow_43 : decode b_RM_compareRow 43 = .ok (.iaload, 1) := by decide +kernel
theorem d_RM_compareRow_44 : decode b_RM_compareRow 44 = .ok (.if_icmp .ge 7, 3) := by decide +kernel
theorem d_RM_compareRow_47 : decode b_RM_compareRow 47 = .ok (.iconst (-1), 1) := by decide +kernel
theorem d_RM_compareRow_48 : decode b_RM_compareRow 48 = .ok (.goto 4, 3) := by decide +kernel
theorem d_RM_compareRow_51 : decode b_RM_compareRow 51 = .ok (.iconst 1, 1) := by decide +kernel
theorem d_RM_compareRow_52 : decode b_RM_compareRow 52 = .ok (.ireturn, 1) := by decide +kernel
theorem d_RM_compareRow_53 : decode b_RM_compareRow 53 = .ok (.iinc 2 1, 3) := by decide +kernel
theorem d_RM_compareRow_56 : decode b_RM_compareRow 56 = .ok (.goto (-54), 3) := by decide +kernel
theorem d_RM_compareRow_59 : decode b_RM_compareRow 59 = .ok (.iconst 0, 1) := by decide +kernel
theorem d_RM_compareRow_60 : decode b_RM_compareRow 60 = .ok (.istore_n 2, 1) := by decide +kernel
theorem d_RM_compareRow_61 : decode b_RM_compareRow 61 = .ok (.iload_n 2, 1) := by decide +kernel
theorem d_RM_compareRow_62 : decode b_RM_compareRow 62 = .ok (.aload_n 0, 1) := by decide +kernel
theorem d_RM_compareRow_63 : decode b_RM_compareRow 63 = .ok (.getfield 67, 3) := by decide +kernel
theorem d_RM_compareRow_66 : decode b_RM_compareRow 66 = .ok (.iconst 4, 1) := by decide +kernel
theorem d_RM_compareRow_67 : decode b_RM_compareRow 67 = .ok (.iaload, 1) := by decide +kernel
theorem d_RM_compareRow_68 : decode b_RM_compareRow 68 = .ok (.if_icmp .ge 63, 3) := by decide +kernel
theorem d_RM_compareRow_71 : decode b_RM_compareRow 71 = .ok (.aload_n 0, 1) := by decide +kernel
theorem d_RM_compareRow_72 : decode b_RM_compareRow 72 = .ok (.getfield 40, 3) := by decide +kernel
theorem d_RM_compareRow_75 : decode b_RM_compareRow 75 = .ok (.bipush 12, 2) := by decide +kernel
theorem d_RM_compareRow_77 : decode b_RM_compareRow 77 = .ok (.iload_n 1, 1) := by decide +kernel
theorem d_RM_compareRow_78 : decode b_RM_compareRow 78 = .ok (.imul, 1) := by decide +kernel
theorem d_RM_compareRow_79 : decode b_RM_compareRow 79 = .ok (.iconst 5, 1) := by decide +kernel
theorem d_RM_compareRow_80 : decode b_RM_compareRow 80 = .ok (.iadd, 1) := by decide +kernel
theorem d_RM_compareRow_81 : decode b_RM_compareRow 81 = .ok (.iload_n 2, 1) := by decide +kernel
theorem d_RM_compareRow_82 : decode b_RM_compareRow 82 = .ok (.iadd, 1) := by decide +kernel
theorem d_RM_compareRow_83 : decode b_RM_compareRow 83 = .ok (.iaload, 1) := by decide +kernel
theorem d_RM_compareRow_84 : decode b_RM_compareRow 84 = .ok (.aload_n 0, 1) := by decide +kernel
theorem d_RM_compareRow_85 : decode b_RM_compareRow 85 = .ok (.getfield 67, 3) := by decide +kernel
theorem d_RM_compareRow_88 : decode b_RM_compareRow 88 = .ok (.iconst 5, 1) := by decide +kernel
theorem d_RM_compareRow_89 : decode b_RM_compareRow 89 = .ok (.iload_n 2, 1) := by decide +kernel
theorem d_RM_compareRow_90 : decode b_RM_compareRow 90 = .ok (.iadd, 1) := by decide +kernel
theorem d_RM_compareRow_91 : decode b_RM_compareRow 91 = .ok (.iaload, 1) := by decide +kernel
theorem d_RM_compareRow_92 : decode b_RM_compareRow 92 = .ok (.if_icmp .eq 33, 3) := by decide +kernel
theorem d_RM_compareRow_95 : decode b_RM_compareRow 95 = .ok (.aload_n 0, 1) := by decide +kernel
theorem d_RM_compareRow_96 : decode b_RM_compareRow 96 = .ok (.getfield 40, 3) := by decide +kernel
theorem d_RM_compareRow_99 : decode b_RM_compareRow 99 = .ok (.bipush 12, 2) := by decide +kernel
theorem d_RM_compareRow_101 : decode b_RM_compareRow 101 = .ok (.iload_n 1, 1) := by decide +kernel
theorem d_RM_compareRow_102 : decode b_RM_compareRow 102 = .ok (.imul, 1) := by decide +kernel
theorem d_RM_compareRow_103 : decode b_RM_compareRow 103 = .ok (.iconst 5, 1) := by decide +kernel
theorem d_RM_compareRow_104 : decode b_RM_compareRow 104 = .ok (.iadd, 1) := by decide +kernel
theorem d_RM_compareRow_105 : decode b_RM_compareRow 105 = .ok (.iload_n 2, 1) := by decide +kernel
theorem d_RM_compareRow_106 : decode b_RM_compareRow 106 = .ok (.iadd, 1) := by decide +kernel
theorem d_RM_compareRow_107 : decode b_RM_compareRow 107 = .ok (.iaload, 1) := by decide +kernel
theorem d_RM_compareRow_108 : decode b_RM_compareRow 108 = .ok (.aload_n 0, 1) := by decide +kernel
theorem d_RM_compareRow_109 : decode b_RM_compareRow 109 = .ok (.getfield 67, 3) := by decide +kernel
theorem d_RM_compareRow_112 : decode b_RM_compareRow 112 = .ok (.iconst 5, 1) := by decide +kernel
theorem d_RM_compareRow_113 : decode b_RM_compareRow 113 = .ok (.iload_n 2, 1) := by decide +kernel
theorem d_RM_compareRow_114 : decode b_RM_compareRow 114 = .ok (.iadd, 1) := by decide +kernel
theorem d_RM_compareRow_115 : decode b_RM_compareRow 115 = .ok (.iaload, 1) := by decide +kernel
theorem d_RM_compareRow_116 : decode b_RM_compareRow 116 = .ok (.if_icmp .ge 7, 3) := by decide +kernel
theorem d_RM_compareRow_119 : decode b_RM_compareRow 119 = .ok (.iconst (-1), 1) := by decide +kernel
theorem d_RM_compareRow_120 : decode b_RM_compareRow 120 = .ok (.goto 4, 3) := by decide +kernel
theorem d_RM_compareRow_123 : decode b_RM_compareRow 123 = .ok (.iconst 1, 1) := by decide +kernel
theorem d_RM_compareRow_124 : decode b_RM_compareRow 124 = .ok (.ireturn, 1) := by decide +kernel
theorem d_RM_compareRow_125 : decode b_RM_compareRow 125 = .ok (.iinc 2 1, 3) := by decide +kernel
theorem d_RM_compareRow_128 : decode b_RM_compareRow 128 = .ok (.goto (-67), 3) := by decide +kernel
theorem d_RM_compareRow_131 : decode b_RM_compareRow 131 = .ok (.iconst 0, 1) := by decide +kernel
theorem d_RM_compareRow_132 : decode b_RM_compareRow 132 = .ok (.ireturn, 1) := by decide +kernel
theorem d_RM_isThere_0 : decode b_RM_isThere 0 = .ok (.iconst 0, 1) := by decide +kernel
theorem d_RM_isThere_1 : decode b_RM_isThere 1 = .ok (.istore_n 1, 1) := by decide +kernel
theorem d_RM_isThere_2 : decode b_RM_isThere 2 = .ok (.aload_n 0, 1) := by decide +kernel
theorem d_RM_isThere_3 : decode b_RM_isThere 3 = .ok (.getfield 82, 3) := by decide +kernel
theorem d_RM_isThere_6 : decode b_RM_isThere 6 = .ok (.istore_n 2, 1) := by decide +kernel
theorem d_RM_isThere_7 : decode b_RM_isThere 7 = .ok (.iload_n 1, 1) := by decide +kernel
theorem d_RM_isThere_8 : decode b_RM_isThere 8 = .ok (.iload_n 2, 1) := by decide +kernel
theorem d_RM_isThere_9 : decode b_RM_isThere 9 = .ok (.if_icmp .ge 34, 3) := by decide +kernel
theorem d_RM_isThere_12 : decode b_RM_isThere 12 = .ok (.iload_n 1, 1) := by decide +kernel
theorem d_RM_isThere_13 : decode b_RM_isThere 13 = .ok (.iload_n 2, 1) := by decide +kernel
theorem d_RM_isThere_14 : decode b_RM_isThere 14 = .ok (.iadd, 1) := by decide +kernel
theorem d_RM_isThere_15 : decode b_RM_isThere 15 = .ok (.iconst 2, 1) := by decide +kernel
theorem d_RM_isThere_16 : decode b_RM_isThere 16 = .ok (.idiv, 1) := by decide +kernel
theorem d_RM_isThere_17 : decode b_RM_isThere 17 = .ok (.istore_n 3, 1) := by decide +kernel
theorem d_RM_isThere_18 : decode b_RM_isThere 18 = .ok (.aload_n 0, 1) := by decide +kernel
theorem d_RM_isThere_19 : decode b_RM_isThere 19 = .ok (.aload_n 0, 1) := by decide +kernel
theorem d_RM_isThere_20 : decode b_RM_isThere 20 = .ok (.getfield 43, 3) := by decide +kernel
theorem d_RM_isThere_23 : decode b_RM_isThere 23 = .ok (.iload_n 3, 1) := by decide +kernel
theorem d_RM_isThere_24 : decode b_RM_isThere 24 = .ok (.iaload, 1) := by decide +kernel
theorem d_RM_isThere_25 : decode b_RM_isThere 25 = .ok (.invokevirtual 135, 3) := by decide +kernel
theorem d_RM_isThere_28 : decode b_RM_isThere 28 = .ok (.ifCond .ge 10, 3) := by decide +kernel
theorem d_RM_isThere_31 : decode b_RM_isThere 31 = .ok (.iload_n 3, 1) := by decide +kernel
theorem d_RM_isThere_32 : decode b_RM_isThere 32 = .ok (.iconst 1, 1) := by decide +kernel
theorem d_RM_isThere_33 : decode b_RM_isThere 33 = .ok (.iadd, 1) := by decide +kernel
theorem d_RM_isThere_34 : decode b_RM_isThere 34 = .ok (.istore_n 1, 1) := by decide +kernel
theorem d_RM_isThere_35 : decode b_RM_isThere 35 = .ok (.goto 5, 3) := by decide +kernel
theorem d_RM_isThere_38 : decode b_RM_isThere 38 = .ok (.iload_n 3, 1) := by decide +kernel
theorem d_RM_isThere_39 : decode b_RM_isThere 39 = .ok (.istore_n 2, 1) := by decide +kernel
theorem d_RM_isThere_40 : decode b_RM_isThere 40 = .ok (.goto (-33), 3) := by decide +kernel
theorem d_RM_isThere_43 : decode b_RM_isThere 43 = .ok (.aload_n 0, 1) := by decide +kernel
theorem d_RM_isThere_44 : decode b_RM_isThere 44 = .ok (.iload_n 1, 1) := by decide +kernel
theorem d_RM_isThere_45 : decode b_RM_isThere 45 = .ok (.putfield 139, 3) := by decide +kernel
theorem d_RM_isThere_48 : decode b_RM_isThere 48 = .ok (.iload_n 1, 1) := by decide +kernel
theorem d_RM_isThere_49 : decode b_RM_isThere 49 = .ok (.aload_n 0, 1) := by decide +kernel
theorem d_RM_isThere_50 : decode b_RM_isThere 50 = .ok (.getfield 82, 3) := by decide +kernel
theorem d_RM_isThere_53 : decode b_RM_isThere 53 = .ok (.if_icmp .ge 20, 3) := by decide +kernel
theorem d_RM_isThere_56 : decode b_RM_isThere 56 = .ok (.aload_n 0, 1) := by decide +kernel
theorem d_RM_isThere_57 : decode b_RM_isThere 57 = .ok (.aload_n 0, 1) := by decide +kernel
theorem d_RM_isThere_58 : decode b_RM_isThere 58 = .ok (.getfield 43, 3) := by decide +kernel
theorem d_RM_isThere_61 : decode b_RM_isThere 61 = .ok (.iload_n 1, 1) := by decide +kernel
theorem d_RM_isThere_62 : decode b_RM_isThere 62 = .ok (.iaload, 1) := by decide +kernel
theorem d_RM_isThere_63 : decode b_RM_isThere 63 = .ok (.invokevirtual 135, 3) := by decide +kernel
theorem d_RM_isThere_66 : decode b_RM_isThere 66 = .ok (.ifCond .ne 7, 3) := by decide +kernel
theorem d_RM_isThere_69 : decode b_RM_isThere 69 = .ok (.iconst 1, 1) := by decide +kernel
theorem d_RM_isThere_70 : decode b_RM_isThere 70 = .ok (.goto 4, 3) := by decide +kernel
theorem d_RM_isThere_73 : decode b_RM_isThere 73 = .ok (.iconst 0, 1) := by decide +kernel
theorem d_RM_isThere_74 : decode b_RM_isThere 74 = .ok (.ireturn, 1) := by decide +kernel
