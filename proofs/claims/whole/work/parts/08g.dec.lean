theorem dX13_clear_0 : decode cX13_clear 0 = .ok (.iconst 0, 1) := by decide +kernel
theorem dX13_clear_1 : decode cX13_clear 1 = .ok (.istore_n 1, 1) := by decide +kernel
theorem dX13_clear_2 : decode cX13_clear 2 = .ok (.iload_n 1, 1) := by decide +kernel
theorem dX13_clear_3 : decode cX13_clear 3 = .ok (.sipush 4096, 3) := by decide +kernel
theorem dX13_clear_6 : decode cX13_clear 6 = .ok (.if_icmp .ge 16, 3) := by decide +kernel
theorem dX13_clear_9 : decode cX13_clear 9 = .ok (.aload_n 0, 1) := by decide +kernel
theorem dX13_clear_10 : decode cX13_clear 10 = .ok (.getfield 101, 3) := by decide +kernel
theorem dX13_clear_13 : decode cX13_clear 13 = .ok (.iload_n 1, 1) := by decide +kernel
theorem dX13_clear_14 : decode cX13_clear 14 = .ok (.iconst 0, 1) := by decide +kernel
theorem dX13_clear_15 : decode cX13_clear 15 = .ok (.bastore, 1) := by decide +kernel
theorem dX13_clear_16 : decode cX13_clear 16 = .ok (.iinc 1 1, 3) := by decide +kernel
theorem dX13_clear_19 : decode cX13_clear 19 = .ok (.goto (-17), 3) := by decide +kernel
theorem dX13_clear_22 : decode cX13_clear 22 = .ok (.aload_n 0, 1) := by decide +kernel
theorem dX13_clear_23 : decode cX13_clear 23 = .ok (.iconst 0, 1) := by decide +kernel
theorem dX13_clear_24 : decode cX13_clear 24 = .ok (.putfield 283, 3) := by decide +kernel
theorem dX13_clear_27 : decode cX13_clear 27 = .ok (.aload_n 0, 1) := by decide +kernel
theorem dX13_clear_28 : decode cX13_clear 28 = .ok (.iconst 0, 1) := by decide +kernel
theorem dX13_clear_29 : decode cX13_clear 29 = .ok (.putfield 286, 3) := by decide +kernel
theorem dX13_clear_32 : decode cX13_clear 32 = .ok (.aload_n 0, 1) := by decide +kernel
theorem dX13_clear_33 : decode cX13_clear 33 = .ok (.iconst 0, 1) := by decide +kernel
theorem dX13_clear_34 : decode cX13_clear 34 = .ok (.putfield 289, 3) := by decide +kernel
theorem dX13_clear_37 : decode cX13_clear 37 = .ok (.return_, 1) := by decide +kernel
theorem dX13_forget_0 : decode cX13_forget 0 = .ok (.aload_n 0, 1) := by decide +kernel
theorem dX13_forget_1 : decode cX13_forget 1 = .ok (.iconst 0, 1) := by decide +kernel
theorem dX13_forget_2 : decode cX13_forget 2 = .ok (.putfield 217, 3) := by decide +kernel
theorem dX13_forget_5 : decode cX13_forget 5 = .ok (.aload_n 0, 1) := by decide +kernel
theorem dX13_forget_6 : decode cX13_forget 6 = .ok (.iconst 0, 1) := by decide +kernel
theorem dX13_forget_7 : decode cX13_forget 7 = .ok (.putfield 220, 3) := by decide +kernel
theorem dX13_forget_10 : decode cX13_forget 10 = .ok (.aload_n 0, 1) := by decide +kernel
theorem dX13_forget_11 : decode cX13_forget 11 = .ok (.iconst 0, 1) := by decide +kernel
theorem dX13_forget_12 : decode cX13_forget 12 = .ok (.putfield 223, 3) := by decide +kernel
theorem dX13_forget_15 : decode cX13_forget 15 = .ok (.aload_n 0, 1) := by decide +kernel
theorem dX13_forget_16 : decode cX13_forget 16 = .ok (.iconst 0, 1) := by decide +kernel
theorem dX13_forget_17 : decode cX13_forget 17 = .ok (.putfield 190, 3) := by decide +kernel
theorem dX13_forget_20 : decode cX13_forget 20 = .ok (.aload_n 0, 1) := by decide +kernel
theorem dX13_forget_21 : decode cX13_forget 21 = .ok (.iconst 0, 1) := by decide +kernel
theorem dX13_forget_22 : decode cX13_forget 22 = .ok (.putfield 197, 3) := by decide +kernel
theorem dX13_forget_25 : decode cX13_forget 25 = .ok (.aload_n 0, 1) := by decide +kernel
theorem dX13_forget_26 : decode cX13_forget 26 = .ok (.invokevirtual 226, 3) := by decide +kernel
theorem dX13_forget_29 : decode cX13_forget 29 = .ok (.return_, 1) := by decide +kernel
theorem dX13_kind_0 : decode cX13_kind 0 = .ok (.aload_n 0, 1) := by decide +kernel
theorem dX13_kind_1 : decode cX13_kind 1 = .ok (.invokevirtual 263, 3) := by decide +kernel
theorem dX13_kind_4 : decode cX13_kind 4 = .ok (.istore_n 2, 1) := by decide +kernel
theorem dX13_kind_5 : decode cX13_kind 5 = .ok (.aload_n 0, 1) := by decide +kernel
theorem dX13_kind_6 : decode cX13_kind 6 = .ok (.iload_n 2, 1) := by decide +kernel
theorem dX13_kind_7 : decode cX13_kind 7 = .ok (.invokevirtual 266, 3) := by decide +kernel
theorem dX13_kind_10 : decode cX13_kind 10 = .ok (.istore_n 3, 1) := by decide +kernel
theorem dX13_kind_11 : decode cX13_kind 11 = .ok (.iconst 0, 1) := by decide +kernel
theorem dX13_kind_12 : decode cX13_kind 12 = .ok (.istore 4, 2) := by decide +kernel
theorem dX13_kind_14 : decode cX13_kind 14 = .ok (.iload 4, 2) := by decide +kernel
theorem dX13_kind_16 : decode cX13_kind 16 = .ok (.aload_n 0, 1) := by decide +kernel
theorem dX13_kind_17 : decode cX13_kind 17 = .ok (.getfield 220, 3) := by decide +kernel
theorem dX13_kind_20 : decode cX13_kind 20 = .ok (.if_icmp .ge 30, 3) := by decide +kernel
theorem dX13_kind_23 : decode cX13_kind 23 = .ok (.aload_n 0, 1) := by decide +kernel
theorem dX13_kind_24 : decode cX13_kind 24 = .ok (.getfield 50, 3) := by decide +kernel
theorem dX13_kind_27 : decode cX13_kind 27 = .ok (.iload 4, 2) := by decide +kernel
theorem dX13_kind_29 : decode cX13_kind 29 = .ok (.iaload, 1) := by decide +kernel
theorem dX13_kind_30 : decode cX13_kind 30 = .ok (.iload_n 3, 1) := by decide +kernel
theorem dX13_kind_31 : decode cX13_kind 31 = .ok (.if_icmp .ne 13, 3) := by decide +kernel
theorem dX13_kind_34 : decode cX13_kind 34 = .ok (.new 209, 3) := by decide +kernel
theorem dX13_kind_37 : decode cX13_kind 37 = .ok (.dup, 1) := by decide +kernel
theorem dX13_kind_38 : decode cX13_kind 38 = .ok (.iconst 2, 1) := by decide +kernel
theorem dX13_kind_39 : decode cX13_kind 39 = .ok (.iload_n 2, 1) := by decide +kernel
theorem dX13_kind_40 : decode cX13_kind 40 = .ok (.invokespecial 211, 3) := by decide +kernel
theorem dX13_kind_43 : decode cX13_kind 43 = .ok (.athrow, 1) := by decide +kernel
theorem dX13_kind_44 : decode cX13_kind 44 = .ok (.iinc 4 1, 3) := by decide +kernel
theorem dX13_kind_47 : decode cX13_kind 47 = .ok (.goto (-33), 3) := by decide +kernel
theorem dX13_kind_50 : decode cX13_kind 50 = .ok (.aload_n 0, 1) := by decide +kernel
theorem dX13_kind_51 : decode cX13_kind 51 = .ok (.getfield 220, 3) := by decide +kernel
theorem dX13_kind_54 : decode cX13_kind 54 = .ok (.bipush 40, 2) := by decide +kernel
theorem dX13_kind_56 : decode cX13_kind 56 = .ok (.if_icmp .ne 13, 3) := by decide +kernel
theorem dX13_kind_59 : decode cX13_kind 59 = .ok (.new 209, 3) := by decide +kernel
theorem dX13_kind_62 : decode cX13_kind 62 = .ok (.dup, 1) := by decide +kernel
theorem dX13_kind_63 : decode cX13_kind 63 = .ok (.iconst 3, 1) := by decide +kernel
theorem dX13_kind_64 : decode cX13_kind 64 = .ok (.iload_n 2, 1) := by decide +kernel
theorem dX13_kind_65 : decode cX13_kind 65 = .ok (.invokespecial 211, 3) := by decide +kernel
theorem dX13_kind_68 : decode cX13_kind 68 = .ok (.athrow, 1) := by decide +kernel
theorem dX13_kind_69 : decode cX13_kind 69 = .ok (.aload_n 0, 1) := by decide +kernel
theorem dX13_kind_70 : decode cX13_kind 70 = .ok (.getfield 220, 3) := by decide +kernel
theorem dX13_kind_73 : decode cX13_kind 73 = .ok (.istore 4, 2) := by decide +kernel
theorem dX13_kind_75 : decode cX13_kind 75 = .ok (.iconst 0, 1) := by decide +kernel
theorem dX13_kind_76 : decode cX13_kind 76 = .ok (.istore 5, 2) := by decide +kernel
theorem dX13_kind_78 : decode cX13_kind 78 = .ok (.iload_n 1, 1) := by decide +kernel
theorem dX13_kind_79 : decode cX13_kind 79 = .ok (.iconst 4, 1) := by decide +kernel
theorem dX13_kind_80 : decode cX13_kind 80 = .ok (.if_icmp .ne 160, 3) := by decide +kernel
theorem dX13_kind_83 : decode cX13_kind 83 = .ok (.aload_n 0, 1) := by decide +kernel
theorem dX13_kind_84 : decode cX13_kind 84 = .ok (.getfield 26, 3) := by decide +kernel
theorem dX13_kind_87 : decode cX13_kind 87 = .ok (.aload_n 0, 1) := by decide +kernel
theorem dX13_kind_88 : decode cX13_kind 88 = .ok (.getfield 206, 3) := by decide +kernel
theorem dX13_kind_91 : decode cX13_kind 91 = .ok (.iaload, 1) := by decide +kernel
theorem dX13_kind_92 : decode cX13_kind 92 = .ok (.iconst 1, 1) := by decide +kernel
theorem dX13_kind_93 : decode cX13_kind 93 = .ok (.if_icmp .ne 111, 3) := by decide +kernel
theorem dX13_kind_96 : decode cX13_kind 96 = .ok (.aload_n 0, 1) := by decide +kernel
theorem dX13_kind_97 : decode cX13_kind 97 = .ok (.aload_n 0, 1) := by decide +kernel
theorem dX13_kind_98 : decode cX13_kind 98 = .ok (.getfield 206, 3) := by decide +kernel
theorem dX13_kind_101 : decode cX13_kind 101 = .ok (.invokevirtual 266, 3) := by decide +kernel
theorem dX13_kind_104 : decode cX13_kind 104 = .ok (.istore 6, 2) := by decide +kernel
theorem dX13_kind_106 : decode cX13_kind 106 = .ok (.iconst 0, 1) := by decide +kernel
theorem dX13_kind_107 : decode cX13_kind 107 = .ok (.istore 7, 2) := by decide +kernel
theorem dX13_kind_109 : decode cX13_kind 109 = .ok (.iload 7, 2) := by decide +kernel
theorem dX13_kind_111 : decode cX13_kind 111 = .ok (.iload 5, 2) := by decide +kernel
theorem dX13_kind_113 : decode cX13_kind 113 = .ok (.if_icmp .ge 40, 3) := by decide +kernel
theorem dX13_kind_116 : decode cX13_kind 116 = .ok (.aload_n 0, 1) := by decide +kernel
theorem dX13_kind_117 : decode cX13_kind 117 = .ok (.getfield 65, 3) := by decide +kernel
theorem dX13_kind_120 : decode cX13_kind 120 = .ok (.bipush 32, 2) := by decide +kernel
theorem dX13_kind_122 : decode cX13_kind 122 = .ok (.iload 4, 2) := by decide +kernel
theorem dX13_kind_124 : decode cX13_kind 124 = .ok (.imul, 1) := by decide +kernel
theorem dX13_kind_125 : decode cX13_kind 125 = .ok (.iload 7, 2) := by decide +kernel
theorem dX13_kind_127 : decode cX13_kind 127 = .ok (.iadd, 1) := by decide +kernel
theorem dX13_kind_128 : decode cX13_kind 128 = .ok (.iaload, 1) := by decide +kernel
theorem dX13_kind_129 : decode cX13_kind 129 = .ok (.iload 6, 2) := by decide +kernel
theorem dX13_kind_131 : decode cX13_kind 131 = .ok (.if_icmp .ne 16, 3) := by decide +kernel
theorem dX13_kind_134 : decode cX13_kind 134 = .ok (.new 209, 3) := by decide +kernel
theorem dX13_kind_137 : decode cX13_kind 137 = .ok (.dup, 1) := by decide +kernel
theorem dX13_kind_138 : decode cX13_kind 138 = .ok (.iconst 2, 1) := by decide +kernel
theorem dX13_kind_139 : decode cX13_kind 139 = .ok (.aload_n 0, 1) := by decide +kernel
theorem dX13_kind_140 : decode cX13_kind 140 = .ok (.getfield 206, 3) := by decide +kernel
theorem dX13_kind_143 : decode cX13_kind 143 = .ok (.invokespecial 211, 3) := by decide +kernel
theorem dX13_kind_146 : decode cX13_kind 146 = .ok (.athrow, 1) := by decide +kernel
theorem dX13_kind_147 : decode cX13_kind 147 = .ok (.iinc 7 1, 3) := by decide +kernel
theorem dX13_kind_150 : decode cX13_kind 150 = .ok (.goto (-41), 3) := by decide +kernel
theorem dX13_kind_153 : decode cX13_kind 153 = .ok (.iload 5, 2) := by decide +kernel
theorem dX13_kind_155 : decode cX13_kind 155 = .ok (.bipush 32, 2) := by decide +kernel
theorem dX13_kind_157 : decode cX13_kind 157 = .ok (.if_icmp .ne 16, 3) := by decide +kernel
theorem dX13_kind_160 : decode cX13_kind 160 = .ok (.new 209, 3) := by decide +kernel
theorem dX13_kind_163 : decode cX13_kind 163 = .ok (.dup, 1) := by decide +kernel
theorem dX13_kind_164 : decode cX13_kind 164 = .ok (.iconst 3, 1) := by decide +kernel
theorem dX13_kind_165 : decode cX13_kind 165 = .ok (.aload_n 0, 1) := by decide +kernel
theorem dX13_kind_166 : decode cX13_kind 166 = .ok (.getfield 206, 3) := by decide +kernel
theorem dX13_kind_169 : decode cX13_kind 169 = .ok (.invokespecial 211, 3) := by decide +kernel
theorem dX13_kind_172 : decode cX13_kind 172 = .ok (.athrow, 1) := by decide +kernel
theorem dX13_kind_173 : decode cX13_kind 173 = .ok (.aload_n 0, 1) := by decide +kernel
theorem dX13_kind_174 : decode cX13_kind 174 = .ok (.getfield 65, 3) := by decide +kernel
theorem dX13_kind_177 : decode cX13_kind 177 = .ok (.bipush 32, 2) := by decide +kernel
theorem dX13_kind_179 : decode cX13_kind 179 = .ok (.iload 4, 2) := by decide +kernel
theorem dX13_kind_181 : decode cX13_kind 181 = .ok (.imul, 1) := by decide +kernel
theorem dX13_kind_182 : decode cX13_kind 182 = .ok (.iload 5, 2) := by decide +kernel
theorem dX13_kind_184 : decode cX13_kind 184 = .ok (.iadd, 1) := by decide +kernel
theorem dX13_kind_185 : decode cX13_kind 185 = .ok (.iload 6, 2) := by decide +kernel
theorem dX13_kind_187 : decode cX13_kind 187 = .ok (.iastore, 1) := by decide +kernel
theorem dX13_kind_188 : decode cX13_kind 188 = .ok (.iinc 5 1, 3) := by decide +kernel
theorem dX13_kind_191 : decode cX13_kind 191 = .ok (.aload_n 0, 1) := by decide +kernel
theorem dX13_kind_192 : decode cX13_kind 192 = .ok (.dup, 1) := by decide +kernel
theorem dX13_kind_193 : decode cX13_kind 193 = .ok (.getfield 206, 3) := by decide +kernel
theorem dX13_kind_196 : decode cX13_kind 196 = .ok (.iconst 1, 1) := by decide +kernel
theorem dX13_kind_197 : decode cX13_kind 197 = .ok (.iadd, 1) := by decide +kernel
theorem dX13_kind_198 : decode cX13_kind 198 = .ok (.putfield 206, 3) := by decide +kernel
theorem dX13_kind_201 : decode cX13_kind 201 = .ok (.goto (-118), 3) := by decide +kernel
theorem dX13_kind_204 : decode cX13_kind 204 = .ok (.iload 5, 2) := by decide +kernel
theorem dX13_kind_206 : decode cX13_kind 206 = .ok (.iconst 2, 1) := by decide +kernel
theorem dX13_kind_207 : decode cX13_kind 207 = .ok (.if_icmp .ge 16, 3) := by decide +kernel
theorem dX13_kind_210 : decode cX13_kind 210 = .ok (.new 209, 3) := by decide +kernel
theorem dX13_kind_213 : decode cX13_kind 213 = .ok (.dup, 1) := by decide +kernel
theorem dX13_kind_214 : decode cX13_kind 214 = .ok (.iconst 1, 1) := by decide +kernel
theorem dX13_kind_215 : decode cX13_kind 215 = .ok (.aload_n 0, 1) := by decide +kernel
theorem dX13_kind_216 : decode cX13_kind 216 = .ok (.getfield 206, 3) := by decide +kernel
theorem dX13_kind_219 : decode cX13_kind 219 = .ok (.invokespecial 211, 3) := by decide +kernel
theorem dX13_kind_222 : decode cX13_kind 222 = .ok (.athrow, 1) := by decide +kernel
theorem dX13_kind_223 : decode cX13_kind 223 = .ok (.aload_n 0, 1) := by decide +kernel
theorem dX13_kind_224 : decode cX13_kind 224 = .ok (.getfield 62, 3) := by decide +kernel
theorem dX13_kind_227 : decode cX13_kind 227 = .ok (.iload 4, 2) := by decide +kernel
theorem dX13_kind_229 : decode cX13_kind 229 = .ok (.iload 5, 2) := by decide +kernel
theorem dX13_kind_231 : decode cX13_kind 231 = .ok (.iconst 1, 1) := by decide +kernel
theorem dX13_kind_232 : decode cX13_kind 232 = .ok (.isub, 1) := by decide +kernel
theorem dX13_kind_233 : decode cX13_kind 233 = .ok (.invokestatic 269, 3) := by decide +kernel
theorem dX13_kind_236 : decode cX13_kind 236 = .ok (.iastore, 1) := by decide +kernel
theorem dX13_kind_237 : decode cX13_kind 237 = .ok (.goto 125, 3) := by decide +kernel
theorem dX13_kind_240 : decode cX13_kind 240 = .ok (.iload_n 1, 1) := by decide +kernel
theorem dX13_kind_241 : decode cX13_kind 241 = .ok (.ifCond .ne 102, 3) := by decide +kernel
theorem dX13_kind_244 : decode cX13_kind 244 = .ok (.aload_n 0, 1) := by decide +kernel
theorem dX13_kind_245 : decode cX13_kind 245 = .ok (.invokevirtual 263, 3) := by decide +kernel
theorem dX13_kind_248 : decode cX13_kind 248 = .ok (.istore 6, 2) := by decide +kernel
theorem dX13_kind_250 : decode cX13_kind 250 = .ok (.iconst 0, 1) := by decide +kernel
theorem dX13_kind_251 : decode cX13_kind 251 = .ok (.istore 7, 2) := by decide +kernel
theorem dX13_kind_253 : decode cX13_kind 253 = .ok (.iload 7, 2) := by decide +kernel
theorem dX13_kind_255 : decode cX13_kind 255 = .ok (.aload_n 0, 1) := by decide +kernel
theorem dX13_kind_256 : decode cX13_kind 256 = .ok (.getfield 33, 3) := by decide +kernel
theorem dX13_kind_259 : decode cX13_kind 259 = .ok (.iload 6, 2) := by decide +kernel
theorem dX13_kind_261 : decode cX13_kind 261 = .ok (.iaload, 1) := by decide +kernel
theorem dX13_kind_262 : decode cX13_kind 262 = .ok (.if_icmp .ge 41, 3) := by decide +kernel
theorem dX13_kind_265 : decode cX13_kind 265 = .ok (.aload_n 0, 1) := by decide +kernel
theorem dX13_kind_266 : decode cX13_kind 266 = .ok (.getfield 13, 3) := by decide +kernel
theorem dX13_kind_269 : decode cX13_kind 269 = .ok (.aload_n 0, 1) := by decide +kernel
theorem dX13_kind_270 : decode cX13_kind 270 = .ok (.getfield 30, 3) := by decide +kernel
theorem dX13_kind_273 : decode cX13_kind 273 = .ok (.iload 6, 2) := by decide +kernel
theorem dX13_kind_275 : decode cX13_kind 275 = .ok (.iaload, 1) := by decide +kernel
theorem dX13_kind_276 : decode cX13_kind 276 = .ok (.iload 7, 2) := by decide +kernel
theorem dX13_kind_278 : decode cX13_kind 278 = .ok (.iadd, 1) := by decide +kernel
theorem dX13_kind_279 : decode cX13_kind 279 = .ok (.baload, 1) := by decide +kernel
theorem dX13_kind_280 : decode cX13_kind 280 = .ok (.invokestatic 145, 3) := by decide +kernel
theorem dX13_kind_283 : decode cX13_kind 283 = .ok (.ifCond .ne 14, 3) := by decide +kernel
theorem dX13_kind_286 : decode cX13_kind 286 = .ok (.new 209, 3) := by decide +kernel
theorem dX13_kind_289 : decode cX13_kind 289 = .ok (.dup, 1) := by decide +kernel
theorem dX13_kind_290 : decode cX13_kind 290 = .ok (.iconst 1, 1) := by decide +kernel
theorem dX13_kind_291 : decode cX13_kind 291 = .ok (.iload 6, 2) := by decide +kernel
theorem dX13_kind_293 : decode cX13_kind 293 = .ok (.invokespecial 211, 3) := by decide +kernel
theorem dX13_kind_296 : decode cX13_kind 296 = .ok (.athrow, 1) := by decide +kernel
theorem dX13_kind_297 : decode cX13_kind 297 = .ok (.iinc 7 1, 3) := by decide +kernel
theorem dX13_kind_300 : decode cX13_kind 300 = .ok (.goto (-47), 3) := by decide +kernel
theorem dX13_kind_303 : decode cX13_kind 303 = .ok (.aload_n 0, 1) := by decide +kernel
theorem dX13_kind_304 : decode cX13_kind 304 = .ok (.getfield 56, 3) := by decide +kernel
theorem dX13_kind_307 : decode cX13_kind 307 = .ok (.iload 4, 2) := by decide +kernel
theorem dX13_kind_309 : decode cX13_kind 309 = .ok (.aload_n 0, 1) := by decide +kernel
theorem dX13_kind_310 : decode cX13_kind 310 = .ok (.iload 6, 2) := by decide +kernel
theorem dX13_kind_312 : decode cX13_kind 312 = .ok (.invokevirtual 266, 3) := by decide +kernel
theorem dX13_kind_315 : decode cX13_kind 315 = .ok (.iastore, 1) := by decide +kernel
theorem dX13_kind_316 : decode cX13_kind 316 = .ok (.aload_n 0, 1) := by decide +kernel
theorem dX13_kind_317 : decode cX13_kind 317 = .ok (.lconst 1, 1) := by decide +kernel
theorem dX13_kind_318 : decode cX13_kind 318 = .ok (.ldc2_w 272, 3) := by decide +kernel
theorem dX13_kind_321 : decode cX13_kind 321 = .ok (.invokevirtual 274, 3) := by decide +kernel
theorem dX13_kind_324 : decode cX13_kind 324 = .ok (.istore 5, 2) := by decide +kernel
theorem dX13_kind_326 : decode cX13_kind 326 = .ok (.aload_n 0, 1) := by decide +kernel
theorem dX13_kind_327 : decode cX13_kind 327 = .ok (.getfield 62, 3) := by decide +kernel
theorem dX13_kind_330 : decode cX13_kind 330 = .ok (.iload 4, 2) := by decide +kernel
theorem dX13_kind_332 : decode cX13_kind 332 = .ok (.iload 5, 2) := by decide +kernel
theorem dX13_kind_334 : decode cX13_kind 334 = .ok (.iconst 1, 1) := by decide +kernel
theorem dX13_kind_335 : decode cX13_kind 335 = .ok (.isub, 1) := by decide +kernel
theorem dX13_kind_336 : decode cX13_kind 336 = .ok (.invokestatic 269, 3) := by decide +kernel
theorem dX13_kind_339 : decode cX13_kind 339 = .ok (.iastore, 1) := by decide +kernel
theorem dX13_kind_340 : decode cX13_kind 340 = .ok (.goto 22, 3) := by decide +kernel
theorem dX13_kind_343 : decode cX13_kind 343 = .ok (.aload_n 0, 1) := by decide +kernel
theorem dX13_kind_344 : decode cX13_kind 344 = .ok (.lconst 1, 1) := by decide +kernel
theorem dX13_kind_345 : decode cX13_kind 345 = .ok (.ldc2_w 239, 3) := by decide +kernel
theorem dX13_kind_348 : decode cX13_kind 348 = .ok (.invokevirtual 274, 3) := by decide +kernel
theorem dX13_kind_351 : decode cX13_kind 351 = .ok (.istore 5, 2) := by decide +kernel
theorem dX13_kind_353 : decode cX13_kind 353 = .ok (.aload_n 0, 1) := by decide +kernel
theorem dX13_kind_354 : decode cX13_kind 354 = .ok (.getfield 62, 3) := by decide +kernel
theorem dX13_kind_357 : decode cX13_kind 357 = .ok (.iload 4, 2) := by decide +kernel
theorem dX13_kind_359 : decode cX13_kind 359 = .ok (.iload 5, 2) := by decide +kernel
theorem dX13_kind_361 : decode cX13_kind 361 = .ok (.iastore, 1) := by decide +kernel
theorem dX13_kind_362 : decode cX13_kind 362 = .ok (.aload_n 0, 1) := by decide +kernel
theorem dX13_kind_363 : decode cX13_kind 363 = .ok (.getfield 50, 3) := by decide +kernel
theorem dX13_kind_366 : decode cX13_kind 366 = .ok (.iload 4, 2) := by decide +kernel
theorem dX13_kind_368 : decode cX13_kind 368 = .ok (.iload_n 3, 1) := by decide +kernel
theorem dX13_kind_369 : decode cX13_kind 369 = .ok (.iastore, 1) := by decide +kernel
theorem dX13_kind_370 : decode cX13_kind 370 = .ok (.aload_n 0, 1) := by decide +kernel
theorem dX13_kind_371 : decode cX13_kind 371 = .ok (.getfield 53, 3) := by decide +kernel
theorem dX13_kind_374 : decode cX13_kind 374 = .ok (.iload 4, 2) := by decide +kernel
theorem dX13_kind_376 : decode cX13_kind 376 = .ok (.iload_n 1, 1) := by decide +kernel
theorem dX13_kind_377 : decode cX13_kind 377 = .ok (.iastore, 1) := by decide +kernel
theorem dX13_kind_378 : decode cX13_kind 378 = .ok (.aload_n 0, 1) := by decide +kernel
theorem dX13_kind_379 : decode cX13_kind 379 = .ok (.getfield 59, 3) := by decide +kernel
theorem dX13_kind_382 : decode cX13_kind 382 = .ok (.iload 4, 2) := by decide +kernel
theorem dX13_kind_384 : decode cX13_kind 384 = .ok (.iload 5, 2) := by decide +kernel
theorem dX13_kind_386 : decode cX13_kind 386 = .ok (.iastore, 1) := by decide +kernel
theorem dX13_kind_387 : decode cX13_kind 387 = .ok (.aload_n 0, 1) := by decide +kernel
theorem dX13_kind_388 : decode cX13_kind 388 = .ok (.aload_n 0, 1) := by decide +kernel
theorem dX13_kind_389 : decode cX13_kind 389 = .ok (.getfield 206, 3) := by decide +kernel
theorem dX13_kind_392 : decode cX13_kind 392 = .ok (.bipush 59, 2) := by decide +kernel
theorem dX13_kind_394 : decode cX13_kind 394 = .ok (.invokevirtual 214, 3) := by decide +kernel
theorem dX13_kind_397 : decode cX13_kind 397 = .ok (.ifCond .ne 16, 3) := by decide +kernel
theorem dX13_kind_400 : decode cX13_kind 400 = .ok (.new 209, 3) := by decide +kernel
theorem dX13_kind_403 : decode cX13_kind 403 = .ok (.dup, 1) := by decide +kernel
theorem dX13_kind_404 : decode cX13_kind 404 = .ok (.iconst 1, 1) := by decide +kernel
theorem dX13_kind_405 : decode cX13_kind 405 = .ok (.aload_n 0, 1) := by decide +kernel
theorem dX13_kind_406 : decode cX13_kind 406 = .ok (.getfield 206, 3) := by decide +kernel
theorem dX13_kind_409 : decode cX13_kind 409 = .ok (.invokespecial 211, 3) := by decide +kernel
theorem dX13_kind_412 : decode cX13_kind 412 = .ok (.athrow, 1) := by decide +kernel
theorem dX13_kind_413 : decode cX13_kind 413 = .ok (.aload_n 0, 1) := by decide +kernel
theorem dX13_kind_414 : decode cX13_kind 414 = .ok (.dup, 1) := by decide +kernel
theorem dX13_kind_415 : decode cX13_kind 415 = .ok (.getfield 220, 3) := by decide +kernel
theorem dX13_kind_418 : decode cX13_kind 418 = .ok (.iconst 1, 1) := by decide +kernel
theorem dX13_kind_419 : decode cX13_kind 419 = .ok (.iadd, 1) := by decide +kernel
theorem dX13_kind_420 : decode cX13_kind 420 = .ok (.putfield 220, 3) := by decide +kernel
theorem dX13_kind_423 : decode cX13_kind 423 = .ok (.return_, 1) := by decide +kernel
theorem dX13_words_0 : decode cX13_words 0 = .ok (.iconst 0, 1) := by decide +kernel
theorem dX13_words_1 : decode cX13_words 1 = .ok (.istore_n 2, 1) := by decide +kernel
theorem dX13_words_2 : decode cX13_words 2 = .ok (.iload_n 2, 1) := by decide +kernel
theorem dX13_words_3 : decode cX13_words 3 = .ok (.aload_n 0, 1) := by decide +kernel
theorem dX13_words_4 : decode cX13_words 4 = .ok (.getfield 95, 3) := by decide +kernel
theorem dX13_words_7 : decode cX13_words 7 = .ok (.arraylength, 1) := by decide +kernel
theorem dX13_words_8 : decode cX13_words 8 = .ok (.if_icmp .ge 16, 3) := by decide +kernel
theorem dX13_words_11 : decode cX13_words 11 = .ok (.aload_n 0, 1) := by decide +kernel
theorem dX13_words_12 : decode cX13_words 12 = .ok (.getfield 95, 3) := by decide +kernel
theorem dX13_words_15 : decode cX13_words 15 = .ok (.iload_n 2, 1) := by decide +kernel
theorem dX13_words_16 : decode cX13_words 16 = .ok (.iconst 0, 1) := by decide +kernel
theorem dX13_words_17 : decode cX13_words 17 = .ok (.iastore, 1) := by decide +kernel
theorem dX13_words_18 : decode cX13_words 18 = .ok (.iinc 2 1, 3) := by decide +kernel
theorem dX13_words_21 : decode cX13_words 21 = .ok (.goto (-19), 3) := by decide +kernel
theorem dX13_words_24 : decode cX13_words 24 = .ok (.iconst 0, 1) := by decide +kernel
theorem dX13_words_25 : decode cX13_words 25 = .ok (.istore_n 2, 1) := by decide +kernel
theorem dX13_words_26 : decode cX13_words 26 = .ok (.iconst 0, 1) := by decide +kernel
theorem dX13_words_27 : decode cX13_words 27 = .ok (.istore_n 3, 1) := by decide +kernel
theorem dX13_words_28 : decode cX13_words 28 = .ok (.iconst 0, 1) := by decide +kernel
theorem dX13_words_29 : decode cX13_words 29 = .ok (.istore 4, 2) := by decide +kernel
theorem dX13_words_31 : decode cX13_words 31 = .ok (.aload_n 0, 1) := by decide +kernel
theorem dX13_words_32 : decode cX13_words 32 = .ok (.aload_n 0, 1) := by decide +kernel
theorem dX13_words_33 : decode cX13_words 33 = .ok (.getfield 206, 3) := by decide +kernel
theorem dX13_words_36 : decode cX13_words 36 = .ok (.bipush 124, 2) := by decide +kernel
theorem dX13_words_38 : decode cX13_words 38 = .ok (.invokevirtual 214, 3) := by decide +kernel
theorem dX13_words_41 : decode cX13_words 41 = .ok (.ifCond .ne 16, 3) := by decide +kernel
theorem dX13_words_44 : decode cX13_words 44 = .ok (.aload_n 0, 1) := by decide +kernel
theorem dX13_words_45 : decode cX13_words 45 = .ok (.aload_n 0, 1) := by decide +kernel
theorem dX13_words_46 : decode cX13_words 46 = .ok (.getfield 206, 3) := by decide +kernel
theorem dX13_words_49 : decode cX13_words 49 = .ok (.bipush 59, 2) := by decide +kernel
theorem dX13_words_51 : decode cX13_words 51 = .ok (.invokevirtual 214, 3) := by decide +kernel
theorem dX13_words_54 : decode cX13_words 54 = .ok (.ifCond .eq 85, 3) := by decide +kernel
theorem dX13_words_57 : decode cX13_words 57 = .ok (.aload_n 0, 1) := by decide +kernel
theorem dX13_words_58 : decode cX13_words 58 = .ok (.aload_n 0, 1) := by decide +kernel
theorem dX13_words_59 : decode cX13_words 59 = .ok (.getfield 206, 3) := by decide +kernel
theorem dX13_words_62 : decode cX13_words 62 = .ok (.bipush 124, 2) := by decide +kernel
theorem dX13_words_64 : decode cX13_words 64 = .ok (.invokevirtual 214, 3) := by decide +kernel
theorem dX13_words_67 : decode cX13_words 67 = .ok (.istore 5, 2) := by decide +kernel
theorem dX13_words_69 : decode cX13_words 69 = .ok (.iload 5, 2) := by decide +kernel
theorem dX13_words_71 : decode cX13_words 71 = .ok (.ifCond .eq 21, 3) := by decide +kernel
theorem dX13_words_74 : decode cX13_words 74 = .ok (.iload_n 2, 1) := by decide +kernel
theorem dX13_words_75 : decode cX13_words 75 = .ok (.iconst 3, 1) := by decide +kernel
theorem dX13_words_76 : decode cX13_words 76 = .ok (.if_icmp .ne 16, 3) := by decide +kernel
theorem dX13_words_79 : decode cX13_words 79 = .ok (.new 209, 3) := by decide +kernel
theorem dX13_words_82 : decode cX13_words 82 = .ok (.dup, 1) := by decide +kernel
theorem dX13_words_83 : decode cX13_words 83 = .ok (.iconst 3, 1) := by decide +kernel
theorem dX13_words_84 : decode cX13_words 84 = .ok (.aload_n 0, 1) := by decide +kernel
theorem dX13_words_85 : decode cX13_words 85 = .ok (.getfield 206, 3) := by decide +kernel
theorem dX13_words_88 : decode cX13_words 88 = .ok (.invokespecial 211, 3) := by decide +kernel
theorem dX13_words_91 : decode cX13_words 91 = .ok (.athrow, 1) := by decide +kernel
theorem dX13_words_92 : decode cX13_words 92 = .ok (.iload_n 3, 1) := by decide +kernel
theorem dX13_words_93 : decode cX13_words 93 = .ok (.aload_n 0, 1) := by decide +kernel
theorem dX13_words_94 : decode cX13_words 94 = .ok (.getfield 217, 3) := by decide +kernel
theorem dX13_words_97 : decode cX13_words 97 = .ok (.if_icmp .eq 16, 3) := by decide +kernel
theorem dX13_words_100 : decode cX13_words 100 = .ok (.new 209, 3) := by decide +kernel
theorem dX13_words_103 : decode cX13_words 103 = .ok (.dup, 1) := by decide +kernel
theorem dX13_words_104 : decode cX13_words 104 = .ok (.iconst 4, 1) := by decide +kernel
theorem dX13_words_105 : decode cX13_words 105 = .ok (.aload_n 0, 1) := by decide +kernel
theorem dX13_words_106 : decode cX13_words 106 = .ok (.getfield 206, 3) := by decide +kernel
theorem dX13_words_109 : decode cX13_words 109 = .ok (.invokespecial 211, 3) := by decide +kernel
theorem dX13_words_112 : decode cX13_words 112 = .ok (.athrow, 1) := by decide +kernel
theorem dX13_words_113 : decode cX13_words 113 = .ok (.iinc 2 1, 3) := by decide +kernel
theorem dX13_words_116 : decode cX13_words 116 = .ok (.iconst 0, 1) := by decide +kernel
theorem dX13_words_117 : decode cX13_words 117 = .ok (.istore_n 3, 1) := by decide +kernel
theorem dX13_words_118 : decode cX13_words 118 = .ok (.iload 5, 2) := by decide +kernel
theorem dX13_words_120 : decode cX13_words 120 = .ok (.ifCond .ne 6, 3) := by decide +kernel
theorem dX13_words_123 : decode cX13_words 123 = .ok (.goto 409, 3) := by decide +kernel
theorem dX13_words_126 : decode cX13_words 126 = .ok (.aload_n 0, 1) := by decide +kernel
theorem dX13_words_127 : decode cX13_words 127 = .ok (.dup, 1) := by decide +kernel
theorem dX13_words_128 : decode cX13_words 128 = .ok (.getfield 206, 3) := by decide +kernel
theorem dX13_words_131 : decode cX13_words 131 = .ok (.iconst 1, 1) := by decide +kernel
theorem dX13_words_132 : decode cX13_words 132 = .ok (.iadd, 1) := by decide +kernel
theorem dX13_words_133 : decode cX13_words 133 = .ok (.putfield 206, 3) := by decide +kernel
theorem dX13_words_136 : decode cX13_words 136 = .ok (.goto (-105), 3) := by decide +kernel
theorem dX13_words_139 : decode cX13_words 139 = .ok (.aload_n 0, 1) := by decide +kernel
theorem dX13_words_140 : decode cX13_words 140 = .ok (.getfield 26, 3) := by decide +kernel
theorem dX13_words_143 : decode cX13_words 143 = .ok (.aload_n 0, 1) := by decide +kernel
theorem dX13_words_144 : decode cX13_words 144 = .ok (.getfield 206, 3) := by decide +kernel
theorem dX13_words_147 : decode cX13_words 147 = .ok (.iaload, 1) := by decide +kernel
theorem dX13_words_148 : decode cX13_words 148 = .ok (.iconst 2, 1) := by decide +kernel
theorem dX13_words_149 : decode cX13_words 149 = .ok (.if_icmp .ne 131, 3) := by decide +kernel
theorem dX13_words_152 : decode cX13_words 152 = .ok (.iconst 0, 1) := by decide +kernel
theorem dX13_words_153 : decode cX13_words 153 = .ok (.istore 5, 2) := by decide +kernel
theorem dX13_words_155 : decode cX13_words 155 = .ok (.iload 5, 2) := by decide +kernel
theorem dX13_words_157 : decode cX13_words 157 = .ok (.aload_n 0, 1) := by decide +kernel
theorem dX13_words_158 : decode cX13_words 158 = .ok (.getfield 33, 3) := by decide +kernel
theorem dX13_words_161 : decode cX13_words 161 = .ok (.aload_n 0, 1) := by decide +kernel
theorem dX13_words_162 : decode cX13_words 162 = .ok (.getfield 206, 3) := by decide +kernel
theorem dX13_words_165 : decode cX13_words 165 = .ok (.iaload, 1) := by decide +kernel
theorem dX13_words_166 : decode cX13_words 166 = .ok (.if_icmp .ge 101, 3) := by decide +kernel
theorem dX13_words_169 : decode cX13_words 169 = .ok (.aload_n 0, 1) := by decide +kernel
theorem dX13_words_170 : decode cX13_words 170 = .ok (.getfield 13, 3) := by decide +kernel
theorem dX13_words_173 : decode cX13_words 173 = .ok (.aload_n 0, 1) := by decide +kernel
theorem dX13_words_174 : decode cX13_words 174 = .ok (.getfield 30, 3) := by decide +kernel
theorem dX13_words_177 : decode cX13_words 177 = .ok (.aload_n 0, 1) := by decide +kernel
theorem dX13_words_178 : decode cX13_words 178 = .ok (.getfield 206, 3) := by decide +kernel
theorem dX13_words_181 : decode cX13_words 181 = .ok (.iaload, 1) := by decide +kernel
theorem dX13_words_182 : decode cX13_words 182 = .ok (.iload 5, 2) := by decide +kernel
theorem dX13_words_184 : decode cX13_words 184 = .ok (.iadd, 1) := by decide +kernel
theorem dX13_words_185 : decode cX13_words 185 = .ok (.baload, 1) := by decide +kernel
theorem dX13_words_186 : decode cX13_words 186 = .ok (.istore 6, 2) := by decide +kernel
theorem dX13_words_188 : decode cX13_words 188 = .ok (.iload 6, 2) := by decide +kernel
theorem dX13_words_190 : decode cX13_words 190 = .ok (.bipush 48, 2) := by decide +kernel
theorem dX13_words_192 : decode cX13_words 192 = .ok (.if_icmp .eq 23, 3) := by decide +kernel
theorem dX13_words_195 : decode cX13_words 195 = .ok (.iload 6, 2) := by decide +kernel
theorem dX13_words_197 : decode cX13_words 197 = .ok (.bipush 49, 2) := by decide +kernel
theorem dX13_words_199 : decode cX13_words 199 = .ok (.if_icmp .eq 16, 3) := by decide +kernel
theorem dX13_words_202 : decode cX13_words 202 = .ok (.new 209, 3) := by decide +kernel
theorem dX13_words_205 : decode cX13_words 205 = .ok (.dup, 1) := by decide +kernel
theorem dX13_words_206 : decode cX13_words 206 = .ok (.iconst 3, 1) := by decide +kernel
theorem dX13_words_207 : decode cX13_words 207 = .ok (.aload_n 0, 1) := by decide +kernel
theorem dX13_words_208 : decode cX13_words 208 = .ok (.getfield 206, 3) := by decide +kernel
theorem dX13_words_211 : decode cX13_words 211 = .ok (.invokespecial 211, 3) := by decide +kernel
theorem dX13_words_214 : decode cX13_words 214 = .ok (.athrow, 1) := by decide +kernel
theorem dX13_words_215 : decode cX13_words 215 = .ok (.iload_n 3, 1) := by decide +kernel
theorem dX13_words_216 : decode cX13_words 216 = .ok (.aload_n 0, 1) := by decide +kernel
theorem dX13_words_217 : decode cX13_words 217 = .ok (.getfield 217, 3) := by decide +kernel
theorem dX13_words_220 : decode cX13_words 220 = .ok (.if_icmp .ge 35, 3) := by decide +kernel
theorem dX13_words_223 : decode cX13_words 223 = .ok (.aload_n 0, 1) := by decide +kernel
theorem dX13_words_224 : decode cX13_words 224 = .ok (.getfield 92, 3) := by decide +kernel
theorem dX13_words_227 : decode cX13_words 227 = .ok (.sipush 160, 3) := by decide +kernel
theorem dX13_words_230 : decode cX13_words 230 = .ok (.iload_n 1, 1) := by decide +kernel
theorem dX13_words_231 : decode cX13_words 231 = .ok (.imul, 1) := by decide +kernel
theorem dX13_words_232 : decode cX13_words 232 = .ok (.iload_n 2, 1) := by decide +kernel
theorem dX13_words_233 : decode cX13_words 233 = .ok (.aload_n 0, 1) := by decide +kernel
theorem dX13_words_234 : decode cX13_words 234 = .ok (.getfield 217, 3) := by decide +kernel
theorem dX13_words_237 : decode cX13_words 237 = .ok (.imul, 1) := by decide +kernel
theorem dX13_words_238 : decode cX13_words 238 = .ok (.iadd, 1) := by decide +kernel
theorem dX13_words_239 : decode cX13_words 239 = .ok (.iload_n 3, 1) := by decide +kernel
theorem dX13_words_240 : decode cX13_words 240 = .ok (.iadd, 1) := by decide +kernel
theorem dX13_words_241 : decode cX13_words 241 = .ok (.iload 6, 2) := by decide +kernel
theorem dX13_words_243 : decode cX13_words 243 = .ok (.bipush 48, 2) := by decide +kernel
theorem dX13_words_245 : decode cX13_words 245 = .ok (.if_icmp .ne 7, 3) := by decide +kernel
theorem dX13_words_248 : decode cX13_words 248 = .ok (.iconst (-1), 1) := by decide +kernel
theorem dX13_words_249 : decode cX13_words 249 = .ok (.goto 5, 3) := by decide +kernel
theorem dX13_words_252 : decode cX13_words 252 = .ok (.bipush (-2), 2) := by decide +kernel
theorem dX13_words_254 : decode cX13_words 254 = .ok (.iastore, 1) := by decide +kernel
theorem dX13_words_255 : decode cX13_words 255 = .ok (.iinc 3 1, 3) := by decide +kernel
theorem dX13_words_258 : decode cX13_words 258 = .ok (.iinc 4 1, 3) := by decide +kernel
theorem dX13_words_261 : decode cX13_words 261 = .ok (.iinc 5 1, 3) := by decide +kernel
theorem dX13_words_264 : decode cX13_words 264 = .ok (.goto (-109), 3) := by decide +kernel
theorem dX13_words_267 : decode cX13_words 267 = .ok (.aload_n 0, 1) := by decide +kernel
theorem dX13_words_268 : decode cX13_words 268 = .ok (.dup, 1) := by decide +kernel
theorem dX13_words_269 : decode cX13_words 269 = .ok (.getfield 206, 3) := by decide +kernel
theorem dX13_words_272 : decode cX13_words 272 = .ok (.iconst 1, 1) := by decide +kernel
theorem dX13_words_273 : decode cX13_words 273 = .ok (.iadd, 1) := by decide +kernel
theorem dX13_words_274 : decode cX13_words 274 = .ok (.putfield 206, 3) := by decide +kernel
theorem dX13_words_277 : decode cX13_words 277 = .ok (.goto (-246), 3) := by decide +kernel
theorem dX13_words_280 : decode cX13_words 280 = .ok (.aload_n 0, 1) := by decide +kernel
theorem dX13_words_281 : decode cX13_words 281 = .ok (.invokevirtual 263, 3) := by decide +kernel
theorem dX13_words_284 : decode cX13_words 284 = .ok (.istore 5, 2) := by decide +kernel
theorem dX13_words_286 : decode cX13_words 286 = .ok (.aload_n 0, 1) := by decide +kernel
theorem dX13_words_287 : decode cX13_words 287 = .ok (.iload 5, 2) := by decide +kernel
theorem dX13_words_289 : decode cX13_words 289 = .ok (.invokevirtual 266, 3) := by decide +kernel
theorem dX13_words_292 : decode cX13_words 292 = .ok (.istore 6, 2) := by decide +kernel
theorem dX13_words_294 : decode cX13_words 294 = .ok (.iconst 0, 1) := by decide +kernel
theorem dX13_words_295 : decode cX13_words 295 = .ok (.istore 7, 2) := by decide +kernel
theorem dX13_words_297 : decode cX13_words 297 = .ok (.iload 7, 2) := by decide +kernel
theorem dX13_words_299 : decode cX13_words 299 = .ok (.aload_n 0, 1) := by decide +kernel
theorem dX13_words_300 : decode cX13_words 300 = .ok (.getfield 74, 3) := by decide +kernel
theorem dX13_words_303 : decode cX13_words 303 = .ok (.iload_n 1, 1) := by decide +kernel
theorem dX13_words_304 : decode cX13_words 304 = .ok (.iaload, 1) := by decide +kernel
theorem dX13_words_305 : decode cX13_words 305 = .ok (.if_icmp .ge 25, 3) := by decide +kernel
theorem dX13_words_308 : decode cX13_words 308 = .ok (.aload_n 0, 1) := by decide +kernel
theorem dX13_words_309 : decode cX13_words 309 = .ok (.getfield 86, 3) := by decide +kernel
theorem dX13_words_312 : decode cX13_words 312 = .ok (.iconst 5, 1) := by decide +kernel
theorem dX13_words_313 : decode cX13_words 313 = .ok (.iload_n 1, 1) := by decide +kernel
theorem dX13_words_314 : decode cX13_words 314 = .ok (.imul, 1) := by decide +kernel
theorem dX13_words_315 : decode cX13_words 315 = .ok (.iload 7, 2) := by decide +kernel
theorem dX13_words_317 : decode cX13_words 317 = .ok (.iadd, 1) := by decide +kernel
theorem dX13_words_318 : decode cX13_words 318 = .ok (.iaload, 1) := by decide +kernel
theorem dX13_words_319 : decode cX13_words 319 = .ok (.iload 6, 2) := by decide +kernel
theorem dX13_words_321 : decode cX13_words 321 = .ok (.if_icmp .eq 9, 3) := by decide +kernel
theorem dX13_words_324 : decode cX13_words 324 = .ok (.iinc 7 1, 3) := by decide +kernel
theorem dX13_words_327 : decode cX13_words 327 = .ok (.goto (-30), 3) := by decide +kernel
theorem dX13_words_330 : decode cX13_words 330 = .ok (.iload 7, 2) := by decide +kernel
theorem dX13_words_332 : decode cX13_words 332 = .ok (.aload_n 0, 1) := by decide +kernel
theorem dX13_words_333 : decode cX13_words 333 = .ok (.getfield 74, 3) := by decide +kernel
theorem dX13_words_336 : decode cX13_words 336 = .ok (.iload_n 1, 1) := by decide +kernel
theorem dX13_words_337 : decode cX13_words 337 = .ok (.iaload, 1) := by decide +kernel
theorem dX13_words_338 : decode cX13_words 338 = .ok (.if_icmp .ne 14, 3) := by decide +kernel
theorem dX13_words_341 : decode cX13_words 341 = .ok (.new 209, 3) := by decide +kernel
theorem dX13_words_344 : decode cX13_words 344 = .ok (.dup, 1) := by decide +kernel
theorem dX13_words_345 : decode cX13_words 345 = .ok (.iconst 2, 1) := by decide +kernel
theorem dX13_words_346 : decode cX13_words 346 = .ok (.iload 5, 2) := by decide +kernel
theorem dX13_words_348 : decode cX13_words 348 = .ok (.invokespecial 211, 3) := by decide +kernel
theorem dX13_words_351 : decode cX13_words 351 = .ok (.athrow, 1) := by decide +kernel
theorem dX13_words_352 : decode cX13_words 352 = .ok (.aload_n 0, 1) := by decide +kernel
theorem dX13_words_353 : decode cX13_words 353 = .ok (.getfield 62, 3) := by decide +kernel
theorem dX13_words_356 : decode cX13_words 356 = .ok (.aload_n 0, 1) := by decide +kernel
theorem dX13_words_357 : decode cX13_words 357 = .ok (.getfield 89, 3) := by decide +kernel
theorem dX13_words_360 : decode cX13_words 360 = .ok (.iconst 5, 1) := by decide +kernel
theorem dX13_words_361 : decode cX13_words 361 = .ok (.iload_n 1, 1) := by decide +kernel
theorem dX13_words_362 : decode cX13_words 362 = .ok (.imul, 1) := by decide +kernel
theorem dX13_words_363 : decode cX13_words 363 = .ok (.iload 7, 2) := by decide +kernel
theorem dX13_words_365 : decode cX13_words 365 = .ok (.iadd, 1) := by decide +kernel
theorem dX13_words_366 : decode cX13_words 366 = .ok (.iaload, 1) := by decide +kernel
theorem dX13_words_367 : decode cX13_words 367 = .ok (.iaload, 1) := by decide +kernel
theorem dX13_words_368 : decode cX13_words 368 = .ok (.istore 8, 2) := by decide +kernel
theorem dX13_words_370 : decode cX13_words 370 = .ok (.iload 8, 2) := by decide +kernel
theorem dX13_words_372 : decode cX13_words 372 = .ok (.iconst 1, 1) := by decide +kernel
theorem dX13_words_373 : decode cX13_words 373 = .ok (.isub, 1) := by decide +kernel
theorem dX13_words_374 : decode cX13_words 374 = .ok (.istore 9, 2) := by decide +kernel
theorem dX13_words_376 : decode cX13_words 376 = .ok (.iconst 0, 1) := by decide +kernel
theorem dX13_words_377 : decode cX13_words 377 = .ok (.istore 10, 2) := by decide +kernel
theorem dX13_words_379 : decode cX13_words 379 = .ok (.aload_n 0, 1) := by decide +kernel
theorem dX13_words_380 : decode cX13_words 380 = .ok (.aload_n 0, 1) := by decide +kernel
theorem dX13_words_381 : decode cX13_words 381 = .ok (.getfield 206, 3) := by decide +kernel
theorem dX13_words_384 : decode cX13_words 384 = .ok (.bipush 91, 2) := by decide +kernel
theorem dX13_words_386 : decode cX13_words 386 = .ok (.invokevirtual 214, 3) := by decide +kernel
theorem dX13_words_389 : decode cX13_words 389 = .ok (.ifCond .eq 68, 3) := by decide +kernel
theorem dX13_words_392 : decode cX13_words 392 = .ok (.aload_n 0, 1) := by decide +kernel
theorem dX13_words_393 : decode cX13_words 393 = .ok (.dup, 1) := by decide +kernel
theorem dX13_words_394 : decode cX13_words 394 = .ok (.getfield 206, 3) := by decide +kernel
theorem dX13_words_397 : decode cX13_words 397 = .ok (.iconst 1, 1) := by decide +kernel
theorem dX13_words_398 : decode cX13_words 398 = .ok (.iadd, 1) := by decide +kernel
theorem dX13_words_399 : decode cX13_words 399 = .ok (.putfield 206, 3) := by decide +kernel
theorem dX13_words_402 : decode cX13_words 402 = .ok (.aload_n 0, 1) := by decide +kernel
theorem dX13_words_403 : decode cX13_words 403 = .ok (.lconst 0, 1) := by decide +kernel
theorem dX13_words_404 : decode cX13_words 404 = .ok (.iload 8, 2) := by decide +kernel
theorem dX13_words_406 : decode cX13_words 406 = .ok (.iconst 1, 1) := by decide +kernel
theorem dX13_words_407 : decode cX13_words 407 = .ok (.isub, 1) := by decide +kernel
theorem dX13_words_408 : decode cX13_words 408 = .ok (.i2l, 1) := by decide +kernel
theorem dX13_words_409 : decode cX13_words 409 = .ok (.invokevirtual 274, 3) := by decide +kernel
theorem dX13_words_412 : decode cX13_words 412 = .ok (.istore 9, 2) := by decide +kernel
theorem dX13_words_414 : decode cX13_words 414 = .ok (.iload 9, 2) := by decide +kernel
theorem dX13_words_416 : decode cX13_words 416 = .ok (.istore 10, 2) := by decide +kernel
theorem dX13_words_418 : decode cX13_words 418 = .ok (.aload_n 0, 1) := by decide +kernel
theorem dX13_words_419 : decode cX13_words 419 = .ok (.aload_n 0, 1) := by decide +kernel
theorem dX13_words_420 : decode cX13_words 420 = .ok (.getfield 206, 3) := by decide +kernel
theorem dX13_words_423 : decode cX13_words 423 = .ok (.bipush 58, 2) := by decide +kernel
theorem dX13_words_425 : decode cX13_words 425 = .ok (.invokevirtual 214, 3) := by decide +kernel
theorem dX13_words_428 : decode cX13_words 428 = .ok (.ifCond .eq 23, 3) := by decide +kernel
theorem dX13_words_431 : decode cX13_words 431 = .ok (.aload_n 0, 1) := by decide +kernel
theorem dX13_words_432 : decode cX13_words 432 = .ok (.dup, 1) := by decide +kernel
theorem dX13_words_433 : decode cX13_words 433 = .ok (.getfield 206, 3) := by decide +kernel
theorem dX13_words_436 : decode cX13_words 436 = .ok (.iconst 1, 1) := by decide +kernel
theorem dX13_words_437 : decode cX13_words 437 = .ok (.iadd, 1) := by decide +kernel
theorem dX13_words_438 : decode cX13_words 438 = .ok (.putfield 206, 3) := by decide +kernel
theorem dX13_words_441 : decode cX13_words 441 = .ok (.aload_n 0, 1) := by decide +kernel
theorem dX13_words_442 : decode cX13_words 442 = .ok (.lconst 0, 1) := by decide +kernel
theorem dX13_words_443 : decode cX13_words 443 = .ok (.iload 9, 2) := by decide +kernel
theorem dX13_words_445 : decode cX13_words 445 = .ok (.i2l, 1) := by decide +kernel
theorem dX13_words_446 : decode cX13_words 446 = .ok (.invokevirtual 274, 3) := by decide +kernel
theorem dX13_words_449 : decode cX13_words 449 = .ok (.istore 10, 2) := by decide +kernel
theorem dX13_words_451 : decode cX13_words 451 = .ok (.aload_n 0, 1) := by decide +kernel
theorem dX13_words_452 : decode cX13_words 452 = .ok (.bipush 93, 2) := by decide +kernel
theorem dX13_words_454 : decode cX13_words 454 = .ok (.invokevirtual 241, 3) := by decide +kernel
theorem dX13_words_457 : decode cX13_words 457 = .ok (.iload 9, 2) := by decide +kernel
theorem dX13_words_459 : decode cX13_words 459 = .ok (.istore 11, 2) := by decide +kernel
theorem dX13_words_461 : decode cX13_words 461 = .ok (.iload 11, 2) := by decide +kernel
theorem dX13_words_463 : decode cX13_words 463 = .ok (.iload 10, 2) := by decide +kernel
theorem dX13_words_465 : decode cX13_words 465 = .ok (.if_icmp .lt 64, 3) := by decide +kernel
theorem dX13_words_468 : decode cX13_words 468 = .ok (.aload_n 0, 1) := by decide +kernel
theorem dX13_words_469 : decode cX13_words 469 = .ok (.getfield 95, 3) := by decide +kernel
theorem dX13_words_472 : decode cX13_words 472 = .ok (.bipush 32, 2) := by decide +kernel
theorem dX13_words_474 : decode cX13_words 474 = .ok (.iload 7, 2) := by decide +kernel
theorem dX13_words_476 : decode cX13_words 476 = .ok (.imul, 1) := by decide +kernel
theorem dX13_words_477 : decode cX13_words 477 = .ok (.iload 11, 2) := by decide +kernel
theorem dX13_words_479 : decode cX13_words 479 = .ok (.iadd, 1) := by decide +kernel
theorem dX13_words_480 : decode cX13_words 480 = .ok (.dup2, 1) := by decide +kernel
theorem dX13_words_481 : decode cX13_words 481 = .ok (.iaload, 1) := by decide +kernel
theorem dX13_words_482 : decode cX13_words 482 = .ok (.iconst 1, 1) := by decide +kernel
theorem dX13_words_483 : decode cX13_words 483 = .ok (.iadd, 1) := by decide +kernel
theorem dX13_words_484 : decode cX13_words 484 = .ok (.iastore, 1) := by decide +kernel
theorem dX13_words_485 : decode cX13_words 485 = .ok (.iload_n 3, 1) := by decide +kernel
theorem dX13_words_486 : decode cX13_words 486 = .ok (.aload_n 0, 1) := by decide +kernel
theorem dX13_words_487 : decode cX13_words 487 = .ok (.getfield 217, 3) := by decide +kernel
theorem dX13_words_490 : decode cX13_words 490 = .ok (.if_icmp .ge 30, 3) := by decide +kernel
theorem dX13_words_493 : decode cX13_words 493 = .ok (.aload_n 0, 1) := by decide +kernel
theorem dX13_words_494 : decode cX13_words 494 = .ok (.getfield 92, 3) := by decide +kernel
theorem dX13_words_497 : decode cX13_words 497 = .ok (.sipush 160, 3) := by decide +kernel
theorem dX13_words_500 : decode cX13_words 500 = .ok (.iload_n 1, 1) := by decide +kernel
theorem dX13_words_501 : decode cX13_words 501 = .ok (.imul, 1) := by decide +kernel
theorem dX13_words_502 : decode cX13_words 502 = .ok (.iload_n 2, 1) := by decide +kernel
theorem dX13_words_503 : decode cX13_words 503 = .ok (.aload_n 0, 1) := by decide +kernel
theorem dX13_words_504 : decode cX13_words 504 = .ok (.getfield 217, 3) := by decide +kernel
theorem dX13_words_507 : decode cX13_words 507 = .ok (.imul, 1) := by decide +kernel
theorem dX13_words_508 : decode cX13_words 508 = .ok (.iadd, 1) := by decide +kernel
theorem dX13_words_509 : decode cX13_words 509 = .ok (.iload_n 3, 1) := by decide +kernel
theorem dX13_words_510 : decode cX13_words 510 = .ok (.iadd, 1) := by decide +kernel
theorem dX13_words_511 : decode cX13_words 511 = .ok (.bipush 32, 2) := by decide +kernel
theorem dX13_words_513 : decode cX13_words 513 = .ok (.iload 7, 2) := by decide +kernel
theorem dX13_words_515 : decode cX13_words 515 = .ok (.imul, 1) := by decide +kernel
theorem dX13_words_516 : decode cX13_words 516 = .ok (.iload 11, 2) := by decide +kernel
theorem dX13_words_518 : decode cX13_words 518 = .ok (.iadd, 1) := by decide +kernel
theorem dX13_words_519 : decode cX13_words 519 = .ok (.iastore, 1) := by decide +kernel
theorem dX13_words_520 : decode cX13_words 520 = .ok (.iinc 3 1, 3) := by decide +kernel
theorem dX13_words_523 : decode cX13_words 523 = .ok (.iinc 11 (-1), 3) := by decide +kernel
theorem dX13_words_526 : decode cX13_words 526 = .ok (.goto (-65), 3) := by decide +kernel
theorem dX13_words_529 : decode cX13_words 529 = .ok (.goto (-498), 3) := by decide +kernel
theorem dX13_words_532 : decode cX13_words 532 = .ok (.iconst 0, 1) := by decide +kernel
theorem dX13_words_533 : decode cX13_words 533 = .ok (.istore 5, 2) := by decide +kernel
theorem dX13_words_535 : decode cX13_words 535 = .ok (.iload 5, 2) := by decide +kernel
theorem dX13_words_537 : decode cX13_words 537 = .ok (.aload_n 0, 1) := by decide +kernel
theorem dX13_words_538 : decode cX13_words 538 = .ok (.getfield 74, 3) := by decide +kernel
theorem dX13_words_541 : decode cX13_words 541 = .ok (.iload_n 1, 1) := by decide +kernel
theorem dX13_words_542 : decode cX13_words 542 = .ok (.iaload, 1) := by decide +kernel
theorem dX13_words_543 : decode cX13_words 543 = .ok (.if_icmp .ge 69, 3) := by decide +kernel
theorem dX13_words_546 : decode cX13_words 546 = .ok (.iconst 0, 1) := by decide +kernel
theorem dX13_words_547 : decode cX13_words 547 = .ok (.istore 6, 2) := by decide +kernel
theorem dX13_words_549 : decode cX13_words 549 = .ok (.iload 6, 2) := by decide +kernel
theorem dX13_words_551 : decode cX13_words 551 = .ok (.aload_n 0, 1) := by decide +kernel
theorem dX13_words_552 : decode cX13_words 552 = .ok (.getfield 62, 3) := by decide +kernel
theorem dX13_words_555 : decode cX13_words 555 = .ok (.aload_n 0, 1) := by decide +kernel
theorem dX13_words_556 : decode cX13_words 556 = .ok (.getfield 89, 3) := by decide +kernel
theorem dX13_words_559 : decode cX13_words 559 = .ok (.iconst 5, 1) := by decide +kernel
theorem dX13_words_560 : decode cX13_words 560 = .ok (.iload_n 1, 1) := by decide +kernel
theorem dX13_words_561 : decode cX13_words 561 = .ok (.imul, 1) := by decide +kernel
theorem dX13_words_562 : decode cX13_words 562 = .ok (.iload 5, 2) := by decide +kernel
theorem dX13_words_564 : decode cX13_words 564 = .ok (.iadd, 1) := by decide +kernel
theorem dX13_words_565 : decode cX13_words 565 = .ok (.iaload, 1) := by decide +kernel
theorem dX13_words_566 : decode cX13_words 566 = .ok (.iaload, 1) := by decide +kernel
theorem dX13_words_567 : decode cX13_words 567 = .ok (.if_icmp .ge 39, 3) := by decide +kernel
theorem dX13_words_570 : decode cX13_words 570 = .ok (.aload_n 0, 1) := by decide +kernel
theorem dX13_words_571 : decode cX13_words 571 = .ok (.getfield 95, 3) := by decide +kernel
theorem dX13_words_574 : decode cX13_words 574 = .ok (.bipush 32, 2) := by decide +kernel
theorem dX13_words_576 : decode cX13_words 576 = .ok (.iload 5, 2) := by decide +kernel
theorem dX13_words_578 : decode cX13_words 578 = .ok (.imul, 1) := by decide +kernel
theorem dX13_words_579 : decode cX13_words 579 = .ok (.iload 6, 2) := by decide +kernel
theorem dX13_words_581 : decode cX13_words 581 = .ok (.iadd, 1) := by decide +kernel
theorem dX13_words_582 : decode cX13_words 582 = .ok (.iaload, 1) := by decide +kernel
theorem dX13_words_583 : decode cX13_words 583 = .ok (.iconst 1, 1) := by decide +kernel
theorem dX13_words_584 : decode cX13_words 584 = .ok (.if_icmp .eq 16, 3) := by decide +kernel
theorem dX13_words_587 : decode cX13_words 587 = .ok (.new 209, 3) := by decide +kernel
theorem dX13_words_590 : decode cX13_words 590 = .ok (.dup, 1) := by decide +kernel
theorem dX13_words_591 : decode cX13_words 591 = .ok (.iconst 5, 1) := by decide +kernel
theorem dX13_words_592 : decode cX13_words 592 = .ok (.aload_n 0, 1) := by decide +kernel
theorem dX13_words_593 : decode cX13_words 593 = .ok (.getfield 206, 3) := by decide +kernel
theorem dX13_words_596 : decode cX13_words 596 = .ok (.invokespecial 211, 3) := by decide +kernel
theorem dX13_words_599 : decode cX13_words 599 = .ok (.athrow, 1) := by decide +kernel
theorem dX13_words_600 : decode cX13_words 600 = .ok (.iinc 6 1, 3) := by decide +kernel
theorem dX13_words_603 : decode cX13_words 603 = .ok (.goto (-54), 3) := by decide +kernel
theorem dX13_words_606 : decode cX13_words 606 = .ok (.iinc 5 1, 3) := by decide +kernel
theorem dX13_words_609 : decode cX13_words 609 = .ok (.goto (-74), 3) := by decide +kernel
theorem dX13_words_612 : decode cX13_words 612 = .ok (.aload_n 0, 1) := by decide +kernel
theorem dX13_words_613 : decode cX13_words 613 = .ok (.getfield 77, 3) := by decide +kernel
theorem dX13_words_616 : decode cX13_words 616 = .ok (.iload_n 1, 1) := by decide +kernel
theorem dX13_words_617 : decode cX13_words 617 = .ok (.iload_n 2, 1) := by decide +kernel
theorem dX13_words_618 : decode cX13_words 618 = .ok (.iastore, 1) := by decide +kernel
theorem dX13_words_619 : decode cX13_words 619 = .ok (.aload_n 0, 1) := by decide +kernel
theorem dX13_words_620 : decode cX13_words 620 = .ok (.getfield 80, 3) := by decide +kernel
theorem dX13_words_623 : decode cX13_words 623 = .ok (.iload_n 1, 1) := by decide +kernel
theorem dX13_words_624 : decode cX13_words 624 = .ok (.iload 4, 2) := by decide +kernel
theorem dX13_words_626 : decode cX13_words 626 = .ok (.iastore, 1) := by decide +kernel
theorem dX13_words_627 : decode cX13_words 627 = .ok (.return_, 1) := by decide +kernel
theorem dX13_instruction_0 : decode cX13_instruction 0 = .ok (.aload_n 0, 1) := by decide +kernel
theorem dX13_instruction_1 : decode cX13_instruction 1 = .ok (.invokevirtual 263, 3) := by decide +kernel
theorem dX13_instruction_4 : decode cX13_instruction 4 = .ok (.istore_n 1, 1) := by decide +kernel
theorem dX13_instruction_5 : decode cX13_instruction 5 = .ok (.aload_n 0, 1) := by decide +kernel
theorem dX13_instruction_6 : decode cX13_instruction 6 = .ok (.getfield 223, 3) := by decide +kernel
theorem dX13_instruction_9 : decode cX13_instruction 9 = .ok (.istore_n 2, 1) := by decide +kernel
theorem dX13_instruction_10 : decode cX13_instruction 10 = .ok (.iconst 0, 1) := by decide +kernel
theorem dX13_instruction_11 : decode cX13_instruction 11 = .ok (.istore_n 3, 1) := by decide +kernel
theorem dX13_instruction_12 : decode cX13_instruction 12 = .ok (.iconst 0, 1) := by decide +kernel
theorem dX13_instruction_13 : decode cX13_instruction 13 = .ok (.istore 4, 2) := by decide +kernel
theorem dX13_instruction_15 : decode cX13_instruction 15 = .ok (.iload_n 2, 1) := by decide +kernel
theorem dX13_instruction_16 : decode cX13_instruction 16 = .ok (.bipush 96, 2) := by decide +kernel
theorem dX13_instruction_18 : decode cX13_instruction 18 = .ok (.if_icmp .ne 13, 3) := by decide +kernel
theorem dX13_instruction_21 : decode cX13_instruction 21 = .ok (.new 209, 3) := by decide +kernel
theorem dX13_instruction_24 : decode cX13_instruction 24 = .ok (.dup, 1) := by decide +kernel
theorem dX13_instruction_25 : decode cX13_instruction 25 = .ok (.iconst 3, 1) := by decide +kernel
theorem dX13_instruction_26 : decode cX13_instruction 26 = .ok (.iload_n 1, 1) := by decide +kernel
theorem dX13_instruction_27 : decode cX13_instruction 27 = .ok (.invokespecial 211, 3) := by decide +kernel
theorem dX13_instruction_30 : decode cX13_instruction 30 = .ok (.athrow, 1) := by decide +kernel
theorem dX13_instruction_31 : decode cX13_instruction 31 = .ok (.aload_n 0, 1) := by decide +kernel
theorem dX13_instruction_32 : decode cX13_instruction 32 = .ok (.getfield 68, 3) := by decide +kernel
theorem dX13_instruction_35 : decode cX13_instruction 35 = .ok (.iload_n 2, 1) := by decide +kernel
theorem dX13_instruction_36 : decode cX13_instruction 36 = .ok (.aload_n 0, 1) := by decide +kernel
theorem dX13_instruction_37 : decode cX13_instruction 37 = .ok (.iload_n 1, 1) := by decide +kernel
theorem dX13_instruction_38 : decode cX13_instruction 38 = .ok (.invokevirtual 266, 3) := by decide +kernel
theorem dX13_instruction_41 : decode cX13_instruction 41 = .ok (.iastore, 1) := by decide +kernel
theorem dX13_instruction_42 : decode cX13_instruction 42 = .ok (.aload_n 0, 1) := by decide +kernel
theorem dX13_instruction_43 : decode cX13_instruction 43 = .ok (.aload_n 0, 1) := by decide +kernel
theorem dX13_instruction_44 : decode cX13_instruction 44 = .ok (.getfield 206, 3) := by decide +kernel
theorem dX13_instruction_47 : decode cX13_instruction 47 = .ok (.bipush 61, 2) := by decide +kernel
theorem dX13_instruction_49 : decode cX13_instruction 49 = .ok (.invokevirtual 214, 3) := by decide +kernel
theorem dX13_instruction_52 : decode cX13_instruction 52 = .ok (.ifCond .ne 291, 3) := by decide +kernel
theorem dX13_instruction_55 : decode cX13_instruction 55 = .ok (.aload_n 0, 1) := by decide +kernel
theorem dX13_instruction_56 : decode cX13_instruction 56 = .ok (.getfield 26, 3) := by decide +kernel
theorem dX13_instruction_59 : decode cX13_instruction 59 = .ok (.aload_n 0, 1) := by decide +kernel
theorem dX13_instruction_60 : decode cX13_instruction 60 = .ok (.getfield 206, 3) := by decide +kernel
theorem dX13_instruction_63 : decode cX13_instruction 63 = .ok (.iaload, 1) := by decide +kernel
theorem dX13_instruction_64 : decode cX13_instruction 64 = .ok (.iconst 3, 1) := by decide +kernel
theorem dX13_instruction_65 : decode cX13_instruction 65 = .ok (.if_icmp .ne 78, 3) := by decide +kernel
theorem dX13_instruction_68 : decode cX13_instruction 68 = .ok (.ldc_w 278, 3) := by decide +kernel
theorem dX13_instruction_71 : decode cX13_instruction 71 = .ok (.aload_n 0, 1) := by decide +kernel
theorem dX13_instruction_72 : decode cX13_instruction 72 = .ok (.getfield 36, 3) := by decide +kernel
theorem dX13_instruction_75 : decode cX13_instruction 75 = .ok (.aload_n 0, 1) := by decide +kernel
theorem dX13_instruction_76 : decode cX13_instruction 76 = .ok (.getfield 206, 3) := by decide +kernel
theorem dX13_instruction_79 : decode cX13_instruction 79 = .ok (.laload, 1) := by decide +kernel
theorem dX13_instruction_80 : decode cX13_instruction 80 = .ok (.l2i, 1) := by decide +kernel
theorem dX13_instruction_81 : decode cX13_instruction 81 = .ok (.invokevirtual 163, 3) := by decide +kernel
theorem dX13_instruction_84 : decode cX13_instruction 84 = .ok (.ifCond .lt 59, 3) := by decide +kernel
theorem dX13_instruction_87 : decode cX13_instruction 87 = .ok (.iload_n 3, 1) := by decide +kernel
theorem dX13_instruction_88 : decode cX13_instruction 88 = .ok (.bipush 12, 2) := by decide +kernel
theorem dX13_instruction_90 : decode cX13_instruction 90 = .ok (.if_icmp .ne 16, 3) := by decide +kernel
theorem dX13_instruction_93 : decode cX13_instruction 93 = .ok (.new 209, 3) := by decide +kernel
theorem dX13_instruction_96 : decode cX13_instruction 96 = .ok (.dup, 1) := by decide +kernel
theorem dX13_instruction_97 : decode cX13_instruction 97 = .ok (.iconst 3, 1) := by decide +kernel
theorem dX13_instruction_98 : decode cX13_instruction 98 = .ok (.aload_n 0, 1) := by decide +kernel
theorem dX13_instruction_99 : decode cX13_instruction 99 = .ok (.getfield 206, 3) := by decide +kernel
theorem dX13_instruction_102 : decode cX13_instruction 102 = .ok (.invokespecial 211, 3) := by decide +kernel
theorem dX13_instruction_105 : decode cX13_instruction 105 = .ok (.athrow, 1) := by decide +kernel
theorem dX13_instruction_106 : decode cX13_instruction 106 = .ok (.aload_n 0, 1) := by decide +kernel
theorem dX13_instruction_107 : decode cX13_instruction 107 = .ok (.getfield 83, 3) := by decide +kernel
theorem dX13_instruction_110 : decode cX13_instruction 110 = .ok (.bipush 12, 2) := by decide +kernel
theorem dX13_instruction_112 : decode cX13_instruction 112 = .ok (.iload_n 2, 1) := by decide +kernel
theorem dX13_instruction_113 : decode cX13_instruction 113 = .ok (.imul, 1) := by decide +kernel
theorem dX13_instruction_114 : decode cX13_instruction 114 = .ok (.iload_n 3, 1) := by decide +kernel
theorem dX13_instruction_115 : decode cX13_instruction 115 = .ok (.iadd, 1) := by decide +kernel
theorem dX13_instruction_116 : decode cX13_instruction 116 = .ok (.aload_n 0, 1) := by decide +kernel
theorem dX13_instruction_117 : decode cX13_instruction 117 = .ok (.getfield 36, 3) := by decide +kernel
theorem dX13_instruction_120 : decode cX13_instruction 120 = .ok (.aload_n 0, 1) := by decide +kernel
theorem dX13_instruction_121 : decode cX13_instruction 121 = .ok (.getfield 206, 3) := by decide +kernel
theorem dX13_instruction_124 : decode cX13_instruction 124 = .ok (.laload, 1) := by decide +kernel
theorem dX13_instruction_125 : decode cX13_instruction 125 = .ok (.l2i, 1) := by decide +kernel
theorem dX13_instruction_126 : decode cX13_instruction 126 = .ok (.iastore, 1) := by decide +kernel
theorem dX13_instruction_127 : decode cX13_instruction 127 = .ok (.iinc 3 1, 3) := by decide +kernel
theorem dX13_instruction_130 : decode cX13_instruction 130 = .ok (.aload_n 0, 1) := by decide +kernel
theorem dX13_instruction_131 : decode cX13_instruction 131 = .ok (.dup, 1) := by decide +kernel
theorem dX13_instruction_132 : decode cX13_instruction 132 = .ok (.getfield 206, 3) := by decide +kernel
theorem dX13_instruction_135 : decode cX13_instruction 135 = .ok (.iconst 1, 1) := by decide +kernel
theorem dX13_instruction_136 : decode cX13_instruction 136 = .ok (.iadd, 1) := by decide +kernel
theorem dX13_instruction_137 : decode cX13_instruction 137 = .ok (.putfield 206, 3) := by decide +kernel
theorem dX13_instruction_140 : decode cX13_instruction 140 = .ok (.goto (-98), 3) := by decide +kernel
theorem dX13_instruction_143 : decode cX13_instruction 143 = .ok (.aload_n 0, 1) := by decide +kernel
theorem dX13_instruction_144 : decode cX13_instruction 144 = .ok (.invokevirtual 263, 3) := by decide +kernel
theorem dX13_instruction_147 : decode cX13_instruction 147 = .ok (.istore 5, 2) := by decide +kernel
theorem dX13_instruction_149 : decode cX13_instruction 149 = .ok (.aload_n 0, 1) := by decide +kernel
theorem dX13_instruction_150 : decode cX13_instruction 150 = .ok (.iload 5, 2) := by decide +kernel
theorem dX13_instruction_152 : decode cX13_instruction 152 = .ok (.invokevirtual 266, 3) := by decide +kernel
theorem dX13_instruction_155 : decode cX13_instruction 155 = .ok (.istore 6, 2) := by decide +kernel
theorem dX13_instruction_157 : decode cX13_instruction 157 = .ok (.iconst 0, 1) := by decide +kernel
theorem dX13_instruction_158 : decode cX13_instruction 158 = .ok (.istore 7, 2) := by decide +kernel
theorem dX13_instruction_160 : decode cX13_instruction 160 = .ok (.iload 7, 2) := by decide +kernel
theorem dX13_instruction_162 : decode cX13_instruction 162 = .ok (.iload 4, 2) := by decide +kernel
theorem dX13_instruction_164 : decode cX13_instruction 164 = .ok (.if_icmp .ge 36, 3) := by decide +kernel
theorem dX13_instruction_167 : decode cX13_instruction 167 = .ok (.aload_n 0, 1) := by decide +kernel
theorem dX13_instruction_168 : decode cX13_instruction 168 = .ok (.getfield 86, 3) := by decide +kernel
theorem dX13_instruction_171 : decode cX13_instruction 171 = .ok (.iconst 5, 1) := by decide +kernel
theorem dX13_instruction_172 : decode cX13_instruction 172 = .ok (.iload_n 2, 1) := by decide +kernel
theorem dX13_instruction_173 : decode cX13_instruction 173 = .ok (.imul, 1) := by decide +kernel
theorem dX13_instruction_174 : decode cX13_instruction 174 = .ok (.iload 7, 2) := by decide +kernel
theorem dX13_instruction_176 : decode cX13_instruction 176 = .ok (.iadd, 1) := by decide +kernel
theorem dX13_instruction_177 : decode cX13_instruction 177 = .ok (.iaload, 1) := by decide +kernel
theorem dX13_instruction_178 : decode cX13_instruction 178 = .ok (.iload 6, 2) := by decide +kernel
theorem dX13_instruction_180 : decode cX13_instruction 180 = .ok (.if_icmp .ne 14, 3) := by decide +kernel
theorem dX13_instruction_183 : decode cX13_instruction 183 = .ok (.new 209, 3) := by decide +kernel
theorem dX13_instruction_186 : decode cX13_instruction 186 = .ok (.dup, 1) := by decide +kernel
theorem dX13_instruction_187 : decode cX13_instruction 187 = .ok (.iconst 2, 1) := by decide +kernel
theorem dX13_instruction_188 : decode cX13_instruction 188 = .ok (.iload 5, 2) := by decide +kernel
theorem dX13_instruction_190 : decode cX13_instruction 190 = .ok (.invokespecial 211, 3) := by decide +kernel
theorem dX13_instruction_193 : decode cX13_instruction 193 = .ok (.athrow, 1) := by decide +kernel
theorem dX13_instruction_194 : decode cX13_instruction 194 = .ok (.iinc 7 1, 3) := by decide +kernel
theorem dX13_instruction_197 : decode cX13_instruction 197 = .ok (.goto (-37), 3) := by decide +kernel
theorem dX13_instruction_200 : decode cX13_instruction 200 = .ok (.iload_n 3, 1) := by decide +kernel
theorem dX13_instruction_201 : decode cX13_instruction 201 = .ok (.bipush 12, 2) := by decide +kernel
theorem dX13_instruction_203 : decode cX13_instruction 203 = .ok (.if_icmp .eq 9, 3) := by decide +kernel
theorem dX13_instruction_206 : decode cX13_instruction 206 = .ok (.iload 4, 2) := by decide +kernel
theorem dX13_instruction_208 : decode cX13_instruction 208 = .ok (.iconst 5, 1) := by decide +kernel
theorem dX13_instruction_209 : decode cX13_instruction 209 = .ok (.if_icmp .ne 14, 3) := by decide +kernel
theorem dX13_instruction_212 : decode cX13_instruction 212 = .ok (.new 209, 3) := by decide +kernel
theorem dX13_instruction_215 : decode cX13_instruction 215 = .ok (.dup, 1) := by decide +kernel
theorem dX13_instruction_216 : decode cX13_instruction 216 = .ok (.iconst 3, 1) := by decide +kernel
theorem dX13_instruction_217 : decode cX13_instruction 217 = .ok (.iload 5, 2) := by decide +kernel
theorem dX13_instruction_219 : decode cX13_instruction 219 = .ok (.invokespecial 211, 3) := by decide +kernel
theorem dX13_instruction_222 : decode cX13_instruction 222 = .ok (.athrow, 1) := by decide +kernel
theorem dX13_instruction_223 : decode cX13_instruction 223 = .ok (.aload_n 0, 1) := by decide +kernel
theorem dX13_instruction_224 : decode cX13_instruction 224 = .ok (.bipush 58, 2) := by decide +kernel
theorem dX13_instruction_226 : decode cX13_instruction 226 = .ok (.invokevirtual 241, 3) := by decide +kernel
theorem dX13_instruction_229 : decode cX13_instruction 229 = .ok (.aload_n 0, 1) := by decide +kernel
theorem dX13_instruction_230 : decode cX13_instruction 230 = .ok (.invokevirtual 263, 3) := by decide +kernel
theorem dX13_instruction_233 : decode cX13_instruction 233 = .ok (.istore 7, 2) := by decide +kernel
theorem dX13_instruction_235 : decode cX13_instruction 235 = .ok (.aload_n 0, 1) := by decide +kernel
theorem dX13_instruction_236 : decode cX13_instruction 236 = .ok (.iload 7, 2) := by decide +kernel
theorem dX13_instruction_238 : decode cX13_instruction 238 = .ok (.invokevirtual 266, 3) := by decide +kernel
theorem dX13_instruction_241 : decode cX13_instruction 241 = .ok (.istore 8, 2) := by decide +kernel
theorem dX13_instruction_243 : decode cX13_instruction 243 = .ok (.iconst 0, 1) := by decide +kernel
theorem dX13_instruction_244 : decode cX13_instruction 244 = .ok (.istore 9, 2) := by decide +kernel
theorem dX13_instruction_246 : decode cX13_instruction 246 = .ok (.iload 9, 2) := by decide +kernel
theorem dX13_instruction_248 : decode cX13_instruction 248 = .ok (.aload_n 0, 1) := by decide +kernel
theorem dX13_instruction_249 : decode cX13_instruction 249 = .ok (.getfield 220, 3) := by decide +kernel
theorem dX13_instruction_252 : decode cX13_instruction 252 = .ok (.if_icmp .ge 21, 3) := by decide +kernel
theorem dX13_instruction_255 : decode cX13_instruction 255 = .ok (.aload_n 0, 1) := by decide +kernel
theorem dX13_instruction_256 : decode cX13_instruction 256 = .ok (.getfield 50, 3) := by decide +kernel
theorem dX13_instruction_259 : decode cX13_instruction 259 = .ok (.iload 9, 2) := by decide +kernel
theorem dX13_instruction_261 : decode cX13_instruction 261 = .ok (.iaload, 1) := by decide +kernel
theorem dX13_instruction_262 : decode cX13_instruction 262 = .ok (.iload 8, 2) := by decide +kernel
theorem dX13_instruction_264 : decode cX13_instruction 264 = .ok (.if_icmp .eq 9, 3) := by decide +kernel
theorem dX13_instruction_267 : decode cX13_instruction 267 = .ok (.iinc 9 1, 3) := by decide +kernel
theorem dX13_instruction_270 : decode cX13_instruction 270 = .ok (.goto (-24), 3) := by decide +kernel
theorem dX13_instruction_273 : decode cX13_instruction 273 = .ok (.iload 9, 2) := by decide +kernel
theorem dX13_instruction_275 : decode cX13_instruction 275 = .ok (.aload_n 0, 1) := by decide +kernel
theorem dX13_instruction_276 : decode cX13_instruction 276 = .ok (.getfield 220, 3) := by decide +kernel
theorem dX13_instruction_279 : decode cX13_instruction 279 = .ok (.if_icmp .ne 14, 3) := by decide +kernel
theorem dX13_instruction_282 : decode cX13_instruction 282 = .ok (.new 209, 3) := by decide +kernel
theorem dX13_instruction_285 : decode cX13_instruction 285 = .ok (.dup, 1) := by decide +kernel
theorem dX13_instruction_286 : decode cX13_instruction 286 = .ok (.iconst 2, 1) := by decide +kernel
theorem dX13_instruction_287 : decode cX13_instruction 287 = .ok (.iload 7, 2) := by decide +kernel
theorem dX13_instruction_289 : decode cX13_instruction 289 = .ok (.invokespecial 211, 3) := by decide +kernel
theorem dX13_instruction_292 : decode cX13_instruction 292 = .ok (.athrow, 1) := by decide +kernel
theorem dX13_instruction_293 : decode cX13_instruction 293 = .ok (.aload_n 0, 1) := by decide +kernel
theorem dX13_instruction_294 : decode cX13_instruction 294 = .ok (.getfield 86, 3) := by decide +kernel
theorem dX13_instruction_297 : decode cX13_instruction 297 = .ok (.iconst 5, 1) := by decide +kernel
theorem dX13_instruction_298 : decode cX13_instruction 298 = .ok (.iload_n 2, 1) := by decide +kernel
theorem dX13_instruction_299 : decode cX13_instruction 299 = .ok (.imul, 1) := by decide +kernel
theorem dX13_instruction_300 : decode cX13_instruction 300 = .ok (.iload 4, 2) := by decide +kernel
theorem dX13_instruction_302 : decode cX13_instruction 302 = .ok (.iadd, 1) := by decide +kernel
theorem dX13_instruction_303 : decode cX13_instruction 303 = .ok (.iload 6, 2) := by decide +kernel
theorem dX13_instruction_305 : decode cX13_instruction 305 = .ok (.iastore, 1) := by decide +kernel
theorem dX13_instruction_306 : decode cX13_instruction 306 = .ok (.aload_n 0, 1) := by decide +kernel
theorem dX13_instruction_307 : decode cX13_instruction 307 = .ok (.getfield 89, 3) := by decide +kernel
theorem dX13_instruction_310 : decode cX13_instruction 310 = .ok (.iconst 5, 1) := by decide +kernel
theorem dX13_instruction_311 : decode cX13_instruction 311 = .ok (.iload_n 2, 1) := by decide +kernel
theorem dX13_instruction_312 : decode cX13_instruction 312 = .ok (.imul, 1) := by decide +kernel
theorem dX13_instruction_313 : decode cX13_instruction 313 = .ok (.iload 4, 2) := by decide +kernel
theorem dX13_instruction_315 : decode cX13_instruction 315 = .ok (.iadd, 1) := by decide +kernel
theorem dX13_instruction_316 : decode cX13_instruction 316 = .ok (.iload 9, 2) := by decide +kernel
theorem dX13_instruction_318 : decode cX13_instruction 318 = .ok (.iastore, 1) := by decide +kernel
theorem dX13_instruction_319 : decode cX13_instruction 319 = .ok (.aload_n 0, 1) := by decide +kernel
theorem dX13_instruction_320 : decode cX13_instruction 320 = .ok (.getfield 83, 3) := by decide +kernel
theorem dX13_instruction_323 : decode cX13_instruction 323 = .ok (.bipush 12, 2) := by decide +kernel
theorem dX13_instruction_325 : decode cX13_instruction 325 = .ok (.iload_n 2, 1) := by decide +kernel
theorem dX13_instruction_326 : decode cX13_instruction 326 = .ok (.imul, 1) := by decide +kernel
theorem dX13_instruction_327 : decode cX13_instruction 327 = .ok (.iload_n 3, 1) := by decide +kernel
theorem dX13_instruction_328 : decode cX13_instruction 328 = .ok (.iadd, 1) := by decide +kernel
theorem dX13_instruction_329 : decode cX13_instruction 329 = .ok (.iconst (-1), 1) := by decide +kernel
theorem dX13_instruction_330 : decode cX13_instruction 330 = .ok (.iload 4, 2) := by decide +kernel
theorem dX13_instruction_332 : decode cX13_instruction 332 = .ok (.isub, 1) := by decide +kernel
theorem dX13_instruction_333 : decode cX13_instruction 333 = .ok (.iastore, 1) := by decide +kernel
theorem dX13_instruction_334 : decode cX13_instruction 334 = .ok (.iinc 4 1, 3) := by decide +kernel
theorem dX13_instruction_337 : decode cX13_instruction 337 = .ok (.iinc 3 1, 3) := by decide +kernel
theorem dX13_instruction_340 : decode cX13_instruction 340 = .ok (.goto (-298), 3) := by decide +kernel
theorem dX13_instruction_343 : decode cX13_instruction 343 = .ok (.aload_n 0, 1) := by decide +kernel
theorem dX13_instruction_344 : decode cX13_instruction 344 = .ok (.dup, 1) := by decide +kernel
theorem dX13_instruction_345 : decode cX13_instruction 345 = .ok (.getfield 206, 3) := by decide +kernel
theorem dX13_instruction_348 : decode cX13_instruction 348 = .ok (.iconst 1, 1) := by decide +kernel
theorem dX13_instruction_349 : decode cX13_instruction 349 = .ok (.iadd, 1) := by decide +kernel
theorem dX13_instruction_350 : decode cX13_instruction 350 = .ok (.putfield 206, 3) := by decide +kernel
theorem dX13_instruction_353 : decode cX13_instruction 353 = .ok (.aload_n 0, 1) := by decide +kernel
theorem dX13_instruction_354 : decode cX13_instruction 354 = .ok (.getfield 71, 3) := by decide +kernel
theorem dX13_instruction_357 : decode cX13_instruction 357 = .ok (.iload_n 2, 1) := by decide +kernel
theorem dX13_instruction_358 : decode cX13_instruction 358 = .ok (.iload_n 3, 1) := by decide +kernel
theorem dX13_instruction_359 : decode cX13_instruction 359 = .ok (.iastore, 1) := by decide +kernel
theorem dX13_instruction_360 : decode cX13_instruction 360 = .ok (.aload_n 0, 1) := by decide +kernel
theorem dX13_instruction_361 : decode cX13_instruction 361 = .ok (.getfield 74, 3) := by decide +kernel
theorem dX13_instruction_364 : decode cX13_instruction 364 = .ok (.iload_n 2, 1) := by decide +kernel
theorem dX13_instruction_365 : decode cX13_instruction 365 = .ok (.iload 4, 2) := by decide +kernel
theorem dX13_instruction_367 : decode cX13_instruction 367 = .ok (.iastore, 1) := by decide +kernel
theorem dX13_instruction_368 : decode cX13_instruction 368 = .ok (.aload_n 0, 1) := by decide +kernel
theorem dX13_instruction_369 : decode cX13_instruction 369 = .ok (.iload_n 2, 1) := by decide +kernel
theorem dX13_instruction_370 : decode cX13_instruction 370 = .ok (.invokevirtual 280, 3) := by decide +kernel
theorem dX13_instruction_373 : decode cX13_instruction 373 = .ok (.aload_n 0, 1) := by decide +kernel
theorem dX13_instruction_374 : decode cX13_instruction 374 = .ok (.dup, 1) := by decide +kernel
theorem dX13_instruction_375 : decode cX13_instruction 375 = .ok (.getfield 223, 3) := by decide +kernel
theorem dX13_instruction_378 : decode cX13_instruction 378 = .ok (.iconst 1, 1) := by decide +kernel
theorem dX13_instruction_379 : decode cX13_instruction 379 = .ok (.iadd, 1) := by decide +kernel
theorem dX13_instruction_380 : decode cX13_instruction 380 = .ok (.putfield 223, 3) := by decide +kernel
theorem dX13_instruction_383 : decode cX13_instruction 383 = .ok (.return_, 1) := by decide +kernel
theorem dX13_described_0 : decode cX13_described 0 = .ok (.aload_n 0, 1) := by decide +kernel
theorem dX13_described_1 : decode cX13_described 1 = .ok (.invokevirtual 229, 3) := by decide +kernel
theorem dX13_described_4 : decode cX13_described 4 = .ok (.aload_n 0, 1) := by decide +kernel
theorem dX13_described_5 : decode cX13_described 5 = .ok (.iconst 0, 1) := by decide +kernel
theorem dX13_described_6 : decode cX13_described 6 = .ok (.ldc 232, 2) := by decide +kernel
theorem dX13_described_8 : decode cX13_described 8 = .ok (.invokevirtual 233, 3) := by decide +kernel
theorem dX13_described_11 : decode cX13_described 11 = .ok (.ifCond .ne 13, 3) := by decide +kernel
theorem dX13_described_14 : decode cX13_described 14 = .ok (.new 209, 3) := by decide +kernel
theorem dX13_described_17 : decode cX13_described 17 = .ok (.dup, 1) := by decide +kernel
theorem dX13_described_18 : decode cX13_described 18 = .ok (.iconst 1, 1) := by decide +kernel
theorem dX13_described_19 : decode cX13_described 19 = .ok (.iconst 0, 1) := by decide +kernel
theorem dX13_described_20 : decode cX13_described 20 = .ok (.invokespecial 211, 3) := by decide +kernel
theorem dX13_described_23 : decode cX13_described 23 = .ok (.athrow, 1) := by decide +kernel
theorem dX13_described_24 : decode cX13_described 24 = .ok (.aload_n 0, 1) := by decide +kernel
theorem dX13_described_25 : decode cX13_described 25 = .ok (.iconst 1, 1) := by decide +kernel
theorem dX13_described_26 : decode cX13_described 26 = .ok (.putfield 206, 3) := by decide +kernel
theorem dX13_described_29 : decode cX13_described 29 = .ok (.aload_n 0, 1) := by decide +kernel
theorem dX13_described_30 : decode cX13_described 30 = .ok (.getfield 26, 3) := by decide +kernel
theorem dX13_described_33 : decode cX13_described 33 = .ok (.aload_n 0, 1) := by decide +kernel
theorem dX13_described_34 : decode cX13_described 34 = .ok (.getfield 206, 3) := by decide +kernel
theorem dX13_described_37 : decode cX13_described 37 = .ok (.iaload, 1) := by decide +kernel
theorem dX13_described_38 : decode cX13_described 38 = .ok (.iconst 2, 1) := by decide +kernel
theorem dX13_described_39 : decode cX13_described 39 = .ok (.if_icmp .eq 16, 3) := by decide +kernel
theorem dX13_described_42 : decode cX13_described 42 = .ok (.new 209, 3) := by decide +kernel
theorem dX13_described_45 : decode cX13_described 45 = .ok (.dup, 1) := by decide +kernel
theorem dX13_described_46 : decode cX13_described 46 = .ok (.iconst 1, 1) := by decide +kernel
theorem dX13_described_47 : decode cX13_described 47 = .ok (.aload_n 0, 1) := by decide +kernel
theorem dX13_described_48 : decode cX13_described 48 = .ok (.getfield 206, 3) := by decide +kernel
theorem dX13_described_51 : decode cX13_described 51 = .ok (.invokespecial 211, 3) := by decide +kernel
theorem dX13_described_54 : decode cX13_described 54 = .ok (.athrow, 1) := by decide +kernel
theorem dX13_described_55 : decode cX13_described 55 = .ok (.aload_n 0, 1) := by decide +kernel
theorem dX13_described_56 : decode cX13_described 56 = .ok (.getfield 36, 3) := by decide +kernel
theorem dX13_described_59 : decode cX13_described 59 = .ok (.aload_n 0, 1) := by decide +kernel
theorem dX13_described_60 : decode cX13_described 60 = .ok (.getfield 206, 3) := by decide +kernel
theorem dX13_described_63 : decode cX13_described 63 = .ok (.laload, 1) := by decide +kernel
theorem dX13_described_64 : decode cX13_described 64 = .ok (.ldc2_w 237, 3) := by decide +kernel
theorem dX13_described_67 : decode cX13_described 67 = .ok (.lcmp, 1) := by decide +kernel
theorem dX13_described_68 : decode cX13_described 68 = .ok (.ifCond .eq 48, 3) := by decide +kernel
theorem dX13_described_71 : decode cX13_described 71 = .ok (.aload_n 0, 1) := by decide +kernel
theorem dX13_described_72 : decode cX13_described 72 = .ok (.getfield 36, 3) := by decide +kernel
theorem dX13_described_75 : decode cX13_described 75 = .ok (.aload_n 0, 1) := by decide +kernel
theorem dX13_described_76 : decode cX13_described 76 = .ok (.getfield 206, 3) := by decide +kernel
theorem dX13_described_79 : decode cX13_described 79 = .ok (.laload, 1) := by decide +kernel
theorem dX13_described_80 : decode cX13_described 80 = .ok (.ldc2_w 174, 3) := by decide +kernel
theorem dX13_described_83 : decode cX13_described 83 = .ok (.lcmp, 1) := by decide +kernel
theorem dX13_described_84 : decode cX13_described 84 = .ok (.ifCond .eq 32, 3) := by decide +kernel
theorem dX13_described_87 : decode cX13_described 87 = .ok (.aload_n 0, 1) := by decide +kernel
theorem dX13_described_88 : decode cX13_described 88 = .ok (.getfield 36, 3) := by decide +kernel
theorem dX13_described_91 : decode cX13_described 91 = .ok (.aload_n 0, 1) := by decide +kernel
theorem dX13_described_92 : decode cX13_described 92 = .ok (.getfield 206, 3) := by decide +kernel
theorem dX13_described_95 : decode cX13_described 95 = .ok (.laload, 1) := by decide +kernel
theorem dX13_described_96 : decode cX13_described 96 = .ok (.ldc2_w 239, 3) := by decide +kernel
theorem dX13_described_99 : decode cX13_described 99 = .ok (.lcmp, 1) := by decide +kernel
theorem dX13_described_100 : decode cX13_described 100 = .ok (.ifCond .eq 16, 3) := by decide +kernel
theorem dX13_described_103 : decode cX13_described 103 = .ok (.new 209, 3) := by decide +kernel
theorem dX13_described_106 : decode cX13_described 106 = .ok (.dup, 1) := by decide +kernel
theorem dX13_described_107 : decode cX13_described 107 = .ok (.iconst 3, 1) := by decide +kernel
theorem dX13_described_108 : decode cX13_described 108 = .ok (.aload_n 0, 1) := by decide +kernel
theorem dX13_described_109 : decode cX13_described 109 = .ok (.getfield 206, 3) := by decide +kernel
theorem dX13_described_112 : decode cX13_described 112 = .ok (.invokespecial 211, 3) := by decide +kernel
theorem dX13_described_115 : decode cX13_described 115 = .ok (.athrow, 1) := by decide +kernel
theorem dX13_described_116 : decode cX13_described 116 = .ok (.aload_n 0, 1) := by decide +kernel
theorem dX13_described_117 : decode cX13_described 117 = .ok (.getfield 36, 3) := by decide +kernel
theorem dX13_described_120 : decode cX13_described 120 = .ok (.aload_n 0, 1) := by decide +kernel
theorem dX13_described_121 : decode cX13_described 121 = .ok (.getfield 206, 3) := by decide +kernel
theorem dX13_described_124 : decode cX13_described 124 = .ok (.laload, 1) := by decide +kernel
theorem dX13_described_125 : decode cX13_described 125 = .ok (.l2i, 1) := by decide +kernel
theorem dX13_described_126 : decode cX13_described 126 = .ok (.istore_n 1, 1) := by decide +kernel
theorem dX13_described_127 : decode cX13_described 127 = .ok (.aload_n 0, 1) := by decide +kernel
theorem dX13_described_128 : decode cX13_described 128 = .ok (.dup, 1) := by decide +kernel
theorem dX13_described_129 : decode cX13_described 129 = .ok (.getfield 206, 3) := by decide +kernel
theorem dX13_described_132 : decode cX13_described 132 = .ok (.iconst 1, 1) := by decide +kernel
theorem dX13_described_133 : decode cX13_described 133 = .ok (.iadd, 1) := by decide +kernel
theorem dX13_described_134 : decode cX13_described 134 = .ok (.putfield 206, 3) := by decide +kernel
theorem dX13_described_137 : decode cX13_described 137 = .ok (.aload_n 0, 1) := by decide +kernel
theorem dX13_described_138 : decode cX13_described 138 = .ok (.bipush 59, 2) := by decide +kernel
theorem dX13_described_140 : decode cX13_described 140 = .ok (.invokevirtual 241, 3) := by decide +kernel
theorem dX13_described_143 : decode cX13_described 143 = .ok (.aload_n 0, 1) := by decide +kernel
theorem dX13_described_144 : decode cX13_described 144 = .ok (.iload_n 1, 1) := by decide +kernel
theorem dX13_described_145 : decode cX13_described 145 = .ok (.putfield 217, 3) := by decide +kernel
theorem dX13_described_148 : decode cX13_described 148 = .ok (.aload_n 0, 1) := by decide +kernel
theorem dX13_described_149 : decode cX13_described 149 = .ok (.getfield 26, 3) := by decide +kernel
theorem dX13_described_152 : decode cX13_described 152 = .ok (.aload_n 0, 1) := by decide +kernel
theorem dX13_described_153 : decode cX13_described 153 = .ok (.getfield 206, 3) := by decide +kernel
theorem dX13_described_156 : decode cX13_described 156 = .ok (.iaload, 1) := by decide +kernel
theorem dX13_described_157 : decode cX13_described 157 = .ok (.ifCond .eq 163, 3) := by decide +kernel
theorem dX13_described_160 : decode cX13_described 160 = .ok (.aload_n 0, 1) := by decide +kernel
theorem dX13_described_161 : decode cX13_described 161 = .ok (.aload_n 0, 1) := by decide +kernel
theorem dX13_described_162 : decode cX13_described 162 = .ok (.getfield 206, 3) := by decide +kernel
theorem dX13_described_165 : decode cX13_described 165 = .ok (.ldc 245, 2) := by decide +kernel
theorem dX13_described_167 : decode cX13_described 167 = .ok (.invokevirtual 233, 3) := by decide +kernel
theorem dX13_described_170 : decode cX13_described 170 = .ok (.ifCond .eq 20, 3) := by decide +kernel
theorem dX13_described_173 : decode cX13_described 173 = .ok (.aload_n 0, 1) := by decide +kernel
theorem dX13_described_174 : decode cX13_described 174 = .ok (.dup, 1) := by decide +kernel
theorem dX13_described_175 : decode cX13_described 175 = .ok (.getfield 206, 3) := by decide +kernel
theorem dX13_described_178 : decode cX13_described 178 = .ok (.iconst 1, 1) := by decide +kernel
theorem dX13_described_179 : decode cX13_described 179 = .ok (.iadd, 1) := by decide +kernel
theorem dX13_described_180 : decode cX13_described 180 = .ok (.putfield 206, 3) := by decide +kernel
theorem dX13_described_183 : decode cX13_described 183 = .ok (.aload_n 0, 1) := by decide +kernel
theorem dX13_described_184 : decode cX13_described 184 = .ok (.invokevirtual 247, 3) := by decide +kernel
theorem dX13_described_187 : decode cX13_described 187 = .ok (.goto 124, 3) := by decide +kernel
theorem dX13_described_190 : decode cX13_described 190 = .ok (.aload_n 0, 1) := by decide +kernel
theorem dX13_described_191 : decode cX13_described 191 = .ok (.aload_n 0, 1) := by decide +kernel
theorem dX13_described_192 : decode cX13_described 192 = .ok (.getfield 206, 3) := by decide +kernel
theorem dX13_described_195 : decode cX13_described 195 = .ok (.ldc 250, 2) := by decide +kernel
theorem dX13_described_197 : decode cX13_described 197 = .ok (.invokevirtual 233, 3) := by decide +kernel
theorem dX13_described_200 : decode cX13_described 200 = .ok (.ifCond .eq 7, 3) := by decide +kernel
theorem dX13_described_203 : decode cX13_described 203 = .ok (.iconst 0, 1) := by decide +kernel
theorem dX13_described_204 : decode cX13_described 204 = .ok (.goto 74, 3) := by decide +kernel
theorem dX13_described_207 : decode cX13_described 207 = .ok (.aload_n 0, 1) := by decide +kernel
theorem dX13_described_208 : decode cX13_described 208 = .ok (.aload_n 0, 1) := by decide +kernel
theorem dX13_described_209 : decode cX13_described 209 = .ok (.getfield 206, 3) := by decide +kernel
theorem dX13_described_212 : decode cX13_described 212 = .ok (.ldc 252, 2) := by decide +kernel
theorem dX13_described_214 : decode cX13_described 214 = .ok (.invokevirtual 233, 3) := by decide +kernel
theorem dX13_described_217 : decode cX13_described 217 = .ok (.ifCond .eq 7, 3) := by decide +kernel
theorem dX13_described_220 : decode cX13_described 220 = .ok (.iconst 1, 1) := by decide +kernel
theorem dX13_described_221 : decode cX13_described 221 = .ok (.goto 57, 3) := by decide +kernel
theorem dX13_described_224 : decode cX13_described 224 = .ok (.aload_n 0, 1) := by decide +kernel
theorem dX13_described_225 : decode cX13_described 225 = .ok (.aload_n 0, 1) := by decide +kernel
theorem dX13_described_226 : decode cX13_described 226 = .ok (.getfield 206, 3) := by decide +kernel
theorem dX13_described_229 : decode cX13_described 229 = .ok (.ldc 254, 2) := by decide +kernel
theorem dX13_described_231 : decode cX13_described 231 = .ok (.invokevirtual 233, 3) := by decide +kernel
theorem dX13_described_234 : decode cX13_described 234 = .ok (.ifCond .eq 7, 3) := by decide +kernel
theorem dX13_described_237 : decode cX13_described 237 = .ok (.iconst 2, 1) := by decide +kernel
theorem dX13_described_238 : decode cX13_described 238 = .ok (.goto 40, 3) := by decide +kernel
theorem dX13_described_241 : decode cX13_described 241 = .ok (.aload_n 0, 1) := by decide +kernel
theorem dX13_described_242 : decode cX13_described 242 = .ok (.aload_n 0, 1) := by decide +kernel
theorem dX13_described_243 : decode cX13_described 243 = .ok (.getfield 206, 3) := by decide +kernel
theorem dX13_described_246 : decode cX13_described 246 = .ok (.ldc_w 256, 3) := by decide +kernel
theorem dX13_described_249 : decode cX13_described 249 = .ok (.invokevirtual 233, 3) := by decide +kernel
theorem dX13_described_252 : decode cX13_described 252 = .ok (.ifCond .eq 7, 3) := by decide +kernel
theorem dX13_described_255 : decode cX13_described 255 = .ok (.iconst 3, 1) := by decide +kernel
theorem dX13_described_256 : decode cX13_described 256 = .ok (.goto 22, 3) := by decide +kernel
theorem dX13_described_259 : decode cX13_described 259 = .ok (.aload_n 0, 1) := by decide +kernel
theorem dX13_described_260 : decode cX13_described 260 = .ok (.aload_n 0, 1) := by decide +kernel
theorem dX13_described_261 : decode cX13_described 261 = .ok (.getfield 206, 3) := by decide +kernel
theorem dX13_described_264 : decode cX13_described 264 = .ok (.ldc_w 258, 3) := by decide +kernel
theorem dX13_described_267 : decode cX13_described 267 = .ok (.invokevirtual 233, 3) := by decide +kernel
theorem dX13_described_270 : decode cX13_described 270 = .ok (.ifCond .eq 7, 3) := by decide +kernel
theorem dX13_described_273 : decode cX13_described 273 = .ok (.iconst 4, 1) := by decide +kernel
theorem dX13_described_274 : decode cX13_described 274 = .ok (.goto 4, 3) := by decide +kernel
theorem dX13_described_277 : decode cX13_described 277 = .ok (.iconst (-1), 1) := by decide +kernel
theorem dX13_described_278 : decode cX13_described 278 = .ok (.istore_n 2, 1) := by decide +kernel
theorem dX13_described_279 : decode cX13_described 279 = .ok (.iload_n 2, 1) := by decide +kernel
theorem dX13_described_280 : decode cX13_described 280 = .ok (.ifCond .ge 16, 3) := by decide +kernel
theorem dX13_described_283 : decode cX13_described 283 = .ok (.new 209, 3) := by decide +kernel
theorem dX13_described_286 : decode cX13_described 286 = .ok (.dup, 1) := by decide +kernel
theorem dX13_described_287 : decode cX13_described 287 = .ok (.iconst 1, 1) := by decide +kernel
theorem dX13_described_288 : decode cX13_described 288 = .ok (.aload_n 0, 1) := by decide +kernel
theorem dX13_described_289 : decode cX13_described 289 = .ok (.getfield 206, 3) := by decide +kernel
theorem dX13_described_292 : decode cX13_described 292 = .ok (.invokespecial 211, 3) := by decide +kernel
theorem dX13_described_295 : decode cX13_described 295 = .ok (.athrow, 1) := by decide +kernel
theorem dX13_described_296 : decode cX13_described 296 = .ok (.aload_n 0, 1) := by decide +kernel
theorem dX13_described_297 : decode cX13_described 297 = .ok (.dup, 1) := by decide +kernel
theorem dX13_described_298 : decode cX13_described 298 = .ok (.getfield 206, 3) := by decide +kernel
theorem dX13_described_301 : decode cX13_described 301 = .ok (.iconst 1, 1) := by decide +kernel
theorem dX13_described_302 : decode cX13_described 302 = .ok (.iadd, 1) := by decide +kernel
theorem dX13_described_303 : decode cX13_described 303 = .ok (.putfield 206, 3) := by decide +kernel
theorem dX13_described_306 : decode cX13_described 306 = .ok (.aload_n 0, 1) := by decide +kernel
theorem dX13_described_307 : decode cX13_described 307 = .ok (.iload_n 2, 1) := by decide +kernel
theorem dX13_described_308 : decode cX13_described 308 = .ok (.invokevirtual 260, 3) := by decide +kernel
theorem dX13_described_311 : decode cX13_described 311 = .ok (.aload_n 0, 1) := by decide +kernel
theorem dX13_described_312 : decode cX13_described 312 = .ok (.bipush 59, 2) := by decide +kernel
theorem dX13_described_314 : decode cX13_described 314 = .ok (.invokevirtual 241, 3) := by decide +kernel
theorem dX13_described_317 : decode cX13_described 317 = .ok (.goto (-169), 3) := by decide +kernel
theorem dX13_described_320 : decode cX13_described 320 = .ok (.return_, 1) := by decide +kernel
