theorem dX0_init_0 : decode cX0_init 0 = .ok (.aload_n 0, 1) := by decide +kernel
theorem dX0_init_1 : decode cX0_init 1 = .ok (.invokespecial 3, 3) := by decide +kernel
theorem dX0_init_4 : decode cX0_init 4 = .ok (.aload_n 0, 1) := by decide +kernel
theorem dX0_init_5 : decode cX0_init 5 = .ok (.aload_n 1, 1) := by decide +kernel
theorem dX0_init_6 : decode cX0_init 6 = .ok (.putfield 9, 3) := by decide +kernel
theorem dX0_init_9 : decode cX0_init 9 = .ok (.aload_n 0, 1) := by decide +kernel
theorem dX0_init_10 : decode cX0_init 10 = .ok (.aload_n 2, 1) := by decide +kernel
theorem dX0_init_11 : decode cX0_init 11 = .ok (.putfield 15, 3) := by decide +kernel
theorem dX0_init_14 : decode cX0_init 14 = .ok (.aload_n 0, 1) := by decide +kernel
theorem dX0_init_15 : decode cX0_init 15 = .ok (.new 19, 3) := by decide +kernel
theorem dX0_init_18 : decode cX0_init 18 = .ok (.dup, 1) := by decide +kernel
theorem dX0_init_19 : decode cX0_init 19 = .ok (.aload_n 1, 1) := by decide +kernel
theorem dX0_init_20 : decode cX0_init 20 = .ok (.invokespecial 21, 3) := by decide +kernel
theorem dX0_init_23 : decode cX0_init 23 = .ok (.putfield 24, 3) := by decide +kernel
theorem dX0_init_26 : decode cX0_init 26 = .ok (.aload_n 0, 1) := by decide +kernel
theorem dX0_init_27 : decode cX0_init 27 = .ok (.bipush 8, 2) := by decide +kernel
theorem dX0_init_29 : decode cX0_init 29 = .ok (.newarray .int, 2) := by decide +kernel
theorem dX0_init_31 : decode cX0_init 31 = .ok (.putfield 28, 3) := by decide +kernel
theorem dX0_init_34 : decode cX0_init 34 = .ok (.return_, 1) := by decide +kernel
theorem dX0_begin_0 : decode cX0_begin 0 = .ok (.aload_n 0, 1) := by decide +kernel
theorem dX0_begin_1 : decode cX0_begin 1 = .ok (.iload_n 1, 1) := by decide +kernel
theorem dX0_begin_2 : decode cX0_begin 2 = .ok (.putfield 31, 3) := by decide +kernel
theorem dX0_begin_5 : decode cX0_begin 5 = .ok (.aload_n 0, 1) := by decide +kernel
theorem dX0_begin_6 : decode cX0_begin 6 = .ok (.iconst 0, 1) := by decide +kernel
theorem dX0_begin_7 : decode cX0_begin 7 = .ok (.putfield 35, 3) := by decide +kernel
theorem dX0_begin_10 : decode cX0_begin 10 = .ok (.aload_n 0, 1) := by decide +kernel
theorem dX0_begin_11 : decode cX0_begin 11 = .ok (.iconst 0, 1) := by decide +kernel
theorem dX0_begin_12 : decode cX0_begin 12 = .ok (.putfield 38, 3) := by decide +kernel
theorem dX0_begin_15 : decode cX0_begin 15 = .ok (.aload_n 0, 1) := by decide +kernel
theorem dX0_begin_16 : decode cX0_begin 16 = .ok (.iconst 0, 1) := by decide +kernel
theorem dX0_begin_17 : decode cX0_begin 17 = .ok (.putfield 41, 3) := by decide +kernel
theorem dX0_begin_20 : decode cX0_begin 20 = .ok (.aload_n 0, 1) := by decide +kernel
theorem dX0_begin_21 : decode cX0_begin 21 = .ok (.getfield 24, 3) := by decide +kernel
theorem dX0_begin_24 : decode cX0_begin 24 = .ok (.invokevirtual 45, 3) := by decide +kernel
theorem dX0_begin_27 : decode cX0_begin 27 = .ok (.iconst 0, 1) := by decide +kernel
theorem dX0_begin_28 : decode cX0_begin 28 = .ok (.istore_n 2, 1) := by decide +kernel
theorem dX0_begin_29 : decode cX0_begin 29 = .ok (.iload_n 2, 1) := by decide +kernel
theorem dX0_begin_30 : decode cX0_begin 30 = .ok (.bipush 8, 2) := by decide +kernel
theorem dX0_begin_32 : decode cX0_begin 32 = .ok (.if_icmp .ge 16, 3) := by decide +kernel
theorem dX0_begin_35 : decode cX0_begin 35 = .ok (.aload_n 0, 1) := by decide +kernel
theorem dX0_begin_36 : decode cX0_begin 36 = .ok (.getfield 28, 3) := by decide +kernel
theorem dX0_begin_39 : decode cX0_begin 39 = .ok (.iload_n 2, 1) := by decide +kernel
theorem dX0_begin_40 : decode cX0_begin 40 = .ok (.iconst 0, 1) := by decide +kernel
theorem dX0_begin_41 : decode cX0_begin 41 = .ok (.iastore, 1) := by decide +kernel
theorem dX0_begin_42 : decode cX0_begin 42 = .ok (.iinc 2 1, 3) := by decide +kernel
theorem dX0_begin_45 : decode cX0_begin 45 = .ok (.goto (-16), 3) := by decide +kernel
theorem dX0_begin_48 : decode cX0_begin 48 = .ok (.return_, 1) := by decide +kernel
theorem dX0_bind_0 : decode cX0_bind 0 = .ok (.aload_n 0, 1) := by decide +kernel
theorem dX0_bind_1 : decode cX0_bind 1 = .ok (.iconst 1, 1) := by decide +kernel
theorem dX0_bind_2 : decode cX0_bind 2 = .ok (.putfield 41, 3) := by decide +kernel
theorem dX0_bind_5 : decode cX0_bind 5 = .ok (.aload_n 0, 1) := by decide +kernel
theorem dX0_bind_6 : decode cX0_bind 6 = .ok (.iload_n 1, 1) := by decide +kernel
theorem dX0_bind_7 : decode cX0_bind 7 = .ok (.putfield 48, 3) := by decide +kernel
theorem dX0_bind_10 : decode cX0_bind 10 = .ok (.return_, 1) := by decide +kernel
theorem dX0_isTooLate_0 : decode cX0_isTooLate 0 = .ok (.aload_n 0, 1) := by decide +kernel
theorem dX0_isTooLate_1 : decode cX0_isTooLate 1 = .ok (.getfield 41, 3) := by decide +kernel
theorem dX0_isTooLate_4 : decode cX0_isTooLate 4 = .ok (.ifCond .eq 17, 3) := by decide +kernel
theorem dX0_isTooLate_7 : decode cX0_isTooLate 7 = .ok (.iload_n 1, 1) := by decide +kernel
theorem dX0_isTooLate_8 : decode cX0_isTooLate 8 = .ok (.aload_n 0, 1) := by decide +kernel
theorem dX0_isTooLate_9 : decode cX0_isTooLate 9 = .ok (.getfield 48, 3) := by decide +kernel
theorem dX0_isTooLate_12 : decode cX0_isTooLate 12 = .ok (.isub, 1) := by decide +kernel
theorem dX0_isTooLate_13 : decode cX0_isTooLate 13 = .ok (.iload_n 2, 1) := by decide +kernel
theorem dX0_isTooLate_14 : decode cX0_isTooLate 14 = .ok (.if_icmp .le 7, 3) := by decide +kernel
theorem dX0_isTooLate_17 : decode cX0_isTooLate 17 = .ok (.iconst 1, 1) := by decide +kernel
theorem dX0_isTooLate_18 : decode cX0_isTooLate 18 = .ok (.goto 4, 3) := by decide +kernel
theorem dX0_isTooLate_21 : decode cX0_isTooLate 21 = .ok (.iconst 0, 1) := by decide +kernel
theorem dX0_isTooLate_22 : decode cX0_isTooLate 22 = .ok (.ireturn, 1) := by decide +kernel
theorem dX0_work_0 : decode cX0_work 0 = .ok (.iload_n 1, 1) := by decide +kernel
theorem dX0_work_1 : decode cX0_work 1 = .ok (.invokestatic 51, 3) := by decide +kernel
theorem dX0_work_4 : decode cX0_work 4 = .ok (.istore_n 2, 1) := by decide +kernel
theorem dX0_work_5 : decode cX0_work 5 = .ok (.iload_n 1, 1) := by decide +kernel
theorem dX0_work_6 : decode cX0_work 6 = .ok (.invokestatic 57, 3) := by decide +kernel
theorem dX0_work_9 : decode cX0_work 9 = .ok (.istore_n 3, 1) := by decide +kernel
theorem dX0_work_10 : decode cX0_work 10 = .ok (.iload_n 1, 1) := by decide +kernel
theorem dX0_work_11 : decode cX0_work 11 = .ok (.invokestatic 60, 3) := by decide +kernel
theorem dX0_work_14 : decode cX0_work 14 = .ok (.istore 4, 2) := by decide +kernel
theorem dX0_work_16 : decode cX0_work 16 = .ok (.iload_n 1, 1) := by decide +kernel
theorem dX0_work_17 : decode cX0_work 17 = .ok (.invokestatic 63, 3) := by decide +kernel
theorem dX0_work_20 : decode cX0_work 20 = .ok (.tableswitch 362 1 15 #[76, 87, 110, 133, 156, 179, 203, 226, 246, 263, 290, 314, 334, 211, 349], 76) := by decide +kernel
theorem dX0_work_96 : decode cX0_work 96 = .ok (.aload_n 0, 1) := by decide +kernel
theorem dX0_work_97 : decode cX0_work 97 = .ok (.getfield 28, 3) := by decide +kernel
theorem dX0_work_100 : decode cX0_work 100 = .ok (.iload_n 2, 1) := by decide +kernel
theorem dX0_work_101 : decode cX0_work 101 = .ok (.iload_n 1, 1) := by decide +kernel
theorem dX0_work_102 : decode cX0_work 102 = .ok (.i2s, 1) := by decide +kernel
theorem dX0_work_103 : decode cX0_work 103 = .ok (.iastore, 1) := by decide +kernel
theorem dX0_work_104 : decode cX0_work 104 = .ok (.goto 278, 3) := by decide +kernel
theorem dX0_work_107 : decode cX0_work 107 = .ok (.aload_n 0, 1) := by decide +kernel
theorem dX0_work_108 : decode cX0_work 108 = .ok (.getfield 28, 3) := by decide +kernel
theorem dX0_work_111 : decode cX0_work 111 = .ok (.iload_n 2, 1) := by decide +kernel
theorem dX0_work_112 : decode cX0_work 112 = .ok (.aload_n 0, 1) := by decide +kernel
theorem dX0_work_113 : decode cX0_work 113 = .ok (.getfield 28, 3) := by decide +kernel
theorem dX0_work_116 : decode cX0_work 116 = .ok (.iload_n 3, 1) := by decide +kernel
theorem dX0_work_117 : decode cX0_work 117 = .ok (.iaload, 1) := by decide +kernel
theorem dX0_work_118 : decode cX0_work 118 = .ok (.aload_n 0, 1) := by decide +kernel
theorem dX0_work_119 : decode cX0_work 119 = .ok (.getfield 28, 3) := by decide +kernel
theorem dX0_work_122 : decode cX0_work 122 = .ok (.iload 4, 2) := by decide +kernel
theorem dX0_work_124 : decode cX0_work 124 = .ok (.iaload, 1) := by decide +kernel
theorem dX0_work_125 : decode cX0_work 125 = .ok (.iadd, 1) := by decide +kernel
theorem dX0_work_126 : decode cX0_work 126 = .ok (.iastore, 1) := by decide +kernel
theorem dX0_work_127 : decode cX0_work 127 = .ok (.goto 255, 3) := by decide +kernel
theorem dX0_work_130 : decode cX0_work 130 = .ok (.aload_n 0, 1) := by decide +kernel
theorem dX0_work_131 : decode cX0_work 131 = .ok (.getfield 28, 3) := by decide +kernel
theorem dX0_work_134 : decode cX0_work 134 = .ok (.iload_n 2, 1) := by decide +kernel
theorem dX0_work_135 : decode cX0_work 135 = .ok (.aload_n 0, 1) := by decide +kernel
theorem dX0_work_136 : decode cX0_work 136 = .ok (.getfield 28, 3) := by decide +kernel
theorem dX0_work_139 : decode cX0_work 139 = .ok (.iload_n 3, 1) := by decide +kernel
theorem dX0_work_140 : decode cX0_work 140 = .ok (.iaload, 1) := by decide +kernel
theorem dX0_work_141 : decode cX0_work 141 = .ok (.aload_n 0, 1) := by decide +kernel
theorem dX0_work_142 : decode cX0_work 142 = .ok (.getfield 28, 3) := by decide +kernel
theorem dX0_work_145 : decode cX0_work 145 = .ok (.iload 4, 2) := by decide +kernel
theorem dX0_work_147 : decode cX0_work 147 = .ok (.iaload, 1) := by decide +kernel
theorem dX0_work_148 : decode cX0_work 148 = .ok (.isub, 1) := by decide +kernel
theorem dX0_work_149 : decode cX0_work 149 = .ok (.iastore, 1) := by decide +kernel
theorem dX0_work_150 : decode cX0_work 150 = .ok (.goto 232, 3) := by decide +kernel
theorem dX0_work_153 : decode cX0_work 153 = .ok (.aload_n 0, 1) := by decide +kernel
theorem dX0_work_154 : decode cX0_work 154 = .ok (.getfield 28, 3) := by decide +kernel
theorem dX0_work_157 : decode cX0_work 157 = .ok (.iload_n 2, 1) := by decide +kernel
theorem dX0_work_158 : decode cX0_work 158 = .ok (.aload_n 0, 1) := by decide +kernel
theorem dX0_work_159 : decode cX0_work 159 = .ok (.getfield 28, 3) := by decide +kernel
theorem dX0_work_162 : decode cX0_work 162 = .ok (.iload_n 3, 1) := by decide +kernel
theorem dX0_work_163 : decode cX0_work 163 = .ok (.iaload, 1) := by decide +kernel
theorem dX0_work_164 : decode cX0_work 164 = .ok (.aload_n 0, 1) := by decide +kernel
theorem dX0_work_165 : decode cX0_work 165 = .ok (.getfield 28, 3) := by decide +kernel
theorem dX0_work_168 : decode cX0_work 168 = .ok (.iload 4, 2) := by decide +kernel
theorem dX0_work_170 : decode cX0_work 170 = .ok (.iaload, 1) := by decide +kernel
theorem dX0_work_171 : decode cX0_work 171 = .ok (.imul, 1) := by decide +kernel
theorem dX0_work_172 : decode cX0_work 172 = .ok (.iastore, 1) := by decide +kernel
theorem dX0_work_173 : decode cX0_work 173 = .ok (.goto 209, 3) := by decide +kernel
theorem dX0_work_176 : decode cX0_work 176 = .ok (.aload_n 0, 1) := by decide +kernel
theorem dX0_work_177 : decode cX0_work 177 = .ok (.getfield 28, 3) := by decide +kernel
theorem dX0_work_180 : decode cX0_work 180 = .ok (.iload_n 2, 1) := by decide +kernel
theorem dX0_work_181 : decode cX0_work 181 = .ok (.aload_n 0, 1) := by decide +kernel
theorem dX0_work_182 : decode cX0_work 182 = .ok (.getfield 28, 3) := by decide +kernel
theorem dX0_work_185 : decode cX0_work 185 = .ok (.iload_n 3, 1) := by decide +kernel
theorem dX0_work_186 : decode cX0_work 186 = .ok (.iaload, 1) := by decide +kernel
theorem dX0_work_187 : decode cX0_work 187 = .ok (.aload_n 0, 1) := by decide +kernel
theorem dX0_work_188 : decode cX0_work 188 = .ok (.getfield 28, 3) := by decide +kernel
theorem dX0_work_191 : decode cX0_work 191 = .ok (.iload 4, 2) := by decide +kernel
theorem dX0_work_193 : decode cX0_work 193 = .ok (.iaload, 1) := by decide +kernel
theorem dX0_work_194 : decode cX0_work 194 = .ok (.ixor, 1) := by decide +kernel
theorem dX0_work_195 : decode cX0_work 195 = .ok (.iastore, 1) := by decide +kernel
theorem dX0_work_196 : decode cX0_work 196 = .ok (.goto 186, 3) := by decide +kernel
theorem dX0_work_199 : decode cX0_work 199 = .ok (.aload_n 0, 1) := by decide +kernel
theorem dX0_work_200 : decode cX0_work 200 = .ok (.aload_n 0, 1) := by decide +kernel
theorem dX0_work_201 : decode cX0_work 201 = .ok (.getfield 28, 3) := by decide +kernel
theorem dX0_work_204 : decode cX0_work 204 = .ok (.iload_n 2, 1) := by decide +kernel
theorem dX0_work_205 : decode cX0_work 205 = .ok (.iaload, 1) := by decide +kernel
theorem dX0_work_206 : decode cX0_work 206 = .ok (.ifCond .ne 7, 3) := by decide +kernel
theorem dX0_work_209 : decode cX0_work 209 = .ok (.iload_n 3, 1) := by decide +kernel
theorem dX0_work_210 : decode cX0_work 210 = .ok (.goto 7, 3) := by decide +kernel
theorem dX0_work_213 : decode cX0_work 213 = .ok (.aload_n 0, 1) := by decide +kernel
theorem dX0_work_214 : decode cX0_work 214 = .ok (.getfield 35, 3) := by decide +kernel
theorem dX0_work_217 : decode cX0_work 217 = .ok (.putfield 35, 3) := by decide +kernel
theorem dX0_work_220 : decode cX0_work 220 = .ok (.goto 162, 3) := by decide +kernel
theorem dX0_work_223 : decode cX0_work 223 = .ok (.aload_n 0, 1) := by decide +kernel
theorem dX0_work_224 : decode cX0_work 224 = .ok (.iload_n 3, 1) := by decide +kernel
theorem dX0_work_225 : decode cX0_work 225 = .ok (.putfield 35, 3) := by decide +kernel
theorem dX0_work_228 : decode cX0_work 228 = .ok (.goto 154, 3) := by decide +kernel
theorem dX0_work_231 : decode cX0_work 231 = .ok (.aload_n 0, 1) := by decide +kernel
theorem dX0_work_232 : decode cX0_work 232 = .ok (.getfield 28, 3) := by decide +kernel
theorem dX0_work_235 : decode cX0_work 235 = .ok (.iload_n 2, 1) := by decide +kernel
theorem dX0_work_236 : decode cX0_work 236 = .ok (.aload_n 0, 1) := by decide +kernel
theorem dX0_work_237 : decode cX0_work 237 = .ok (.getfield 15, 3) := by decide +kernel
theorem dX0_work_240 : decode cX0_work 240 = .ok (.iload_n 3, 1) := by decide +kernel
theorem dX0_work_241 : decode cX0_work 241 = .ok (.iaload, 1) := by decide +kernel
theorem dX0_work_242 : decode cX0_work 242 = .ok (.iastore, 1) := by decide +kernel
theorem dX0_work_243 : decode cX0_work 243 = .ok (.goto 139, 3) := by decide +kernel
theorem dX0_work_246 : decode cX0_work 246 = .ok (.aload_n 0, 1) := by decide +kernel
theorem dX0_work_247 : decode cX0_work 247 = .ok (.getfield 28, 3) := by decide +kernel
theorem dX0_work_250 : decode cX0_work 250 = .ok (.iload_n 2, 1) := by decide +kernel
theorem dX0_work_251 : decode cX0_work 251 = .ok (.aload_n 0, 1) := by decide +kernel
theorem dX0_work_252 : decode cX0_work 252 = .ok (.getfield 24, 3) := by decide +kernel
theorem dX0_work_255 : decode cX0_work 255 = .ok (.bipush 8, 2) := by decide +kernel
theorem dX0_work_257 : decode cX0_work 257 = .ok (.iload_n 3, 1) := by decide +kernel
theorem dX0_work_258 : decode cX0_work 258 = .ok (.iadd, 1) := by decide +kernel
theorem dX0_work_259 : decode cX0_work 259 = .ok (.invokevirtual 68, 3) := by decide +kernel
theorem dX0_work_262 : decode cX0_work 262 = .ok (.iastore, 1) := by decide +kernel
theorem dX0_work_263 : decode cX0_work 263 = .ok (.goto 119, 3) := by decide +kernel
theorem dX0_work_266 : decode cX0_work 266 = .ok (.aload_n 0, 1) := by decide +kernel
theorem dX0_work_267 : decode cX0_work 267 = .ok (.bipush 8, 2) := by decide +kernel
theorem dX0_work_269 : decode cX0_work 269 = .ok (.iload_n 3, 1) := by decide +kernel
theorem dX0_work_270 : decode cX0_work 270 = .ok (.iadd, 1) := by decide +kernel
theorem dX0_work_271 : decode cX0_work 271 = .ok (.aload_n 0, 1) := by decide +kernel
theorem dX0_work_272 : decode cX0_work 272 = .ok (.getfield 28, 3) := by decide +kernel
theorem dX0_work_275 : decode cX0_work 275 = .ok (.iload_n 2, 1) := by decide +kernel
theorem dX0_work_276 : decode cX0_work 276 = .ok (.iaload, 1) := by decide +kernel
theorem dX0_work_277 : decode cX0_work 277 = .ok (.invokevirtual 71, 3) := by decide +kernel
theorem dX0_work_280 : decode cX0_work 280 = .ok (.goto 102, 3) := by decide +kernel
theorem dX0_work_283 : decode cX0_work 283 = .ok (.aload_n 0, 1) := by decide +kernel
theorem dX0_work_284 : decode cX0_work 284 = .ok (.getfield 28, 3) := by decide +kernel
theorem dX0_work_287 : decode cX0_work 287 = .ok (.iload_n 2, 1) := by decide +kernel
theorem dX0_work_288 : decode cX0_work 288 = .ok (.aload_n 0, 1) := by decide +kernel
theorem dX0_work_289 : decode cX0_work 289 = .ok (.getfield 24, 3) := by decide +kernel
theorem dX0_work_292 : decode cX0_work 292 = .ok (.iload_n 3, 1) := by decide +kernel
theorem dX0_work_293 : decode cX0_work 293 = .ok (.aload_n 0, 1) := by decide +kernel
theorem dX0_work_294 : decode cX0_work 294 = .ok (.getfield 28, 3) := by decide +kernel
theorem dX0_work_297 : decode cX0_work 297 = .ok (.iload 4, 2) := by decide +kernel
theorem dX0_work_299 : decode cX0_work 299 = .ok (.iaload, 1) := by decide +kernel
theorem dX0_work_300 : decode cX0_work 300 = .ok (.invokestatic 75, 3) := by decide +kernel
theorem dX0_work_303 : decode cX0_work 303 = .ok (.invokevirtual 68, 3) := by decide +kernel
theorem dX0_work_306 : decode cX0_work 306 = .ok (.iastore, 1) := by decide +kernel
theorem dX0_work_307 : decode cX0_work 307 = .ok (.goto 75, 3) := by decide +kernel
theorem dX0_work_310 : decode cX0_work 310 = .ok (.aload_n 0, 1) := by decide +kernel
theorem dX0_work_311 : decode cX0_work 311 = .ok (.iload_n 3, 1) := by decide +kernel
theorem dX0_work_312 : decode cX0_work 312 = .ok (.aload_n 0, 1) := by decide +kernel
theorem dX0_work_313 : decode cX0_work 313 = .ok (.getfield 28, 3) := by decide +kernel
theorem dX0_work_316 : decode cX0_work 316 = .ok (.iload 4, 2) := by decide +kernel
theorem dX0_work_318 : decode cX0_work 318 = .ok (.iaload, 1) := by decide +kernel
theorem dX0_work_319 : decode cX0_work 319 = .ok (.invokestatic 75, 3) := by decide +kernel
theorem dX0_work_322 : decode cX0_work 322 = .ok (.aload_n 0, 1) := by decide +kernel
theorem dX0_work_323 : decode cX0_work 323 = .ok (.getfield 28, 3) := by decide +kernel
theorem dX0_work_326 : decode cX0_work 326 = .ok (.iload_n 2, 1) := by decide +kernel
theorem dX0_work_327 : decode cX0_work 327 = .ok (.iaload, 1) := by decide +kernel
theorem dX0_work_328 : decode cX0_work 328 = .ok (.invokevirtual 71, 3) := by decide +kernel
theorem dX0_work_331 : decode cX0_work 331 = .ok (.goto 51, 3) := by decide +kernel
theorem dX0_work_334 : decode cX0_work 334 = .ok (.aload_n 0, 1) := by decide +kernel
theorem dX0_work_335 : decode cX0_work 335 = .ok (.aload_n 0, 1) := by decide +kernel
theorem dX0_work_336 : decode cX0_work 336 = .ok (.getfield 28, 3) := by decide +kernel
theorem dX0_work_339 : decode cX0_work 339 = .ok (.iload_n 2, 1) := by decide +kernel
theorem dX0_work_340 : decode cX0_work 340 = .ok (.iaload, 1) := by decide +kernel
theorem dX0_work_341 : decode cX0_work 341 = .ok (.bipush 56, 2) := by decide +kernel
theorem dX0_work_343 : decode cX0_work 343 = .ok (.iload_n 3, 1) := by decide +kernel
theorem dX0_work_344 : decode cX0_work 344 = .ok (.bipush 6, 2) := by decide +kernel
theorem dX0_work_346 : decode cX0_work 346 = .ok (.imul, 1) := by decide +kernel
theorem dX0_work_347 : decode cX0_work 347 = .ok (.iadd, 1) := by decide +kernel
theorem dX0_work_348 : decode cX0_work 348 = .ok (.invokevirtual 79, 3) := by decide +kernel
theorem dX0_work_351 : decode cX0_work 351 = .ok (.goto 31, 3) := by decide +kernel
theorem dX0_work_354 : decode cX0_work 354 = .ok (.aload_n 0, 1) := by decide +kernel
theorem dX0_work_355 : decode cX0_work 355 = .ok (.iload_n 2, 1) := by decide +kernel
theorem dX0_work_356 : decode cX0_work 356 = .ok (.bipush 56, 2) := by decide +kernel
theorem dX0_work_358 : decode cX0_work 358 = .ok (.iload_n 3, 1) := by decide +kernel
theorem dX0_work_359 : decode cX0_work 359 = .ok (.bipush 6, 2) := by decide +kernel
theorem dX0_work_361 : decode cX0_work 361 = .ok (.imul, 1) := by decide +kernel
theorem dX0_work_362 : decode cX0_work 362 = .ok (.iadd, 1) := by decide +kernel
theorem dX0_work_363 : decode cX0_work 363 = .ok (.invokevirtual 82, 3) := by decide +kernel
theorem dX0_work_366 : decode cX0_work 366 = .ok (.goto 16, 3) := by decide +kernel
theorem dX0_work_369 : decode cX0_work 369 = .ok (.aload_n 0, 1) := by decide +kernel
theorem dX0_work_370 : decode cX0_work 370 = .ok (.aload_n 0, 1) := by decide +kernel
theorem dX0_work_371 : decode cX0_work 371 = .ok (.getfield 28, 3) := by decide +kernel
theorem dX0_work_374 : decode cX0_work 374 = .ok (.iload_n 2, 1) := by decide +kernel
theorem dX0_work_375 : decode cX0_work 375 = .ok (.iaload, 1) := by decide +kernel
theorem dX0_work_376 : decode cX0_work 376 = .ok (.invokevirtual 85, 3) := by decide +kernel
theorem dX0_work_379 : decode cX0_work 379 = .ok (.goto 3, 3) := by decide +kernel
theorem dX0_work_382 : decode cX0_work 382 = .ok (.return_, 1) := by decide +kernel
theorem dX0_wordOfRow_0 : decode cX0_wordOfRow 0 = .ok (.bipush 24, 2) := by decide +kernel
theorem dX0_wordOfRow_2 : decode cX0_wordOfRow 2 = .ok (.iload_n 0, 1) := by decide +kernel
theorem dX0_wordOfRow_3 : decode cX0_wordOfRow 3 = .ok (.bipush 8, 2) := by decide +kernel
theorem dX0_wordOfRow_5 : decode cX0_wordOfRow 5 = .ok (.imul, 1) := by decide +kernel
theorem dX0_wordOfRow_6 : decode cX0_wordOfRow 6 = .ok (.iadd, 1) := by decide +kernel
theorem dX0_wordOfRow_7 : decode cX0_wordOfRow 7 = .ok (.iload_n 1, 1) := by decide +kernel
theorem dX0_wordOfRow_8 : decode cX0_wordOfRow 8 = .ok (.bipush 7, 2) := by decide +kernel
theorem dX0_wordOfRow_10 : decode cX0_wordOfRow 10 = .ok (.iand, 1) := by decide +kernel
theorem dX0_wordOfRow_11 : decode cX0_wordOfRow 11 = .ok (.iadd, 1) := by decide +kernel
theorem dX0_wordOfRow_12 : decode cX0_wordOfRow 12 = .ok (.ireturn, 1) := by decide +kernel
theorem dX0_placeOfQueue_0 : decode cX0_placeOfQueue 0 = .ok (.iload_n 0, 1) := by decide +kernel
theorem dX0_placeOfQueue_1 : decode cX0_placeOfQueue 1 = .ok (.iconst 2, 1) := by decide +kernel
theorem dX0_placeOfQueue_2 : decode cX0_placeOfQueue 2 = .ok (.iadd, 1) := by decide +kernel
theorem dX0_placeOfQueue_3 : decode cX0_placeOfQueue 3 = .ok (.iload_n 1, 1) := by decide +kernel
theorem dX0_placeOfQueue_4 : decode cX0_placeOfQueue 4 = .ok (.iconst 3, 1) := by decide +kernel
theorem dX0_placeOfQueue_5 : decode cX0_placeOfQueue 5 = .ok (.iand, 1) := by decide +kernel
theorem dX0_placeOfQueue_6 : decode cX0_placeOfQueue 6 = .ok (.iadd, 1) := by decide +kernel
theorem dX0_placeOfQueue_7 : decode cX0_placeOfQueue 7 = .ok (.ireturn, 1) := by decide +kernel
theorem dX0_writeIfRoom_0 : decode cX0_writeIfRoom 0 = .ok (.aload_n 0, 1) := by decide +kernel
theorem dX0_writeIfRoom_1 : decode cX0_writeIfRoom 1 = .ok (.getfield 24, 3) := by decide +kernel
theorem dX0_writeIfRoom_4 : decode cX0_writeIfRoom 4 = .ok (.iload_n 1, 1) := by decide +kernel
theorem dX0_writeIfRoom_5 : decode cX0_writeIfRoom 5 = .ok (.invokevirtual 89, 3) := by decide +kernel
theorem dX0_writeIfRoom_8 : decode cX0_writeIfRoom 8 = .ok (.ifCond .eq 12, 3) := by decide +kernel
theorem dX0_writeIfRoom_11 : decode cX0_writeIfRoom 11 = .ok (.aload_n 0, 1) := by decide +kernel
theorem dX0_writeIfRoom_12 : decode cX0_writeIfRoom 12 = .ok (.getfield 24, 3) := by decide +kernel
theorem dX0_writeIfRoom_15 : decode cX0_writeIfRoom 15 = .ok (.iload_n 1, 1) := by decide +kernel
theorem dX0_writeIfRoom_16 : decode cX0_writeIfRoom 16 = .ok (.iload_n 2, 1) := by decide +kernel
theorem dX0_writeIfRoom_17 : decode cX0_writeIfRoom 17 = .ok (.invokevirtual 93, 3) := by decide +kernel
theorem dX0_writeIfRoom_20 : decode cX0_writeIfRoom 20 = .ok (.return_, 1) := by decide +kernel
theorem dX0_writeBothIfRoom_0 : decode cX0_writeBothIfRoom 0 = .ok (.aload_n 0, 1) := by decide +kernel
theorem dX0_writeBothIfRoom_1 : decode cX0_writeBothIfRoom 1 = .ok (.getfield 24, 3) := by decide +kernel
theorem dX0_writeBothIfRoom_4 : decode cX0_writeBothIfRoom 4 = .ok (.iload_n 1, 1) := by decide +kernel
theorem dX0_writeBothIfRoom_5 : decode cX0_writeBothIfRoom 5 = .ok (.iload_n 3, 1) := by decide +kernel
theorem dX0_writeBothIfRoom_6 : decode cX0_writeBothIfRoom 6 = .ok (.invokevirtual 96, 3) := by decide +kernel
theorem dX0_writeBothIfRoom_9 : decode cX0_writeBothIfRoom 9 = .ok (.ifCond .ne 5, 3) := by decide +kernel
theorem dX0_writeBothIfRoom_12 : decode cX0_writeBothIfRoom 12 = .ok (.iconst 0, 1) := by decide +kernel
theorem dX0_writeBothIfRoom_13 : decode cX0_writeBothIfRoom 13 = .ok (.ireturn, 1) := by decide +kernel
theorem dX0_writeBothIfRoom_14 : decode cX0_writeBothIfRoom 14 = .ok (.aload_n 0, 1) := by decide +kernel
theorem dX0_writeBothIfRoom_15 : decode cX0_writeBothIfRoom 15 = .ok (.getfield 24, 3) := by decide +kernel
theorem dX0_writeBothIfRoom_18 : decode cX0_writeBothIfRoom 18 = .ok (.iload_n 1, 1) := by decide +kernel
theorem dX0_writeBothIfRoom_19 : decode cX0_writeBothIfRoom 19 = .ok (.iload_n 2, 1) := by decide +kernel
theorem dX0_writeBothIfRoom_20 : decode cX0_writeBothIfRoom 20 = .ok (.invokevirtual 93, 3) := by decide +kernel
theorem dX0_writeBothIfRoom_23 : decode cX0_writeBothIfRoom 23 = .ok (.aload_n 0, 1) := by decide +kernel
theorem dX0_writeBothIfRoom_24 : decode cX0_writeBothIfRoom 24 = .ok (.getfield 24, 3) := by decide +kernel
theorem dX0_writeBothIfRoom_27 : decode cX0_writeBothIfRoom 27 = .ok (.iload_n 3, 1) := by decide +kernel
theorem dX0_writeBothIfRoom_28 : decode cX0_writeBothIfRoom 28 = .ok (.iload 4, 2) := by decide +kernel
theorem dX0_writeBothIfRoom_30 : decode cX0_writeBothIfRoom 30 = .ok (.invokevirtual 93, 3) := by decide +kernel
theorem dX0_writeBothIfRoom_33 : decode cX0_writeBothIfRoom 33 = .ok (.iconst 1, 1) := by decide +kernel
theorem dX0_writeBothIfRoom_34 : decode cX0_writeBothIfRoom 34 = .ok (.ireturn, 1) := by decide +kernel
theorem dX0_push_0 : decode cX0_push 0 = .ok (.aload_n 0, 1) := by decide +kernel
theorem dX0_push_1 : decode cX0_push 1 = .ok (.getfield 24, 3) := by decide +kernel
theorem dX0_push_4 : decode cX0_push 4 = .ok (.iload_n 2, 1) := by decide +kernel
theorem dX0_push_5 : decode cX0_push 5 = .ok (.invokevirtual 68, 3) := by decide +kernel
theorem dX0_push_8 : decode cX0_push 8 = .ok (.istore_n 3, 1) := by decide +kernel
theorem dX0_push_9 : decode cX0_push 9 = .ok (.aload_n 0, 1) := by decide +kernel
theorem dX0_push_10 : decode cX0_push 10 = .ok (.getfield 24, 3) := by decide +kernel
theorem dX0_push_13 : decode cX0_push 13 = .ok (.iload_n 2, 1) := by decide +kernel
theorem dX0_push_14 : decode cX0_push 14 = .ok (.iconst 1, 1) := by decide +kernel
theorem dX0_push_15 : decode cX0_push 15 = .ok (.iadd, 1) := by decide +kernel
theorem dX0_push_16 : decode cX0_push 16 = .ok (.invokevirtual 68, 3) := by decide +kernel
theorem dX0_push_19 : decode cX0_push 19 = .ok (.istore 4, 2) := by decide +kernel
theorem dX0_push_21 : decode cX0_push 21 = .ok (.iload 4, 2) := by decide +kernel
theorem dX0_push_23 : decode cX0_push 23 = .ok (.iconst 4, 1) := by decide +kernel
theorem dX0_push_24 : decode cX0_push 24 = .ok (.if_icmp .ge 30, 3) := by decide +kernel
theorem dX0_push_27 : decode cX0_push 27 = .ok (.aload_n 0, 1) := by decide +kernel
theorem dX0_push_28 : decode cX0_push 28 = .ok (.iload_n 2, 1) := by decide +kernel
theorem dX0_push_29 : decode cX0_push 29 = .ok (.iload_n 3, 1) := by decide +kernel
theorem dX0_push_30 : decode cX0_push 30 = .ok (.iload 4, 2) := by decide +kernel
theorem dX0_push_32 : decode cX0_push 32 = .ok (.iadd, 1) := by decide +kernel
theorem dX0_push_33 : decode cX0_push 33 = .ok (.invokestatic 100, 3) := by decide +kernel
theorem dX0_push_36 : decode cX0_push 36 = .ok (.iload_n 1, 1) := by decide +kernel
theorem dX0_push_37 : decode cX0_push 37 = .ok (.iload_n 2, 1) := by decide +kernel
theorem dX0_push_38 : decode cX0_push 38 = .ok (.iconst 1, 1) := by decide +kernel
theorem dX0_push_39 : decode cX0_push 39 = .ok (.iadd, 1) := by decide +kernel
theorem dX0_push_40 : decode cX0_push 40 = .ok (.iload 4, 2) := by decide +kernel
theorem dX0_push_42 : decode cX0_push 42 = .ok (.iconst 1, 1) := by decide +kernel
theorem dX0_push_43 : decode cX0_push 43 = .ok (.iadd, 1) := by decide +kernel
theorem dX0_push_44 : decode cX0_push 44 = .ok (.invokevirtual 103, 3) := by decide +kernel
theorem dX0_push_47 : decode cX0_push 47 = .ok (.ifCond .eq 7, 3) := by decide +kernel
theorem dX0_push_50 : decode cX0_push 50 = .ok (.iconst 1, 1) := by decide +kernel
theorem dX0_push_51 : decode cX0_push 51 = .ok (.goto 4, 3) := by decide +kernel
theorem dX0_push_54 : decode cX0_push 54 = .ok (.iconst 0, 1) := by decide +kernel
theorem dX0_push_55 : decode cX0_push 55 = .ok (.istore 5, 2) := by decide +kernel
theorem dX0_push_57 : decode cX0_push 57 = .ok (.aload_n 0, 1) := by decide +kernel
theorem dX0_push_58 : decode cX0_push 58 = .ok (.getfield 28, 3) := by decide +kernel
theorem dX0_push_61 : decode cX0_push 61 = .ok (.bipush 7, 2) := by decide +kernel
theorem dX0_push_63 : decode cX0_push 63 = .ok (.iload 5, 2) := by decide +kernel
theorem dX0_push_65 : decode cX0_push 65 = .ok (.ifCond .eq 7, 3) := by decide +kernel
theorem dX0_push_68 : decode cX0_push 68 = .ok (.iconst 1, 1) := by decide +kernel
theorem dX0_push_69 : decode cX0_push 69 = .ok (.goto 4, 3) := by decide +kernel
theorem dX0_push_72 : decode cX0_push 72 = .ok (.iconst 0, 1) := by decide +kernel
theorem dX0_push_73 : decode cX0_push 73 = .ok (.iastore, 1) := by decide +kernel
theorem dX0_push_74 : decode cX0_push 74 = .ok (.return_, 1) := by decide +kernel
theorem dX0_pop_0 : decode cX0_pop 0 = .ok (.aload_n 0, 1) := by decide +kernel
theorem dX0_pop_1 : decode cX0_pop 1 = .ok (.getfield 24, 3) := by decide +kernel
theorem dX0_pop_4 : decode cX0_pop 4 = .ok (.iload_n 2, 1) := by decide +kernel
theorem dX0_pop_5 : decode cX0_pop 5 = .ok (.invokevirtual 68, 3) := by decide +kernel
theorem dX0_pop_8 : decode cX0_pop 8 = .ok (.istore_n 3, 1) := by decide +kernel
theorem dX0_pop_9 : decode cX0_pop 9 = .ok (.aload_n 0, 1) := by decide +kernel
theorem dX0_pop_10 : decode cX0_pop 10 = .ok (.getfield 24, 3) := by decide +kernel
theorem dX0_pop_13 : decode cX0_pop 13 = .ok (.iload_n 2, 1) := by decide +kernel
theorem dX0_pop_14 : decode cX0_pop 14 = .ok (.iconst 1, 1) := by decide +kernel
theorem dX0_pop_15 : decode cX0_pop 15 = .ok (.iadd, 1) := by decide +kernel
theorem dX0_pop_16 : decode cX0_pop 16 = .ok (.invokevirtual 68, 3) := by decide +kernel
theorem dX0_pop_19 : decode cX0_pop 19 = .ok (.istore 4, 2) := by decide +kernel
theorem dX0_pop_21 : decode cX0_pop 21 = .ok (.iload 4, 2) := by decide +kernel
theorem dX0_pop_23 : decode cX0_pop 23 = .ok (.ifCond .le 27, 3) := by decide +kernel
theorem dX0_pop_26 : decode cX0_pop 26 = .ok (.aload_n 0, 1) := by decide +kernel
theorem dX0_pop_27 : decode cX0_pop 27 = .ok (.iload_n 2, 1) := by decide +kernel
theorem dX0_pop_28 : decode cX0_pop 28 = .ok (.iload_n 3, 1) := by decide +kernel
theorem dX0_pop_29 : decode cX0_pop 29 = .ok (.iconst 1, 1) := by decide +kernel
theorem dX0_pop_30 : decode cX0_pop 30 = .ok (.iadd, 1) := by decide +kernel
theorem dX0_pop_31 : decode cX0_pop 31 = .ok (.iconst 3, 1) := by decide +kernel
theorem dX0_pop_32 : decode cX0_pop 32 = .ok (.iand, 1) := by decide +kernel
theorem dX0_pop_33 : decode cX0_pop 33 = .ok (.iload_n 2, 1) := by decide +kernel
theorem dX0_pop_34 : decode cX0_pop 34 = .ok (.iconst 1, 1) := by decide +kernel
theorem dX0_pop_35 : decode cX0_pop 35 = .ok (.iadd, 1) := by decide +kernel
theorem dX0_pop_36 : decode cX0_pop 36 = .ok (.iload 4, 2) := by decide +kernel
theorem dX0_pop_38 : decode cX0_pop 38 = .ok (.iconst 1, 1) := by decide +kernel
theorem dX0_pop_39 : decode cX0_pop 39 = .ok (.isub, 1) := by decide +kernel
theorem dX0_pop_40 : decode cX0_pop 40 = .ok (.invokevirtual 103, 3) := by decide +kernel
theorem dX0_pop_43 : decode cX0_pop 43 = .ok (.ifCond .eq 7, 3) := by decide +kernel
theorem dX0_pop_46 : decode cX0_pop 46 = .ok (.iconst 1, 1) := by decide +kernel
theorem dX0_pop_47 : decode cX0_pop 47 = .ok (.goto 4, 3) := by decide +kernel
theorem dX0_pop_50 : decode cX0_pop 50 = .ok (.iconst 0, 1) := by decide +kernel
theorem dX0_pop_51 : decode cX0_pop 51 = .ok (.istore 5, 2) := by decide +kernel
theorem dX0_pop_53 : decode cX0_pop 53 = .ok (.iload 5, 2) := by decide +kernel
theorem dX0_pop_55 : decode cX0_pop 55 = .ok (.ifCond .eq 24, 3) := by decide +kernel
theorem dX0_pop_58 : decode cX0_pop 58 = .ok (.aload_n 0, 1) := by decide +kernel
theorem dX0_pop_59 : decode cX0_pop 59 = .ok (.getfield 28, 3) := by decide +kernel
theorem dX0_pop_62 : decode cX0_pop 62 = .ok (.iload_n 1, 1) := by decide +kernel
theorem dX0_pop_63 : decode cX0_pop 63 = .ok (.aload_n 0, 1) := by decide +kernel
theorem dX0_pop_64 : decode cX0_pop 64 = .ok (.getfield 24, 3) := by decide +kernel
theorem dX0_pop_67 : decode cX0_pop 67 = .ok (.iload_n 2, 1) := by decide +kernel
theorem dX0_pop_68 : decode cX0_pop 68 = .ok (.iload_n 3, 1) := by decide +kernel
theorem dX0_pop_69 : decode cX0_pop 69 = .ok (.invokestatic 100, 3) := by decide +kernel
theorem dX0_pop_72 : decode cX0_pop 72 = .ok (.invokevirtual 68, 3) := by decide +kernel
theorem dX0_pop_75 : decode cX0_pop 75 = .ok (.iastore, 1) := by decide +kernel
theorem dX0_pop_76 : decode cX0_pop 76 = .ok (.goto 15, 3) := by decide +kernel
theorem dX0_pop_79 : decode cX0_pop 79 = .ok (.iload 4, 2) := by decide +kernel
theorem dX0_pop_81 : decode cX0_pop 81 = .ok (.ifCond .ne 10, 3) := by decide +kernel
theorem dX0_pop_84 : decode cX0_pop 84 = .ok (.aload_n 0, 1) := by decide +kernel
theorem dX0_pop_85 : decode cX0_pop 85 = .ok (.getfield 28, 3) := by decide +kernel
theorem dX0_pop_88 : decode cX0_pop 88 = .ok (.iload_n 1, 1) := by decide +kernel
theorem dX0_pop_89 : decode cX0_pop 89 = .ok (.iconst 0, 1) := by decide +kernel
theorem dX0_pop_90 : decode cX0_pop 90 = .ok (.iastore, 1) := by decide +kernel
theorem dX0_pop_91 : decode cX0_pop 91 = .ok (.aload_n 0, 1) := by decide +kernel
theorem dX0_pop_92 : decode cX0_pop 92 = .ok (.getfield 28, 3) := by decide +kernel
theorem dX0_pop_95 : decode cX0_pop 95 = .ok (.bipush 7, 2) := by decide +kernel
theorem dX0_pop_97 : decode cX0_pop 97 = .ok (.iload 5, 2) := by decide +kernel
theorem dX0_pop_99 : decode cX0_pop 99 = .ok (.ifCond .eq 7, 3) := by decide +kernel
theorem dX0_pop_102 : decode cX0_pop 102 = .ok (.iconst 1, 1) := by decide +kernel
theorem dX0_pop_103 : decode cX0_pop 103 = .ok (.goto 4, 3) := by decide +kernel
theorem dX0_pop_106 : decode cX0_pop 106 = .ok (.iconst 0, 1) := by decide +kernel
theorem dX0_pop_107 : decode cX0_pop 107 = .ok (.iastore, 1) := by decide +kernel
theorem dX0_pop_108 : decode cX0_pop 108 = .ok (.return_, 1) := by decide +kernel
theorem dX0_send_0 : decode cX0_send 0 = .ok (.aload_n 0, 1) := by decide +kernel
theorem dX0_send_1 : decode cX0_send 1 = .ok (.getfield 24, 3) := by decide +kernel
theorem dX0_send_4 : decode cX0_send 4 = .ok (.iconst 3, 1) := by decide +kernel
theorem dX0_send_5 : decode cX0_send 5 = .ok (.invokevirtual 68, 3) := by decide +kernel
theorem dX0_send_8 : decode cX0_send 8 = .ok (.istore_n 2, 1) := by decide +kernel
theorem dX0_send_9 : decode cX0_send 9 = .ok (.iload_n 2, 1) := by decide +kernel
theorem dX0_send_10 : decode cX0_send 10 = .ok (.aload_n 0, 1) := by decide +kernel
theorem dX0_send_11 : decode cX0_send 11 = .ok (.getfield 9, 3) := by decide +kernel
theorem dX0_send_14 : decode cX0_send 14 = .ok (.getfield 107, 3) := by decide +kernel
theorem dX0_send_17 : decode cX0_send 17 = .ok (.iconst 4, 1) := by decide +kernel
theorem dX0_send_18 : decode cX0_send 18 = .ok (.iaload, 1) := by decide +kernel
theorem dX0_send_19 : decode cX0_send 19 = .ok (.isub, 1) := by decide +kernel
theorem dX0_send_20 : decode cX0_send 20 = .ok (.bipush 16, 2) := by decide +kernel
theorem dX0_send_22 : decode cX0_send 22 = .ok (.if_icmp .ge 23, 3) := by decide +kernel
theorem dX0_send_25 : decode cX0_send 25 = .ok (.aload_n 0, 1) := by decide +kernel
theorem dX0_send_26 : decode cX0_send 26 = .ok (.iload_n 2, 1) := by decide +kernel
theorem dX0_send_27 : decode cX0_send 27 = .ok (.invokestatic 110, 3) := by decide +kernel
theorem dX0_send_30 : decode cX0_send 30 = .ok (.iload_n 1, 1) := by decide +kernel
theorem dX0_send_31 : decode cX0_send 31 = .ok (.iconst 3, 1) := by decide +kernel
theorem dX0_send_32 : decode cX0_send 32 = .ok (.iload_n 2, 1) := by decide +kernel
theorem dX0_send_33 : decode cX0_send 33 = .ok (.iconst 1, 1) := by decide +kernel
theorem dX0_send_34 : decode cX0_send 34 = .ok (.iadd, 1) := by decide +kernel
theorem dX0_send_35 : decode cX0_send 35 = .ok (.invokevirtual 103, 3) := by decide +kernel
theorem dX0_send_38 : decode cX0_send 38 = .ok (.ifCond .eq 7, 3) := by decide +kernel
theorem dX0_send_41 : decode cX0_send 41 = .ok (.iconst 1, 1) := by decide +kernel
theorem dX0_send_42 : decode cX0_send 42 = .ok (.goto 4, 3) := by decide +kernel
theorem dX0_send_45 : decode cX0_send 45 = .ok (.iconst 0, 1) := by decide +kernel
theorem dX0_send_46 : decode cX0_send 46 = .ok (.istore_n 3, 1) := by decide +kernel
theorem dX0_send_47 : decode cX0_send 47 = .ok (.aload_n 0, 1) := by decide +kernel
theorem dX0_send_48 : decode cX0_send 48 = .ok (.getfield 28, 3) := by decide +kernel
theorem dX0_send_51 : decode cX0_send 51 = .ok (.bipush 7, 2) := by decide +kernel
theorem dX0_send_53 : decode cX0_send 53 = .ok (.iload_n 3, 1) := by decide +kernel
theorem dX0_send_54 : decode cX0_send 54 = .ok (.ifCond .eq 7, 3) := by decide +kernel
theorem dX0_send_57 : decode cX0_send 57 = .ok (.iconst 1, 1) := by decide +kernel
theorem dX0_send_58 : decode cX0_send 58 = .ok (.goto 4, 3) := by decide +kernel
theorem dX0_send_61 : decode cX0_send 61 = .ok (.iconst 0, 1) := by decide +kernel
theorem dX0_send_62 : decode cX0_send 62 = .ok (.iastore, 1) := by decide +kernel
theorem dX0_send_63 : decode cX0_send 63 = .ok (.return_, 1) := by decide +kernel
theorem dX1_init_0 : decode cX1_init 0 = .ok (.aload_n 0, 1) := by decide +kernel
theorem dX1_init_1 : decode cX1_init 1 = .ok (.invokespecial 3, 3) := by decide +kernel
theorem dX1_init_4 : decode cX1_init 4 = .ok (.aload_n 0, 1) := by decide +kernel
theorem dX1_init_5 : decode cX1_init 5 = .ok (.sipush 512, 3) := by decide +kernel
theorem dX1_init_8 : decode cX1_init 8 = .ok (.newarray .int, 2) := by decide +kernel
theorem dX1_init_10 : decode cX1_init 10 = .ok (.putfield 11, 3) := by decide +kernel
theorem dX1_init_13 : decode cX1_init 13 = .ok (.aload_n 0, 1) := by decide +kernel
theorem dX1_init_14 : decode cX1_init 14 = .ok (.bipush 16, 2) := by decide +kernel
theorem dX1_init_16 : decode cX1_init 16 = .ok (.newarray .int, 2) := by decide +kernel
theorem dX1_init_18 : decode cX1_init 18 = .ok (.putfield 15, 3) := by decide +kernel
theorem dX1_init_21 : decode cX1_init 21 = .ok (.return_, 1) := by decide +kernel
theorem dX1_op_0 : decode cX1_op 0 = .ok (.iload_n 0, 1) := by decide +kernel
theorem dX1_op_1 : decode cX1_op 1 = .ok (.bipush 24, 2) := by decide +kernel
theorem dX1_op_3 : decode cX1_op 3 = .ok (.iushr, 1) := by decide +kernel
theorem dX1_op_4 : decode cX1_op 4 = .ok (.ireturn, 1) := by decide +kernel
theorem dX1_a_0 : decode cX1_a 0 = .ok (.iload_n 0, 1) := by decide +kernel
theorem dX1_a_1 : decode cX1_a 1 = .ok (.bipush 16, 2) := by decide +kernel
theorem dX1_a_3 : decode cX1_a 3 = .ok (.iushr, 1) := by decide +kernel
theorem dX1_a_4 : decode cX1_a 4 = .ok (.sipush 255, 3) := by decide +kernel
theorem dX1_a_7 : decode cX1_a 7 = .ok (.iand, 1) := by decide +kernel
theorem dX1_a_8 : decode cX1_a 8 = .ok (.ireturn, 1) := by decide +kernel
theorem dX1_b_0 : decode cX1_b 0 = .ok (.iload_n 0, 1) := by decide +kernel
theorem dX1_b_1 : decode cX1_b 1 = .ok (.bipush 8, 2) := by decide +kernel
theorem dX1_b_3 : decode cX1_b 3 = .ok (.iushr, 1) := by decide +kernel
theorem dX1_b_4 : decode cX1_b 4 = .ok (.sipush 255, 3) := by decide +kernel
theorem dX1_b_7 : decode cX1_b 7 = .ok (.iand, 1) := by decide +kernel
theorem dX1_b_8 : decode cX1_b 8 = .ok (.ireturn, 1) := by decide +kernel
theorem dX1_c_0 : decode cX1_c 0 = .ok (.iload_n 0, 1) := by decide +kernel
theorem dX1_c_1 : decode cX1_c 1 = .ok (.sipush 255, 3) := by decide +kernel
theorem dX1_c_4 : decode cX1_c 4 = .ok (.iand, 1) := by decide +kernel
theorem dX1_c_5 : decode cX1_c 5 = .ok (.ireturn, 1) := by decide +kernel
theorem dX1_costOf_0 : decode cX1_costOf 0 = .ok (.iload_n 0, 1) := by decide +kernel
theorem dX1_costOf_1 : decode cX1_costOf 1 = .ok (.invokestatic 18, 3) := by decide +kernel
theorem dX1_costOf_4 : decode cX1_costOf 4 = .ok (.istore_n 1, 1) := by decide +kernel
theorem dX1_costOf_5 : decode cX1_costOf 5 = .ok (.iload_n 1, 1) := by decide +kernel
theorem dX1_costOf_6 : decode cX1_costOf 6 = .ok (.bipush 17, 2) := by decide +kernel
theorem dX1_costOf_8 : decode cX1_costOf 8 = .ok (.if_icmp .le 7, 3) := by decide +kernel
theorem dX1_costOf_11 : decode cX1_costOf 11 = .ok (.iconst 0, 1) := by decide +kernel
theorem dX1_costOf_12 : decode cX1_costOf 12 = .ok (.goto 8, 3) := by decide +kernel
theorem dX1_costOf_15 : decode cX1_costOf 15 = .ok (.getstatic 22, 3) := by decide +kernel
theorem dX1_costOf_18 : decode cX1_costOf 18 = .ok (.iload_n 1, 1) := by decide +kernel
theorem dX1_costOf_19 : decode cX1_costOf 19 = .ok (.iaload, 1) := by decide +kernel
theorem dX1_costOf_20 : decode cX1_costOf 20 = .ok (.ireturn, 1) := by decide +kernel
theorem dX1_put_0 : decode cX1_put 0 = .ok (.aload_n 0, 1) := by decide +kernel
theorem dX1_put_1 : decode cX1_put 1 = .ok (.getfield 25, 3) := by decide +kernel
theorem dX1_put_4 : decode cX1_put 4 = .ok (.ifCond .ne 13, 3) := by decide +kernel
theorem dX1_put_7 : decode cX1_put 7 = .ok (.iload_n 1, 1) := by decide +kernel
theorem dX1_put_8 : decode cX1_put 8 = .ok (.ifCond .lt 9, 3) := by decide +kernel
theorem dX1_put_11 : decode cX1_put 11 = .ok (.iload_n 1, 1) := by decide +kernel
theorem dX1_put_12 : decode cX1_put 12 = .ok (.bipush 16, 2) := by decide +kernel
theorem dX1_put_14 : decode cX1_put 14 = .ok (.if_icmp .lt 5, 3) := by decide +kernel
theorem dX1_put_17 : decode cX1_put 17 = .ok (.iconst 0, 1) := by decide +kernel
theorem dX1_put_18 : decode cX1_put 18 = .ok (.ireturn, 1) := by decide +kernel
theorem dX1_put_19 : decode cX1_put 19 = .ok (.iload_n 2, 1) := by decide +kernel
theorem dX1_put_20 : decode cX1_put 20 = .ok (.ifCond .lt 19, 3) := by decide +kernel
theorem dX1_put_23 : decode cX1_put 23 = .ok (.iload_n 2, 1) := by decide +kernel
theorem dX1_put_24 : decode cX1_put 24 = .ok (.bipush 32, 2) := by decide +kernel
theorem dX1_put_26 : decode cX1_put 26 = .ok (.if_icmp .ge 13, 3) := by decide +kernel
theorem dX1_put_29 : decode cX1_put 29 = .ok (.iload_n 2, 1) := by decide +kernel
theorem dX1_put_30 : decode cX1_put 30 = .ok (.aload_n 0, 1) := by decide +kernel
theorem dX1_put_31 : decode cX1_put 31 = .ok (.getfield 15, 3) := by decide +kernel
theorem dX1_put_34 : decode cX1_put 34 = .ok (.iload_n 1, 1) := by decide +kernel
theorem dX1_put_35 : decode cX1_put 35 = .ok (.iaload, 1) := by decide +kernel
theorem dX1_put_36 : decode cX1_put 36 = .ok (.if_icmp .le 5, 3) := by decide +kernel
theorem dX1_put_39 : decode cX1_put 39 = .ok (.iconst 0, 1) := by decide +kernel
theorem dX1_put_40 : decode cX1_put 40 = .ok (.ireturn, 1) := by decide +kernel
theorem dX1_put_41 : decode cX1_put 41 = .ok (.aload_n 0, 1) := by decide +kernel
theorem dX1_put_42 : decode cX1_put 42 = .ok (.getfield 11, 3) := by decide +kernel
theorem dX1_put_45 : decode cX1_put 45 = .ok (.iload_n 1, 1) := by decide +kernel
theorem dX1_put_46 : decode cX1_put 46 = .ok (.bipush 32, 2) := by decide +kernel
theorem dX1_put_48 : decode cX1_put 48 = .ok (.imul, 1) := by decide +kernel
theorem dX1_put_49 : decode cX1_put 49 = .ok (.iload_n 2, 1) := by decide +kernel
theorem dX1_put_50 : decode cX1_put 50 = .ok (.iadd, 1) := by decide +kernel
theorem dX1_put_51 : decode cX1_put 51 = .ok (.iload_n 3, 1) := by decide +kernel
theorem dX1_put_52 : decode cX1_put 52 = .ok (.iastore, 1) := by decide +kernel
theorem dX1_put_53 : decode cX1_put 53 = .ok (.aload_n 0, 1) := by decide +kernel
theorem dX1_put_54 : decode cX1_put 54 = .ok (.getfield 15, 3) := by decide +kernel
theorem dX1_put_57 : decode cX1_put 57 = .ok (.iload_n 1, 1) := by decide +kernel
theorem dX1_put_58 : decode cX1_put 58 = .ok (.aload_n 0, 1) := by decide +kernel
theorem dX1_put_59 : decode cX1_put 59 = .ok (.getfield 15, 3) := by decide +kernel
theorem dX1_put_62 : decode cX1_put 62 = .ok (.iload_n 1, 1) := by decide +kernel
theorem dX1_put_63 : decode cX1_put 63 = .ok (.iaload, 1) := by decide +kernel
theorem dX1_put_64 : decode cX1_put 64 = .ok (.iload_n 2, 1) := by decide +kernel
theorem dX1_put_65 : decode cX1_put 65 = .ok (.iconst 1, 1) := by decide +kernel
theorem dX1_put_66 : decode cX1_put 66 = .ok (.iadd, 1) := by decide +kernel
theorem dX1_put_67 : decode cX1_put 67 = .ok (.invokestatic 29, 3) := by decide +kernel
theorem dX1_put_70 : decode cX1_put 70 = .ok (.iastore, 1) := by decide +kernel
theorem dX1_put_71 : decode cX1_put 71 = .ok (.iconst 1, 1) := by decide +kernel
theorem dX1_put_72 : decode cX1_put 72 = .ok (.ireturn, 1) := by decide +kernel
theorem dX1_lengthOf_0 : decode cX1_lengthOf 0 = .ok (.iload_n 1, 1) := by decide +kernel
theorem dX1_lengthOf_1 : decode cX1_lengthOf 1 = .ok (.ifCond .lt 9, 3) := by decide +kernel
theorem dX1_lengthOf_4 : decode cX1_lengthOf 4 = .ok (.iload_n 1, 1) := by decide +kernel
theorem dX1_lengthOf_5 : decode cX1_lengthOf 5 = .ok (.bipush 16, 2) := by decide +kernel
theorem dX1_lengthOf_7 : decode cX1_lengthOf 7 = .ok (.if_icmp .lt 7, 3) := by decide +kernel
theorem dX1_lengthOf_10 : decode cX1_lengthOf 10 = .ok (.iconst 0, 1) := by decide +kernel
theorem dX1_lengthOf_11 : decode cX1_lengthOf 11 = .ok (.goto 9, 3) := by decide +kernel
theorem dX1_lengthOf_14 : decode cX1_lengthOf 14 = .ok (.aload_n 0, 1) := by decide +kernel
theorem dX1_lengthOf_15 : decode cX1_lengthOf 15 = .ok (.getfield 15, 3) := by decide +kernel
theorem dX1_lengthOf_18 : decode cX1_lengthOf 18 = .ok (.iload_n 1, 1) := by decide +kernel
theorem dX1_lengthOf_19 : decode cX1_lengthOf 19 = .ok (.iaload, 1) := by decide +kernel
theorem dX1_lengthOf_20 : decode cX1_lengthOf 20 = .ok (.ireturn, 1) := by decide +kernel
theorem dX1_wordAt_0 : decode cX1_wordAt 0 = .ok (.iload_n 2, 1) := by decide +kernel
theorem dX1_wordAt_1 : decode cX1_wordAt 1 = .ok (.ifCond .lt 12, 3) := by decide +kernel
theorem dX1_wordAt_4 : decode cX1_wordAt 4 = .ok (.iload_n 2, 1) := by decide +kernel
theorem dX1_wordAt_5 : decode cX1_wordAt 5 = .ok (.aload_n 0, 1) := by decide +kernel
theorem dX1_wordAt_6 : decode cX1_wordAt 6 = .ok (.iload_n 1, 1) := by decide +kernel
theorem dX1_wordAt_7 : decode cX1_wordAt 7 = .ok (.invokevirtual 35, 3) := by decide +kernel
theorem dX1_wordAt_10 : decode cX1_wordAt 10 = .ok (.if_icmp .lt 7, 3) := by decide +kernel
theorem dX1_wordAt_13 : decode cX1_wordAt 13 = .ok (.iconst 0, 1) := by decide +kernel
theorem dX1_wordAt_14 : decode cX1_wordAt 14 = .ok (.goto 14, 3) := by decide +kernel
theorem dX1_wordAt_17 : decode cX1_wordAt 17 = .ok (.aload_n 0, 1) := by decide +kernel
theorem dX1_wordAt_18 : decode cX1_wordAt 18 = .ok (.getfield 11, 3) := by decide +kernel
theorem dX1_wordAt_21 : decode cX1_wordAt 21 = .ok (.iload_n 1, 1) := by decide +kernel
theorem dX1_wordAt_22 : decode cX1_wordAt 22 = .ok (.bipush 32, 2) := by decide +kernel
theorem dX1_wordAt_24 : decode cX1_wordAt 24 = .ok (.imul, 1) := by decide +kernel
theorem dX1_wordAt_25 : decode cX1_wordAt 25 = .ok (.iload_n 2, 1) := by decide +kernel
theorem dX1_wordAt_26 : decode cX1_wordAt 26 = .ok (.iadd, 1) := by decide +kernel
theorem dX1_wordAt_27 : decode cX1_wordAt 27 = .ok (.iaload, 1) := by decide +kernel
theorem dX1_wordAt_28 : decode cX1_wordAt 28 = .ok (.ireturn, 1) := by decide +kernel
theorem dX1_close_0 : decode cX1_close 0 = .ok (.aload_n 0, 1) := by decide +kernel
theorem dX1_close_1 : decode cX1_close 1 = .ok (.getfield 25, 3) := by decide +kernel
theorem dX1_close_4 : decode cX1_close 4 = .ok (.ifCond .eq 5, 3) := by decide +kernel
theorem dX1_close_7 : decode cX1_close 7 = .ok (.iconst 0, 1) := by decide +kernel
theorem dX1_close_8 : decode cX1_close 8 = .ok (.ireturn, 1) := by decide +kernel
theorem dX1_close_9 : decode cX1_close 9 = .ok (.aload_n 0, 1) := by decide +kernel
theorem dX1_close_10 : decode cX1_close 10 = .ok (.invokevirtual 38, 3) := by decide +kernel
theorem dX1_close_13 : decode cX1_close 13 = .ok (.istore_n 1, 1) := by decide +kernel
theorem dX1_close_14 : decode cX1_close 14 = .ok (.aload_n 0, 1) := by decide +kernel
theorem dX1_close_15 : decode cX1_close 15 = .ok (.iload_n 1, 1) := by decide +kernel
theorem dX1_close_16 : decode cX1_close 16 = .ok (.iconst (-1), 1) := by decide +kernel
theorem dX1_close_17 : decode cX1_close 17 = .ok (.if_icmp .ne 7, 3) := by decide +kernel
theorem dX1_close_20 : decode cX1_close 20 = .ok (.iconst 1, 1) := by decide +kernel
theorem dX1_close_21 : decode cX1_close 21 = .ok (.goto 4, 3) := by decide +kernel
theorem dX1_close_24 : decode cX1_close 24 = .ok (.iconst 0, 1) := by decide +kernel
theorem dX1_close_25 : decode cX1_close 25 = .ok (.putfield 25, 3) := by decide +kernel
theorem dX1_close_28 : decode cX1_close 28 = .ok (.iload_n 1, 1) := by decide +kernel
theorem dX1_close_29 : decode cX1_close 29 = .ok (.iconst 1, 1) := by decide +kernel
theorem dX1_close_30 : decode cX1_close 30 = .ok (.iadd, 1) := by decide +kernel
theorem dX1_close_31 : decode cX1_close 31 = .ok (.ireturn, 1) := by decide +kernel
theorem dX1_firstFault_0 : decode cX1_firstFault 0 = .ok (.aload_n 0, 1) := by decide +kernel
theorem dX1_firstFault_1 : decode cX1_firstFault 1 = .ok (.getfield 15, 3) := by decide +kernel
theorem dX1_firstFault_4 : decode cX1_firstFault 4 = .ok (.iconst 0, 1) := by decide +kernel
theorem dX1_firstFault_5 : decode cX1_firstFault 5 = .ok (.iaload, 1) := by decide +kernel
theorem dX1_firstFault_6 : decode cX1_firstFault 6 = .ok (.ifCond .ne 5, 3) := by decide +kernel
theorem dX1_firstFault_9 : decode cX1_firstFault 9 = .ok (.iconst 0, 1) := by decide +kernel
theorem dX1_firstFault_10 : decode cX1_firstFault 10 = .ok (.ireturn, 1) := by decide +kernel
theorem dX1_firstFault_11 : decode cX1_firstFault 11 = .ok (.iconst 0, 1) := by decide +kernel
theorem dX1_firstFault_12 : decode cX1_firstFault 12 = .ok (.istore_n 1, 1) := by decide +kernel
theorem dX1_firstFault_13 : decode cX1_firstFault 13 = .ok (.iload_n 1, 1) := by decide +kernel
theorem dX1_firstFault_14 : decode cX1_firstFault 14 = .ok (.bipush 16, 2) := by decide +kernel
theorem dX1_firstFault_16 : decode cX1_firstFault 16 = .ok (.if_icmp .ge 56, 3) := by decide +kernel
theorem dX1_firstFault_19 : decode cX1_firstFault 19 = .ok (.iconst 0, 1) := by decide +kernel
theorem dX1_firstFault_20 : decode cX1_firstFault 20 = .ok (.istore_n 2, 1) := by decide +kernel
theorem dX1_firstFault_21 : decode cX1_firstFault 21 = .ok (.iload_n 2, 1) := by decide +kernel
theorem dX1_firstFault_22 : decode cX1_firstFault 22 = .ok (.aload_n 0, 1) := by decide +kernel
theorem dX1_firstFault_23 : decode cX1_firstFault 23 = .ok (.getfield 15, 3) := by decide +kernel
theorem dX1_firstFault_26 : decode cX1_firstFault 26 = .ok (.iload_n 1, 1) := by decide +kernel
theorem dX1_firstFault_27 : decode cX1_firstFault 27 = .ok (.iaload, 1) := by decide +kernel
theorem dX1_firstFault_28 : decode cX1_firstFault 28 = .ok (.if_icmp .ge 38, 3) := by decide +kernel
theorem dX1_firstFault_31 : decode cX1_firstFault 31 = .ok (.iload_n 1, 1) := by decide +kernel
theorem dX1_firstFault_32 : decode cX1_firstFault 32 = .ok (.bipush 32, 2) := by decide +kernel
theorem dX1_firstFault_34 : decode cX1_firstFault 34 = .ok (.imul, 1) := by decide +kernel
theorem dX1_firstFault_35 : decode cX1_firstFault 35 = .ok (.iload_n 2, 1) := by decide +kernel
theorem dX1_firstFault_36 : decode cX1_firstFault 36 = .ok (.iadd, 1) := by decide +kernel
theorem dX1_firstFault_37 : decode cX1_firstFault 37 = .ok (.istore_n 3, 1) := by decide +kernel
theorem dX1_firstFault_38 : decode cX1_firstFault 38 = .ok (.aload_n 0, 1) := by decide +kernel
theorem dX1_firstFault_39 : decode cX1_firstFault 39 = .ok (.aload_n 0, 1) := by decide +kernel
theorem dX1_firstFault_40 : decode cX1_firstFault 40 = .ok (.getfield 11, 3) := by decide +kernel
theorem dX1_firstFault_43 : decode cX1_firstFault 43 = .ok (.iload_n 3, 1) := by decide +kernel
theorem dX1_firstFault_44 : decode cX1_firstFault 44 = .ok (.iaload, 1) := by decide +kernel
theorem dX1_firstFault_45 : decode cX1_firstFault 45 = .ok (.iload_n 2, 1) := by decide +kernel
theorem dX1_firstFault_46 : decode cX1_firstFault 46 = .ok (.aload_n 0, 1) := by decide +kernel
theorem dX1_firstFault_47 : decode cX1_firstFault 47 = .ok (.getfield 15, 3) := by decide +kernel
theorem dX1_firstFault_50 : decode cX1_firstFault 50 = .ok (.iload_n 1, 1) := by decide +kernel
theorem dX1_firstFault_51 : decode cX1_firstFault 51 = .ok (.iaload, 1) := by decide +kernel
theorem dX1_firstFault_52 : decode cX1_firstFault 52 = .ok (.invokevirtual 42, 3) := by decide +kernel
theorem dX1_firstFault_55 : decode cX1_firstFault 55 = .ok (.ifCond .eq 5, 3) := by decide +kernel
theorem dX1_firstFault_58 : decode cX1_firstFault 58 = .ok (.iload_n 3, 1) := by decide +kernel
theorem dX1_firstFault_59 : decode cX1_firstFault 59 = .ok (.ireturn, 1) := by decide +kernel
theorem dX1_firstFault_60 : decode cX1_firstFault 60 = .ok (.iinc 2 1, 3) := by decide +kernel
theorem dX1_firstFault_63 : decode cX1_firstFault 63 = .ok (.goto (-42), 3) := by decide +kernel
theorem dX1_firstFault_66 : decode cX1_firstFault 66 = .ok (.iinc 1 1, 3) := by decide +kernel
theorem dX1_firstFault_69 : decode cX1_firstFault 69 = .ok (.goto (-56), 3) := by decide +kernel
theorem dX1_firstFault_72 : decode cX1_firstFault 72 = .ok (.iconst (-1), 1) := by decide +kernel
theorem dX1_firstFault_73 : decode cX1_firstFault 73 = .ok (.ireturn, 1) := by decide +kernel
theorem dX1_isFault_0 : decode cX1_isFault 0 = .ok (.iload_n 1, 1) := by decide +kernel
theorem dX1_isFault_1 : decode cX1_isFault 1 = .ok (.invokestatic 18, 3) := by decide +kernel
theorem dX1_isFault_4 : decode cX1_isFault 4 = .ok (.istore 4, 2) := by decide +kernel
theorem dX1_isFault_6 : decode cX1_isFault 6 = .ok (.iload 4, 2) := by decide +kernel
theorem dX1_isFault_8 : decode cX1_isFault 8 = .ok (.bipush 17, 2) := by decide +kernel
theorem dX1_isFault_10 : decode cX1_isFault 10 = .ok (.if_icmp .le 5, 3) := by decide +kernel
theorem dX1_isFault_13 : decode cX1_isFault 13 = .ok (.iconst 1, 1) := by decide +kernel
theorem dX1_isFault_14 : decode cX1_isFault 14 = .ok (.ireturn, 1) := by decide +kernel
theorem dX1_isFault_15 : decode cX1_isFault 15 = .ok (.iload_n 1, 1) := by decide +kernel
theorem dX1_isFault_16 : decode cX1_isFault 16 = .ok (.invokestatic 46, 3) := by decide +kernel
theorem dX1_isFault_19 : decode cX1_isFault 19 = .ok (.getstatic 49, 3) := by decide +kernel
theorem dX1_isFault_22 : decode cX1_isFault 22 = .ok (.iload 4, 2) := by decide +kernel
theorem dX1_isFault_24 : decode cX1_isFault 24 = .ok (.iaload, 1) := by decide +kernel
theorem dX1_isFault_25 : decode cX1_isFault 25 = .ok (.if_icmp .gt 29, 3) := by decide +kernel
theorem dX1_isFault_28 : decode cX1_isFault 28 = .ok (.iload_n 1, 1) := by decide +kernel
theorem dX1_isFault_29 : decode cX1_isFault 29 = .ok (.invokestatic 52, 3) := by decide +kernel
theorem dX1_isFault_32 : decode cX1_isFault 32 = .ok (.getstatic 55, 3) := by decide +kernel
theorem dX1_isFault_35 : decode cX1_isFault 35 = .ok (.iload 4, 2) := by decide +kernel
theorem dX1_isFault_37 : decode cX1_isFault 37 = .ok (.iaload, 1) := by decide +kernel
theorem dX1_isFault_38 : decode cX1_isFault 38 = .ok (.if_icmp .gt 16, 3) := by decide +kernel
theorem dX1_isFault_41 : decode cX1_isFault 41 = .ok (.iload_n 1, 1) := by decide +kernel
theorem dX1_isFault_42 : decode cX1_isFault 42 = .ok (.invokestatic 58, 3) := by decide +kernel
theorem dX1_isFault_45 : decode cX1_isFault 45 = .ok (.getstatic 61, 3) := by decide +kernel
theorem dX1_isFault_48 : decode cX1_isFault 48 = .ok (.iload 4, 2) := by decide +kernel
theorem dX1_isFault_50 : decode cX1_isFault 50 = .ok (.iaload, 1) := by decide +kernel
theorem dX1_isFault_51 : decode cX1_isFault 51 = .ok (.if_icmp .le 5, 3) := by decide +kernel
theorem dX1_isFault_54 : decode cX1_isFault 54 = .ok (.iconst 1, 1) := by decide +kernel
theorem dX1_isFault_55 : decode cX1_isFault 55 = .ok (.ireturn, 1) := by decide +kernel
theorem dX1_isFault_56 : decode cX1_isFault 56 = .ok (.iload 4, 2) := by decide +kernel
theorem dX1_isFault_58 : decode cX1_isFault 58 = .ok (.ifCond .ne 20, 3) := by decide +kernel
theorem dX1_isFault_61 : decode cX1_isFault 61 = .ok (.aload_n 0, 1) := by decide +kernel
theorem dX1_isFault_62 : decode cX1_isFault 62 = .ok (.iload_n 1, 1) := by decide +kernel
theorem dX1_isFault_63 : decode cX1_isFault 63 = .ok (.invokestatic 46, 3) := by decide +kernel
theorem dX1_isFault_66 : decode cX1_isFault 66 = .ok (.invokevirtual 35, 3) := by decide +kernel
theorem dX1_isFault_69 : decode cX1_isFault 69 = .ok (.ifCond .ne 7, 3) := by decide +kernel
theorem dX1_isFault_72 : decode cX1_isFault 72 = .ok (.iconst 1, 1) := by decide +kernel
theorem dX1_isFault_73 : decode cX1_isFault 73 = .ok (.goto 4, 3) := by decide +kernel
theorem dX1_isFault_76 : decode cX1_isFault 76 = .ok (.iconst 0, 1) := by decide +kernel
theorem dX1_isFault_77 : decode cX1_isFault 77 = .ok (.ireturn, 1) := by decide +kernel
theorem dX1_isFault_78 : decode cX1_isFault 78 = .ok (.iload 4, 2) := by decide +kernel
theorem dX1_isFault_80 : decode cX1_isFault 80 = .ok (.bipush 6, 2) := by decide +kernel
theorem dX1_isFault_82 : decode cX1_isFault 82 = .ok (.if_icmp .eq 10, 3) := by decide +kernel
theorem dX1_isFault_85 : decode cX1_isFault 85 = .ok (.iload 4, 2) := by decide +kernel
theorem dX1_isFault_87 : decode cX1_isFault 87 = .ok (.bipush 7, 2) := by decide +kernel
theorem dX1_isFault_89 : decode cX1_isFault 89 = .ok (.if_icmp .ne 13, 3) := by decide +kernel
theorem dX1_isFault_92 : decode cX1_isFault 92 = .ok (.iload_n 1, 1) := by decide +kernel
theorem dX1_isFault_93 : decode cX1_isFault 93 = .ok (.invokestatic 52, 3) := by decide +kernel
theorem dX1_isFault_96 : decode cX1_isFault 96 = .ok (.iload_n 3, 1) := by decide +kernel
theorem dX1_isFault_97 : decode cX1_isFault 97 = .ok (.if_icmp .lt 5, 3) := by decide +kernel
theorem dX1_isFault_100 : decode cX1_isFault 100 = .ok (.iconst 1, 1) := by decide +kernel
theorem dX1_isFault_101 : decode cX1_isFault 101 = .ok (.ireturn, 1) := by decide +kernel
theorem dX1_isFault_102 : decode cX1_isFault 102 = .ok (.iload_n 2, 1) := by decide +kernel
theorem dX1_isFault_103 : decode cX1_isFault 103 = .ok (.iload_n 3, 1) := by decide +kernel
theorem dX1_isFault_104 : decode cX1_isFault 104 = .ok (.iconst 1, 1) := by decide +kernel
theorem dX1_isFault_105 : decode cX1_isFault 105 = .ok (.isub, 1) := by decide +kernel
theorem dX1_isFault_106 : decode cX1_isFault 106 = .ok (.if_icmp .ne 14, 3) := by decide +kernel
theorem dX1_isFault_109 : decode cX1_isFault 109 = .ok (.iload 4, 2) := by decide +kernel
theorem dX1_isFault_111 : decode cX1_isFault 111 = .ok (.bipush 7, 2) := by decide +kernel
theorem dX1_isFault_113 : decode cX1_isFault 113 = .ok (.if_icmp .eq 7, 3) := by decide +kernel
theorem dX1_isFault_116 : decode cX1_isFault 116 = .ok (.iconst 1, 1) := by decide +kernel
theorem dX1_isFault_117 : decode cX1_isFault 117 = .ok (.goto 4, 3) := by decide +kernel
theorem dX1_isFault_120 : decode cX1_isFault 120 = .ok (.iconst 0, 1) := by decide +kernel
theorem dX1_isFault_121 : decode cX1_isFault 121 = .ok (.ireturn, 1) := by decide +kernel
theorem dX2_init_0 : decode cX2_init 0 = .ok (.aload_n 0, 1) := by decide +kernel
theorem dX2_init_1 : decode cX2_init 1 = .ok (.invokespecial 1, 3) := by decide +kernel
theorem dX2_init_4 : decode cX2_init 4 = .ok (.aload_n 0, 1) := by decide +kernel
theorem dX2_init_5 : decode cX2_init 5 = .ok (.aload_n 1, 1) := by decide +kernel
theorem dX2_init_6 : decode cX2_init 6 = .ok (.putfield 7, 3) := by decide +kernel
theorem dX2_init_9 : decode cX2_init 9 = .ok (.aload_n 0, 1) := by decide +kernel
theorem dX2_init_10 : decode cX2_init 10 = .ok (.bipush 40, 2) := by decide +kernel
theorem dX2_init_12 : decode cX2_init 12 = .ok (.newarray .int, 2) := by decide +kernel
theorem dX2_init_14 : decode cX2_init 14 = .ok (.putfield 13, 3) := by decide +kernel
theorem dX2_init_17 : decode cX2_init 17 = .ok (.aload_n 0, 1) := by decide +kernel
theorem dX2_init_18 : decode cX2_init 18 = .ok (.bipush 40, 2) := by decide +kernel
theorem dX2_init_20 : decode cX2_init 20 = .ok (.newarray .int, 2) := by decide +kernel
theorem dX2_init_22 : decode cX2_init 22 = .ok (.putfield 17, 3) := by decide +kernel
theorem dX2_init_25 : decode cX2_init 25 = .ok (.aload_n 0, 1) := by decide +kernel
theorem dX2_init_26 : decode cX2_init 26 = .ok (.sipush 164, 3) := by decide +kernel
theorem dX2_init_29 : decode cX2_init 29 = .ok (.newarray .int, 2) := by decide +kernel
theorem dX2_init_31 : decode cX2_init 31 = .ok (.putfield 22, 3) := by decide +kernel
theorem dX2_init_34 : decode cX2_init 34 = .ok (.return_, 1) := by decide +kernel
theorem dX2_clear_0 : decode cX2_clear 0 = .ok (.iconst 0, 1) := by decide +kernel
theorem dX2_clear_1 : decode cX2_clear 1 = .ok (.istore_n 1, 1) := by decide +kernel
theorem dX2_clear_2 : decode cX2_clear 2 = .ok (.iload_n 1, 1) := by decide +kernel
theorem dX2_clear_3 : decode cX2_clear 3 = .ok (.aload_n 0, 1) := by decide +kernel
theorem dX2_clear_4 : decode cX2_clear 4 = .ok (.getfield 25, 3) := by decide +kernel
theorem dX2_clear_7 : decode cX2_clear 7 = .ok (.if_icmp .ge 21, 3) := by decide +kernel
theorem dX2_clear_10 : decode cX2_clear 10 = .ok (.aload_n 0, 1) := by decide +kernel
theorem dX2_clear_11 : decode cX2_clear 11 = .ok (.getfield 22, 3) := by decide +kernel
theorem dX2_clear_14 : decode cX2_clear 14 = .ok (.aload_n 0, 1) := by decide +kernel
theorem dX2_clear_15 : decode cX2_clear 15 = .ok (.getfield 13, 3) := by decide +kernel
theorem dX2_clear_18 : decode cX2_clear 18 = .ok (.iload_n 1, 1) := by decide +kernel
theorem dX2_clear_19 : decode cX2_clear 19 = .ok (.iaload, 1) := by decide +kernel
theorem dX2_clear_20 : decode cX2_clear 20 = .ok (.iconst 0, 1) := by decide +kernel
theorem dX2_clear_21 : decode cX2_clear 21 = .ok (.iastore, 1) := by decide +kernel
theorem dX2_clear_22 : decode cX2_clear 22 = .ok (.iinc 1 1, 3) := by decide +kernel
theorem dX2_clear_25 : decode cX2_clear 25 = .ok (.goto (-23), 3) := by decide +kernel
theorem dX2_clear_28 : decode cX2_clear 28 = .ok (.aload_n 0, 1) := by decide +kernel
theorem dX2_clear_29 : decode cX2_clear 29 = .ok (.iconst 0, 1) := by decide +kernel
theorem dX2_clear_30 : decode cX2_clear 30 = .ok (.putfield 25, 3) := by decide +kernel
theorem dX2_clear_33 : decode cX2_clear 33 = .ok (.return_, 1) := by decide +kernel
theorem dX2_read_0 : decode cX2_read 0 = .ok (.aload_n 0, 1) := by decide +kernel
theorem dX2_read_1 : decode cX2_read 1 = .ok (.getfield 22, 3) := by decide +kernel
theorem dX2_read_4 : decode cX2_read 4 = .ok (.iload_n 1, 1) := by decide +kernel
theorem dX2_read_5 : decode cX2_read 5 = .ok (.iaload, 1) := by decide +kernel
theorem dX2_read_6 : decode cX2_read 6 = .ok (.iconst 1, 1) := by decide +kernel
theorem dX2_read_7 : decode cX2_read 7 = .ok (.isub, 1) := by decide +kernel
theorem dX2_read_8 : decode cX2_read 8 = .ok (.istore_n 2, 1) := by decide +kernel
theorem dX2_read_9 : decode cX2_read 9 = .ok (.iload_n 2, 1) := by decide +kernel
theorem dX2_read_10 : decode cX2_read 10 = .ok (.ifCond .lt 12, 3) := by decide +kernel
theorem dX2_read_13 : decode cX2_read 13 = .ok (.aload_n 0, 1) := by decide +kernel
theorem dX2_read_14 : decode cX2_read 14 = .ok (.getfield 17, 3) := by decide +kernel
theorem dX2_read_17 : decode cX2_read 17 = .ok (.iload_n 2, 1) := by decide +kernel
theorem dX2_read_18 : decode cX2_read 18 = .ok (.iaload, 1) := by decide +kernel
theorem dX2_read_19 : decode cX2_read 19 = .ok (.goto 12, 3) := by decide +kernel
theorem dX2_read_22 : decode cX2_read 22 = .ok (.aload_n 0, 1) := by decide +kernel
theorem dX2_read_23 : decode cX2_read 23 = .ok (.getfield 7, 3) := by decide +kernel
theorem dX2_read_26 : decode cX2_read 26 = .ok (.getfield 29, 3) := by decide +kernel
theorem dX2_read_29 : decode cX2_read 29 = .ok (.iload_n 1, 1) := by decide +kernel
theorem dX2_read_30 : decode cX2_read 30 = .ok (.iaload, 1) := by decide +kernel
theorem dX2_read_31 : decode cX2_read 31 = .ok (.ireturn, 1) := by decide +kernel
theorem dX2_hasRoomFor_0 : decode cX2_hasRoomFor 0 = .ok (.aload_n 0, 1) := by decide +kernel
theorem dX2_hasRoomFor_1 : decode cX2_hasRoomFor 1 = .ok (.getfield 22, 3) := by decide +kernel
theorem dX2_hasRoomFor_4 : decode cX2_hasRoomFor 4 = .ok (.iload_n 1, 1) := by decide +kernel
theorem dX2_hasRoomFor_5 : decode cX2_hasRoomFor 5 = .ok (.iaload, 1) := by decide +kernel
theorem dX2_hasRoomFor_6 : decode cX2_hasRoomFor 6 = .ok (.ifCond .ne 12, 3) := by decide +kernel
theorem dX2_hasRoomFor_9 : decode cX2_hasRoomFor 9 = .ok (.aload_n 0, 1) := by decide +kernel
theorem dX2_hasRoomFor_10 : decode cX2_hasRoomFor 10 = .ok (.getfield 25, 3) := by decide +kernel
theorem dX2_hasRoomFor_13 : decode cX2_hasRoomFor 13 = .ok (.bipush 38, 2) := by decide +kernel
theorem dX2_hasRoomFor_15 : decode cX2_hasRoomFor 15 = .ok (.if_icmp .ge 7, 3) := by decide +kernel
theorem dX2_hasRoomFor_18 : decode cX2_hasRoomFor 18 = .ok (.iconst 1, 1) := by decide +kernel
theorem dX2_hasRoomFor_19 : decode cX2_hasRoomFor 19 = .ok (.goto 4, 3) := by decide +kernel
theorem dX2_hasRoomFor_22 : decode cX2_hasRoomFor 22 = .ok (.iconst 0, 1) := by decide +kernel
theorem dX2_hasRoomFor_23 : decode cX2_hasRoomFor 23 = .ok (.ireturn, 1) := by decide +kernel
theorem dX2_hasRoomForBoth_0 : decode cX2_hasRoomForBoth 0 = .ok (.aload_n 0, 1) := by decide +kernel
theorem dX2_hasRoomForBoth_1 : decode cX2_hasRoomForBoth 1 = .ok (.getfield 22, 3) := by decide +kernel
theorem dX2_hasRoomForBoth_4 : decode cX2_hasRoomForBoth 4 = .ok (.iload_n 1, 1) := by decide +kernel
theorem dX2_hasRoomForBoth_5 : decode cX2_hasRoomForBoth 5 = .ok (.iaload, 1) := by decide +kernel
theorem dX2_hasRoomForBoth_6 : decode cX2_hasRoomForBoth 6 = .ok (.ifCond .ne 7, 3) := by decide +kernel
theorem dX2_hasRoomForBoth_9 : decode cX2_hasRoomForBoth 9 = .ok (.iconst 1, 1) := by decide +kernel
theorem dX2_hasRoomForBoth_10 : decode cX2_hasRoomForBoth 10 = .ok (.goto 4, 3) := by decide +kernel
theorem dX2_hasRoomForBoth_13 : decode cX2_hasRoomForBoth 13 = .ok (.iconst 0, 1) := by decide +kernel
theorem dX2_hasRoomForBoth_14 : decode cX2_hasRoomForBoth 14 = .ok (.aload_n 0, 1) := by decide +kernel
theorem dX2_hasRoomForBoth_15 : decode cX2_hasRoomForBoth 15 = .ok (.getfield 22, 3) := by decide +kernel
theorem dX2_hasRoomForBoth_18 : decode cX2_hasRoomForBoth 18 = .ok (.iload_n 2, 1) := by decide +kernel
theorem dX2_hasRoomForBoth_19 : decode cX2_hasRoomForBoth 19 = .ok (.iaload, 1) := by decide +kernel
theorem dX2_hasRoomForBoth_20 : decode cX2_hasRoomForBoth 20 = .ok (.ifCond .ne 7, 3) := by decide +kernel
theorem dX2_hasRoomForBoth_23 : decode cX2_hasRoomForBoth 23 = .ok (.iconst 1, 1) := by decide +kernel
theorem dX2_hasRoomForBoth_24 : decode cX2_hasRoomForBoth 24 = .ok (.goto 4, 3) := by decide +kernel
theorem dX2_hasRoomForBoth_27 : decode cX2_hasRoomForBoth 27 = .ok (.iconst 0, 1) := by decide +kernel
theorem dX2_hasRoomForBoth_28 : decode cX2_hasRoomForBoth 28 = .ok (.iadd, 1) := by decide +kernel
theorem dX2_hasRoomForBoth_29 : decode cX2_hasRoomForBoth 29 = .ok (.istore_n 3, 1) := by decide +kernel
theorem dX2_hasRoomForBoth_30 : decode cX2_hasRoomForBoth 30 = .ok (.aload_n 0, 1) := by decide +kernel
theorem dX2_hasRoomForBoth_31 : decode cX2_hasRoomForBoth 31 = .ok (.getfield 25, 3) := by decide +kernel
theorem dX2_hasRoomForBoth_34 : decode cX2_hasRoomForBoth 34 = .ok (.iload_n 3, 1) := by decide +kernel
theorem dX2_hasRoomForBoth_35 : decode cX2_hasRoomForBoth 35 = .ok (.iadd, 1) := by decide +kernel
theorem dX2_hasRoomForBoth_36 : decode cX2_hasRoomForBoth 36 = .ok (.bipush 38, 2) := by decide +kernel
theorem dX2_hasRoomForBoth_38 : decode cX2_hasRoomForBoth 38 = .ok (.if_icmp .gt 7, 3) := by decide +kernel
theorem dX2_hasRoomForBoth_41 : decode cX2_hasRoomForBoth 41 = .ok (.iconst 1, 1) := by decide +kernel
theorem dX2_hasRoomForBoth_42 : decode cX2_hasRoomForBoth 42 = .ok (.goto 4, 3) := by decide +kernel
theorem dX2_hasRoomForBoth_45 : decode cX2_hasRoomForBoth 45 = .ok (.iconst 0, 1) := by decide +kernel
theorem dX2_hasRoomForBoth_46 : decode cX2_hasRoomForBoth 46 = .ok (.ireturn, 1) := by decide +kernel
theorem dX2_write_0 : decode cX2_write 0 = .ok (.aload_n 0, 1) := by decide +kernel
theorem dX2_write_1 : decode cX2_write 1 = .ok (.getfield 22, 3) := by decide +kernel
theorem dX2_write_4 : decode cX2_write 4 = .ok (.iload_n 1, 1) := by decide +kernel
theorem dX2_write_5 : decode cX2_write 5 = .ok (.iaload, 1) := by decide +kernel
theorem dX2_write_6 : decode cX2_write 6 = .ok (.ifCond .ne 33, 3) := by decide +kernel
theorem dX2_write_9 : decode cX2_write 9 = .ok (.aload_n 0, 1) := by decide +kernel
theorem dX2_write_10 : decode cX2_write 10 = .ok (.getfield 13, 3) := by decide +kernel
theorem dX2_write_13 : decode cX2_write 13 = .ok (.aload_n 0, 1) := by decide +kernel
theorem dX2_write_14 : decode cX2_write 14 = .ok (.getfield 25, 3) := by decide +kernel
theorem dX2_write_17 : decode cX2_write 17 = .ok (.iload_n 1, 1) := by decide +kernel
theorem dX2_write_18 : decode cX2_write 18 = .ok (.iastore, 1) := by decide +kernel
theorem dX2_write_19 : decode cX2_write 19 = .ok (.aload_n 0, 1) := by decide +kernel
theorem dX2_write_20 : decode cX2_write 20 = .ok (.dup, 1) := by decide +kernel
theorem dX2_write_21 : decode cX2_write 21 = .ok (.getfield 25, 3) := by decide +kernel
theorem dX2_write_24 : decode cX2_write 24 = .ok (.iconst 1, 1) := by decide +kernel
theorem dX2_write_25 : decode cX2_write 25 = .ok (.iadd, 1) := by decide +kernel
theorem dX2_write_26 : decode cX2_write 26 = .ok (.putfield 25, 3) := by decide +kernel
theorem dX2_write_29 : decode cX2_write 29 = .ok (.aload_n 0, 1) := by decide +kernel
theorem dX2_write_30 : decode cX2_write 30 = .ok (.getfield 22, 3) := by decide +kernel
theorem dX2_write_33 : decode cX2_write 33 = .ok (.iload_n 1, 1) := by decide +kernel
theorem dX2_write_34 : decode cX2_write 34 = .ok (.aload_n 0, 1) := by decide +kernel
theorem dX2_write_35 : decode cX2_write 35 = .ok (.getfield 25, 3) := by decide +kernel
theorem dX2_write_38 : decode cX2_write 38 = .ok (.iastore, 1) := by decide +kernel
theorem dX2_write_39 : decode cX2_write 39 = .ok (.aload_n 0, 1) := by decide +kernel
theorem dX2_write_40 : decode cX2_write 40 = .ok (.getfield 17, 3) := by decide +kernel
theorem dX2_write_43 : decode cX2_write 43 = .ok (.aload_n 0, 1) := by decide +kernel
theorem dX2_write_44 : decode cX2_write 44 = .ok (.getfield 22, 3) := by decide +kernel
theorem dX2_write_47 : decode cX2_write 47 = .ok (.iload_n 1, 1) := by decide +kernel
theorem dX2_write_48 : decode cX2_write 48 = .ok (.iaload, 1) := by decide +kernel
theorem dX2_write_49 : decode cX2_write 49 = .ok (.iconst 1, 1) := by decide +kernel
theorem dX2_write_50 : decode cX2_write 50 = .ok (.isub, 1) := by decide +kernel
theorem dX2_write_51 : decode cX2_write 51 = .ok (.iload_n 2, 1) := by decide +kernel
theorem dX2_write_52 : decode cX2_write 52 = .ok (.iastore, 1) := by decide +kernel
theorem dX2_write_53 : decode cX2_write 53 = .ok (.return_, 1) := by decide +kernel
theorem dX2_close_0 : decode cX2_close 0 = .ok (.aload_n 0, 1) := by decide +kernel
theorem dX2_close_1 : decode cX2_close 1 = .ok (.getfield 13, 3) := by decide +kernel
theorem dX2_close_4 : decode cX2_close 4 = .ok (.aload_n 0, 1) := by decide +kernel
theorem dX2_close_5 : decode cX2_close 5 = .ok (.getfield 25, 3) := by decide +kernel
theorem dX2_close_8 : decode cX2_close 8 = .ok (.iconst 0, 1) := by decide +kernel
theorem dX2_close_9 : decode cX2_close 9 = .ok (.iastore, 1) := by decide +kernel
theorem dX2_close_10 : decode cX2_close 10 = .ok (.aload_n 0, 1) := by decide +kernel
theorem dX2_close_11 : decode cX2_close 11 = .ok (.getfield 17, 3) := by decide +kernel
theorem dX2_close_14 : decode cX2_close 14 = .ok (.aload_n 0, 1) := by decide +kernel
theorem dX2_close_15 : decode cX2_close 15 = .ok (.getfield 25, 3) := by decide +kernel
theorem dX2_close_18 : decode cX2_close 18 = .ok (.iload_n 1, 1) := by decide +kernel
theorem dX2_close_19 : decode cX2_close 19 = .ok (.iastore, 1) := by decide +kernel
theorem dX2_close_20 : decode cX2_close 20 = .ok (.aload_n 0, 1) := by decide +kernel
theorem dX2_close_21 : decode cX2_close 21 = .ok (.getfield 13, 3) := by decide +kernel
theorem dX2_close_24 : decode cX2_close 24 = .ok (.aload_n 0, 1) := by decide +kernel
theorem dX2_close_25 : decode cX2_close 25 = .ok (.getfield 25, 3) := by decide +kernel
theorem dX2_close_28 : decode cX2_close 28 = .ok (.iconst 1, 1) := by decide +kernel
theorem dX2_close_29 : decode cX2_close 29 = .ok (.iadd, 1) := by decide +kernel
theorem dX2_close_30 : decode cX2_close 30 = .ok (.iconst 1, 1) := by decide +kernel
theorem dX2_close_31 : decode cX2_close 31 = .ok (.iastore, 1) := by decide +kernel
theorem dX2_close_32 : decode cX2_close 32 = .ok (.aload_n 0, 1) := by decide +kernel
theorem dX2_close_33 : decode cX2_close 33 = .ok (.getfield 17, 3) := by decide +kernel
theorem dX2_close_36 : decode cX2_close 36 = .ok (.aload_n 0, 1) := by decide +kernel
theorem dX2_close_37 : decode cX2_close 37 = .ok (.getfield 25, 3) := by decide +kernel
theorem dX2_close_40 : decode cX2_close 40 = .ok (.iconst 1, 1) := by decide +kernel
theorem dX2_close_41 : decode cX2_close 41 = .ok (.iadd, 1) := by decide +kernel
theorem dX2_close_42 : decode cX2_close 42 = .ok (.iload_n 2, 1) := by decide +kernel
theorem dX2_close_43 : decode cX2_close 43 = .ok (.iastore, 1) := by decide +kernel
theorem dX2_close_44 : decode cX2_close 44 = .ok (.return_, 1) := by decide +kernel
theorem dX2_entries_0 : decode cX2_entries 0 = .ok (.aload_n 0, 1) := by decide +kernel
theorem dX2_entries_1 : decode cX2_entries 1 = .ok (.getfield 25, 3) := by decide +kernel
theorem dX2_entries_4 : decode cX2_entries 4 = .ok (.iconst 2, 1) := by decide +kernel
theorem dX2_entries_5 : decode cX2_entries 5 = .ok (.iadd, 1) := by decide +kernel
theorem dX2_entries_6 : decode cX2_entries 6 = .ok (.ireturn, 1) := by decide +kernel
theorem dX2_listWord_0 : decode cX2_listWord 0 = .ok (.iload_n 1, 1) := by decide +kernel
theorem dX2_listWord_1 : decode cX2_listWord 1 = .ok (.iconst 2, 1) := by decide +kernel
theorem dX2_listWord_2 : decode cX2_listWord 2 = .ok (.irem, 1) := by decide +kernel
theorem dX2_listWord_3 : decode cX2_listWord 3 = .ok (.ifCond .ne 14, 3) := by decide +kernel
theorem dX2_listWord_6 : decode cX2_listWord 6 = .ok (.aload_n 0, 1) := by decide +kernel
theorem dX2_listWord_7 : decode cX2_listWord 7 = .ok (.getfield 13, 3) := by decide +kernel
theorem dX2_listWord_10 : decode cX2_listWord 10 = .ok (.iload_n 1, 1) := by decide +kernel
theorem dX2_listWord_11 : decode cX2_listWord 11 = .ok (.iconst 2, 1) := by decide +kernel
theorem dX2_listWord_12 : decode cX2_listWord 12 = .ok (.idiv, 1) := by decide +kernel
theorem dX2_listWord_13 : decode cX2_listWord 13 = .ok (.iaload, 1) := by decide +kernel
theorem dX2_listWord_14 : decode cX2_listWord 14 = .ok (.goto 11, 3) := by decide +kernel
theorem dX2_listWord_17 : decode cX2_listWord 17 = .ok (.aload_n 0, 1) := by decide +kernel
theorem dX2_listWord_18 : decode cX2_listWord 18 = .ok (.getfield 17, 3) := by decide +kernel
theorem dX2_listWord_21 : decode cX2_listWord 21 = .ok (.iload_n 1, 1) := by decide +kernel
theorem dX2_listWord_22 : decode cX2_listWord 22 = .ok (.iconst 2, 1) := by decide +kernel
theorem dX2_listWord_23 : decode cX2_listWord 23 = .ok (.idiv, 1) := by decide +kernel
theorem dX2_listWord_24 : decode cX2_listWord 24 = .ok (.iaload, 1) := by decide +kernel
theorem dX2_listWord_25 : decode cX2_listWord 25 = .ok (.ireturn, 1) := by decide +kernel
theorem dX3_init_0 : decode cX3_init 0 = .ok (.aload_n 0, 1) := by decide +kernel
theorem dX3_init_1 : decode cX3_init 1 = .ok (.invokespecial 3, 3) := by decide +kernel
theorem dX3_init_4 : decode cX3_init 4 = .ok (.aload_n 0, 1) := by decide +kernel
theorem dX3_init_5 : decode cX3_init 5 = .ok (.bipush 64, 2) := by decide +kernel
theorem dX3_init_7 : decode cX3_init 7 = .ok (.newarray .int, 2) := by decide +kernel
theorem dX3_init_9 : decode cX3_init 9 = .ok (.putfield 11, 3) := by decide +kernel
theorem dX3_init_12 : decode cX3_init 12 = .ok (.aload_n 0, 1) := by decide +kernel
theorem dX3_init_13 : decode cX3_init 13 = .ok (.bipush 64, 2) := by decide +kernel
theorem dX3_init_15 : decode cX3_init 15 = .ok (.newarray .int, 2) := by decide +kernel
theorem dX3_init_17 : decode cX3_init 17 = .ok (.putfield 15, 3) := by decide +kernel
theorem dX3_init_20 : decode cX3_init 20 = .ok (.aload_n 0, 1) := by decide +kernel
theorem dX3_init_21 : decode cX3_init 21 = .ok (.bipush 64, 2) := by decide +kernel
theorem dX3_init_23 : decode cX3_init 23 = .ok (.newarray .int, 2) := by decide +kernel
theorem dX3_init_25 : decode cX3_init 25 = .ok (.putfield 18, 3) := by decide +kernel
theorem dX3_init_28 : decode cX3_init 28 = .ok (.return_, 1) := by decide +kernel
theorem dX3_putOnAir_0 : decode cX3_putOnAir 0 = .ok (.aload_n 0, 1) := by decide +kernel
theorem dX3_putOnAir_1 : decode cX3_putOnAir 1 = .ok (.getfield 21, 3) := by decide +kernel
theorem dX3_putOnAir_4 : decode cX3_putOnAir 4 = .ok (.bipush 63, 2) := by decide +kernel
theorem dX3_putOnAir_6 : decode cX3_putOnAir 6 = .ok (.iand, 1) := by decide +kernel
theorem dX3_putOnAir_7 : decode cX3_putOnAir 7 = .ok (.istore_n 3, 1) := by decide +kernel
theorem dX3_putOnAir_8 : decode cX3_putOnAir 8 = .ok (.aload_n 0, 1) := by decide +kernel
theorem dX3_putOnAir_9 : decode cX3_putOnAir 9 = .ok (.getfield 11, 3) := by decide +kernel
theorem dX3_putOnAir_12 : decode cX3_putOnAir 12 = .ok (.iload_n 3, 1) := by decide +kernel
theorem dX3_putOnAir_13 : decode cX3_putOnAir 13 = .ok (.iload_n 1, 1) := by decide +kernel
theorem dX3_putOnAir_14 : decode cX3_putOnAir 14 = .ok (.iastore, 1) := by decide +kernel
theorem dX3_putOnAir_15 : decode cX3_putOnAir 15 = .ok (.aload_n 0, 1) := by decide +kernel
theorem dX3_putOnAir_16 : decode cX3_putOnAir 16 = .ok (.getfield 15, 3) := by decide +kernel
theorem dX3_putOnAir_19 : decode cX3_putOnAir 19 = .ok (.iload_n 3, 1) := by decide +kernel
theorem dX3_putOnAir_20 : decode cX3_putOnAir 20 = .ok (.iload_n 2, 1) := by decide +kernel
theorem dX3_putOnAir_21 : decode cX3_putOnAir 21 = .ok (.iastore, 1) := by decide +kernel
theorem dX3_putOnAir_22 : decode cX3_putOnAir 22 = .ok (.aload_n 0, 1) := by decide +kernel
theorem dX3_putOnAir_23 : decode cX3_putOnAir 23 = .ok (.dup, 1) := by decide +kernel
theorem dX3_putOnAir_24 : decode cX3_putOnAir 24 = .ok (.getfield 21, 3) := by decide +kernel
theorem dX3_putOnAir_27 : decode cX3_putOnAir 27 = .ok (.iconst 1, 1) := by decide +kernel
theorem dX3_putOnAir_28 : decode cX3_putOnAir 28 = .ok (.iadd, 1) := by decide +kernel
theorem dX3_putOnAir_29 : decode cX3_putOnAir 29 = .ok (.putfield 21, 3) := by decide +kernel
theorem dX3_putOnAir_32 : decode cX3_putOnAir 32 = .ok (.iload_n 1, 1) := by decide +kernel
theorem dX3_putOnAir_33 : decode cX3_putOnAir 33 = .ok (.aload_n 0, 1) := by decide +kernel
theorem dX3_putOnAir_34 : decode cX3_putOnAir 34 = .ok (.getfield 25, 3) := by decide +kernel
theorem dX3_putOnAir_37 : decode cX3_putOnAir 37 = .ok (.if_icmp .ne 23, 3) := by decide +kernel
theorem dX3_putOnAir_40 : decode cX3_putOnAir 40 = .ok (.aload_n 0, 1) := by decide +kernel
theorem dX3_putOnAir_41 : decode cX3_putOnAir 41 = .ok (.getfield 18, 3) := by decide +kernel
theorem dX3_putOnAir_44 : decode cX3_putOnAir 44 = .ok (.iload_n 1, 1) := by decide +kernel
theorem dX3_putOnAir_45 : decode cX3_putOnAir 45 = .ok (.bipush 63, 2) := by decide +kernel
theorem dX3_putOnAir_47 : decode cX3_putOnAir 47 = .ok (.iand, 1) := by decide +kernel
theorem dX3_putOnAir_48 : decode cX3_putOnAir 48 = .ok (.iload_n 2, 1) := by decide +kernel
theorem dX3_putOnAir_49 : decode cX3_putOnAir 49 = .ok (.iastore, 1) := by decide +kernel
theorem dX3_putOnAir_50 : decode cX3_putOnAir 50 = .ok (.aload_n 0, 1) := by decide +kernel
theorem dX3_putOnAir_51 : decode cX3_putOnAir 51 = .ok (.dup, 1) := by decide +kernel
theorem dX3_putOnAir_52 : decode cX3_putOnAir 52 = .ok (.getfield 25, 3) := by decide +kernel
theorem dX3_putOnAir_55 : decode cX3_putOnAir 55 = .ok (.iconst 1, 1) := by decide +kernel
theorem dX3_putOnAir_56 : decode cX3_putOnAir 56 = .ok (.iadd, 1) := by decide +kernel
theorem dX3_putOnAir_57 : decode cX3_putOnAir 57 = .ok (.putfield 25, 3) := by decide +kernel
theorem dX3_putOnAir_60 : decode cX3_putOnAir 60 = .ok (.return_, 1) := by decide +kernel
theorem dX3_latest_0 : decode cX3_latest 0 = .ok (.iload_n 1, 1) := by decide +kernel
theorem dX3_latest_1 : decode cX3_latest 1 = .ok (.ifCond .lt 26, 3) := by decide +kernel
theorem dX3_latest_4 : decode cX3_latest 4 = .ok (.iload_n 1, 1) := by decide +kernel
theorem dX3_latest_5 : decode cX3_latest 5 = .ok (.bipush 64, 2) := by decide +kernel
theorem dX3_latest_7 : decode cX3_latest 7 = .ok (.if_icmp .ge 20, 3) := by decide +kernel
theorem dX3_latest_10 : decode cX3_latest 10 = .ok (.iload_n 1, 1) := by decide +kernel
theorem dX3_latest_11 : decode cX3_latest 11 = .ok (.aload_n 0, 1) := by decide +kernel
theorem dX3_latest_12 : decode cX3_latest 12 = .ok (.getfield 21, 3) := by decide +kernel
theorem dX3_latest_15 : decode cX3_latest 15 = .ok (.if_icmp .ge 12, 3) := by decide +kernel
theorem dX3_latest_18 : decode cX3_latest 18 = .ok (.iload_n 2, 1) := by decide +kernel
theorem dX3_latest_19 : decode cX3_latest 19 = .ok (.ifCond .lt 8, 3) := by decide +kernel
theorem dX3_latest_22 : decode cX3_latest 22 = .ok (.iload_n 2, 1) := by decide +kernel
theorem dX3_latest_23 : decode cX3_latest 23 = .ok (.iconst 1, 1) := by decide +kernel
theorem dX3_latest_24 : decode cX3_latest 24 = .ok (.if_icmp .le 5, 3) := by decide +kernel
theorem dX3_latest_27 : decode cX3_latest 27 = .ok (.iconst (-1), 1) := by decide +kernel
theorem dX3_latest_28 : decode cX3_latest 28 = .ok (.ireturn, 1) := by decide +kernel
theorem dX3_latest_29 : decode cX3_latest 29 = .ok (.aload_n 0, 1) := by decide +kernel
theorem dX3_latest_30 : decode cX3_latest 30 = .ok (.getfield 21, 3) := by decide +kernel
theorem dX3_latest_33 : decode cX3_latest 33 = .ok (.iconst 1, 1) := by decide +kernel
theorem dX3_latest_34 : decode cX3_latest 34 = .ok (.isub, 1) := by decide +kernel
theorem dX3_latest_35 : decode cX3_latest 35 = .ok (.iload_n 1, 1) := by decide +kernel
theorem dX3_latest_36 : decode cX3_latest 36 = .ok (.isub, 1) := by decide +kernel
theorem dX3_latest_37 : decode cX3_latest 37 = .ok (.bipush 63, 2) := by decide +kernel
theorem dX3_latest_39 : decode cX3_latest 39 = .ok (.iand, 1) := by decide +kernel
theorem dX3_latest_40 : decode cX3_latest 40 = .ok (.istore_n 3, 1) := by decide +kernel
theorem dX3_latest_41 : decode cX3_latest 41 = .ok (.iload_n 2, 1) := by decide +kernel
theorem dX3_latest_42 : decode cX3_latest 42 = .ok (.ifCond .ne 12, 3) := by decide +kernel
theorem dX3_latest_45 : decode cX3_latest 45 = .ok (.aload_n 0, 1) := by decide +kernel
theorem dX3_latest_46 : decode cX3_latest 46 = .ok (.getfield 11, 3) := by decide +kernel
theorem dX3_latest_49 : decode cX3_latest 49 = .ok (.iload_n 3, 1) := by decide +kernel
theorem dX3_latest_50 : decode cX3_latest 50 = .ok (.iaload, 1) := by decide +kernel
theorem dX3_latest_51 : decode cX3_latest 51 = .ok (.goto 9, 3) := by decide +kernel
theorem dX3_latest_54 : decode cX3_latest 54 = .ok (.aload_n 0, 1) := by decide +kernel
theorem dX3_latest_55 : decode cX3_latest 55 = .ok (.getfield 15, 3) := by decide +kernel
theorem dX3_latest_58 : decode cX3_latest 58 = .ok (.iload_n 3, 1) := by decide +kernel
theorem dX3_latest_59 : decode cX3_latest 59 = .ok (.iaload, 1) := by decide +kernel
theorem dX3_latest_60 : decode cX3_latest 60 = .ok (.ireturn, 1) := by decide +kernel
theorem dX3_farSideHas_0 : decode cX3_farSideHas 0 = .ok (.iload_n 1, 1) := by decide +kernel
theorem dX3_farSideHas_1 : decode cX3_farSideHas 1 = .ok (.ifCond .lt 26, 3) := by decide +kernel
theorem dX3_farSideHas_4 : decode cX3_farSideHas 4 = .ok (.iload_n 1, 1) := by decide +kernel
theorem dX3_farSideHas_5 : decode cX3_farSideHas 5 = .ok (.aload_n 0, 1) := by decide +kernel
theorem dX3_farSideHas_6 : decode cX3_farSideHas 6 = .ok (.getfield 25, 3) := by decide +kernel
theorem dX3_farSideHas_9 : decode cX3_farSideHas 9 = .ok (.if_icmp .ge 18, 3) := by decide +kernel
theorem dX3_farSideHas_12 : decode cX3_farSideHas 12 = .ok (.iload_n 1, 1) := by decide +kernel
theorem dX3_farSideHas_13 : decode cX3_farSideHas 13 = .ok (.aload_n 0, 1) := by decide +kernel
theorem dX3_farSideHas_14 : decode cX3_farSideHas 14 = .ok (.getfield 25, 3) := by decide +kernel
theorem dX3_farSideHas_17 : decode cX3_farSideHas 17 = .ok (.bipush 64, 2) := by decide +kernel
theorem dX3_farSideHas_19 : decode cX3_farSideHas 19 = .ok (.isub, 1) := by decide +kernel
theorem dX3_farSideHas_20 : decode cX3_farSideHas 20 = .ok (.if_icmp .lt 7, 3) := by decide +kernel
theorem dX3_farSideHas_23 : decode cX3_farSideHas 23 = .ok (.iconst 1, 1) := by decide +kernel
theorem dX3_farSideHas_24 : decode cX3_farSideHas 24 = .ok (.goto 4, 3) := by decide +kernel
theorem dX3_farSideHas_27 : decode cX3_farSideHas 27 = .ok (.iconst 0, 1) := by decide +kernel
theorem dX3_farSideHas_28 : decode cX3_farSideHas 28 = .ok (.ireturn, 1) := by decide +kernel
theorem dX3_payloadOfFarSide_0 : decode cX3_payloadOfFarSide 0 = .ok (.aload_n 0, 1) := by decide +kernel
theorem dX3_payloadOfFarSide_1 : decode cX3_payloadOfFarSide 1 = .ok (.getfield 18, 3) := by decide +kernel
theorem dX3_payloadOfFarSide_4 : decode cX3_payloadOfFarSide 4 = .ok (.iload_n 1, 1) := by decide +kernel
theorem dX3_payloadOfFarSide_5 : decode cX3_payloadOfFarSide 5 = .ok (.bipush 63, 2) := by decide +kernel
theorem dX3_payloadOfFarSide_7 : decode cX3_payloadOfFarSide 7 = .ok (.iand, 1) := by decide +kernel
theorem dX3_payloadOfFarSide_8 : decode cX3_payloadOfFarSide 8 = .ok (.iaload, 1) := by decide +kernel
theorem dX3_payloadOfFarSide_9 : decode cX3_payloadOfFarSide 9 = .ok (.ireturn, 1) := by decide +kernel
theorem dX4_init_0 : decode cX4_init 0 = .ok (.aload_n 0, 1) := by decide +kernel
theorem dX4_init_1 : decode cX4_init 1 = .ok (.invokespecial 1, 3) := by decide +kernel
theorem dX4_init_4 : decode cX4_init 4 = .ok (.aload_n 0, 1) := by decide +kernel
theorem dX4_init_5 : decode cX4_init 5 = .ok (.sipush 164, 3) := by decide +kernel
theorem dX4_init_8 : decode cX4_init 8 = .ok (.newarray .int, 2) := by decide +kernel
theorem dX4_init_10 : decode cX4_init 10 = .ok (.putfield 9, 3) := by decide +kernel
theorem dX4_init_13 : decode cX4_init 13 = .ok (.aload_n 0, 1) := by decide +kernel
theorem dX4_init_14 : decode cX4_init 14 = .ok (.sipush 164, 3) := by decide +kernel
theorem dX4_init_17 : decode cX4_init 17 = .ok (.newarray .int, 2) := by decide +kernel
theorem dX4_init_19 : decode cX4_init 19 = .ok (.putfield 13, 3) := by decide +kernel
theorem dX4_init_22 : decode cX4_init 22 = .ok (.return_, 1) := by decide +kernel
theorem dX4_payloadOf_0 : decode cX4_payloadOf 0 = .ok (.bipush 68, 2) := by decide +kernel
theorem dX4_payloadOf_2 : decode cX4_payloadOf 2 = .ok (.iload_n 0, 1) := by decide +kernel
theorem dX4_payloadOf_3 : decode cX4_payloadOf 3 = .ok (.bipush 15, 2) := by decide +kernel
theorem dX4_payloadOf_5 : decode cX4_payloadOf 5 = .ok (.iand, 1) := by decide +kernel
theorem dX4_payloadOf_6 : decode cX4_payloadOf 6 = .ok (.iadd, 1) := by decide +kernel
theorem dX4_payloadOf_7 : decode cX4_payloadOf 7 = .ok (.ireturn, 1) := by decide +kernel
theorem dX4_hasFramesToAir_0 : decode cX4_hasFramesToAir 0 = .ok (.aload_n 0, 1) := by decide +kernel
theorem dX4_hasFramesToAir_1 : decode cX4_hasFramesToAir 1 = .ok (.getfield 9, 3) := by decide +kernel
theorem dX4_hasFramesToAir_4 : decode cX4_hasFramesToAir 4 = .ok (.iconst 4, 1) := by decide +kernel
theorem dX4_hasFramesToAir_5 : decode cX4_hasFramesToAir 5 = .ok (.iaload, 1) := by decide +kernel
theorem dX4_hasFramesToAir_6 : decode cX4_hasFramesToAir 6 = .ok (.aload_n 0, 1) := by decide +kernel
theorem dX4_hasFramesToAir_7 : decode cX4_hasFramesToAir 7 = .ok (.getfield 9, 3) := by decide +kernel
theorem dX4_hasFramesToAir_10 : decode cX4_hasFramesToAir 10 = .ok (.iconst 3, 1) := by decide +kernel
theorem dX4_hasFramesToAir_11 : decode cX4_hasFramesToAir 11 = .ok (.iaload, 1) := by decide +kernel
theorem dX4_hasFramesToAir_12 : decode cX4_hasFramesToAir 12 = .ok (.if_icmp .ge 7, 3) := by decide +kernel
theorem dX4_hasFramesToAir_15 : decode cX4_hasFramesToAir 15 = .ok (.iconst 1, 1) := by decide +kernel
theorem dX4_hasFramesToAir_16 : decode cX4_hasFramesToAir 16 = .ok (.goto 4, 3) := by decide +kernel
theorem dX4_hasFramesToAir_19 : decode cX4_hasFramesToAir 19 = .ok (.iconst 0, 1) := by decide +kernel
theorem dX4_hasFramesToAir_20 : decode cX4_hasFramesToAir 20 = .ok (.ireturn, 1) := by decide +kernel
theorem dX4_write_0 : decode cX4_write 0 = .ok (.iload_n 1, 1) := by decide +kernel
theorem dX4_write_1 : decode cX4_write 1 = .ok (.ifCond .lt 27, 3) := by decide +kernel
theorem dX4_write_4 : decode cX4_write 4 = .ok (.iload_n 1, 1) := by decide +kernel
theorem dX4_write_5 : decode cX4_write 5 = .ok (.sipush 164, 3) := by decide +kernel
theorem dX4_write_8 : decode cX4_write 8 = .ok (.if_icmp .ge 20, 3) := by decide +kernel
theorem dX4_write_11 : decode cX4_write 11 = .ok (.aload_n 0, 1) := by decide +kernel
theorem dX4_write_12 : decode cX4_write 12 = .ok (.getfield 9, 3) := by decide +kernel
theorem dX4_write_15 : decode cX4_write 15 = .ok (.iload_n 1, 1) := by decide +kernel
theorem dX4_write_16 : decode cX4_write 16 = .ok (.iload_n 2, 1) := by decide +kernel
theorem dX4_write_17 : decode cX4_write 17 = .ok (.iastore, 1) := by decide +kernel
theorem dX4_write_18 : decode cX4_write 18 = .ok (.aload_n 0, 1) := by decide +kernel
theorem dX4_write_19 : decode cX4_write 19 = .ok (.getfield 13, 3) := by decide +kernel
theorem dX4_write_22 : decode cX4_write 22 = .ok (.iload_n 1, 1) := by decide +kernel
theorem dX4_write_23 : decode cX4_write 23 = .ok (.dup2, 1) := by decide +kernel
theorem dX4_write_24 : decode cX4_write 24 = .ok (.iaload, 1) := by decide +kernel
theorem dX4_write_25 : decode cX4_write 25 = .ok (.iconst 1, 1) := by decide +kernel
theorem dX4_write_26 : decode cX4_write 26 = .ok (.iadd, 1) := by decide +kernel
theorem dX4_write_27 : decode cX4_write 27 = .ok (.iastore, 1) := by decide +kernel
theorem dX4_write_28 : decode cX4_write 28 = .ok (.return_, 1) := by decide +kernel
theorem dX4_applyEntry_0 : decode cX4_applyEntry 0 = .ok (.bipush 84, 2) := by decide +kernel
theorem dX4_applyEntry_2 : decode cX4_applyEntry 2 = .ok (.iconst 2, 1) := by decide +kernel
theorem dX4_applyEntry_3 : decode cX4_applyEntry 3 = .ok (.iload_n 1, 1) := by decide +kernel
theorem dX4_applyEntry_4 : decode cX4_applyEntry 4 = .ok (.imul, 1) := by decide +kernel
theorem dX4_applyEntry_5 : decode cX4_applyEntry 5 = .ok (.iadd, 1) := by decide +kernel
theorem dX4_applyEntry_6 : decode cX4_applyEntry 6 = .ok (.istore_n 2, 1) := by decide +kernel
theorem dX4_applyEntry_7 : decode cX4_applyEntry 7 = .ok (.iload_n 2, 1) := by decide +kernel
theorem dX4_applyEntry_8 : decode cX4_applyEntry 8 = .ok (.bipush 84, 2) := by decide +kernel
theorem dX4_applyEntry_10 : decode cX4_applyEntry 10 = .ok (.if_icmp .lt 30, 3) := by decide +kernel
theorem dX4_applyEntry_13 : decode cX4_applyEntry 13 = .ok (.iload_n 2, 1) := by decide +kernel
theorem dX4_applyEntry_14 : decode cX4_applyEntry 14 = .ok (.iconst 1, 1) := by decide +kernel
theorem dX4_applyEntry_15 : decode cX4_applyEntry 15 = .ok (.iadd, 1) := by decide +kernel
theorem dX4_applyEntry_16 : decode cX4_applyEntry 16 = .ok (.sipush 164, 3) := by decide +kernel
theorem dX4_applyEntry_19 : decode cX4_applyEntry 19 = .ok (.if_icmp .ge 21, 3) := by decide +kernel
theorem dX4_applyEntry_22 : decode cX4_applyEntry 22 = .ok (.aload_n 0, 1) := by decide +kernel
theorem dX4_applyEntry_23 : decode cX4_applyEntry 23 = .ok (.aload_n 0, 1) := by decide +kernel
theorem dX4_applyEntry_24 : decode cX4_applyEntry 24 = .ok (.getfield 9, 3) := by decide +kernel
theorem dX4_applyEntry_27 : decode cX4_applyEntry 27 = .ok (.iload_n 2, 1) := by decide +kernel
theorem dX4_applyEntry_28 : decode cX4_applyEntry 28 = .ok (.iaload, 1) := by decide +kernel
theorem dX4_applyEntry_29 : decode cX4_applyEntry 29 = .ok (.aload_n 0, 1) := by decide +kernel
theorem dX4_applyEntry_30 : decode cX4_applyEntry 30 = .ok (.getfield 9, 3) := by decide +kernel
theorem dX4_applyEntry_33 : decode cX4_applyEntry 33 = .ok (.iload_n 2, 1) := by decide +kernel
theorem dX4_applyEntry_34 : decode cX4_applyEntry 34 = .ok (.iconst 1, 1) := by decide +kernel
theorem dX4_applyEntry_35 : decode cX4_applyEntry 35 = .ok (.iadd, 1) := by decide +kernel
theorem dX4_applyEntry_36 : decode cX4_applyEntry 36 = .ok (.iaload, 1) := by decide +kernel
theorem dX4_applyEntry_37 : decode cX4_applyEntry 37 = .ok (.invokevirtual 16, 3) := by decide +kernel
theorem dX4_applyEntry_40 : decode cX4_applyEntry 40 = .ok (.return_, 1) := by decide +kernel
