theorem dL_read_0 : decode cL_read 0 = .ok (.aload_n 3, 1) := by decide +kernel
theorem dL_read_1 : decode cL_read 1 = .ok (.iconst 0, 1) := by decide +kernel
theorem dL_read_2 : decode cL_read 2 = .ok (.aload_n 0, 1) := by decide +kernel
theorem dL_read_3 : decode cL_read 3 = .ok (.iload_n 1, 1) := by decide +kernel
theorem dL_read_4 : decode cL_read 4 = .ok (.iload_n 2, 1) := by decide +kernel
theorem dL_read_5 : decode cL_read 5 = .ok (.invokevirtual 7, 3) := by decide +kernel
theorem dL_read_8 : decode cL_read 8 = .ok (.i2l, 1) := by decide +kernel
theorem dL_read_9 : decode cL_read 9 = .ok (.lastore, 1) := by decide +kernel
theorem dL_read_10 : decode cL_read 10 = .ok (.goto 7, 3) := by decide +kernel
theorem dL_read_13 : decode cL_read 13 = .ok (.astore 4, 2) := by decide +kernel
theorem dL_read_15 : decode cL_read 15 = .ok (.iconst 1, 1) := by decide +kernel
theorem dL_read_16 : decode cL_read 16 = .ok (.ireturn, 1) := by decide +kernel
theorem dL_read_17 : decode cL_read 17 = .ok (.iconst 0, 1) := by decide +kernel
theorem dL_read_18 : decode cL_read 18 = .ok (.ireturn, 1) := by decide +kernel
theorem dL_write_0 : decode cL_write 0 = .ok (.aload 4, 2) := by decide +kernel
theorem dL_write_2 : decode cL_write 2 = .ok (.iconst 0, 1) := by decide +kernel
theorem dL_write_3 : decode cL_write 3 = .ok (.aload_n 0, 1) := by decide +kernel
theorem dL_write_4 : decode cL_write 4 = .ok (.iload_n 1, 1) := by decide +kernel
theorem dL_write_5 : decode cL_write 5 = .ok (.iload_n 2, 1) := by decide +kernel
theorem dL_write_6 : decode cL_write 6 = .ok (.iload_n 3, 1) := by decide +kernel
theorem dL_write_7 : decode cL_write 7 = .ok (.invokevirtual 15, 3) := by decide +kernel
theorem dL_write_10 : decode cL_write 10 = .ok (.i2l, 1) := by decide +kernel
theorem dL_write_11 : decode cL_write 11 = .ok (.lastore, 1) := by decide +kernel
theorem dL_write_12 : decode cL_write 12 = .ok (.goto 7, 3) := by decide +kernel
theorem dL_write_15 : decode cL_write 15 = .ok (.astore 5, 2) := by decide +kernel
theorem dL_write_17 : decode cL_write 17 = .ok (.iconst 1, 1) := by decide +kernel
theorem dL_write_18 : decode cL_write 18 = .ok (.ireturn, 1) := by decide +kernel
theorem dL_write_19 : decode cL_write 19 = .ok (.iconst 0, 1) := by decide +kernel
theorem dL_write_20 : decode cL_write 20 = .ok (.ireturn, 1) := by decide +kernel
theorem dL_evict_0 : decode cL_evict 0 = .ok (.aload_n 3, 1) := by decide +kernel
theorem dL_evict_1 : decode cL_evict 1 = .ok (.iconst 0, 1) := by decide +kernel
theorem dL_evict_2 : decode cL_evict 2 = .ok (.aload_n 0, 1) := by decide +kernel
theorem dL_evict_3 : decode cL_evict 3 = .ok (.iload_n 1, 1) := by decide +kernel
theorem dL_evict_4 : decode cL_evict 4 = .ok (.iload_n 2, 1) := by decide +kernel
theorem dL_evict_5 : decode cL_evict 5 = .ok (.invokevirtual 19, 3) := by decide +kernel
theorem dL_evict_8 : decode cL_evict 8 = .ok (.ifCond .eq 7, 3) := by decide +kernel
theorem dL_evict_11 : decode cL_evict 11 = .ok (.lconst 1, 1) := by decide +kernel
theorem dL_evict_12 : decode cL_evict 12 = .ok (.goto 4, 3) := by decide +kernel
theorem dL_evict_15 : decode cL_evict 15 = .ok (.lconst 0, 1) := by decide +kernel
theorem dL_evict_16 : decode cL_evict 16 = .ok (.lastore, 1) := by decide +kernel
theorem dL_evict_17 : decode cL_evict 17 = .ok (.goto 11, 3) := by decide +kernel
theorem dL_evict_20 : decode cL_evict 20 = .ok (.astore 4, 2) := by decide +kernel
theorem dL_evict_22 : decode cL_evict 22 = .ok (.iconst 1, 1) := by decide +kernel
theorem dL_evict_23 : decode cL_evict 23 = .ok (.ireturn, 1) := by decide +kernel
theorem dL_evict_24 : decode cL_evict 24 = .ok (.astore 4, 2) := by decide +kernel
theorem dL_evict_26 : decode cL_evict 26 = .ok (.iconst 2, 1) := by decide +kernel
theorem dL_evict_27 : decode cL_evict 27 = .ok (.ireturn, 1) := by decide +kernel
theorem dL_evict_28 : decode cL_evict 28 = .ok (.iconst 0, 1) := by decide +kernel
theorem dL_evict_29 : decode cL_evict 29 = .ok (.ireturn, 1) := by decide +kernel
theorem dL_law_0 : decode code 0 = .ok (.new 8, 3) := by decide +kernel
theorem dL_law_3 : decode code 3 = .ok (.dup, 1) := by decide +kernel
theorem dL_law_4 : decode code 4 = .ok (.invokespecial 25, 3) := by decide +kernel
theorem dL_law_7 : decode code 7 = .ok (.astore_n 1, 1) := by decide +kernel
theorem dL_law_8 : decode code 8 = .ok (.new 26, 3) := by decide +kernel
theorem dL_law_11 : decode code 11 = .ok (.dup, 1) := by decide +kernel
theorem dL_law_12 : decode code 12 = .ok (.invokespecial 28, 3) := by decide +kernel
theorem dL_law_15 : decode code 15 = .ok (.astore_n 2, 1) := by decide +kernel
theorem dL_law_16 : decode code 16 = .ok (.iconst 1, 1) := by decide +kernel
theorem dL_law_17 : decode code 17 = .ok (.newarray .long, 2) := by decide +kernel
theorem dL_law_19 : decode code 19 = .ok (.astore_n 3, 1) := by decide +kernel
theorem dL_law_20 : decode code 20 = .ok (.iconst 0, 1) := by decide +kernel
theorem dL_law_21 : decode code 21 = .ok (.istore 4, 2) := by decide +kernel
theorem dL_law_23 : decode code 23 = .ok (.iload 4, 2) := by decide +kernel
theorem dL_law_25 : decode code 25 = .ok (.aload_n 0, 1) := by decide +kernel
theorem dL_law_26 : decode code 26 = .ok (.arraylength, 1) := by decide +kernel
theorem dL_law_27 : decode code 27 = .ok (.iconst 4, 1) := by decide +kernel
theorem dL_law_28 : decode code 28 = .ok (.isub, 1) := by decide +kernel
theorem dL_law_29 : decode code 29 = .ok (.if_icmp .gt 530, 3) := by decide +kernel
theorem dL_law_32 : decode code 32 = .ok (.aload_n 0, 1) := by decide +kernel
theorem dL_law_33 : decode code 33 = .ok (.iload 4, 2) := by decide +kernel
theorem dL_law_35 : decode code 35 = .ok (.iaload, 1) := by decide +kernel
theorem dL_law_36 : decode code 36 = .ok (.bipush 15, 2) := by decide +kernel
theorem dL_law_38 : decode code 38 = .ok (.iand, 1) := by decide +kernel
theorem dL_law_39 : decode code 39 = .ok (.tableswitch 514 0 12 #[65, 90, 103, 171, 251, 326, 339, 376, 413, 438, 463, 476, 489], 65) := by decide +kernel
theorem dL_law_104 : decode code 104 = .ok (.aload_n 1, 1) := by decide +kernel
theorem dL_law_105 : decode code 105 = .ok (.aload_n 0, 1) := by decide +kernel
theorem dL_law_106 : decode code 106 = .ok (.iload 4, 2) := by decide +kernel
theorem dL_law_108 : decode code 108 = .ok (.iconst 1, 1) := by decide +kernel
theorem dL_law_109 : decode code 109 = .ok (.iadd, 1) := by decide +kernel
theorem dL_law_110 : decode code 110 = .ok (.iaload, 1) := by decide +kernel
theorem dL_law_111 : decode code 111 = .ok (.invokevirtual 29, 3) := by decide +kernel
theorem dL_law_114 : decode code 114 = .ok (.aload_n 2, 1) := by decide +kernel
theorem dL_law_115 : decode code 115 = .ok (.aload_n 0, 1) := by decide +kernel
theorem dL_law_116 : decode code 116 = .ok (.iload 4, 2) := by decide +kernel
theorem dL_law_118 : decode code 118 = .ok (.iconst 1, 1) := by decide +kernel
theorem dL_law_119 : decode code 119 = .ok (.iadd, 1) := by decide +kernel
theorem dL_law_120 : decode code 120 = .ok (.iaload, 1) := by decide +kernel
theorem dL_law_121 : decode code 121 = .ok (.invokevirtual 33, 3) := by decide +kernel
theorem dL_law_124 : decode code 124 = .ok (.if_icmp .eq 429, 3) := by decide +kernel
theorem dL_law_127 : decode code 127 = .ok (.iconst 0, 1) := by decide +kernel
theorem dL_law_128 : decode code 128 = .ok (.ireturn, 1) := by decide +kernel
theorem dL_law_129 : decode code 129 = .ok (.aload_n 1, 1) := by decide +kernel
theorem dL_law_130 : decode code 130 = .ok (.invokevirtual 34, 3) := by decide +kernel
theorem dL_law_133 : decode code 133 = .ok (.aload_n 2, 1) := by decide +kernel
theorem dL_law_134 : decode code 134 = .ok (.invokevirtual 38, 3) := by decide +kernel
theorem dL_law_137 : decode code 137 = .ok (.if_icmp .eq 416, 3) := by decide +kernel
theorem dL_law_140 : decode code 140 = .ok (.iconst 0, 1) := by decide +kernel
theorem dL_law_141 : decode code 141 = .ok (.ireturn, 1) := by decide +kernel
theorem dL_law_142 : decode code 142 = .ok (.aload_n 1, 1) := by decide +kernel
theorem dL_law_143 : decode code 143 = .ok (.aload_n 0, 1) := by decide +kernel
theorem dL_law_144 : decode code 144 = .ok (.iload 4, 2) := by decide +kernel
theorem dL_law_146 : decode code 146 = .ok (.iconst 1, 1) := by decide +kernel
theorem dL_law_147 : decode code 147 = .ok (.iadd, 1) := by decide +kernel
theorem dL_law_148 : decode code 148 = .ok (.iaload, 1) := by decide +kernel
theorem dL_law_149 : decode code 149 = .ok (.aload_n 0, 1) := by decide +kernel
theorem dL_law_150 : decode code 150 = .ok (.iload 4, 2) := by decide +kernel
theorem dL_law_152 : decode code 152 = .ok (.iconst 2, 1) := by decide +kernel
theorem dL_law_153 : decode code 153 = .ok (.iadd, 1) := by decide +kernel
theorem dL_law_154 : decode code 154 = .ok (.iaload, 1) := by decide +kernel
theorem dL_law_155 : decode code 155 = .ok (.aload_n 3, 1) := by decide +kernel
theorem dL_law_156 : decode code 156 = .ok (.invokestatic 39, 3) := by decide +kernel
theorem dL_law_159 : decode code 159 = .ok (.istore 5, 2) := by decide +kernel
theorem dL_law_161 : decode code 161 = .ok (.aload_n 2, 1) := by decide +kernel
theorem dL_law_162 : decode code 162 = .ok (.aload_n 0, 1) := by decide +kernel
theorem dL_law_163 : decode code 163 = .ok (.iload 4, 2) := by decide +kernel
theorem dL_law_165 : decode code 165 = .ok (.iconst 1, 1) := by decide +kernel
theorem dL_law_166 : decode code 166 = .ok (.iadd, 1) := by decide +kernel
theorem dL_law_167 : decode code 167 = .ok (.iaload, 1) := by decide +kernel
theorem dL_law_168 : decode code 168 = .ok (.aload_n 0, 1) := by decide +kernel
theorem dL_law_169 : decode code 169 = .ok (.iload 4, 2) := by decide +kernel
theorem dL_law_171 : decode code 171 = .ok (.iconst 2, 1) := by decide +kernel
theorem dL_law_172 : decode code 172 = .ok (.iadd, 1) := by decide +kernel
theorem dL_law_173 : decode code 173 = .ok (.iaload, 1) := by decide +kernel
theorem dL_law_174 : decode code 174 = .ok (.invokevirtual 44, 3) := by decide +kernel
theorem dL_law_177 : decode code 177 = .ok (.istore 6, 2) := by decide +kernel
theorem dL_law_179 : decode code 179 = .ok (.aload_n 2, 1) := by decide +kernel
theorem dL_law_180 : decode code 180 = .ok (.invokevirtual 45, 3) := by decide +kernel
theorem dL_law_183 : decode code 183 = .ok (.iload 5, 2) := by decide +kernel
theorem dL_law_185 : decode code 185 = .ok (.if_icmp .eq 5, 3) := by decide +kernel
theorem dL_law_188 : decode code 188 = .ok (.iconst 0, 1) := by decide +kernel
theorem dL_law_189 : decode code 189 = .ok (.ireturn, 1) := by decide +kernel
theorem dL_law_190 : decode code 190 = .ok (.iload 5, 2) := by decide +kernel
theorem dL_law_192 : decode code 192 = .ok (.ifCond .ne 15, 3) := by decide +kernel
theorem dL_law_195 : decode code 195 = .ok (.aload_n 3, 1) := by decide +kernel
theorem dL_law_196 : decode code 196 = .ok (.iconst 0, 1) := by decide +kernel
theorem dL_law_197 : decode code 197 = .ok (.laload, 1) := by decide +kernel
theorem dL_law_198 : decode code 198 = .ok (.iload 6, 2) := by decide +kernel
theorem dL_law_200 : decode code 200 = .ok (.i2l, 1) := by decide +kernel
theorem dL_law_201 : decode code 201 = .ok (.lcmp, 1) := by decide +kernel
theorem dL_law_202 : decode code 202 = .ok (.ifCond .eq 5, 3) := by decide +kernel
theorem dL_law_205 : decode code 205 = .ok (.iconst 0, 1) := by decide +kernel
theorem dL_law_206 : decode code 206 = .ok (.ireturn, 1) := by decide +kernel
theorem dL_law_207 : decode code 207 = .ok (.goto 346, 3) := by decide +kernel
theorem dL_law_210 : decode code 210 = .ok (.aload_n 1, 1) := by decide +kernel
theorem dL_law_211 : decode code 211 = .ok (.aload_n 0, 1) := by decide +kernel
theorem dL_law_212 : decode code 212 = .ok (.iload 4, 2) := by decide +kernel
theorem dL_law_214 : decode code 214 = .ok (.iconst 1, 1) := by decide +kernel
theorem dL_law_215 : decode code 215 = .ok (.iadd, 1) := by decide +kernel
theorem dL_law_216 : decode code 216 = .ok (.iaload, 1) := by decide +kernel
theorem dL_law_217 : decode code 217 = .ok (.aload_n 0, 1) := by decide +kernel
theorem dL_law_218 : decode code 218 = .ok (.iload 4, 2) := by decide +kernel
theorem dL_law_220 : decode code 220 = .ok (.iconst 2, 1) := by decide +kernel
theorem dL_law_221 : decode code 221 = .ok (.iadd, 1) := by decide +kernel
theorem dL_law_222 : decode code 222 = .ok (.iaload, 1) := by decide +kernel
theorem dL_law_223 : decode code 223 = .ok (.aload_n 0, 1) := by decide +kernel
theorem dL_law_224 : decode code 224 = .ok (.iload 4, 2) := by decide +kernel
theorem dL_law_226 : decode code 226 = .ok (.iconst 3, 1) := by decide +kernel
theorem dL_law_227 : decode code 227 = .ok (.iadd, 1) := by decide +kernel
theorem dL_law_228 : decode code 228 = .ok (.iaload, 1) := by decide +kernel
theorem dL_law_229 : decode code 229 = .ok (.aload_n 3, 1) := by decide +kernel
theorem dL_law_230 : decode code 230 = .ok (.invokestatic 48, 3) := by decide +kernel
theorem dL_law_233 : decode code 233 = .ok (.istore 5, 2) := by decide +kernel
theorem dL_law_235 : decode code 235 = .ok (.aload_n 2, 1) := by decide +kernel
theorem dL_law_236 : decode code 236 = .ok (.aload_n 0, 1) := by decide +kernel
theorem dL_law_237 : decode code 237 = .ok (.iload 4, 2) := by decide +kernel
theorem dL_law_239 : decode code 239 = .ok (.iconst 1, 1) := by decide +kernel
theorem dL_law_240 : decode code 240 = .ok (.iadd, 1) := by decide +kernel
theorem dL_law_241 : decode code 241 = .ok (.iaload, 1) := by decide +kernel
theorem dL_law_242 : decode code 242 = .ok (.aload_n 0, 1) := by decide +kernel
theorem dL_law_243 : decode code 243 = .ok (.iload 4, 2) := by decide +kernel
theorem dL_law_245 : decode code 245 = .ok (.iconst 2, 1) := by decide +kernel
theorem dL_law_246 : decode code 246 = .ok (.iadd, 1) := by decide +kernel
theorem dL_law_247 : decode code 247 = .ok (.iaload, 1) := by decide +kernel
theorem dL_law_248 : decode code 248 = .ok (.aload_n 0, 1) := by decide +kernel
theorem dL_law_249 : decode code 249 = .ok (.iload 4, 2) := by decide +kernel
theorem dL_law_251 : decode code 251 = .ok (.iconst 3, 1) := by decide +kernel
theorem dL_law_252 : decode code 252 = .ok (.iadd, 1) := by decide +kernel
theorem dL_law_253 : decode code 253 = .ok (.iaload, 1) := by decide +kernel
theorem dL_law_254 : decode code 254 = .ok (.invokevirtual 51, 3) := by decide +kernel
theorem dL_law_257 : decode code 257 = .ok (.istore 6, 2) := by decide +kernel
theorem dL_law_259 : decode code 259 = .ok (.aload_n 2, 1) := by decide +kernel
theorem dL_law_260 : decode code 260 = .ok (.invokevirtual 45, 3) := by decide +kernel
theorem dL_law_263 : decode code 263 = .ok (.iload 5, 2) := by decide +kernel
theorem dL_law_265 : decode code 265 = .ok (.if_icmp .eq 5, 3) := by decide +kernel
theorem dL_law_268 : decode code 268 = .ok (.iconst 0, 1) := by decide +kernel
theorem dL_law_269 : decode code 269 = .ok (.ireturn, 1) := by decide +kernel
theorem dL_law_270 : decode code 270 = .ok (.iload 5, 2) := by decide +kernel
theorem dL_law_272 : decode code 272 = .ok (.ifCond .ne 15, 3) := by decide +kernel
theorem dL_law_275 : decode code 275 = .ok (.aload_n 3, 1) := by decide +kernel
theorem dL_law_276 : decode code 276 = .ok (.iconst 0, 1) := by decide +kernel
theorem dL_law_277 : decode code 277 = .ok (.laload, 1) := by decide +kernel
theorem dL_law_278 : decode code 278 = .ok (.iload 6, 2) := by decide +kernel
theorem dL_law_280 : decode code 280 = .ok (.i2l, 1) := by decide +kernel
theorem dL_law_281 : decode code 281 = .ok (.lcmp, 1) := by decide +kernel
theorem dL_law_282 : decode code 282 = .ok (.ifCond .eq 5, 3) := by decide +kernel
theorem dL_law_285 : decode code 285 = .ok (.iconst 0, 1) := by decide +kernel
theorem dL_law_286 : decode code 286 = .ok (.ireturn, 1) := by decide +kernel
theorem dL_law_287 : decode code 287 = .ok (.goto 266, 3) := by decide +kernel
theorem dL_law_290 : decode code 290 = .ok (.aload_n 1, 1) := by decide +kernel
theorem dL_law_291 : decode code 291 = .ok (.aload_n 0, 1) := by decide +kernel
theorem dL_law_292 : decode code 292 = .ok (.iload 4, 2) := by decide +kernel
theorem dL_law_294 : decode code 294 = .ok (.iconst 1, 1) := by decide +kernel
theorem dL_law_295 : decode code 295 = .ok (.iadd, 1) := by decide +kernel
theorem dL_law_296 : decode code 296 = .ok (.iaload, 1) := by decide +kernel
theorem dL_law_297 : decode code 297 = .ok (.aload_n 0, 1) := by decide +kernel
theorem dL_law_298 : decode code 298 = .ok (.iload 4, 2) := by decide +kernel
theorem dL_law_300 : decode code 300 = .ok (.iconst 2, 1) := by decide +kernel
theorem dL_law_301 : decode code 301 = .ok (.iadd, 1) := by decide +kernel
theorem dL_law_302 : decode code 302 = .ok (.iaload, 1) := by decide +kernel
theorem dL_law_303 : decode code 303 = .ok (.aload_n 3, 1) := by decide +kernel
theorem dL_law_304 : decode code 304 = .ok (.invokestatic 52, 3) := by decide +kernel
theorem dL_law_307 : decode code 307 = .ok (.istore 5, 2) := by decide +kernel
theorem dL_law_309 : decode code 309 = .ok (.aload_n 2, 1) := by decide +kernel
theorem dL_law_310 : decode code 310 = .ok (.aload_n 0, 1) := by decide +kernel
theorem dL_law_311 : decode code 311 = .ok (.iload 4, 2) := by decide +kernel
theorem dL_law_313 : decode code 313 = .ok (.iconst 1, 1) := by decide +kernel
theorem dL_law_314 : decode code 314 = .ok (.iadd, 1) := by decide +kernel
theorem dL_law_315 : decode code 315 = .ok (.iaload, 1) := by decide +kernel
theorem dL_law_316 : decode code 316 = .ok (.aload_n 0, 1) := by decide +kernel
theorem dL_law_317 : decode code 317 = .ok (.iload 4, 2) := by decide +kernel
theorem dL_law_319 : decode code 319 = .ok (.iconst 2, 1) := by decide +kernel
theorem dL_law_320 : decode code 320 = .ok (.iadd, 1) := by decide +kernel
theorem dL_law_321 : decode code 321 = .ok (.iaload, 1) := by decide +kernel
theorem dL_law_322 : decode code 322 = .ok (.invokevirtual 54, 3) := by decide +kernel
theorem dL_law_325 : decode code 325 = .ok (.istore 6, 2) := by decide +kernel
theorem dL_law_327 : decode code 327 = .ok (.aload_n 2, 1) := by decide +kernel
theorem dL_law_328 : decode code 328 = .ok (.invokevirtual 45, 3) := by decide +kernel
theorem dL_law_331 : decode code 331 = .ok (.iload 5, 2) := by decide +kernel
theorem dL_law_333 : decode code 333 = .ok (.if_icmp .eq 5, 3) := by decide +kernel
theorem dL_law_336 : decode code 336 = .ok (.iconst 0, 1) := by decide +kernel
theorem dL_law_337 : decode code 337 = .ok (.ireturn, 1) := by decide +kernel
theorem dL_law_338 : decode code 338 = .ok (.iload 5, 2) := by decide +kernel
theorem dL_law_340 : decode code 340 = .ok (.ifCond .ne 22, 3) := by decide +kernel
theorem dL_law_343 : decode code 343 = .ok (.aload_n 3, 1) := by decide +kernel
theorem dL_law_344 : decode code 344 = .ok (.iconst 0, 1) := by decide +kernel
theorem dL_law_345 : decode code 345 = .ok (.laload, 1) := by decide +kernel
theorem dL_law_346 : decode code 346 = .ok (.iload 6, 2) := by decide +kernel
theorem dL_law_348 : decode code 348 = .ok (.ifCond .eq 7, 3) := by decide +kernel
theorem dL_law_351 : decode code 351 = .ok (.lconst 1, 1) := by decide +kernel
theorem dL_law_352 : decode code 352 = .ok (.goto 4, 3) := by decide +kernel
theorem dL_law_355 : decode code 355 = .ok (.lconst 0, 1) := by decide +kernel
theorem dL_law_356 : decode code 356 = .ok (.lcmp, 1) := by decide +kernel
theorem dL_law_357 : decode code 357 = .ok (.ifCond .eq 5, 3) := by decide +kernel
theorem dL_law_360 : decode code 360 = .ok (.iconst 0, 1) := by decide +kernel
theorem dL_law_361 : decode code 361 = .ok (.ireturn, 1) := by decide +kernel
theorem dL_law_362 : decode code 362 = .ok (.goto 191, 3) := by decide +kernel
theorem dL_law_365 : decode code 365 = .ok (.aload_n 1, 1) := by decide +kernel
theorem dL_law_366 : decode code 366 = .ok (.invokevirtual 55, 3) := by decide +kernel
theorem dL_law_369 : decode code 369 = .ok (.aload_n 2, 1) := by decide +kernel
theorem dL_law_370 : decode code 370 = .ok (.invokevirtual 58, 3) := by decide +kernel
theorem dL_law_373 : decode code 373 = .ok (.if_icmp .eq 180, 3) := by decide +kernel
theorem dL_law_376 : decode code 376 = .ok (.iconst 0, 1) := by decide +kernel
theorem dL_law_377 : decode code 377 = .ok (.ireturn, 1) := by decide +kernel
theorem dL_law_378 : decode code 378 = .ok (.aload_n 1, 1) := by decide +kernel
theorem dL_law_379 : decode code 379 = .ok (.aload_n 0, 1) := by decide +kernel
theorem dL_law_380 : decode code 380 = .ok (.iload 4, 2) := by decide +kernel
theorem dL_law_382 : decode code 382 = .ok (.iconst 1, 1) := by decide +kernel
theorem dL_law_383 : decode code 383 = .ok (.iadd, 1) := by decide +kernel
theorem dL_law_384 : decode code 384 = .ok (.iaload, 1) := by decide +kernel
theorem dL_law_385 : decode code 385 = .ok (.aload_n 0, 1) := by decide +kernel
theorem dL_law_386 : decode code 386 = .ok (.iload 4, 2) := by decide +kernel
theorem dL_law_388 : decode code 388 = .ok (.iconst 2, 1) := by decide +kernel
theorem dL_law_389 : decode code 389 = .ok (.iadd, 1) := by decide +kernel
theorem dL_law_390 : decode code 390 = .ok (.iaload, 1) := by decide +kernel
theorem dL_law_391 : decode code 391 = .ok (.invokevirtual 59, 3) := by decide +kernel
theorem dL_law_394 : decode code 394 = .ok (.aload_n 2, 1) := by decide +kernel
theorem dL_law_395 : decode code 395 = .ok (.aload_n 0, 1) := by decide +kernel
theorem dL_law_396 : decode code 396 = .ok (.iload 4, 2) := by decide +kernel
theorem dL_law_398 : decode code 398 = .ok (.iconst 1, 1) := by decide +kernel
theorem dL_law_399 : decode code 399 = .ok (.iadd, 1) := by decide +kernel
theorem dL_law_400 : decode code 400 = .ok (.iaload, 1) := by decide +kernel
theorem dL_law_401 : decode code 401 = .ok (.aload_n 0, 1) := by decide +kernel
theorem dL_law_402 : decode code 402 = .ok (.iload 4, 2) := by decide +kernel
theorem dL_law_404 : decode code 404 = .ok (.iconst 2, 1) := by decide +kernel
theorem dL_law_405 : decode code 405 = .ok (.iadd, 1) := by decide +kernel
theorem dL_law_406 : decode code 406 = .ok (.iaload, 1) := by decide +kernel
theorem dL_law_407 : decode code 407 = .ok (.invokevirtual 62, 3) := by decide +kernel
theorem dL_law_410 : decode code 410 = .ok (.if_icmp .eq 143, 3) := by decide +kernel
theorem dL_law_413 : decode code 413 = .ok (.iconst 0, 1) := by decide +kernel
theorem dL_law_414 : decode code 414 = .ok (.ireturn, 1) := by decide +kernel
theorem dL_law_415 : decode code 415 = .ok (.aload_n 1, 1) := by decide +kernel
theorem dL_law_416 : decode code 416 = .ok (.aload_n 0, 1) := by decide +kernel
theorem dL_law_417 : decode code 417 = .ok (.iload 4, 2) := by decide +kernel
theorem dL_law_419 : decode code 419 = .ok (.iconst 1, 1) := by decide +kernel
theorem dL_law_420 : decode code 420 = .ok (.iadd, 1) := by decide +kernel
theorem dL_law_421 : decode code 421 = .ok (.iaload, 1) := by decide +kernel
theorem dL_law_422 : decode code 422 = .ok (.aload_n 0, 1) := by decide +kernel
theorem dL_law_423 : decode code 423 = .ok (.iload 4, 2) := by decide +kernel
theorem dL_law_425 : decode code 425 = .ok (.iconst 2, 1) := by decide +kernel
theorem dL_law_426 : decode code 426 = .ok (.iadd, 1) := by decide +kernel
theorem dL_law_427 : decode code 427 = .ok (.iaload, 1) := by decide +kernel
theorem dL_law_428 : decode code 428 = .ok (.invokevirtual 63, 3) := by decide +kernel
theorem dL_law_431 : decode code 431 = .ok (.aload_n 2, 1) := by decide +kernel
theorem dL_law_432 : decode code 432 = .ok (.aload_n 0, 1) := by decide +kernel
theorem dL_law_433 : decode code 433 = .ok (.iload 4, 2) := by decide +kernel
theorem dL_law_435 : decode code 435 = .ok (.iconst 1, 1) := by decide +kernel
theorem dL_law_436 : decode code 436 = .ok (.iadd, 1) := by decide +kernel
theorem dL_law_437 : decode code 437 = .ok (.iaload, 1) := by decide +kernel
theorem dL_law_438 : decode code 438 = .ok (.aload_n 0, 1) := by decide +kernel
theorem dL_law_439 : decode code 439 = .ok (.iload 4, 2) := by decide +kernel
theorem dL_law_441 : decode code 441 = .ok (.iconst 2, 1) := by decide +kernel
theorem dL_law_442 : decode code 442 = .ok (.iadd, 1) := by decide +kernel
theorem dL_law_443 : decode code 443 = .ok (.iaload, 1) := by decide +kernel
theorem dL_law_444 : decode code 444 = .ok (.invokevirtual 66, 3) := by decide +kernel
theorem dL_law_447 : decode code 447 = .ok (.if_icmp .eq 106, 3) := by decide +kernel
theorem dL_law_450 : decode code 450 = .ok (.iconst 0, 1) := by decide +kernel
theorem dL_law_451 : decode code 451 = .ok (.ireturn, 1) := by decide +kernel
theorem dL_law_452 : decode code 452 = .ok (.aload_n 1, 1) := by decide +kernel
theorem dL_law_453 : decode code 453 = .ok (.aload_n 0, 1) := by decide +kernel
theorem dL_law_454 : decode code 454 = .ok (.iload 4, 2) := by decide +kernel
theorem dL_law_456 : decode code 456 = .ok (.iconst 1, 1) := by decide +kernel
theorem dL_law_457 : decode code 457 = .ok (.iadd, 1) := by decide +kernel
theorem dL_law_458 : decode code 458 = .ok (.iaload, 1) := by decide +kernel
theorem dL_law_459 : decode code 459 = .ok (.invokevirtual 67, 3) := by decide +kernel
theorem dL_law_462 : decode code 462 = .ok (.aload_n 2, 1) := by decide +kernel
theorem dL_law_463 : decode code 463 = .ok (.aload_n 0, 1) := by decide +kernel
theorem dL_law_464 : decode code 464 = .ok (.iload 4, 2) := by decide +kernel
theorem dL_law_466 : decode code 466 = .ok (.iconst 1, 1) := by decide +kernel
theorem dL_law_467 : decode code 467 = .ok (.iadd, 1) := by decide +kernel
theorem dL_law_468 : decode code 468 = .ok (.iaload, 1) := by decide +kernel
theorem dL_law_469 : decode code 469 = .ok (.invokevirtual 71, 3) := by decide +kernel
theorem dL_law_472 : decode code 472 = .ok (.if_icmp .eq 81, 3) := by decide +kernel
theorem dL_law_475 : decode code 475 = .ok (.iconst 0, 1) := by decide +kernel
theorem dL_law_476 : decode code 476 = .ok (.ireturn, 1) := by decide +kernel
theorem dL_law_477 : decode code 477 = .ok (.aload_n 1, 1) := by decide +kernel
theorem dL_law_478 : decode code 478 = .ok (.aload_n 0, 1) := by decide +kernel
theorem dL_law_479 : decode code 479 = .ok (.iload 4, 2) := by decide +kernel
theorem dL_law_481 : decode code 481 = .ok (.iconst 1, 1) := by decide +kernel
theorem dL_law_482 : decode code 482 = .ok (.iadd, 1) := by decide +kernel
theorem dL_law_483 : decode code 483 = .ok (.iaload, 1) := by decide +kernel
theorem dL_law_484 : decode code 484 = .ok (.invokevirtual 72, 3) := by decide +kernel
theorem dL_law_487 : decode code 487 = .ok (.aload_n 2, 1) := by decide +kernel
theorem dL_law_488 : decode code 488 = .ok (.aload_n 0, 1) := by decide +kernel
theorem dL_law_489 : decode code 489 = .ok (.iload 4, 2) := by decide +kernel
theorem dL_law_491 : decode code 491 = .ok (.iconst 1, 1) := by decide +kernel
theorem dL_law_492 : decode code 492 = .ok (.iadd, 1) := by decide +kernel
theorem dL_law_493 : decode code 493 = .ok (.iaload, 1) := by decide +kernel
theorem dL_law_494 : decode code 494 = .ok (.invokevirtual 75, 3) := by decide +kernel
theorem dL_law_497 : decode code 497 = .ok (.if_icmp .eq 56, 3) := by decide +kernel
theorem dL_law_500 : decode code 500 = .ok (.iconst 0, 1) := by decide +kernel
theorem dL_law_501 : decode code 501 = .ok (.ireturn, 1) := by decide +kernel
theorem dL_law_502 : decode code 502 = .ok (.aload_n 1, 1) := by decide +kernel
theorem dL_law_503 : decode code 503 = .ok (.invokevirtual 76, 3) := by decide +kernel
theorem dL_law_506 : decode code 506 = .ok (.aload_n 2, 1) := by decide +kernel
theorem dL_law_507 : decode code 507 = .ok (.invokevirtual 79, 3) := by decide +kernel
theorem dL_law_510 : decode code 510 = .ok (.if_icmp .eq 43, 3) := by decide +kernel
theorem dL_law_513 : decode code 513 = .ok (.iconst 0, 1) := by decide +kernel
theorem dL_law_514 : decode code 514 = .ok (.ireturn, 1) := by decide +kernel
theorem dL_law_515 : decode code 515 = .ok (.aload_n 1, 1) := by decide +kernel
theorem dL_law_516 : decode code 516 = .ok (.invokevirtual 80, 3) := by decide +kernel
theorem dL_law_519 : decode code 519 = .ok (.aload_n 2, 1) := by decide +kernel
theorem dL_law_520 : decode code 520 = .ok (.invokevirtual 83, 3) := by decide +kernel
theorem dL_law_523 : decode code 523 = .ok (.if_icmp .eq 30, 3) := by decide +kernel
theorem dL_law_526 : decode code 526 = .ok (.iconst 0, 1) := by decide +kernel
theorem dL_law_527 : decode code 527 = .ok (.ireturn, 1) := by decide +kernel
theorem dL_law_528 : decode code 528 = .ok (.aload_n 1, 1) := by decide +kernel
theorem dL_law_529 : decode code 529 = .ok (.aload_n 0, 1) := by decide +kernel
theorem dL_law_530 : decode code 530 = .ok (.iload 4, 2) := by decide +kernel
theorem dL_law_532 : decode code 532 = .ok (.iconst 1, 1) := by decide +kernel
theorem dL_law_533 : decode code 533 = .ok (.iadd, 1) := by decide +kernel
theorem dL_law_534 : decode code 534 = .ok (.iaload, 1) := by decide +kernel
theorem dL_law_535 : decode code 535 = .ok (.invokevirtual 84, 3) := by decide +kernel
theorem dL_law_538 : decode code 538 = .ok (.aload_n 2, 1) := by decide +kernel
theorem dL_law_539 : decode code 539 = .ok (.aload_n 0, 1) := by decide +kernel
theorem dL_law_540 : decode code 540 = .ok (.iload 4, 2) := by decide +kernel
theorem dL_law_542 : decode code 542 = .ok (.iconst 1, 1) := by decide +kernel
theorem dL_law_543 : decode code 543 = .ok (.iadd, 1) := by decide +kernel
theorem dL_law_544 : decode code 544 = .ok (.iaload, 1) := by decide +kernel
theorem dL_law_545 : decode code 545 = .ok (.invokevirtual 87, 3) := by decide +kernel
theorem dL_law_548 : decode code 548 = .ok (.if_icmp .eq 5, 3) := by decide +kernel
theorem dL_law_551 : decode code 551 = .ok (.iconst 0, 1) := by decide +kernel
theorem dL_law_552 : decode code 552 = .ok (.ireturn, 1) := by decide +kernel
theorem dL_law_553 : decode code 553 = .ok (.iinc 4 4, 3) := by decide +kernel
theorem dL_law_556 : decode code 556 = .ok (.goto (-533), 3) := by decide +kernel
theorem dL_law_559 : decode code 559 = .ok (.iconst 1, 1) := by decide +kernel
theorem dL_law_560 : decode code 560 = .ok (.ireturn, 1) := by decide +kernel
