theorem dX2_operatorTakes_167 : decode cX2_operatorTakes 167 = .ok (.ireturn, 1) := by decide +kernel
theorem dX2_operatorTakes_168 : decode cX2_operatorTakes 168 = .ok (.iconst (-1), 1) := by decide +kernel
theorem dX2_operatorTakes_169 : decode cX2_operatorTakes 169 = .ok (.ireturn, 1) := by decide +kernel
theorem dX2_puts_0 : decode cX2_puts 0 = .ok (.iload_n 0, 1) := by decide +kernel
theorem dX2_puts_1 : decode cX2_puts 1 = .ok (.bipush 54, 2) := by decide +kernel
theorem dX2_puts_3 : decode cX2_puts 3 = .ok (.if_icmp .lt 13, 3) := by decide +kernel
theorem dX2_puts_6 : decode cX2_puts 6 = .ok (.iload_n 0, 1) := by decide +kernel
theorem dX2_puts_7 : decode cX2_puts 7 = .ok (.bipush 62, 2) := by decide +kernel
theorem dX2_puts_9 : decode cX2_puts 9 = .ok (.if_icmp .gt 7, 3) := by decide +kernel
theorem dX2_puts_12 : decode cX2_puts 12 = .ok (.iconst 1, 1) := by decide +kernel
theorem dX2_puts_13 : decode cX2_puts 13 = .ok (.goto 4, 3) := by decide +kernel
theorem dX2_puts_16 : decode cX2_puts 16 = .ok (.iconst 0, 1) := by decide +kernel
theorem dX2_puts_17 : decode cX2_puts 17 = .ok (.istore_n 1, 1) := by decide +kernel
theorem dX2_puts_18 : decode cX2_puts 18 = .ok (.iload_n 0, 1) := by decide +kernel
theorem dX2_puts_19 : decode cX2_puts 19 = .ok (.bipush 26, 2) := by decide +kernel
theorem dX2_puts_21 : decode cX2_puts 21 = .ok (.if_icmp .eq 15, 3) := by decide +kernel
theorem dX2_puts_24 : decode cX2_puts 24 = .ok (.iload_n 0, 1) := by decide +kernel
theorem dX2_puts_25 : decode cX2_puts 25 = .ok (.bipush 33, 2) := by decide +kernel
theorem dX2_puts_27 : decode cX2_puts 27 = .ok (.if_icmp .eq 9, 3) := by decide +kernel
theorem dX2_puts_30 : decode cX2_puts 30 = .ok (.iload_n 0, 1) := by decide +kernel
theorem dX2_puts_31 : decode cX2_puts 31 = .ok (.bipush 36, 2) := by decide +kernel
theorem dX2_puts_33 : decode cX2_puts 33 = .ok (.if_icmp .ne 7, 3) := by decide +kernel
theorem dX2_puts_36 : decode cX2_puts 36 = .ok (.iconst 1, 1) := by decide +kernel
theorem dX2_puts_37 : decode cX2_puts 37 = .ok (.goto 4, 3) := by decide +kernel
theorem dX2_puts_40 : decode cX2_puts 40 = .ok (.iconst 0, 1) := by decide +kernel
theorem dX2_puts_41 : decode cX2_puts 41 = .ok (.istore_n 2, 1) := by decide +kernel
theorem dX2_puts_42 : decode cX2_puts 42 = .ok (.iload_n 1, 1) := by decide +kernel
theorem dX2_puts_43 : decode cX2_puts 43 = .ok (.ifCond .ne 12, 3) := by decide +kernel
theorem dX2_puts_46 : decode cX2_puts 46 = .ok (.iload_n 2, 1) := by decide +kernel
theorem dX2_puts_47 : decode cX2_puts 47 = .ok (.ifCond .ne 8, 3) := by decide +kernel
theorem dX2_puts_50 : decode cX2_puts 50 = .ok (.iload_n 0, 1) := by decide +kernel
theorem dX2_puts_51 : decode cX2_puts 51 = .ok (.iconst 1, 1) := by decide +kernel
theorem dX2_puts_52 : decode cX2_puts 52 = .ok (.if_icmp .ne 7, 3) := by decide +kernel
theorem dX2_puts_55 : decode cX2_puts 55 = .ok (.iconst 0, 1) := by decide +kernel
theorem dX2_puts_56 : decode cX2_puts 56 = .ok (.goto 4, 3) := by decide +kernel
theorem dX2_puts_59 : decode cX2_puts 59 = .ok (.iconst 1, 1) := by decide +kernel
theorem dX2_puts_60 : decode cX2_puts 60 = .ok (.ireturn, 1) := by decide +kernel
theorem dX2_dividesByZero_0 : decode cX2_dividesByZero 0 = .ok (.iload_n 0, 1) := by decide +kernel
theorem dX2_dividesByZero_1 : decode cX2_dividesByZero 1 = .ok (.bipush 110, 2) := by decide +kernel
theorem dX2_dividesByZero_3 : decode cX2_dividesByZero 3 = .ok (.if_icmp .ne 12, 3) := by decide +kernel
theorem dX2_dividesByZero_6 : decode cX2_dividesByZero 6 = .ok (.lload_n 1, 1) := by decide +kernel
theorem dX2_dividesByZero_7 : decode cX2_dividesByZero 7 = .ok (.l2i, 1) := by decide +kernel
theorem dX2_dividesByZero_8 : decode cX2_dividesByZero 8 = .ok (.ifCond .ne 7, 3) := by decide +kernel
theorem dX2_dividesByZero_11 : decode cX2_dividesByZero 11 = .ok (.iconst 1, 1) := by decide +kernel
theorem dX2_dividesByZero_12 : decode cX2_dividesByZero 12 = .ok (.goto 4, 3) := by decide +kernel
theorem dX2_dividesByZero_15 : decode cX2_dividesByZero 15 = .ok (.iconst 0, 1) := by decide +kernel
theorem dX2_dividesByZero_16 : decode cX2_dividesByZero 16 = .ok (.ireturn, 1) := by decide +kernel
theorem dX2_compute_0 : decode cX2_compute 0 = .ok (.iload_n 0, 1) := by decide +kernel
theorem dX2_compute_1 : decode cX2_compute 1 = .ok (.lookupswitch 378 #[(69, 163), (70, 177), (71, 193), (72, 209), (73, 225), (80, 248), (81, 263), (83, 278), (106, 293), (107, 301), (108, 309), (110, 317), (113, 338), (116, 346), (124, 360), (125, 364), (126, 368), (167, 372), (173, 372)], 163) := by decide +kernel
theorem dX2_compute_164 : decode cX2_compute 164 = .ok (.lload_n 1, 1) := by decide +kernel
theorem dX2_compute_165 : decode cX2_compute 165 = .ok (.l2i, 1) := by decide +kernel
theorem dX2_compute_166 : decode cX2_compute 166 = .ok (.ifCond .ne 7, 3) := by decide +kernel
theorem dX2_compute_169 : decode cX2_compute 169 = .ok (.iconst 1, 1) := by decide +kernel
theorem dX2_compute_170 : decode cX2_compute 170 = .ok (.goto 4, 3) := by decide +kernel
theorem dX2_compute_173 : decode cX2_compute 173 = .ok (.iconst 0, 1) := by decide +kernel
theorem dX2_compute_174 : decode cX2_compute 174 = .ok (.invokestatic 15, 3) := by decide +kernel
theorem dX2_compute_177 : decode cX2_compute 177 = .ok (.lreturn, 1) := by decide +kernel
theorem dX2_compute_178 : decode cX2_compute 178 = .ok (.lload_n 1, 1) := by decide +kernel
theorem dX2_compute_179 : decode cX2_compute 179 = .ok (.l2i, 1) := by decide +kernel
theorem dX2_compute_180 : decode cX2_compute 180 = .ok (.lload_n 3, 1) := by decide +kernel
theorem dX2_compute_181 : decode cX2_compute 181 = .ok (.l2i, 1) := by decide +kernel
theorem dX2_compute_182 : decode cX2_compute 182 = .ok (.if_icmp .ne 7, 3) := by decide +kernel
theorem dX2_compute_185 : decode cX2_compute 185 = .ok (.iconst 1, 1) := by decide +kernel
theorem dX2_compute_186 : decode cX2_compute 186 = .ok (.goto 4, 3) := by decide +kernel
theorem dX2_compute_189 : decode cX2_compute 189 = .ok (.iconst 0, 1) := by decide +kernel
theorem dX2_compute_190 : decode cX2_compute 190 = .ok (.invokestatic 15, 3) := by decide +kernel
theorem dX2_compute_193 : decode cX2_compute 193 = .ok (.lreturn, 1) := by decide +kernel
theorem dX2_compute_194 : decode cX2_compute 194 = .ok (.lload_n 1, 1) := by decide +kernel
theorem dX2_compute_195 : decode cX2_compute 195 = .ok (.l2i, 1) := by decide +kernel
theorem dX2_compute_196 : decode cX2_compute 196 = .ok (.lload_n 3, 1) := by decide +kernel
theorem dX2_compute_197 : decode cX2_compute 197 = .ok (.l2i, 1) := by decide +kernel
theorem dX2_compute_198 : decode cX2_compute 198 = .ok (.if_icmp .eq 7, 3) := by decide +kernel
theorem dX2_compute_201 : decode cX2_compute 201 = .ok (.iconst 1, 1) := by decide +kernel
theorem dX2_compute_202 : decode cX2_compute 202 = .ok (.goto 4, 3) := by decide +kernel
theorem dX2_compute_205 : decode cX2_compute 205 = .ok (.iconst 0, 1) := by decide +kernel
theorem dX2_compute_206 : decode cX2_compute 206 = .ok (.invokestatic 15, 3) := by decide +kernel
theorem dX2_compute_209 : decode cX2_compute 209 = .ok (.lreturn, 1) := by decide +kernel
theorem dX2_compute_210 : decode cX2_compute 210 = .ok (.lload_n 1, 1) := by decide +kernel
theorem dX2_compute_211 : decode cX2_compute 211 = .ok (.l2i, 1) := by decide +kernel
theorem dX2_compute_212 : decode cX2_compute 212 = .ok (.lload_n 3, 1) := by decide +kernel
theorem dX2_compute_213 : decode cX2_compute 213 = .ok (.l2i, 1) := by decide +kernel
theorem dX2_compute_214 : decode cX2_compute 214 = .ok (.if_icmp .ge 7, 3) := by decide +kernel
theorem dX2_compute_217 : decode cX2_compute 217 = .ok (.iconst 1, 1) := by decide +kernel
theorem dX2_compute_218 : decode cX2_compute 218 = .ok (.goto 4, 3) := by decide +kernel
theorem dX2_compute_221 : decode cX2_compute 221 = .ok (.iconst 0, 1) := by decide +kernel
theorem dX2_compute_222 : decode cX2_compute 222 = .ok (.invokestatic 15, 3) := by decide +kernel
theorem dX2_compute_225 : decode cX2_compute 225 = .ok (.lreturn, 1) := by decide +kernel
theorem dX2_compute_226 : decode cX2_compute 226 = .ok (.lload_n 1, 1) := by decide +kernel
theorem dX2_compute_227 : decode cX2_compute 227 = .ok (.ldc2_w 19, 3) := by decide +kernel
theorem dX2_compute_230 : decode cX2_compute 230 = .ok (.land, 1) := by decide +kernel
theorem dX2_compute_231 : decode cX2_compute 231 = .ok (.lload_n 3, 1) := by decide +kernel
theorem dX2_compute_232 : decode cX2_compute 232 = .ok (.ldc2_w 19, 3) := by decide +kernel
theorem dX2_compute_235 : decode cX2_compute 235 = .ok (.land, 1) := by decide +kernel
theorem dX2_compute_236 : decode cX2_compute 236 = .ok (.lcmp, 1) := by decide +kernel
theorem dX2_compute_237 : decode cX2_compute 237 = .ok (.ifCond .ge 7, 3) := by decide +kernel
theorem dX2_compute_240 : decode cX2_compute 240 = .ok (.iconst 1, 1) := by decide +kernel
theorem dX2_compute_241 : decode cX2_compute 241 = .ok (.goto 4, 3) := by decide +kernel
theorem dX2_compute_244 : decode cX2_compute 244 = .ok (.iconst 0, 1) := by decide +kernel
theorem dX2_compute_245 : decode cX2_compute 245 = .ok (.invokestatic 15, 3) := by decide +kernel
theorem dX2_compute_248 : decode cX2_compute 248 = .ok (.lreturn, 1) := by decide +kernel
theorem dX2_compute_249 : decode cX2_compute 249 = .ok (.lload_n 1, 1) := by decide +kernel
theorem dX2_compute_250 : decode cX2_compute 250 = .ok (.lconst 0, 1) := by decide +kernel
theorem dX2_compute_251 : decode cX2_compute 251 = .ok (.lcmp, 1) := by decide +kernel
theorem dX2_compute_252 : decode cX2_compute 252 = .ok (.ifCond .ne 7, 3) := by decide +kernel
theorem dX2_compute_255 : decode cX2_compute 255 = .ok (.iconst 1, 1) := by decide +kernel
theorem dX2_compute_256 : decode cX2_compute 256 = .ok (.goto 4, 3) := by decide +kernel
theorem dX2_compute_259 : decode cX2_compute 259 = .ok (.iconst 0, 1) := by decide +kernel
theorem dX2_compute_260 : decode cX2_compute 260 = .ok (.invokestatic 15, 3) := by decide +kernel
theorem dX2_compute_263 : decode cX2_compute 263 = .ok (.lreturn, 1) := by decide +kernel
theorem dX2_compute_264 : decode cX2_compute 264 = .ok (.lload_n 1, 1) := by decide +kernel
theorem dX2_compute_265 : decode cX2_compute 265 = .ok (.lload_n 3, 1) := by decide +kernel
theorem dX2_compute_266 : decode cX2_compute 266 = .ok (.lcmp, 1) := by decide +kernel
theorem dX2_compute_267 : decode cX2_compute 267 = .ok (.ifCond .ne 7, 3) := by decide +kernel
theorem dX2_compute_270 : decode cX2_compute 270 = .ok (.iconst 1, 1) := by decide +kernel
theorem dX2_compute_271 : decode cX2_compute 271 = .ok (.goto 4, 3) := by decide +kernel
theorem dX2_compute_274 : decode cX2_compute 274 = .ok (.iconst 0, 1) := by decide +kernel
theorem dX2_compute_275 : decode cX2_compute 275 = .ok (.invokestatic 15, 3) := by decide +kernel
theorem dX2_compute_278 : decode cX2_compute 278 = .ok (.lreturn, 1) := by decide +kernel
theorem dX2_compute_279 : decode cX2_compute 279 = .ok (.lload_n 1, 1) := by decide +kernel
theorem dX2_compute_280 : decode cX2_compute 280 = .ok (.lload_n 3, 1) := by decide +kernel
theorem dX2_compute_281 : decode cX2_compute 281 = .ok (.lcmp, 1) := by decide +kernel
theorem dX2_compute_282 : decode cX2_compute 282 = .ok (.ifCond .ge 7, 3) := by decide +kernel
theorem dX2_compute_285 : decode cX2_compute 285 = .ok (.iconst 1, 1) := by decide +kernel
theorem dX2_compute_286 : decode cX2_compute 286 = .ok (.goto 4, 3) := by decide +kernel
theorem dX2_compute_289 : decode cX2_compute 289 = .ok (.iconst 0, 1) := by decide +kernel
theorem dX2_compute_290 : decode cX2_compute 290 = .ok (.invokestatic 15, 3) := by decide +kernel
theorem dX2_compute_293 : decode cX2_compute 293 = .ok (.lreturn, 1) := by decide +kernel
theorem dX2_compute_294 : decode cX2_compute 294 = .ok (.lload_n 1, 1) := by decide +kernel
theorem dX2_compute_295 : decode cX2_compute 295 = .ok (.lload_n 3, 1) := by decide +kernel
theorem dX2_compute_296 : decode cX2_compute 296 = .ok (.ladd, 1) := by decide +kernel
theorem dX2_compute_297 : decode cX2_compute 297 = .ok (.ldc2_w 19, 3) := by decide +kernel
theorem dX2_compute_300 : decode cX2_compute 300 = .ok (.land, 1) := by decide +kernel
theorem dX2_compute_301 : decode cX2_compute 301 = .ok (.lreturn, 1) := by decide +kernel
theorem dX2_compute_302 : decode cX2_compute 302 = .ok (.lload_n 1, 1) := by decide +kernel
theorem dX2_compute_303 : decode cX2_compute 303 = .ok (.lload_n 3, 1) := by decide +kernel
theorem dX2_compute_304 : decode cX2_compute 304 = .ok (.lsub, 1) := by decide +kernel
theorem dX2_compute_305 : decode cX2_compute 305 = .ok (.ldc2_w 19, 3) := by decide +kernel
theorem dX2_compute_308 : decode cX2_compute 308 = .ok (.land, 1) := by decide +kernel
theorem dX2_compute_309 : decode cX2_compute 309 = .ok (.lreturn, 1) := by decide +kernel
theorem dX2_compute_310 : decode cX2_compute 310 = .ok (.lload_n 1, 1) := by decide +kernel
theorem dX2_compute_311 : decode cX2_compute 311 = .ok (.lload_n 3, 1) := by decide +kernel
theorem dX2_compute_312 : decode cX2_compute 312 = .ok (.lmul, 1) := by decide +kernel
theorem dX2_compute_313 : decode cX2_compute 313 = .ok (.ldc2_w 19, 3) := by decide +kernel
theorem dX2_compute_316 : decode cX2_compute 316 = .ok (.land, 1) := by decide +kernel
theorem dX2_compute_317 : decode cX2_compute 317 = .ok (.lreturn, 1) := by decide +kernel
theorem dX2_compute_318 : decode cX2_compute 318 = .ok (.lload_n 3, 1) := by decide +kernel
theorem dX2_compute_319 : decode cX2_compute 319 = .ok (.l2i, 1) := by decide +kernel
theorem dX2_compute_320 : decode cX2_compute 320 = .ok (.ifCond .ne 7, 3) := by decide +kernel
theorem dX2_compute_323 : decode cX2_compute 323 = .ok (.lconst 0, 1) := by decide +kernel
theorem dX2_compute_324 : decode cX2_compute 324 = .ok (.goto 14, 3) := by decide +kernel
theorem dX2_compute_327 : decode cX2_compute 327 = .ok (.lload_n 1, 1) := by decide +kernel
theorem dX2_compute_328 : decode cX2_compute 328 = .ok (.ldc2_w 19, 3) := by decide +kernel
theorem dX2_compute_331 : decode cX2_compute 331 = .ok (.land, 1) := by decide +kernel
theorem dX2_compute_332 : decode cX2_compute 332 = .ok (.lload_n 3, 1) := by decide +kernel
theorem dX2_compute_333 : decode cX2_compute 333 = .ok (.ldc2_w 19, 3) := by decide +kernel
theorem dX2_compute_336 : decode cX2_compute 336 = .ok (.land, 1) := by decide +kernel
theorem dX2_compute_337 : decode cX2_compute 337 = .ok (.ldiv, 1) := by decide +kernel
theorem dX2_compute_338 : decode cX2_compute 338 = .ok (.lreturn, 1) := by decide +kernel
theorem dX2_compute_339 : decode cX2_compute 339 = .ok (.lload_n 1, 1) := by decide +kernel
theorem dX2_compute_340 : decode cX2_compute 340 = .ok (.lload_n 3, 1) := by decide +kernel
theorem dX2_compute_341 : decode cX2_compute 341 = .ok (.land, 1) := by decide +kernel
theorem dX2_compute_342 : decode cX2_compute 342 = .ok (.ldc2_w 19, 3) := by decide +kernel
theorem dX2_compute_345 : decode cX2_compute 345 = .ok (.land, 1) := by decide +kernel
theorem dX2_compute_346 : decode cX2_compute 346 = .ok (.lreturn, 1) := by decide +kernel
theorem dX2_compute_347 : decode cX2_compute 347 = .ok (.lload_n 1, 1) := by decide +kernel
theorem dX2_compute_348 : decode cX2_compute 348 = .ok (.l2i, 1) := by decide +kernel
theorem dX2_compute_349 : decode cX2_compute 349 = .ok (.lload_n 3, 1) := by decide +kernel
theorem dX2_compute_350 : decode cX2_compute 350 = .ok (.l2i, 1) := by decide +kernel
theorem dX2_compute_351 : decode cX2_compute 351 = .ok (.bipush 31, 2) := by decide +kernel
theorem dX2_compute_353 : decode cX2_compute 353 = .ok (.iand, 1) := by decide +kernel
theorem dX2_compute_354 : decode cX2_compute 354 = .ok (.ishl, 1) := by decide +kernel
theorem dX2_compute_355 : decode cX2_compute 355 = .ok (.i2l, 1) := by decide +kernel
theorem dX2_compute_356 : decode cX2_compute 356 = .ok (.ldc2_w 19, 3) := by decide +kernel
theorem dX2_compute_359 : decode cX2_compute 359 = .ok (.land, 1) := by decide +kernel
theorem dX2_compute_360 : decode cX2_compute 360 = .ok (.lreturn, 1) := by decide +kernel
theorem dX2_compute_361 : decode cX2_compute 361 = .ok (.lload_n 1, 1) := by decide +kernel
theorem dX2_compute_362 : decode cX2_compute 362 = .ok (.lload_n 3, 1) := by decide +kernel
theorem dX2_compute_363 : decode cX2_compute 363 = .ok (.ladd, 1) := by decide +kernel
theorem dX2_compute_364 : decode cX2_compute 364 = .ok (.lreturn, 1) := by decide +kernel
theorem dX2_compute_365 : decode cX2_compute 365 = .ok (.lload_n 1, 1) := by decide +kernel
theorem dX2_compute_366 : decode cX2_compute 366 = .ok (.lload_n 3, 1) := by decide +kernel
theorem dX2_compute_367 : decode cX2_compute 367 = .ok (.lsub, 1) := by decide +kernel
theorem dX2_compute_368 : decode cX2_compute 368 = .ok (.lreturn, 1) := by decide +kernel
theorem dX2_compute_369 : decode cX2_compute 369 = .ok (.lload_n 1, 1) := by decide +kernel
theorem dX2_compute_370 : decode cX2_compute 370 = .ok (.lload_n 3, 1) := by decide +kernel
theorem dX2_compute_371 : decode cX2_compute 371 = .ok (.lmul, 1) := by decide +kernel
theorem dX2_compute_372 : decode cX2_compute 372 = .ok (.lreturn, 1) := by decide +kernel
theorem dX2_compute_373 : decode cX2_compute 373 = .ok (.lload_n 1, 1) := by decide +kernel
theorem dX2_compute_374 : decode cX2_compute 374 = .ok (.ldc2_w 19, 3) := by decide +kernel
theorem dX2_compute_377 : decode cX2_compute 377 = .ok (.land, 1) := by decide +kernel
theorem dX2_compute_378 : decode cX2_compute 378 = .ok (.lreturn, 1) := by decide +kernel
theorem dX2_compute_379 : decode cX2_compute 379 = .ok (.lconst 0, 1) := by decide +kernel
theorem dX2_compute_380 : decode cX2_compute 380 = .ok (.lreturn, 1) := by decide +kernel
theorem dX2_bit_0 : decode cX2_bit 0 = .ok (.iload_n 0, 1) := by decide +kernel
theorem dX2_bit_1 : decode cX2_bit 1 = .ok (.ifCond .eq 7, 3) := by decide +kernel
theorem dX2_bit_4 : decode cX2_bit 4 = .ok (.lconst 1, 1) := by decide +kernel
theorem dX2_bit_5 : decode cX2_bit 5 = .ok (.goto 4, 3) := by decide +kernel
theorem dX2_bit_8 : decode cX2_bit 8 = .ok (.lconst 0, 1) := by decide +kernel
theorem dX2_bit_9 : decode cX2_bit 9 = .ok (.lreturn, 1) := by decide +kernel
theorem dX3_init_0 : decode cX3_init 0 = .ok (.aload_n 0, 1) := by decide +kernel
theorem dX3_init_1 : decode cX3_init 1 = .ok (.invokespecial 3, 3) := by decide +kernel
theorem dX3_init_4 : decode cX3_init 4 = .ok (.aload_n 0, 1) := by decide +kernel
theorem dX3_init_5 : decode cX3_init 5 = .ok (.bipush 40, 2) := by decide +kernel
theorem dX3_init_7 : decode cX3_init 7 = .ok (.newarray .int, 2) := by decide +kernel
theorem dX3_init_9 : decode cX3_init 9 = .ok (.putfield 9, 3) := by decide +kernel
theorem dX3_init_12 : decode cX3_init 12 = .ok (.aload_n 0, 1) := by decide +kernel
theorem dX3_init_13 : decode cX3_init 13 = .ok (.bipush 40, 2) := by decide +kernel
theorem dX3_init_15 : decode cX3_init 15 = .ok (.newarray .int, 2) := by decide +kernel
theorem dX3_init_17 : decode cX3_init 17 = .ok (.putfield 15, 3) := by decide +kernel
theorem dX3_init_20 : decode cX3_init 20 = .ok (.aload_n 0, 1) := by decide +kernel
theorem dX3_init_21 : decode cX3_init 21 = .ok (.bipush 40, 2) := by decide +kernel
theorem dX3_init_23 : decode cX3_init 23 = .ok (.newarray .int, 2) := by decide +kernel
theorem dX3_init_25 : decode cX3_init 25 = .ok (.putfield 18, 3) := by decide +kernel
theorem dX3_init_28 : decode cX3_init 28 = .ok (.aload_n 0, 1) := by decide +kernel
theorem dX3_init_29 : decode cX3_init 29 = .ok (.bipush 40, 2) := by decide +kernel
theorem dX3_init_31 : decode cX3_init 31 = .ok (.newarray .int, 2) := by decide +kernel
theorem dX3_init_33 : decode cX3_init 33 = .ok (.putfield 21, 3) := by decide +kernel
theorem dX3_init_36 : decode cX3_init 36 = .ok (.aload_n 0, 1) := by decide +kernel
theorem dX3_init_37 : decode cX3_init 37 = .ok (.bipush 40, 2) := by decide +kernel
theorem dX3_init_39 : decode cX3_init 39 = .ok (.newarray .int, 2) := by decide +kernel
theorem dX3_init_41 : decode cX3_init 41 = .ok (.putfield 24, 3) := by decide +kernel
theorem dX3_init_44 : decode cX3_init 44 = .ok (.aload_n 0, 1) := by decide +kernel
theorem dX3_init_45 : decode cX3_init 45 = .ok (.bipush 40, 2) := by decide +kernel
theorem dX3_init_47 : decode cX3_init 47 = .ok (.newarray .int, 2) := by decide +kernel
theorem dX3_init_49 : decode cX3_init 49 = .ok (.putfield 27, 3) := by decide +kernel
theorem dX3_init_52 : decode cX3_init 52 = .ok (.aload_n 0, 1) := by decide +kernel
theorem dX3_init_53 : decode cX3_init 53 = .ok (.bipush 40, 2) := by decide +kernel
theorem dX3_init_55 : decode cX3_init 55 = .ok (.newarray .int, 2) := by decide +kernel
theorem dX3_init_57 : decode cX3_init 57 = .ok (.putfield 30, 3) := by decide +kernel
theorem dX3_init_60 : decode cX3_init 60 = .ok (.aload_n 0, 1) := by decide +kernel
theorem dX3_init_61 : decode cX3_init 61 = .ok (.bipush 32, 2) := by decide +kernel
theorem dX3_init_63 : decode cX3_init 63 = .ok (.newarray .int, 2) := by decide +kernel
theorem dX3_init_65 : decode cX3_init 65 = .ok (.putfield 33, 3) := by decide +kernel
theorem dX3_init_68 : decode cX3_init 68 = .ok (.aload_n 0, 1) := by decide +kernel
theorem dX3_init_69 : decode cX3_init 69 = .ok (.bipush 32, 2) := by decide +kernel
theorem dX3_init_71 : decode cX3_init 71 = .ok (.newarray .int, 2) := by decide +kernel
theorem dX3_init_73 : decode cX3_init 73 = .ok (.putfield 36, 3) := by decide +kernel
theorem dX3_init_76 : decode cX3_init 76 = .ok (.aload_n 0, 1) := by decide +kernel
theorem dX3_init_77 : decode cX3_init 77 = .ok (.bipush 32, 2) := by decide +kernel
theorem dX3_init_79 : decode cX3_init 79 = .ok (.newarray .int, 2) := by decide +kernel
theorem dX3_init_81 : decode cX3_init 81 = .ok (.putfield 39, 3) := by decide +kernel
theorem dX3_init_84 : decode cX3_init 84 = .ok (.aload_n 0, 1) := by decide +kernel
theorem dX3_init_85 : decode cX3_init 85 = .ok (.bipush 32, 2) := by decide +kernel
theorem dX3_init_87 : decode cX3_init 87 = .ok (.newarray .int, 2) := by decide +kernel
theorem dX3_init_89 : decode cX3_init 89 = .ok (.putfield 42, 3) := by decide +kernel
theorem dX3_init_92 : decode cX3_init 92 = .ok (.aload_n 0, 1) := by decide +kernel
theorem dX3_init_93 : decode cX3_init 93 = .ok (.bipush 32, 2) := by decide +kernel
theorem dX3_init_95 : decode cX3_init 95 = .ok (.newarray .int, 2) := by decide +kernel
theorem dX3_init_97 : decode cX3_init 97 = .ok (.putfield 45, 3) := by decide +kernel
theorem dX3_init_100 : decode cX3_init 100 = .ok (.aload_n 0, 1) := by decide +kernel
theorem dX3_init_101 : decode cX3_init 101 = .ok (.bipush 32, 2) := by decide +kernel
theorem dX3_init_103 : decode cX3_init 103 = .ok (.newarray .int, 2) := by decide +kernel
theorem dX3_init_105 : decode cX3_init 105 = .ok (.putfield 48, 3) := by decide +kernel
theorem dX3_init_108 : decode cX3_init 108 = .ok (.aload_n 0, 1) := by decide +kernel
theorem dX3_init_109 : decode cX3_init 109 = .ok (.iconst 0, 1) := by decide +kernel
theorem dX3_init_110 : decode cX3_init 110 = .ok (.putfield 51, 3) := by decide +kernel
theorem dX3_init_113 : decode cX3_init 113 = .ok (.aload_n 0, 1) := by decide +kernel
theorem dX3_init_114 : decode cX3_init 114 = .ok (.iconst (-1), 1) := by decide +kernel
theorem dX3_init_115 : decode cX3_init 115 = .ok (.putfield 55, 3) := by decide +kernel
theorem dX3_init_118 : decode cX3_init 118 = .ok (.aload_n 0, 1) := by decide +kernel
theorem dX3_init_119 : decode cX3_init 119 = .ok (.iconst 0, 1) := by decide +kernel
theorem dX3_init_120 : decode cX3_init 120 = .ok (.putfield 58, 3) := by decide +kernel
theorem dX3_init_123 : decode cX3_init 123 = .ok (.return_, 1) := by decide +kernel
theorem dX3_makeRoom_0 : decode cX3_makeRoom 0 = .ok (.aload_n 0, 1) := by decide +kernel
theorem dX3_makeRoom_1 : decode cX3_makeRoom 1 = .ok (.getfield 58, 3) := by decide +kernel
theorem dX3_makeRoom_4 : decode cX3_makeRoom 4 = .ok (.aload_n 0, 1) := by decide +kernel
theorem dX3_makeRoom_5 : decode cX3_makeRoom 5 = .ok (.getfield 33, 3) := by decide +kernel
theorem dX3_makeRoom_8 : decode cX3_makeRoom 8 = .ok (.arraylength, 1) := by decide +kernel
theorem dX3_makeRoom_9 : decode cX3_makeRoom 9 = .ok (.if_icmp .lt 99, 3) := by decide +kernel
theorem dX3_makeRoom_12 : decode cX3_makeRoom 12 = .ok (.aload_n 0, 1) := by decide +kernel
theorem dX3_makeRoom_13 : decode cX3_makeRoom 13 = .ok (.getfield 58, 3) := by decide +kernel
theorem dX3_makeRoom_16 : decode cX3_makeRoom 16 = .ok (.sipush 1500, 3) := by decide +kernel
theorem dX3_makeRoom_19 : decode cX3_makeRoom 19 = .ok (.if_icmp .ge 89, 3) := by decide +kernel
theorem dX3_makeRoom_22 : decode cX3_makeRoom 22 = .ok (.iconst 2, 1) := by decide +kernel
theorem dX3_makeRoom_23 : decode cX3_makeRoom 23 = .ok (.aload_n 0, 1) := by decide +kernel
theorem dX3_makeRoom_24 : decode cX3_makeRoom 24 = .ok (.getfield 33, 3) := by decide +kernel
theorem dX3_makeRoom_27 : decode cX3_makeRoom 27 = .ok (.arraylength, 1) := by decide +kernel
theorem dX3_makeRoom_28 : decode cX3_makeRoom 28 = .ok (.imul, 1) := by decide +kernel
theorem dX3_makeRoom_29 : decode cX3_makeRoom 29 = .ok (.sipush 1500, 3) := by decide +kernel
theorem dX3_makeRoom_32 : decode cX3_makeRoom 32 = .ok (.invokestatic 61, 3) := by decide +kernel
theorem dX3_makeRoom_35 : decode cX3_makeRoom 35 = .ok (.istore_n 1, 1) := by decide +kernel
theorem dX3_makeRoom_36 : decode cX3_makeRoom 36 = .ok (.aload_n 0, 1) := by decide +kernel
theorem dX3_makeRoom_37 : decode cX3_makeRoom 37 = .ok (.aload_n 0, 1) := by decide +kernel
theorem dX3_makeRoom_38 : decode cX3_makeRoom 38 = .ok (.getfield 33, 3) := by decide +kernel
theorem dX3_makeRoom_41 : decode cX3_makeRoom 41 = .ok (.iload_n 1, 1) := by decide +kernel
theorem dX3_makeRoom_42 : decode cX3_makeRoom 42 = .ok (.invokestatic 67, 3) := by decide +kernel
theorem dX3_makeRoom_45 : decode cX3_makeRoom 45 = .ok (.putfield 33, 3) := by decide +kernel
theorem dX3_makeRoom_48 : decode cX3_makeRoom 48 = .ok (.aload_n 0, 1) := by decide +kernel
theorem dX3_makeRoom_49 : decode cX3_makeRoom 49 = .ok (.aload_n 0, 1) := by decide +kernel
theorem dX3_makeRoom_50 : decode cX3_makeRoom 50 = .ok (.getfield 36, 3) := by decide +kernel
theorem dX3_makeRoom_53 : decode cX3_makeRoom 53 = .ok (.iload_n 1, 1) := by decide +kernel
theorem dX3_makeRoom_54 : decode cX3_makeRoom 54 = .ok (.invokestatic 67, 3) := by decide +kernel
theorem dX3_makeRoom_57 : decode cX3_makeRoom 57 = .ok (.putfield 36, 3) := by decide +kernel
theorem dX3_makeRoom_60 : decode cX3_makeRoom 60 = .ok (.aload_n 0, 1) := by decide +kernel
theorem dX3_makeRoom_61 : decode cX3_makeRoom 61 = .ok (.aload_n 0, 1) := by decide +kernel
theorem dX3_makeRoom_62 : decode cX3_makeRoom 62 = .ok (.getfield 39, 3) := by decide +kernel
theorem dX3_makeRoom_65 : decode cX3_makeRoom 65 = .ok (.iload_n 1, 1) := by decide +kernel
theorem dX3_makeRoom_66 : decode cX3_makeRoom 66 = .ok (.invokestatic 67, 3) := by decide +kernel
theorem dX3_makeRoom_69 : decode cX3_makeRoom 69 = .ok (.putfield 39, 3) := by decide +kernel
theorem dX3_makeRoom_72 : decode cX3_makeRoom 72 = .ok (.aload_n 0, 1) := by decide +kernel
theorem dX3_makeRoom_73 : decode cX3_makeRoom 73 = .ok (.aload_n 0, 1) := by decide +kernel
theorem dX3_makeRoom_74 : decode cX3_makeRoom 74 = .ok (.getfield 42, 3) := by decide +kernel
theorem dX3_makeRoom_77 : decode cX3_makeRoom 77 = .ok (.iload_n 1, 1) := by decide +kernel
theorem dX3_makeRoom_78 : decode cX3_makeRoom 78 = .ok (.invokestatic 67, 3) := by decide +kernel
theorem dX3_makeRoom_81 : decode cX3_makeRoom 81 = .ok (.putfield 42, 3) := by decide +kernel
theorem dX3_makeRoom_84 : decode cX3_makeRoom 84 = .ok (.aload_n 0, 1) := by decide +kernel
theorem dX3_makeRoom_85 : decode cX3_makeRoom 85 = .ok (.aload_n 0, 1) := by decide +kernel
theorem dX3_makeRoom_86 : decode cX3_makeRoom 86 = .ok (.getfield 45, 3) := by decide +kernel
theorem dX3_makeRoom_89 : decode cX3_makeRoom 89 = .ok (.iload_n 1, 1) := by decide +kernel
theorem dX3_makeRoom_90 : decode cX3_makeRoom 90 = .ok (.invokestatic 67, 3) := by decide +kernel
theorem dX3_makeRoom_93 : decode cX3_makeRoom 93 = .ok (.putfield 45, 3) := by decide +kernel
theorem dX3_makeRoom_96 : decode cX3_makeRoom 96 = .ok (.aload_n 0, 1) := by decide +kernel
theorem dX3_makeRoom_97 : decode cX3_makeRoom 97 = .ok (.aload_n 0, 1) := by decide +kernel
theorem dX3_makeRoom_98 : decode cX3_makeRoom 98 = .ok (.getfield 48, 3) := by decide +kernel
theorem dX3_makeRoom_101 : decode cX3_makeRoom 101 = .ok (.iload_n 1, 1) := by decide +kernel
theorem dX3_makeRoom_102 : decode cX3_makeRoom 102 = .ok (.invokestatic 67, 3) := by decide +kernel
theorem dX3_makeRoom_105 : decode cX3_makeRoom 105 = .ok (.putfield 48, 3) := by decide +kernel
theorem dX3_makeRoom_108 : decode cX3_makeRoom 108 = .ok (.aload_n 0, 1) := by decide +kernel
theorem dX3_makeRoom_109 : decode cX3_makeRoom 109 = .ok (.getfield 58, 3) := by decide +kernel
theorem dX3_makeRoom_112 : decode cX3_makeRoom 112 = .ok (.aload_n 0, 1) := by decide +kernel
theorem dX3_makeRoom_113 : decode cX3_makeRoom 113 = .ok (.getfield 33, 3) := by decide +kernel
theorem dX3_makeRoom_116 : decode cX3_makeRoom 116 = .ok (.arraylength, 1) := by decide +kernel
theorem dX3_makeRoom_117 : decode cX3_makeRoom 117 = .ok (.if_icmp .ge 7, 3) := by decide +kernel
theorem dX3_makeRoom_120 : decode cX3_makeRoom 120 = .ok (.iconst 1, 1) := by decide +kernel
theorem dX3_makeRoom_121 : decode cX3_makeRoom 121 = .ok (.goto 4, 3) := by decide +kernel
theorem dX3_makeRoom_124 : decode cX3_makeRoom 124 = .ok (.iconst 0, 1) := by decide +kernel
theorem dX3_makeRoom_125 : decode cX3_makeRoom 125 = .ok (.ireturn, 1) := by decide +kernel
theorem dX3_isWhole_0 : decode cX3_isWhole 0 = .ok (.iload_n 1, 1) := by decide +kernel
theorem dX3_isWhole_1 : decode cX3_isWhole 1 = .ok (.ifCond .lt 23, 3) := by decide +kernel
theorem dX3_isWhole_4 : decode cX3_isWhole 4 = .ok (.iload_n 1, 1) := by decide +kernel
theorem dX3_isWhole_5 : decode cX3_isWhole 5 = .ok (.aload_n 0, 1) := by decide +kernel
theorem dX3_isWhole_6 : decode cX3_isWhole 6 = .ok (.getfield 51, 3) := by decide +kernel
theorem dX3_isWhole_9 : decode cX3_isWhole 9 = .ok (.if_icmp .ge 15, 3) := by decide +kernel
theorem dX3_isWhole_12 : decode cX3_isWhole 12 = .ok (.iload_n 1, 1) := by decide +kernel
theorem dX3_isWhole_13 : decode cX3_isWhole 13 = .ok (.aload_n 0, 1) := by decide +kernel
theorem dX3_isWhole_14 : decode cX3_isWhole 14 = .ok (.getfield 55, 3) := by decide +kernel
theorem dX3_isWhole_17 : decode cX3_isWhole 17 = .ok (.if_icmp .eq 7, 3) := by decide +kernel
theorem dX3_isWhole_20 : decode cX3_isWhole 20 = .ok (.iconst 1, 1) := by decide +kernel
theorem dX3_isWhole_21 : decode cX3_isWhole 21 = .ok (.goto 4, 3) := by decide +kernel
theorem dX3_isWhole_24 : decode cX3_isWhole 24 = .ok (.iconst 0, 1) := by decide +kernel
theorem dX3_isWhole_25 : decode cX3_isWhole 25 = .ok (.ireturn, 1) := by decide +kernel
theorem dX3_allLocals_0 : decode cX3_allLocals 0 = .ok (.aload_n 0, 1) := by decide +kernel
theorem dX3_allLocals_1 : decode cX3_allLocals 1 = .ok (.getfield 9, 3) := by decide +kernel
theorem dX3_allLocals_4 : decode cX3_allLocals 4 = .ok (.iload_n 1, 1) := by decide +kernel
theorem dX3_allLocals_5 : decode cX3_allLocals 5 = .ok (.iaload, 1) := by decide +kernel
theorem dX3_allLocals_6 : decode cX3_allLocals 6 = .ok (.aload_n 0, 1) := by decide +kernel
theorem dX3_allLocals_7 : decode cX3_allLocals 7 = .ok (.getfield 18, 3) := by decide +kernel
theorem dX3_allLocals_10 : decode cX3_allLocals 10 = .ok (.iload_n 1, 1) := by decide +kernel
theorem dX3_allLocals_11 : decode cX3_allLocals 11 = .ok (.iaload, 1) := by decide +kernel
theorem dX3_allLocals_12 : decode cX3_allLocals 12 = .ok (.iadd, 1) := by decide +kernel
theorem dX3_allLocals_13 : decode cX3_allLocals 13 = .ok (.ireturn, 1) := by decide +kernel
theorem dX3_resultsOf_0 : decode cX3_resultsOf 0 = .ok (.iload_n 1, 1) := by decide +kernel
theorem dX3_resultsOf_1 : decode cX3_resultsOf 1 = .ok (.iconst (-1), 1) := by decide +kernel
theorem dX3_resultsOf_2 : decode cX3_resultsOf 2 = .ok (.if_icmp .ne 12, 3) := by decide +kernel
theorem dX3_resultsOf_5 : decode cX3_resultsOf 5 = .ok (.aload_n 0, 1) := by decide +kernel
theorem dX3_resultsOf_6 : decode cX3_resultsOf 6 = .ok (.getfield 15, 3) := by decide +kernel
theorem dX3_resultsOf_9 : decode cX3_resultsOf 9 = .ok (.iload_n 2, 1) := by decide +kernel
theorem dX3_resultsOf_10 : decode cX3_resultsOf 10 = .ok (.iaload, 1) := by decide +kernel
theorem dX3_resultsOf_11 : decode cX3_resultsOf 11 = .ok (.goto 9, 3) := by decide +kernel
theorem dX3_resultsOf_14 : decode cX3_resultsOf 14 = .ok (.aload_n 0, 1) := by decide +kernel
theorem dX3_resultsOf_15 : decode cX3_resultsOf 15 = .ok (.getfield 39, 3) := by decide +kernel
theorem dX3_resultsOf_18 : decode cX3_resultsOf 18 = .ok (.iload_n 1, 1) := by decide +kernel
theorem dX3_resultsOf_19 : decode cX3_resultsOf 19 = .ok (.iaload, 1) := by decide +kernel
theorem dX3_resultsOf_20 : decode cX3_resultsOf 20 = .ok (.ireturn, 1) := by decide +kernel
theorem dX3_isLoop_0 : decode cX3_isLoop 0 = .ok (.iload_n 1, 1) := by decide +kernel
theorem dX3_isLoop_1 : decode cX3_isLoop 1 = .ok (.iconst (-1), 1) := by decide +kernel
theorem dX3_isLoop_2 : decode cX3_isLoop 2 = .ok (.if_icmp .eq 17, 3) := by decide +kernel
theorem dX3_isLoop_5 : decode cX3_isLoop 5 = .ok (.aload_n 0, 1) := by decide +kernel
theorem dX3_isLoop_6 : decode cX3_isLoop 6 = .ok (.getfield 33, 3) := by decide +kernel
theorem dX3_isLoop_9 : decode cX3_isLoop 9 = .ok (.iload_n 1, 1) := by decide +kernel
theorem dX3_isLoop_10 : decode cX3_isLoop 10 = .ok (.iaload, 1) := by decide +kernel
theorem dX3_isLoop_11 : decode cX3_isLoop 11 = .ok (.iconst 3, 1) := by decide +kernel
theorem dX3_isLoop_12 : decode cX3_isLoop 12 = .ok (.if_icmp .ne 7, 3) := by decide +kernel
theorem dX3_isLoop_15 : decode cX3_isLoop 15 = .ok (.iconst 1, 1) := by decide +kernel
theorem dX3_isLoop_16 : decode cX3_isLoop 16 = .ok (.goto 4, 3) := by decide +kernel
theorem dX3_isLoop_19 : decode cX3_isLoop 19 = .ok (.iconst 0, 1) := by decide +kernel
theorem dX3_isLoop_20 : decode cX3_isLoop 20 = .ok (.ireturn, 1) := by decide +kernel
theorem dX3_wantedBy_0 : decode cX3_wantedBy 0 = .ok (.iload_n 1, 1) := by decide +kernel
theorem dX3_wantedBy_1 : decode cX3_wantedBy 1 = .ok (.iconst (-1), 1) := by decide +kernel
theorem dX3_wantedBy_2 : decode cX3_wantedBy 2 = .ok (.if_icmp .ne 10, 3) := by decide +kernel
theorem dX3_wantedBy_5 : decode cX3_wantedBy 5 = .ok (.aload_n 0, 1) := by decide +kernel
theorem dX3_wantedBy_6 : decode cX3_wantedBy 6 = .ok (.getfield 15, 3) := by decide +kernel
theorem dX3_wantedBy_9 : decode cX3_wantedBy 9 = .ok (.iload_n 2, 1) := by decide +kernel
theorem dX3_wantedBy_10 : decode cX3_wantedBy 10 = .ok (.iaload, 1) := by decide +kernel
theorem dX3_wantedBy_11 : decode cX3_wantedBy 11 = .ok (.ireturn, 1) := by decide +kernel
theorem dX3_wantedBy_12 : decode cX3_wantedBy 12 = .ok (.aload_n 0, 1) := by decide +kernel
theorem dX3_wantedBy_13 : decode cX3_wantedBy 13 = .ok (.getfield 33, 3) := by decide +kernel
theorem dX3_wantedBy_16 : decode cX3_wantedBy 16 = .ok (.iload_n 1, 1) := by decide +kernel
theorem dX3_wantedBy_17 : decode cX3_wantedBy 17 = .ok (.iaload, 1) := by decide +kernel
theorem dX3_wantedBy_18 : decode cX3_wantedBy 18 = .ok (.iconst 3, 1) := by decide +kernel
theorem dX3_wantedBy_19 : decode cX3_wantedBy 19 = .ok (.if_icmp .ne 12, 3) := by decide +kernel
theorem dX3_wantedBy_22 : decode cX3_wantedBy 22 = .ok (.aload_n 0, 1) := by decide +kernel
theorem dX3_wantedBy_23 : decode cX3_wantedBy 23 = .ok (.getfield 36, 3) := by decide +kernel
theorem dX3_wantedBy_26 : decode cX3_wantedBy 26 = .ok (.iload_n 1, 1) := by decide +kernel
theorem dX3_wantedBy_27 : decode cX3_wantedBy 27 = .ok (.iaload, 1) := by decide +kernel
theorem dX3_wantedBy_28 : decode cX3_wantedBy 28 = .ok (.goto 9, 3) := by decide +kernel
theorem dX3_wantedBy_31 : decode cX3_wantedBy 31 = .ok (.aload_n 0, 1) := by decide +kernel
theorem dX3_wantedBy_32 : decode cX3_wantedBy 32 = .ok (.getfield 39, 3) := by decide +kernel
theorem dX3_wantedBy_35 : decode cX3_wantedBy 35 = .ok (.iload_n 1, 1) := by decide +kernel
theorem dX3_wantedBy_36 : decode cX3_wantedBy 36 = .ok (.iaload, 1) := by decide +kernel
theorem dX3_wantedBy_37 : decode cX3_wantedBy 37 = .ok (.ireturn, 1) := by decide +kernel
theorem dX3_constant_0 : decode cX3_constant 0 = .ok (.aload_n 0, 1) := by decide +kernel
theorem dX3_constant_1 : decode cX3_constant 1 = .ok (.getfield 36, 3) := by decide +kernel
theorem dX3_constant_4 : decode cX3_constant 4 = .ok (.iload_n 1, 1) := by decide +kernel
theorem dX3_constant_5 : decode cX3_constant 5 = .ok (.iaload, 1) := by decide +kernel
theorem dX3_constant_6 : decode cX3_constant 6 = .ok (.i2l, 1) := by decide +kernel
theorem dX3_constant_7 : decode cX3_constant 7 = .ok (.ldc2_w 73, 3) := by decide +kernel
theorem dX3_constant_10 : decode cX3_constant 10 = .ok (.land, 1) := by decide +kernel
theorem dX3_constant_11 : decode cX3_constant 11 = .ok (.lstore_n 2, 1) := by decide +kernel
theorem dX3_constant_12 : decode cX3_constant 12 = .ok (.aload_n 0, 1) := by decide +kernel
theorem dX3_constant_13 : decode cX3_constant 13 = .ok (.getfield 33, 3) := by decide +kernel
theorem dX3_constant_16 : decode cX3_constant 16 = .ok (.iload_n 1, 1) := by decide +kernel
theorem dX3_constant_17 : decode cX3_constant 17 = .ok (.iaload, 1) := by decide +kernel
theorem dX3_constant_18 : decode cX3_constant 18 = .ok (.bipush 66, 2) := by decide +kernel
theorem dX3_constant_20 : decode cX3_constant 20 = .ok (.if_icmp .ne 18, 3) := by decide +kernel
theorem dX3_constant_23 : decode cX3_constant 23 = .ok (.aload_n 0, 1) := by decide +kernel
theorem dX3_constant_24 : decode cX3_constant 24 = .ok (.getfield 39, 3) := by decide +kernel
theorem dX3_constant_27 : decode cX3_constant 27 = .ok (.iload_n 1, 1) := by decide +kernel
theorem dX3_constant_28 : decode cX3_constant 28 = .ok (.iaload, 1) := by decide +kernel
theorem dX3_constant_29 : decode cX3_constant 29 = .ok (.i2l, 1) := by decide +kernel
theorem dX3_constant_30 : decode cX3_constant 30 = .ok (.bipush 32, 2) := by decide +kernel
theorem dX3_constant_32 : decode cX3_constant 32 = .ok (.lshl, 1) := by decide +kernel
theorem dX3_constant_33 : decode cX3_constant 33 = .ok (.lload_n 2, 1) := by decide +kernel
theorem dX3_constant_34 : decode cX3_constant 34 = .ok (.lor, 1) := by decide +kernel
theorem dX3_constant_35 : decode cX3_constant 35 = .ok (.goto 4, 3) := by decide +kernel
theorem dX3_constant_38 : decode cX3_constant 38 = .ok (.lload_n 2, 1) := by decide +kernel
theorem dX3_constant_39 : decode cX3_constant 39 = .ok (.lreturn, 1) := by decide +kernel
theorem dX4_init_0 : decode cX4_init 0 = .ok (.aload_n 0, 1) := by decide +kernel
theorem dX4_init_1 : decode cX4_init 1 = .ok (.invokespecial 3, 3) := by decide +kernel
theorem dX4_init_4 : decode cX4_init 4 = .ok (.aload_n 0, 1) := by decide +kernel
theorem dX4_init_5 : decode cX4_init 5 = .ok (.bipush 40, 2) := by decide +kernel
theorem dX4_init_7 : decode cX4_init 7 = .ok (.newarray .int, 2) := by decide +kernel
theorem dX4_init_9 : decode cX4_init 9 = .ok (.putfield 9, 3) := by decide +kernel
theorem dX4_init_12 : decode cX4_init 12 = .ok (.aload_n 0, 1) := by decide +kernel
theorem dX4_init_13 : decode cX4_init 13 = .ok (.bipush 64, 2) := by decide +kernel
theorem dX4_init_15 : decode cX4_init 15 = .ok (.newarray .int, 2) := by decide +kernel
theorem dX4_init_17 : decode cX4_init 17 = .ok (.putfield 15, 3) := by decide +kernel
theorem dX4_init_20 : decode cX4_init 20 = .ok (.aload_n 0, 1) := by decide +kernel
theorem dX4_init_21 : decode cX4_init 21 = .ok (.bipush 64, 2) := by decide +kernel
theorem dX4_init_23 : decode cX4_init 23 = .ok (.newarray .int, 2) := by decide +kernel
theorem dX4_init_25 : decode cX4_init 25 = .ok (.putfield 18, 3) := by decide +kernel
theorem dX4_init_28 : decode cX4_init 28 = .ok (.aload_n 0, 1) := by decide +kernel
theorem dX4_init_29 : decode cX4_init 29 = .ok (.bipush 64, 2) := by decide +kernel
theorem dX4_init_31 : decode cX4_init 31 = .ok (.newarray .int, 2) := by decide +kernel
theorem dX4_init_33 : decode cX4_init 33 = .ok (.putfield 21, 3) := by decide +kernel
theorem dX4_init_36 : decode cX4_init 36 = .ok (.aload_n 0, 1) := by decide +kernel
theorem dX4_init_37 : decode cX4_init 37 = .ok (.bipush 64, 2) := by decide +kernel
theorem dX4_init_39 : decode cX4_init 39 = .ok (.newarray .int, 2) := by decide +kernel
theorem dX4_init_41 : decode cX4_init 41 = .ok (.putfield 24, 3) := by decide +kernel
theorem dX4_init_44 : decode cX4_init 44 = .ok (.aload_n 0, 1) := by decide +kernel
theorem dX4_init_45 : decode cX4_init 45 = .ok (.bipush 64, 2) := by decide +kernel
theorem dX4_init_47 : decode cX4_init 47 = .ok (.newarray .int, 2) := by decide +kernel
theorem dX4_init_49 : decode cX4_init 49 = .ok (.putfield 27, 3) := by decide +kernel
theorem dX4_init_52 : decode cX4_init 52 = .ok (.aload_n 0, 1) := by decide +kernel
theorem dX4_init_53 : decode cX4_init 53 = .ok (.bipush 64, 2) := by decide +kernel
theorem dX4_init_55 : decode cX4_init 55 = .ok (.newarray .int, 2) := by decide +kernel
theorem dX4_init_57 : decode cX4_init 57 = .ok (.putfield 30, 3) := by decide +kernel
theorem dX4_init_60 : decode cX4_init 60 = .ok (.aload_n 0, 1) := by decide +kernel
theorem dX4_init_61 : decode cX4_init 61 = .ok (.iconst 0, 1) := by decide +kernel
theorem dX4_init_62 : decode cX4_init 62 = .ok (.putfield 33, 3) := by decide +kernel
theorem dX4_init_65 : decode cX4_init 65 = .ok (.aload_n 0, 1) := by decide +kernel
theorem dX4_init_66 : decode cX4_init 66 = .ok (.iconst 0, 1) := by decide +kernel
theorem dX4_init_67 : decode cX4_init 67 = .ok (.putfield 37, 3) := by decide +kernel
theorem dX4_init_70 : decode cX4_init 70 = .ok (.aload_n 0, 1) := by decide +kernel
theorem dX4_init_71 : decode cX4_init 71 = .ok (.getfield 9, 3) := by decide +kernel
theorem dX4_init_74 : decode cX4_init 74 = .ok (.iconst (-1), 1) := by decide +kernel
theorem dX4_init_75 : decode cX4_init 75 = .ok (.invokestatic 40, 3) := by decide +kernel
theorem dX4_init_78 : decode cX4_init 78 = .ok (.return_, 1) := by decide +kernel
theorem dX4_makeRoom_0 : decode cX4_makeRoom 0 = .ok (.aload_n 0, 1) := by decide +kernel
theorem dX4_makeRoom_1 : decode cX4_makeRoom 1 = .ok (.getfield 33, 3) := by decide +kernel
theorem dX4_makeRoom_4 : decode cX4_makeRoom 4 = .ok (.iconst 2, 1) := by decide +kernel
theorem dX4_makeRoom_5 : decode cX4_makeRoom 5 = .ok (.iload_n 1, 1) := by decide +kernel
theorem dX4_makeRoom_6 : decode cX4_makeRoom 6 = .ok (.imul, 1) := by decide +kernel
theorem dX4_makeRoom_7 : decode cX4_makeRoom 7 = .ok (.iadd, 1) := by decide +kernel
theorem dX4_makeRoom_8 : decode cX4_makeRoom 8 = .ok (.istore_n 2, 1) := by decide +kernel
theorem dX4_makeRoom_9 : decode cX4_makeRoom 9 = .ok (.iload_n 2, 1) := by decide +kernel
theorem dX4_makeRoom_10 : decode cX4_makeRoom 10 = .ok (.aload_n 0, 1) := by decide +kernel
theorem dX4_makeRoom_11 : decode cX4_makeRoom 11 = .ok (.getfield 15, 3) := by decide +kernel
theorem dX4_makeRoom_14 : decode cX4_makeRoom 14 = .ok (.arraylength, 1) := by decide +kernel
theorem dX4_makeRoom_15 : decode cX4_makeRoom 15 = .ok (.if_icmp .le 93, 3) := by decide +kernel
theorem dX4_makeRoom_18 : decode cX4_makeRoom 18 = .ok (.iload_n 2, 1) := by decide +kernel
theorem dX4_makeRoom_19 : decode cX4_makeRoom 19 = .ok (.iconst 2, 1) := by decide +kernel
theorem dX4_makeRoom_20 : decode cX4_makeRoom 20 = .ok (.aload_n 0, 1) := by decide +kernel
theorem dX4_makeRoom_21 : decode cX4_makeRoom 21 = .ok (.getfield 15, 3) := by decide +kernel
theorem dX4_makeRoom_24 : decode cX4_makeRoom 24 = .ok (.arraylength, 1) := by decide +kernel
theorem dX4_makeRoom_25 : decode cX4_makeRoom 25 = .ok (.imul, 1) := by decide +kernel
theorem dX4_makeRoom_26 : decode cX4_makeRoom 26 = .ok (.invokestatic 46, 3) := by decide +kernel
theorem dX4_makeRoom_29 : decode cX4_makeRoom 29 = .ok (.sipush 3000, 3) := by decide +kernel
theorem dX4_makeRoom_32 : decode cX4_makeRoom 32 = .ok (.invokestatic 52, 3) := by decide +kernel
theorem dX4_makeRoom_35 : decode cX4_makeRoom 35 = .ok (.istore_n 3, 1) := by decide +kernel
theorem dX4_makeRoom_36 : decode cX4_makeRoom 36 = .ok (.aload_n 0, 1) := by decide +kernel
theorem dX4_makeRoom_37 : decode cX4_makeRoom 37 = .ok (.aload_n 0, 1) := by decide +kernel
theorem dX4_makeRoom_38 : decode cX4_makeRoom 38 = .ok (.getfield 15, 3) := by decide +kernel
theorem dX4_makeRoom_41 : decode cX4_makeRoom 41 = .ok (.iload_n 3, 1) := by decide +kernel
theorem dX4_makeRoom_42 : decode cX4_makeRoom 42 = .ok (.invokestatic 55, 3) := by decide +kernel
theorem dX4_makeRoom_45 : decode cX4_makeRoom 45 = .ok (.putfield 15, 3) := by decide +kernel
theorem dX4_makeRoom_48 : decode cX4_makeRoom 48 = .ok (.aload_n 0, 1) := by decide +kernel
theorem dX4_makeRoom_49 : decode cX4_makeRoom 49 = .ok (.aload_n 0, 1) := by decide +kernel
theorem dX4_makeRoom_50 : decode cX4_makeRoom 50 = .ok (.getfield 18, 3) := by decide +kernel
theorem dX4_makeRoom_53 : decode cX4_makeRoom 53 = .ok (.iload_n 3, 1) := by decide +kernel
theorem dX4_makeRoom_54 : decode cX4_makeRoom 54 = .ok (.invokestatic 55, 3) := by decide +kernel
theorem dX4_makeRoom_57 : decode cX4_makeRoom 57 = .ok (.putfield 18, 3) := by decide +kernel
theorem dX4_makeRoom_60 : decode cX4_makeRoom 60 = .ok (.aload_n 0, 1) := by decide +kernel
theorem dX4_makeRoom_61 : decode cX4_makeRoom 61 = .ok (.aload_n 0, 1) := by decide +kernel
theorem dX4_makeRoom_62 : decode cX4_makeRoom 62 = .ok (.getfield 21, 3) := by decide +kernel
theorem dX4_makeRoom_65 : decode cX4_makeRoom 65 = .ok (.iload_n 3, 1) := by decide +kernel
theorem dX4_makeRoom_66 : decode cX4_makeRoom 66 = .ok (.invokestatic 55, 3) := by decide +kernel
theorem dX4_makeRoom_69 : decode cX4_makeRoom 69 = .ok (.putfield 21, 3) := by decide +kernel
theorem dX4_makeRoom_72 : decode cX4_makeRoom 72 = .ok (.aload_n 0, 1) := by decide +kernel
theorem dX4_makeRoom_73 : decode cX4_makeRoom 73 = .ok (.aload_n 0, 1) := by decide +kernel
theorem dX4_makeRoom_74 : decode cX4_makeRoom 74 = .ok (.getfield 24, 3) := by decide +kernel
theorem dX4_makeRoom_77 : decode cX4_makeRoom 77 = .ok (.iload_n 3, 1) := by decide +kernel
theorem dX4_makeRoom_78 : decode cX4_makeRoom 78 = .ok (.invokestatic 55, 3) := by decide +kernel
theorem dX4_makeRoom_81 : decode cX4_makeRoom 81 = .ok (.putfield 24, 3) := by decide +kernel
theorem dX4_makeRoom_84 : decode cX4_makeRoom 84 = .ok (.aload_n 0, 1) := by decide +kernel
theorem dX4_makeRoom_85 : decode cX4_makeRoom 85 = .ok (.aload_n 0, 1) := by decide +kernel
theorem dX4_makeRoom_86 : decode cX4_makeRoom 86 = .ok (.getfield 27, 3) := by decide +kernel
theorem dX4_makeRoom_89 : decode cX4_makeRoom 89 = .ok (.iload_n 3, 1) := by decide +kernel
theorem dX4_makeRoom_90 : decode cX4_makeRoom 90 = .ok (.invokestatic 55, 3) := by decide +kernel
theorem dX4_makeRoom_93 : decode cX4_makeRoom 93 = .ok (.putfield 27, 3) := by decide +kernel
theorem dX4_makeRoom_96 : decode cX4_makeRoom 96 = .ok (.aload_n 0, 1) := by decide +kernel
theorem dX4_makeRoom_97 : decode cX4_makeRoom 97 = .ok (.aload_n 0, 1) := by decide +kernel
theorem dX4_makeRoom_98 : decode cX4_makeRoom 98 = .ok (.getfield 30, 3) := by decide +kernel
theorem dX4_makeRoom_101 : decode cX4_makeRoom 101 = .ok (.iload_n 3, 1) := by decide +kernel
theorem dX4_makeRoom_102 : decode cX4_makeRoom 102 = .ok (.invokestatic 55, 3) := by decide +kernel
theorem dX4_makeRoom_105 : decode cX4_makeRoom 105 = .ok (.putfield 30, 3) := by decide +kernel
theorem dX4_makeRoom_108 : decode cX4_makeRoom 108 = .ok (.return_, 1) := by decide +kernel
theorem dX5_init_0 : decode cX5_init 0 = .ok (.aload_n 0, 1) := by decide +kernel
theorem dX5_init_1 : decode cX5_init 1 = .ok (.invokespecial 3, 3) := by decide +kernel
theorem dX5_init_4 : decode cX5_init 4 = .ok (.aload_n 0, 1) := by decide +kernel
theorem dX5_init_5 : decode cX5_init 5 = .ok (.aload_n 1, 1) := by decide +kernel
theorem dX5_init_6 : decode cX5_init 6 = .ok (.putfield 9, 3) := by decide +kernel
theorem dX5_init_9 : decode cX5_init 9 = .ok (.aload_n 0, 1) := by decide +kernel
theorem dX5_init_10 : decode cX5_init 10 = .ok (.aload_n 2, 1) := by decide +kernel
theorem dX5_init_11 : decode cX5_init 11 = .ok (.putfield 15, 3) := by decide +kernel
theorem dX5_init_14 : decode cX5_init 14 = .ok (.aload_n 0, 1) := by decide +kernel
theorem dX5_init_15 : decode cX5_init 15 = .ok (.aload_n 3, 1) := by decide +kernel
theorem dX5_init_16 : decode cX5_init 16 = .ok (.putfield 19, 3) := by decide +kernel
theorem dX5_init_19 : decode cX5_init 19 = .ok (.aload_n 0, 1) := by decide +kernel
theorem dX5_init_20 : decode cX5_init 20 = .ok (.aload 4, 2) := by decide +kernel
theorem dX5_init_22 : decode cX5_init 22 = .ok (.putfield 23, 3) := by decide +kernel
theorem dX5_init_25 : decode cX5_init 25 = .ok (.return_, 1) := by decide +kernel
theorem dX5_payStep_0 : decode cX5_payStep 0 = .ok (.aload_n 0, 1) := by decide +kernel
theorem dX5_payStep_1 : decode cX5_payStep 1 = .ok (.getfield 23, 3) := by decide +kernel
theorem dX5_payStep_4 : decode cX5_payStep 4 = .ok (.aload_n 0, 1) := by decide +kernel
theorem dX5_payStep_5 : decode cX5_payStep 5 = .ok (.getfield 15, 3) := by decide +kernel
theorem dX5_payStep_8 : decode cX5_payStep 8 = .ok (.getfield 27, 3) := by decide +kernel
theorem dX5_payStep_11 : decode cX5_payStep 11 = .ok (.invokevirtual 33, 3) := by decide +kernel
theorem dX5_payStep_14 : decode cX5_payStep 14 = .ok (.istore_n 1, 1) := by decide +kernel
theorem dX5_payStep_15 : decode cX5_payStep 15 = .ok (.iload_n 1, 1) := by decide +kernel
theorem dX5_payStep_16 : decode cX5_payStep 16 = .ok (.iconst (-1), 1) := by decide +kernel
theorem dX5_payStep_17 : decode cX5_payStep 17 = .ok (.if_icmp .ne 4, 3) := by decide +kernel
theorem dX5_payStep_20 : decode cX5_payStep 20 = .ok (.return_, 1) := by decide +kernel
theorem dX5_payStep_21 : decode cX5_payStep 21 = .ok (.aload_n 0, 1) := by decide +kernel
theorem dX5_payStep_22 : decode cX5_payStep 22 = .ok (.getfield 23, 3) := by decide +kernel
theorem dX5_payStep_25 : decode cX5_payStep 25 = .ok (.dup, 1) := by decide +kernel
theorem dX5_payStep_26 : decode cX5_payStep 26 = .ok (.getfield 39, 3) := by decide +kernel
theorem dX5_payStep_29 : decode cX5_payStep 29 = .ok (.iconst 1, 1) := by decide +kernel
theorem dX5_payStep_30 : decode cX5_payStep 30 = .ok (.iadd, 1) := by decide +kernel
theorem dX5_payStep_31 : decode cX5_payStep 31 = .ok (.putfield 39, 3) := by decide +kernel
theorem dX5_payStep_34 : decode cX5_payStep 34 = .ok (.aload_n 0, 1) := by decide +kernel
theorem dX5_payStep_35 : decode cX5_payStep 35 = .ok (.getfield 23, 3) := by decide +kernel
theorem dX5_payStep_38 : decode cX5_payStep 38 = .ok (.getfield 39, 3) := by decide +kernel
theorem dX5_payStep_41 : decode cX5_payStep 41 = .ok (.aload_n 0, 1) := by decide +kernel
theorem dX5_payStep_42 : decode cX5_payStep 42 = .ok (.getfield 15, 3) := by decide +kernel
theorem dX5_payStep_45 : decode cX5_payStep 45 = .ok (.getfield 42, 3) := by decide +kernel
theorem dX5_payStep_48 : decode cX5_payStep 48 = .ok (.iload_n 1, 1) := by decide +kernel
theorem dX5_payStep_49 : decode cX5_payStep 49 = .ok (.iaload, 1) := by decide +kernel
theorem dX5_payStep_50 : decode cX5_payStep 50 = .ok (.if_icmp .lt 16, 3) := by decide +kernel
theorem dX5_payStep_53 : decode cX5_payStep 53 = .ok (.aload_n 0, 1) := by decide +kernel
theorem dX5_payStep_54 : decode cX5_payStep 54 = .ok (.getfield 23, 3) := by decide +kernel
theorem dX5_payStep_57 : decode cX5_payStep 57 = .ok (.iconst 0, 1) := by decide +kernel
theorem dX5_payStep_58 : decode cX5_payStep 58 = .ok (.putfield 39, 3) := by decide +kernel
theorem dX5_payStep_61 : decode cX5_payStep 61 = .ok (.aload_n 0, 1) := by decide +kernel
theorem dX5_payStep_62 : decode cX5_payStep 62 = .ok (.iload_n 1, 1) := by decide +kernel
theorem dX5_payStep_63 : decode cX5_payStep 63 = .ok (.invokevirtual 46, 3) := by decide +kernel
theorem dX5_payStep_66 : decode cX5_payStep 66 = .ok (.return_, 1) := by decide +kernel
theorem dX5_performFree_0 : decode cX5_performFree 0 = .ok (.aload_n 0, 1) := by decide +kernel
theorem dX5_performFree_1 : decode cX5_performFree 1 = .ok (.getfield 23, 3) := by decide +kernel
theorem dX5_performFree_4 : decode cX5_performFree 4 = .ok (.aload_n 0, 1) := by decide +kernel
theorem dX5_performFree_5 : decode cX5_performFree 5 = .ok (.getfield 15, 3) := by decide +kernel
theorem dX5_performFree_8 : decode cX5_performFree 8 = .ok (.getfield 27, 3) := by decide +kernel
theorem dX5_performFree_11 : decode cX5_performFree 11 = .ok (.invokevirtual 33, 3) := by decide +kernel
theorem dX5_performFree_14 : decode cX5_performFree 14 = .ok (.istore_n 1, 1) := by decide +kernel
theorem dX5_performFree_15 : decode cX5_performFree 15 = .ok (.iload_n 1, 1) := by decide +kernel
theorem dX5_performFree_16 : decode cX5_performFree 16 = .ok (.iconst (-1), 1) := by decide +kernel
theorem dX5_performFree_17 : decode cX5_performFree 17 = .ok (.if_icmp .eq 19, 3) := by decide +kernel
theorem dX5_performFree_20 : decode cX5_performFree 20 = .ok (.aload_n 0, 1) := by decide +kernel
theorem dX5_performFree_21 : decode cX5_performFree 21 = .ok (.getfield 15, 3) := by decide +kernel
theorem dX5_performFree_24 : decode cX5_performFree 24 = .ok (.getfield 42, 3) := by decide +kernel
theorem dX5_performFree_27 : decode cX5_performFree 27 = .ok (.iload_n 1, 1) := by decide +kernel
theorem dX5_performFree_28 : decode cX5_performFree 28 = .ok (.iaload, 1) := by decide +kernel
theorem dX5_performFree_29 : decode cX5_performFree 29 = .ok (.ifCond .ne 7, 3) := by decide +kernel
theorem dX5_performFree_32 : decode cX5_performFree 32 = .ok (.iconst 1, 1) := by decide +kernel
theorem dX5_performFree_33 : decode cX5_performFree 33 = .ok (.goto 4, 3) := by decide +kernel
theorem dX5_performFree_36 : decode cX5_performFree 36 = .ok (.iconst 0, 1) := by decide +kernel
theorem dX5_performFree_37 : decode cX5_performFree 37 = .ok (.istore_n 2, 1) := by decide +kernel
theorem dX5_performFree_38 : decode cX5_performFree 38 = .ok (.iload_n 2, 1) := by decide +kernel
theorem dX5_performFree_39 : decode cX5_performFree 39 = .ok (.ifCond .eq 8, 3) := by decide +kernel
theorem dX5_performFree_42 : decode cX5_performFree 42 = .ok (.aload_n 0, 1) := by decide +kernel
theorem dX5_performFree_43 : decode cX5_performFree 43 = .ok (.iload_n 1, 1) := by decide +kernel
theorem dX5_performFree_44 : decode cX5_performFree 44 = .ok (.invokevirtual 46, 3) := by decide +kernel
theorem dX5_performFree_47 : decode cX5_performFree 47 = .ok (.iload_n 2, 1) := by decide +kernel
theorem dX5_performFree_48 : decode cX5_performFree 48 = .ok (.ireturn, 1) := by decide +kernel
theorem dX5_perform_0 : decode cX5_perform 0 = .ok (.aload_n 0, 1) := by decide +kernel
theorem dX5_perform_1 : decode cX5_perform 1 = .ok (.getfield 23, 3) := by decide +kernel
theorem dX5_perform_4 : decode cX5_perform 4 = .ok (.getfield 50, 3) := by decide +kernel
theorem dX5_perform_7 : decode cX5_perform 7 = .ok (.iconst 1, 1) := by decide +kernel
theorem dX5_perform_8 : decode cX5_perform 8 = .ok (.isub, 1) := by decide +kernel
theorem dX5_perform_9 : decode cX5_perform 9 = .ok (.istore_n 2, 1) := by decide +kernel
theorem dX5_perform_10 : decode cX5_perform 10 = .ok (.aload_n 0, 1) := by decide +kernel
theorem dX5_perform_11 : decode cX5_perform 11 = .ok (.getfield 15, 3) := by decide +kernel
theorem dX5_perform_14 : decode cX5_perform 14 = .ok (.getfield 53, 3) := by decide +kernel
theorem dX5_perform_17 : decode cX5_perform 17 = .ok (.iload_n 1, 1) := by decide +kernel
theorem dX5_perform_18 : decode cX5_perform 18 = .ok (.iaload, 1) := by decide +kernel
theorem dX5_perform_19 : decode cX5_perform 19 = .ok (.istore_n 3, 1) := by decide +kernel
theorem dX5_perform_20 : decode cX5_perform 20 = .ok (.aload_n 0, 1) := by decide +kernel
theorem dX5_perform_21 : decode cX5_perform 21 = .ok (.getfield 23, 3) := by decide +kernel
theorem dX5_perform_24 : decode cX5_perform 24 = .ok (.getfield 56, 3) := by decide +kernel
theorem dX5_perform_27 : decode cX5_perform 27 = .ok (.iload_n 2, 1) := by decide +kernel
theorem dX5_perform_28 : decode cX5_perform 28 = .ok (.iload_n 1, 1) := by decide +kernel
theorem dX5_perform_29 : decode cX5_perform 29 = .ok (.iconst 1, 1) := by decide +kernel
theorem dX5_perform_30 : decode cX5_perform 30 = .ok (.iadd, 1) := by decide +kernel
theorem dX5_perform_31 : decode cX5_perform 31 = .ok (.iastore, 1) := by decide +kernel
theorem dX5_perform_32 : decode cX5_perform 32 = .ok (.iload_n 3, 1) := by decide +kernel
theorem dX5_perform_33 : decode cX5_perform 33 = .ok (.sipush 200, 3) := by decide +kernel
theorem dX5_perform_36 : decode cX5_perform 36 = .ok (.if_icmp .ne 34, 3) := by decide +kernel
theorem dX5_perform_39 : decode cX5_perform 39 = .ok (.aload_n 0, 1) := by decide +kernel
theorem dX5_perform_40 : decode cX5_perform 40 = .ok (.iload_n 2, 1) := by decide +kernel
theorem dX5_perform_41 : decode cX5_perform 41 = .ok (.aload_n 0, 1) := by decide +kernel
theorem dX5_perform_42 : decode cX5_perform 42 = .ok (.getfield 15, 3) := by decide +kernel
theorem dX5_perform_45 : decode cX5_perform 45 = .ok (.getfield 59, 3) := by decide +kernel
theorem dX5_perform_48 : decode cX5_perform 48 = .ok (.iload_n 1, 1) := by decide +kernel
theorem dX5_perform_49 : decode cX5_perform 49 = .ok (.iaload, 1) := by decide +kernel
theorem dX5_perform_50 : decode cX5_perform 50 = .ok (.aload_n 0, 1) := by decide +kernel
theorem dX5_perform_51 : decode cX5_perform 51 = .ok (.iload_n 2, 1) := by decide +kernel
theorem dX5_perform_52 : decode cX5_perform 52 = .ok (.aload_n 0, 1) := by decide +kernel
theorem dX5_perform_53 : decode cX5_perform 53 = .ok (.getfield 15, 3) := by decide +kernel
theorem dX5_perform_56 : decode cX5_perform 56 = .ok (.getfield 62, 3) := by decide +kernel
theorem dX5_perform_59 : decode cX5_perform 59 = .ok (.iload_n 1, 1) := by decide +kernel
theorem dX5_perform_60 : decode cX5_perform 60 = .ok (.iaload, 1) := by decide +kernel
theorem dX5_perform_61 : decode cX5_perform 61 = .ok (.invokevirtual 65, 3) := by decide +kernel
theorem dX5_perform_64 : decode cX5_perform 64 = .ok (.invokevirtual 69, 3) := by decide +kernel
theorem dX5_perform_67 : decode cX5_perform 67 = .ok (.goto 58, 3) := by decide +kernel
theorem dX5_perform_70 : decode cX5_perform 70 = .ok (.iload_n 3, 1) := by decide +kernel
theorem dX5_perform_71 : decode cX5_perform 71 = .ok (.bipush 69, 2) := by decide +kernel
theorem dX5_perform_73 : decode cX5_perform 73 = .ok (.if_icmp .lt 13, 3) := by decide +kernel
theorem dX5_perform_76 : decode cX5_perform 76 = .ok (.aload_n 0, 1) := by decide +kernel
theorem dX5_perform_77 : decode cX5_perform 77 = .ok (.iload_n 2, 1) := by decide +kernel
theorem dX5_perform_78 : decode cX5_perform 78 = .ok (.iload_n 3, 1) := by decide +kernel
theorem dX5_perform_79 : decode cX5_perform 79 = .ok (.iload_n 1, 1) := by decide +kernel
theorem dX5_perform_80 : decode cX5_perform 80 = .ok (.invokevirtual 73, 3) := by decide +kernel
theorem dX5_perform_83 : decode cX5_perform 83 = .ok (.goto 42, 3) := by decide +kernel
theorem dX5_perform_86 : decode cX5_perform 86 = .ok (.iload_n 3, 1) := by decide +kernel
theorem dX5_perform_87 : decode cX5_perform 87 = .ok (.bipush 40, 2) := by decide +kernel
theorem dX5_perform_89 : decode cX5_perform 89 = .ok (.if_icmp .lt 13, 3) := by decide +kernel
theorem dX5_perform_92 : decode cX5_perform 92 = .ok (.aload_n 0, 1) := by decide +kernel
theorem dX5_perform_93 : decode cX5_perform 93 = .ok (.iload_n 2, 1) := by decide +kernel
theorem dX5_perform_94 : decode cX5_perform 94 = .ok (.iload_n 3, 1) := by decide +kernel
theorem dX5_perform_95 : decode cX5_perform 95 = .ok (.iload_n 1, 1) := by decide +kernel
theorem dX5_perform_96 : decode cX5_perform 96 = .ok (.invokevirtual 77, 3) := by decide +kernel
theorem dX5_perform_99 : decode cX5_perform 99 = .ok (.goto 26, 3) := by decide +kernel
theorem dX5_perform_102 : decode cX5_perform 102 = .ok (.iload_n 3, 1) := by decide +kernel
theorem dX5_perform_103 : decode cX5_perform 103 = .ok (.bipush 26, 2) := by decide +kernel
theorem dX5_perform_105 : decode cX5_perform 105 = .ok (.if_icmp .lt 13, 3) := by decide +kernel
theorem dX5_perform_108 : decode cX5_perform 108 = .ok (.aload_n 0, 1) := by decide +kernel
theorem dX5_perform_109 : decode cX5_perform 109 = .ok (.iload_n 2, 1) := by decide +kernel
theorem dX5_perform_110 : decode cX5_perform 110 = .ok (.iload_n 3, 1) := by decide +kernel
theorem dX5_perform_111 : decode cX5_perform 111 = .ok (.iload_n 1, 1) := by decide +kernel
theorem dX5_perform_112 : decode cX5_perform 112 = .ok (.invokevirtual 80, 3) := by decide +kernel
theorem dX5_perform_115 : decode cX5_perform 115 = .ok (.goto 10, 3) := by decide +kernel
theorem dX5_perform_118 : decode cX5_perform 118 = .ok (.aload_n 0, 1) := by decide +kernel
theorem dX5_perform_119 : decode cX5_perform 119 = .ok (.iload_n 2, 1) := by decide +kernel
theorem dX5_perform_120 : decode cX5_perform 120 = .ok (.iload_n 3, 1) := by decide +kernel
theorem dX5_perform_121 : decode cX5_perform 121 = .ok (.iload_n 1, 1) := by decide +kernel
theorem dX5_perform_122 : decode cX5_perform 122 = .ok (.invokevirtual 83, 3) := by decide +kernel
theorem dX5_perform_125 : decode cX5_perform 125 = .ok (.return_, 1) := by decide +kernel
theorem dX5_operate_0 : decode cX5_operate 0 = .ok (.aload_n 0, 1) := by decide +kernel
theorem dX5_operate_1 : decode cX5_operate 1 = .ok (.iload_n 1, 1) := by decide +kernel
theorem dX5_operate_2 : decode cX5_operate 2 = .ok (.aload_n 0, 1) := by decide +kernel
theorem dX5_operate_3 : decode cX5_operate 3 = .ok (.getfield 15, 3) := by decide +kernel
theorem dX5_operate_6 : decode cX5_operate 6 = .ok (.getfield 62, 3) := by decide +kernel
theorem dX5_operate_9 : decode cX5_operate 9 = .ok (.iload_n 3, 1) := by decide +kernel
theorem dX5_operate_10 : decode cX5_operate 10 = .ok (.iaload, 1) := by decide +kernel
theorem dX5_operate_11 : decode cX5_operate 11 = .ok (.invokevirtual 65, 3) := by decide +kernel
theorem dX5_operate_14 : decode cX5_operate 14 = .ok (.lstore 4, 2) := by decide +kernel
theorem dX5_operate_16 : decode cX5_operate 16 = .ok (.aload_n 0, 1) := by decide +kernel
theorem dX5_operate_17 : decode cX5_operate 17 = .ok (.iload_n 1, 1) := by decide +kernel
theorem dX5_operate_18 : decode cX5_operate 18 = .ok (.aload_n 0, 1) := by decide +kernel
theorem dX5_operate_19 : decode cX5_operate 19 = .ok (.getfield 15, 3) := by decide +kernel
theorem dX5_operate_22 : decode cX5_operate 22 = .ok (.getfield 86, 3) := by decide +kernel
theorem dX5_operate_25 : decode cX5_operate 25 = .ok (.iload_n 3, 1) := by decide +kernel
theorem dX5_operate_26 : decode cX5_operate 26 = .ok (.iaload, 1) := by decide +kernel
theorem dX5_operate_27 : decode cX5_operate 27 = .ok (.invokevirtual 65, 3) := by decide +kernel
theorem dX5_operate_30 : decode cX5_operate 30 = .ok (.lstore 6, 2) := by decide +kernel
theorem dX5_operate_32 : decode cX5_operate 32 = .ok (.iload_n 2, 1) := by decide +kernel
theorem dX5_operate_33 : decode cX5_operate 33 = .ok (.lload 6, 2) := by decide +kernel
theorem dX5_operate_35 : decode cX5_operate 35 = .ok (.invokestatic 89, 3) := by decide +kernel
theorem dX5_operate_38 : decode cX5_operate 38 = .ok (.ifCond .eq 13, 3) := by decide +kernel
theorem dX5_operate_41 : decode cX5_operate 41 = .ok (.aload_n 0, 1) := by decide +kernel
theorem dX5_operate_42 : decode cX5_operate 42 = .ok (.getfield 23, 3) := by decide +kernel
theorem dX5_operate_45 : decode cX5_operate 45 = .ok (.bipush 11, 2) := by decide +kernel
theorem dX5_operate_47 : decode cX5_operate 47 = .ok (.invokevirtual 95, 3) := by decide +kernel
theorem dX5_operate_50 : decode cX5_operate 50 = .ok (.return_, 1) := by decide +kernel
theorem dX5_operate_51 : decode cX5_operate 51 = .ok (.aload_n 0, 1) := by decide +kernel
theorem dX5_operate_52 : decode cX5_operate 52 = .ok (.iload_n 1, 1) := by decide +kernel
theorem dX5_operate_53 : decode cX5_operate 53 = .ok (.aload_n 0, 1) := by decide +kernel
theorem dX5_operate_54 : decode cX5_operate 54 = .ok (.getfield 15, 3) := by decide +kernel
theorem dX5_operate_57 : decode cX5_operate 57 = .ok (.getfield 59, 3) := by decide +kernel
theorem dX5_operate_60 : decode cX5_operate 60 = .ok (.iload_n 3, 1) := by decide +kernel
theorem dX5_operate_61 : decode cX5_operate 61 = .ok (.iaload, 1) := by decide +kernel
theorem dX5_operate_62 : decode cX5_operate 62 = .ok (.iload_n 2, 1) := by decide +kernel
theorem dX5_operate_63 : decode cX5_operate 63 = .ok (.lload 4, 2) := by decide +kernel
theorem dX5_operate_65 : decode cX5_operate 65 = .ok (.lload 6, 2) := by decide +kernel
theorem dX5_operate_67 : decode cX5_operate 67 = .ok (.invokestatic 98, 3) := by decide +kernel
theorem dX5_operate_70 : decode cX5_operate 70 = .ok (.invokevirtual 69, 3) := by decide +kernel
theorem dX5_operate_73 : decode cX5_operate 73 = .ok (.return_, 1) := by decide +kernel
theorem dX5_useMemory_0 : decode cX5_useMemory 0 = .ok (.iload_n 2, 1) := by decide +kernel
theorem dX5_useMemory_1 : decode cX5_useMemory 1 = .ok (.bipush 63, 2) := by decide +kernel
theorem dX5_useMemory_3 : decode cX5_useMemory 3 = .ok (.if_icmp .ne 26, 3) := by decide +kernel
theorem dX5_useMemory_6 : decode cX5_useMemory 6 = .ok (.aload_n 0, 1) := by decide +kernel
theorem dX5_useMemory_7 : decode cX5_useMemory 7 = .ok (.iload_n 1, 1) := by decide +kernel
theorem dX5_useMemory_8 : decode cX5_useMemory 8 = .ok (.aload_n 0, 1) := by decide +kernel
theorem dX5_useMemory_9 : decode cX5_useMemory 9 = .ok (.getfield 15, 3) := by decide +kernel
theorem dX5_useMemory_12 : decode cX5_useMemory 12 = .ok (.getfield 59, 3) := by decide +kernel
theorem dX5_useMemory_15 : decode cX5_useMemory 15 = .ok (.iload_n 3, 1) := by decide +kernel
theorem dX5_useMemory_16 : decode cX5_useMemory 16 = .ok (.iaload, 1) := by decide +kernel
theorem dX5_useMemory_17 : decode cX5_useMemory 17 = .ok (.aload_n 0, 1) := by decide +kernel
theorem dX5_useMemory_18 : decode cX5_useMemory 18 = .ok (.getfield 19, 3) := by decide +kernel
theorem dX5_useMemory_21 : decode cX5_useMemory 21 = .ok (.getfield 102, 3) := by decide +kernel
theorem dX5_useMemory_24 : decode cX5_useMemory 24 = .ok (.i2l, 1) := by decide +kernel
theorem dX5_useMemory_25 : decode cX5_useMemory 25 = .ok (.invokevirtual 69, 3) := by decide +kernel
theorem dX5_useMemory_28 : decode cX5_useMemory 28 = .ok (.return_, 1) := by decide +kernel
theorem dX5_useMemory_29 : decode cX5_useMemory 29 = .ok (.aload_n 0, 1) := by decide +kernel
theorem dX5_useMemory_30 : decode cX5_useMemory 30 = .ok (.iload_n 1, 1) := by decide +kernel
theorem dX5_useMemory_31 : decode cX5_useMemory 31 = .ok (.aload_n 0, 1) := by decide +kernel
theorem dX5_useMemory_32 : decode cX5_useMemory 32 = .ok (.getfield 15, 3) := by decide +kernel
theorem dX5_useMemory_35 : decode cX5_useMemory 35 = .ok (.getfield 62, 3) := by decide +kernel
theorem dX5_useMemory_38 : decode cX5_useMemory 38 = .ok (.iload_n 3, 1) := by decide +kernel
theorem dX5_useMemory_39 : decode cX5_useMemory 39 = .ok (.iaload, 1) := by decide +kernel
theorem dX5_useMemory_40 : decode cX5_useMemory 40 = .ok (.invokevirtual 65, 3) := by decide +kernel
theorem dX5_useMemory_43 : decode cX5_useMemory 43 = .ok (.lstore 4, 2) := by decide +kernel
theorem dX5_useMemory_45 : decode cX5_useMemory 45 = .ok (.iload_n 2, 1) := by decide +kernel
theorem dX5_useMemory_46 : decode cX5_useMemory 46 = .ok (.bipush 64, 2) := by decide +kernel
theorem dX5_useMemory_48 : decode cX5_useMemory 48 = .ok (.if_icmp .ne 27, 3) := by decide +kernel
theorem dX5_useMemory_51 : decode cX5_useMemory 51 = .ok (.aload_n 0, 1) := by decide +kernel
theorem dX5_useMemory_52 : decode cX5_useMemory 52 = .ok (.iload_n 1, 1) := by decide +kernel
theorem dX5_useMemory_53 : decode cX5_useMemory 53 = .ok (.aload_n 0, 1) := by decide +kernel
theorem dX5_useMemory_54 : decode cX5_useMemory 54 = .ok (.getfield 15, 3) := by decide +kernel
theorem dX5_useMemory_57 : decode cX5_useMemory 57 = .ok (.getfield 59, 3) := by decide +kernel
theorem dX5_useMemory_60 : decode cX5_useMemory 60 = .ok (.iload_n 3, 1) := by decide +kernel
theorem dX5_useMemory_61 : decode cX5_useMemory 61 = .ok (.iaload, 1) := by decide +kernel
theorem dX5_useMemory_62 : decode cX5_useMemory 62 = .ok (.aload_n 0, 1) := by decide +kernel
theorem dX5_useMemory_63 : decode cX5_useMemory 63 = .ok (.getfield 19, 3) := by decide +kernel
theorem dX5_useMemory_66 : decode cX5_useMemory 66 = .ok (.lload 4, 2) := by decide +kernel
theorem dX5_useMemory_68 : decode cX5_useMemory 68 = .ok (.invokevirtual 107, 3) := by decide +kernel
theorem dX5_useMemory_71 : decode cX5_useMemory 71 = .ok (.invokevirtual 69, 3) := by decide +kernel
theorem dX5_useMemory_74 : decode cX5_useMemory 74 = .ok (.return_, 1) := by decide +kernel
theorem dX5_useMemory_75 : decode cX5_useMemory 75 = .ok (.lload 4, 2) := by decide +kernel
theorem dX5_useMemory_77 : decode cX5_useMemory 77 = .ok (.aload_n 0, 1) := by decide +kernel
theorem dX5_useMemory_78 : decode cX5_useMemory 78 = .ok (.getfield 15, 3) := by decide +kernel
theorem dX5_useMemory_81 : decode cX5_useMemory 81 = .ok (.getfield 111, 3) := by decide +kernel
theorem dX5_useMemory_84 : decode cX5_useMemory 84 = .ok (.iload_n 3, 1) := by decide +kernel
theorem dX5_useMemory_85 : decode cX5_useMemory 85 = .ok (.iaload, 1) := by decide +kernel
theorem dX5_useMemory_86 : decode cX5_useMemory 86 = .ok (.invokestatic 114, 3) := by decide +kernel
theorem dX5_useMemory_89 : decode cX5_useMemory 89 = .ok (.lstore 6, 2) := by decide +kernel
theorem dX5_useMemory_91 : decode cX5_useMemory 91 = .ok (.aload_n 0, 1) := by decide +kernel
theorem dX5_useMemory_92 : decode cX5_useMemory 92 = .ok (.getfield 19, 3) := by decide +kernel
theorem dX5_useMemory_95 : decode cX5_useMemory 95 = .ok (.lload 6, 2) := by decide +kernel
theorem dX5_useMemory_97 : decode cX5_useMemory 97 = .ok (.iload_n 2, 1) := by decide +kernel
theorem dX5_useMemory_98 : decode cX5_useMemory 98 = .ok (.invokestatic 118, 3) := by decide +kernel
theorem dX5_useMemory_101 : decode cX5_useMemory 101 = .ok (.invokevirtual 121, 3) := by decide +kernel
theorem dX5_useMemory_104 : decode cX5_useMemory 104 = .ok (.ifCond .ne 14, 3) := by decide +kernel
theorem dX5_useMemory_107 : decode cX5_useMemory 107 = .ok (.aload_n 0, 1) := by decide +kernel
theorem dX5_useMemory_108 : decode cX5_useMemory 108 = .ok (.getfield 23, 3) := by decide +kernel
theorem dX5_useMemory_111 : decode cX5_useMemory 111 = .ok (.iconst 4, 1) := by decide +kernel
theorem dX5_useMemory_112 : decode cX5_useMemory 112 = .ok (.invokevirtual 95, 3) := by decide +kernel
theorem dX5_useMemory_115 : decode cX5_useMemory 115 = .ok (.goto 62, 3) := by decide +kernel
theorem dX5_useMemory_118 : decode cX5_useMemory 118 = .ok (.iload_n 2, 1) := by decide +kernel
theorem dX5_useMemory_119 : decode cX5_useMemory 119 = .ok (.bipush 54, 2) := by decide +kernel
theorem dX5_useMemory_121 : decode cX5_useMemory 121 = .ok (.if_icmp .lt 31, 3) := by decide +kernel
theorem dX5_useMemory_124 : decode cX5_useMemory 124 = .ok (.aload_n 0, 1) := by decide +kernel
theorem dX5_useMemory_125 : decode cX5_useMemory 125 = .ok (.getfield 19, 3) := by decide +kernel
theorem dX5_useMemory_128 : decode cX5_useMemory 128 = .ok (.iload_n 2, 1) := by decide +kernel
theorem dX5_useMemory_129 : decode cX5_useMemory 129 = .ok (.lload 6, 2) := by decide +kernel
theorem dX5_useMemory_131 : decode cX5_useMemory 131 = .ok (.l2i, 1) := by decide +kernel
theorem dX5_useMemory_132 : decode cX5_useMemory 132 = .ok (.aload_n 0, 1) := by decide +kernel
theorem dX5_useMemory_133 : decode cX5_useMemory 133 = .ok (.iload_n 1, 1) := by decide +kernel
theorem dX5_useMemory_134 : decode cX5_useMemory 134 = .ok (.aload_n 0, 1) := by decide +kernel
theorem dX5_useMemory_135 : decode cX5_useMemory 135 = .ok (.getfield 15, 3) := by decide +kernel
theorem dX5_useMemory_138 : decode cX5_useMemory 138 = .ok (.getfield 86, 3) := by decide +kernel
theorem dX5_useMemory_141 : decode cX5_useMemory 141 = .ok (.iload_n 3, 1) := by decide +kernel
theorem dX5_useMemory_142 : decode cX5_useMemory 142 = .ok (.iaload, 1) := by decide +kernel
theorem dX5_useMemory_143 : decode cX5_useMemory 143 = .ok (.invokevirtual 65, 3) := by decide +kernel
theorem dX5_useMemory_146 : decode cX5_useMemory 146 = .ok (.invokevirtual 125, 3) := by decide +kernel
theorem dX5_useMemory_149 : decode cX5_useMemory 149 = .ok (.goto 28, 3) := by decide +kernel
theorem dX5_useMemory_152 : decode cX5_useMemory 152 = .ok (.aload_n 0, 1) := by decide +kernel
theorem dX5_useMemory_153 : decode cX5_useMemory 153 = .ok (.iload_n 1, 1) := by decide +kernel
theorem dX5_useMemory_154 : decode cX5_useMemory 154 = .ok (.aload_n 0, 1) := by decide +kernel
theorem dX5_useMemory_155 : decode cX5_useMemory 155 = .ok (.getfield 15, 3) := by decide +kernel
