theorem d_L_law_0 : decode b_L_law 0 = .ok (.new 8, 3) := by decide +kernel
theorem d_L_law_3 : decode b_L_law 3 = .ok (.dup, 1) := by decide +kernel
theorem d_L_law_4 : decode b_L_law 4 = .ok (.invokespecial 103, 3) := by decide +kernel
theorem d_L_law_7 : decode b_L_law 7 = .ok (.astore_n 1, 1) := by decide +kernel
theorem d_L_law_8 : decode b_L_law 8 = .ok (.new 104, 3) := by decide +kernel
theorem d_L_law_11 : decode b_L_law 11 = .ok (.dup, 1) := by decide +kernel
theorem d_L_law_12 : decode b_L_law 12 = .ok (.invokespecial 106, 3) := by decide +kernel
theorem d_L_law_15 : decode b_L_law 15 = .ok (.astore_n 2, 1) := by decide +kernel
theorem d_L_law_16 : decode b_L_law 16 = .ok (.iconst 1, 1) := by decide +kernel
theorem d_L_law_17 : decode b_L_law 17 = .ok (.newarray .long, 2) := by decide +kernel
theorem d_L_law_19 : decode b_L_law 19 = .ok (.astore_n 3, 1) := by decide +kernel
theorem d_L_law_20 : decode b_L_law 20 = .ok (.iconst 0, 1) := by decide +kernel
theorem d_L_law_21 : decode b_L_law 21 = .ok (.istore 4, 2) := by decide +kernel
theorem d_L_law_23 : decode b_L_law 23 = .ok (.iload 4, 2) := by decide +kernel
theorem d_L_law_25 : decode b_L_law 25 = .ok (.aload_n 0, 1) := by decide +kernel
theorem d_L_law_26 : decode b_L_law 26 = .ok (.arraylength, 1) := by decide +kernel
theorem d_L_law_27 : decode b_L_law 27 = .ok (.bipush 6, 2) := by decide +kernel
theorem d_L_law_29 : decode b_L_law 29 = .ok (.isub, 1) := by decide +kernel
theorem d_L_law_30 : decode b_L_law 30 = .ok (.if_icmp .gt 1917, 3) := by decide +kernel
theorem d_L_law_33 : decode b_L_law 33 = .ok (.aload_n 0, 1) := by decide +kernel
theorem d_L_law_34 : decode b_L_law 34 = .ok (.iload 4, 2) := by decide +kernel
theorem d_L_law_36 : decode b_L_law 36 = .ok (.iaload, 1) := by decide +kernel
theorem d_L_law_37 : decode b_L_law 37 = .ok (.bipush 31, 2) := by decide +kernel
theorem d_L_law_39 : decode b_L_law 39 = .ok (.iand, 1) := by decide +kernel
theorem d_L_law_40 : decode b_L_law 40 = .ok (.tableswitch 1901 0 24 #[116, 152, 220, 347, 391, 459, 527, 583, 663, 731, 823, 927, 1007, 1090, 1170, 1238, 1282, 1362, 1441, 1508, 1571, 1650, 1698, 1765, 1833], 116) := by decide +kernel
theorem d_L_law_156 : decode b_L_law 156 = .ok (.aload_n 1, 1) := by decide +kernel
theorem d_L_law_157 : decode b_L_law 157 = .ok (.aload_n 0, 1) := by decide +kernel
theorem d_L_law_158 : decode b_L_law 158 = .ok (.iload 4, 2) := by decide +kernel
theorem d_L_law_160 : decode b_L_law 160 = .ok (.iconst 1, 1) := by decide +kernel
theorem d_L_law_161 : decode b_L_law 161 = .ok (.iadd, 1) := by decide +kernel
theorem d_L_law_162 : decode b_L_law 162 = .ok (.iaload, 1) := by decide +kernel
theorem d_L_law_163 : decode b_L_law 163 = .ok (.invokestatic 107, 3) := by decide +kernel
theorem d_L_law_166 : decode b_L_law 166 = .ok (.istore 5, 2) := by decide +kernel
theorem d_L_law_168 : decode b_L_law 168 = .ok (.aload_n 2, 1) := by decide +kernel
theorem d_L_law_169 : decode b_L_law 169 = .ok (.aload_n 0, 1) := by decide +kernel
theorem d_L_law_170 : decode b_L_law 170 = .ok (.iload 4, 2) := by decide +kernel
theorem d_L_law_172 : decode b_L_law 172 = .ok (.iconst 1, 1) := by decide +kernel
theorem d_L_law_173 : decode b_L_law 173 = .ok (.iadd, 1) := by decide +kernel
theorem d_L_law_174 : decode b_L_law 174 = .ok (.iaload, 1) := by decide +kernel
theorem d_L_law_175 : decode b_L_law 175 = .ok (.invokevirtual 112, 3) := by decide +kernel
theorem d_L_law_178 : decode b_L_law 178 = .ok (.aload_n 2, 1) := by decide +kernel
theorem d_L_law_179 : decode b_L_law 179 = .ok (.invokevirtual 113, 3) := by decide +kernel
theorem d_L_law_182 : decode b_L_law 182 = .ok (.iload 5, 2) := by decide +kernel
theorem d_L_law_184 : decode b_L_law 184 = .ok (.if_icmp .eq 5, 3) := by decide +kernel
theorem d_L_law_187 : decode b_L_law 187 = .ok (.iconst 0, 1) := by decide +kernel
theorem d_L_law_188 : decode b_L_law 188 = .ok (.ireturn, 1) := by decide +kernel
theorem d_L_law_189 : decode b_L_law 189 = .ok (.goto 1752, 3) := by decide +kernel
theorem d_L_law_192 : decode b_L_law 192 = .ok (.aload_n 1, 1) := by decide +kernel
theorem d_L_law_193 : decode b_L_law 193 = .ok (.aload_n 0, 1) := by decide +kernel
theorem d_L_law_194 : decode b_L_law 194 = .ok (.iload 4, 2) := by decide +kernel
theorem d_L_law_196 : decode b_L_law 196 = .ok (.iconst 1, 1) := by decide +kernel
theorem d_L_law_197 : decode b_L_law 197 = .ok (.iadd, 1) := by decide +kernel
theorem d_L_law_198 : decode b_L_law 198 = .ok (.iaload, 1) := by decide +kernel
theorem d_L_law_199 : decode b_L_law 199 = .ok (.aload_n 0, 1) := by decide +kernel
theorem d_L_law_200 : decode b_L_law 200 = .ok (.iload 4, 2) := by decide +kernel
theorem d_L_law_202 : decode b_L_law 202 = .ok (.iconst 2, 1) := by decide +kernel
theorem d_L_law_203 : decode b_L_law 203 = .ok (.iadd, 1) := by decide +kernel
theorem d_L_law_204 : decode b_L_law 204 = .ok (.iaload, 1) := by decide +kernel
theorem d_L_law_205 : decode b_L_law 205 = .ok (.aload_n 3, 1) := by decide +kernel
theorem d_L_law_206 : decode b_L_law 206 = .ok (.invokestatic 116, 3) := by decide +kernel
theorem d_L_law_209 : decode b_L_law 209 = .ok (.istore 5, 2) := by decide +kernel
theorem d_L_law_211 : decode b_L_law 211 = .ok (.aload_n 2, 1) := by decide +kernel
theorem d_L_law_212 : decode b_L_law 212 = .ok (.aload_n 0, 1) := by decide +kernel
theorem d_L_law_213 : decode b_L_law 213 = .ok (.iload 4, 2) := by decide +kernel
theorem d_L_law_215 : decode b_L_law 215 = .ok (.iconst 1, 1) := by decide +kernel
theorem d_L_law_216 : decode b_L_law 216 = .ok (.iadd, 1) := by decide +kernel
theorem d_L_law_217 : decode b_L_law 217 = .ok (.iaload, 1) := by decide +kernel
theorem d_L_law_218 : decode b_L_law 218 = .ok (.aload_n 0, 1) := by decide +kernel
theorem d_L_law_219 : decode b_L_law 219 = .ok (.iload 4, 2) := by decide +kernel
theorem d_L_law_221 : decode b_L_law 221 = .ok (.iconst 2, 1) := by decide +kernel
theorem d_L_law_222 : decode b_L_law 222 = .ok (.iadd, 1) := by decide +kernel
theorem d_L_law_223 : decode b_L_law 223 = .ok (.iaload, 1) := by decide +kernel
theorem d_L_law_224 : decode b_L_law 224 = .ok (.invokevirtual 119, 3) := by decide +kernel
theorem d_L_law_227 : decode b_L_law 227 = .ok (.istore 6, 2) := by decide +kernel
theorem d_L_law_229 : decode b_L_law 229 = .ok (.aload_n 2, 1) := by decide +kernel
theorem d_L_law_230 : decode b_L_law 230 = .ok (.invokevirtual 113, 3) := by decide +kernel
theorem d_L_law_233 : decode b_L_law 233 = .ok (.iload 5, 2) := by decide +kernel
theorem d_L_law_235 : decode b_L_law 235 = .ok (.if_icmp .eq 5, 3) := by decide +kernel
theorem d_L_law_238 : decode b_L_law 238 = .ok (.iconst 0, 1) := by decide +kernel
theorem d_L_law_239 : decode b_L_law 239 = .ok (.ireturn, 1) := by decide +kernel
theorem d_L_law_240 : decode b_L_law 240 = .ok (.iload 5, 2) := by decide +kernel
theorem d_L_law_242 : decode b_L_law 242 = .ok (.ifCond .ne 15, 3) := by decide +kernel
theorem d_L_law_245 : decode b_L_law 245 = .ok (.aload_n 3, 1) := by decide +kernel
theorem d_L_law_246 : decode b_L_law 246 = .ok (.iconst 0, 1) := by decide +kernel
theorem d_L_law_247 : decode b_L_law 247 = .ok (.laload, 1) := by decide +kernel
theorem d_L_law_248 : decode b_L_law 248 = .ok (.iload 6, 2) := by decide +kernel
theorem d_L_law_250 : decode b_L_law 250 = .ok (.i2l, 1) := by decide +kernel
theorem d_L_law_251 : decode b_L_law 251 = .ok (.lcmp, 1) := by decide +kernel
theorem d_L_law_252 : decode b_L_law 252 = .ok (.ifCond .eq 5, 3) := by decide +kernel
theorem d_L_law_255 : decode b_L_law 255 = .ok (.iconst 0, 1) := by decide +kernel
theorem d_L_law_256 : decode b_L_law 256 = .ok (.ireturn, 1) := by decide +kernel
theorem d_L_law_257 : decode b_L_law 257 = .ok (.goto 1684, 3) := by decide +kernel
theorem d_L_law_260 : decode b_L_law 260 = .ok (.aload_n 1, 1) := by decide +kernel
theorem d_L_law_261 : decode b_L_law 261 = .ok (.aload_n 0, 1) := by decide +kernel
theorem d_L_law_262 : decode b_L_law 262 = .ok (.iload 4, 2) := by decide +kernel
theorem d_L_law_264 : decode b_L_law 264 = .ok (.iconst 1, 1) := by decide +kernel
theorem d_L_law_265 : decode b_L_law 265 = .ok (.iadd, 1) := by decide +kernel
theorem d_L_law_266 : decode b_L_law 266 = .ok (.iaload, 1) := by decide +kernel
theorem d_L_law_267 : decode b_L_law 267 = .ok (.aload_n 0, 1) := by decide +kernel
theorem d_L_law_268 : decode b_L_law 268 = .ok (.iload 4, 2) := by decide +kernel
theorem d_L_law_270 : decode b_L_law 270 = .ok (.iconst 2, 1) := by decide +kernel
theorem d_L_law_271 : decode b_L_law 271 = .ok (.iadd, 1) := by decide +kernel
theorem d_L_law_272 : decode b_L_law 272 = .ok (.iaload, 1) := by decide +kernel
theorem d_L_law_273 : decode b_L_law 273 = .ok (.aload_n 0, 1) := by decide +kernel
theorem d_L_law_274 : decode b_L_law 274 = .ok (.iload 4, 2) := by decide +kernel
theorem d_L_law_276 : decode b_L_law 276 = .ok (.iconst 3, 1) := by decide +kernel
theorem d_L_law_277 : decode b_L_law 277 = .ok (.iadd, 1) := by decide +kernel
theorem d_L_law_278 : decode b_L_law 278 = .ok (.iaload, 1) := by decide +kernel
theorem d_L_law_279 : decode b_L_law 279 = .ok (.aload_n 0, 1) := by decide +kernel
theorem d_L_law_280 : decode b_L_law 280 = .ok (.iload 4, 2) := by decide +kernel
theorem d_L_law_282 : decode b_L_law 282 = .ok (.iconst 4, 1) := by decide +kernel
theorem d_L_law_283 : decode b_L_law 283 = .ok (.iadd, 1) := by decide +kernel
theorem d_L_law_284 : decode b_L_law 284 = .ok (.iaload, 1) := by decide +kernel
theorem d_L_law_285 : decode b_L_law 285 = .ok (.aload_n 0, 1) := by decide +kernel
theorem d_L_law_286 : decode b_L_law 286 = .ok (.iload 4, 2) := by decide +kernel
theorem d_L_law_288 : decode b_L_law 288 = .ok (.iconst 5, 1) := by decide +kernel
theorem d_L_law_289 : decode b_L_law 289 = .ok (.iadd, 1) := by decide +kernel
theorem d_L_law_290 : decode b_L_law 290 = .ok (.iaload, 1) := by decide +kernel
theorem d_L_law_291 : decode b_L_law 291 = .ok (.ifCond .eq 7, 3) := by decide +kernel
theorem d_L_law_294 : decode b_L_law 294 = .ok (.iconst 1, 1) := by decide +kernel
theorem d_L_law_295 : decode b_L_law 295 = .ok (.goto 4, 3) := by decide +kernel
theorem d_L_law_298 : decode b_L_law 298 = .ok (.iconst 0, 1) := by decide +kernel
theorem d_L_law_299 : decode b_L_law 299 = .ok (.aload_n 3, 1) := by decide +kernel
theorem d_L_law_300 : decode b_L_law 300 = .ok (.invokestatic 120, 3) := by decide +kernel
theorem d_L_law_303 : decode b_L_law 303 = .ok (.istore 5, 2) := by decide +kernel
theorem d_L_law_305 : decode b_L_law 305 = .ok (.aload_n 2, 1) := by decide +kernel
theorem d_L_law_306 : decode b_L_law 306 = .ok (.aload_n 0, 1) := by decide +kernel
theorem d_L_law_307 : decode b_L_law 307 = .ok (.iload 4, 2) := by decide +kernel
theorem d_L_law_309 : decode b_L_law 309 = .ok (.iconst 1, 1) := by decide +kernel
theorem d_L_law_310 : decode b_L_law 310 = .ok (.iadd, 1) := by decide +kernel
theorem d_L_law_311 : decode b_L_law 311 = .ok (.iaload, 1) := by decide +kernel
theorem d_L_law_312 : decode b_L_law 312 = .ok (.aload_n 0, 1) := by decide +kernel
theorem d_L_law_313 : decode b_L_law 313 = .ok (.iload 4, 2) := by decide +kernel
theorem d_L_law_315 : decode b_L_law 315 = .ok (.iconst 2, 1) := by decide +kernel
theorem d_L_law_316 : decode b_L_law 316 = .ok (.iadd, 1) := by decide +kernel
theorem d_L_law_317 : decode b_L_law 317 = .ok (.iaload, 1) := by decide +kernel
theorem d_L_law_318 : decode b_L_law 318 = .ok (.aload_n 0, 1) := by decide +kernel
theorem d_L_law_319 : decode b_L_law 319 = .ok (.iload 4, 2) := by decide +kernel
theorem d_L_law_321 : decode b_L_law 321 = .ok (.iconst 3, 1) := by decide +kernel
theorem d_L_law_322 : decode b_L_law 322 = .ok (.iadd, 1) := by decide +kernel
theorem d_L_law_323 : decode b_L_law 323 = .ok (.iaload, 1) := by decide +kernel
theorem d_L_law_324 : decode b_L_law 324 = .ok (.aload_n 0, 1) := by decide +kernel
theorem d_L_law_325 : decode b_L_law 325 = .ok (.iload 4, 2) := by decide +kernel
theorem d_L_law_327 : decode b_L_law 327 = .ok (.iconst 4, 1) := by decide +kernel
theorem d_L_law_328 : decode b_L_law 328 = .ok (.iadd, 1) := by decide +kernel
theorem d_L_law_329 : decode b_L_law 329 = .ok (.iaload, 1) := by decide +kernel
theorem d_L_law_330 : decode b_L_law 330 = .ok (.aload_n 0, 1) := by decide +kernel
theorem d_L_law_331 : decode b_L_law 331 = .ok (.iload 4, 2) := by decide +kernel
theorem d_L_law_333 : decode b_L_law 333 = .ok (.iconst 5, 1) := by decide +kernel
theorem d_L_law_334 : decode b_L_law 334 = .ok (.iadd, 1) := by decide +kernel
theorem d_L_law_335 : decode b_L_law 335 = .ok (.iaload, 1) := by decide +kernel
theorem d_L_law_336 : decode b_L_law 336 = .ok (.ifCond .eq 7, 3) := by decide +kernel
theorem d_L_law_339 : decode b_L_law 339 = .ok (.iconst 1, 1) := by decide +kernel
theorem d_L_law_340 : decode b_L_law 340 = .ok (.goto 4, 3) := by decide +kernel
theorem d_L_law_343 : decode b_L_law 343 = .ok (.iconst 0, 1) := by decide +kernel
theorem d_L_law_344 : decode b_L_law 344 = .ok (.invokevirtual 123, 3) := by decide +kernel
theorem d_L_law_347 : decode b_L_law 347 = .ok (.istore 6, 2) := by decide +kernel
theorem d_L_law_349 : decode b_L_law 349 = .ok (.aload_n 2, 1) := by decide +kernel
theorem d_L_law_350 : decode b_L_law 350 = .ok (.invokevirtual 113, 3) := by decide +kernel
theorem d_L_law_353 : decode b_L_law 353 = .ok (.iload 5, 2) := by decide +kernel
theorem d_L_law_355 : decode b_L_law 355 = .ok (.if_icmp .eq 5, 3) := by decide +kernel
theorem d_L_law_358 : decode b_L_law 358 = .ok (.iconst 0, 1) := by decide +kernel
theorem d_L_law_359 : decode b_L_law 359 = .ok (.ireturn, 1) := by decide +kernel
theorem d_L_law_360 : decode b_L_law 360 = .ok (.iload 5, 2) := by decide +kernel
theorem d_L_law_362 : decode b_L_law 362 = .ok (.ifCond .ne 22, 3) := by decide +kernel
theorem d_L_law_365 : decode b_L_law 365 = .ok (.aload_n 3, 1) := by decide +kernel
theorem d_L_law_366 : decode b_L_law 366 = .ok (.iconst 0, 1) := by decide +kernel
theorem d_L_law_367 : decode b_L_law 367 = .ok (.laload, 1) := by decide +kernel
theorem d_L_law_368 : decode b_L_law 368 = .ok (.iload 6, 2) := by decide +kernel
theorem d_L_law_370 : decode b_L_law 370 = .ok (.ifCond .eq 7, 3) := by decide +kernel
theorem d_L_law_373 : decode b_L_law 373 = .ok (.lconst 1, 1) := by decide +kernel
theorem d_L_law_374 : decode b_L_law 374 = .ok (.goto 4, 3) := by decide +kernel
theorem d_L_law_377 : decode b_L_law 377 = .ok (.lconst 0, 1) := by decide +kernel
theorem d_L_law_378 : decode b_L_law 378 = .ok (.lcmp, 1) := by decide +kernel
theorem d_L_law_379 : decode b_L_law 379 = .ok (.ifCond .eq 5, 3) := by decide +kernel
theorem d_L_law_382 : decode b_L_law 382 = .ok (.iconst 0, 1) := by decide +kernel
theorem d_L_law_383 : decode b_L_law 383 = .ok (.ireturn, 1) := by decide +kernel
theorem d_L_law_384 : decode b_L_law 384 = .ok (.goto 1557, 3) := by decide +kernel
theorem d_L_law_387 : decode b_L_law 387 = .ok (.aload_n 1, 1) := by decide +kernel
theorem d_L_law_388 : decode b_L_law 388 = .ok (.aload_n 3, 1) := by decide +kernel
theorem d_L_law_389 : decode b_L_law 389 = .ok (.invokestatic 124, 3) := by decide +kernel
theorem d_L_law_392 : decode b_L_law 392 = .ok (.istore 5, 2) := by decide +kernel
theorem d_L_law_394 : decode b_L_law 394 = .ok (.aload_n 2, 1) := by decide +kernel
theorem d_L_law_395 : decode b_L_law 395 = .ok (.invokevirtual 127, 3) := by decide +kernel
theorem d_L_law_398 : decode b_L_law 398 = .ok (.istore 6, 2) := by decide +kernel
theorem d_L_law_400 : decode b_L_law 400 = .ok (.aload_n 2, 1) := by decide +kernel
theorem d_L_law_401 : decode b_L_law 401 = .ok (.invokevirtual 113, 3) := by decide +kernel
theorem d_L_law_404 : decode b_L_law 404 = .ok (.iload 5, 2) := by decide +kernel
theorem d_L_law_406 : decode b_L_law 406 = .ok (.if_icmp .eq 5, 3) := by decide +kernel
theorem d_L_law_409 : decode b_L_law 409 = .ok (.iconst 0, 1) := by decide +kernel
theorem d_L_law_410 : decode b_L_law 410 = .ok (.ireturn, 1) := by decide +kernel
theorem d_L_law_411 : decode b_L_law 411 = .ok (.iload 5, 2) := by decide +kernel
theorem d_L_law_413 : decode b_L_law 413 = .ok (.ifCond .ne 15, 3) := by decide +kernel
theorem d_L_law_416 : decode b_L_law 416 = .ok (.aload_n 3, 1) := by decide +kernel
theorem d_L_law_417 : decode b_L_law 417 = .ok (.iconst 0, 1) := by decide +kernel
theorem d_L_law_418 : decode b_L_law 418 = .ok (.laload, 1) := by decide +kernel
theorem d_L_law_419 : decode b_L_law 419 = .ok (.iload 6, 2) := by decide +kernel
theorem d_L_law_421 : decode b_L_law 421 = .ok (.i2l, 1) := by decide +kernel
theorem d_L_law_422 : decode b_L_law 422 = .ok (.lcmp, 1) := by decide +kernel
theorem d_L_law_423 : decode b_L_law 423 = .ok (.ifCond .eq 5, 3) := by decide +kernel
theorem d_L_law_426 : decode b_L_law 426 = .ok (.iconst 0, 1) := by decide +kernel
theorem d_L_law_427 : decode b_L_law 427 = .ok (.ireturn, 1) := by decide +kernel
theorem d_L_law_428 : decode b_L_law 428 = .ok (.goto 1513, 3) := by decide +kernel
theorem d_L_law_431 : decode b_L_law 431 = .ok (.aload_n 1, 1) := by decide +kernel
theorem d_L_law_432 : decode b_L_law 432 = .ok (.aload_n 0, 1) := by decide +kernel
theorem d_L_law_433 : decode b_L_law 433 = .ok (.iload 4, 2) := by decide +kernel
theorem d_L_law_435 : decode b_L_law 435 = .ok (.iconst 1, 1) := by decide +kernel
theorem d_L_law_436 : decode b_L_law 436 = .ok (.iadd, 1) := by decide +kernel
theorem d_L_law_437 : decode b_L_law 437 = .ok (.iaload, 1) := by decide +kernel
theorem d_L_law_438 : decode b_L_law 438 = .ok (.aload_n 0, 1) := by decide +kernel
theorem d_L_law_439 : decode b_L_law 439 = .ok (.iload 4, 2) := by decide +kernel
theorem d_L_law_441 : decode b_L_law 441 = .ok (.iconst 2, 1) := by decide +kernel
theorem d_L_law_442 : decode b_L_law 442 = .ok (.iadd, 1) := by decide +kernel
theorem d_L_law_443 : decode b_L_law 443 = .ok (.iaload, 1) := by decide +kernel
theorem d_L_law_444 : decode b_L_law 444 = .ok (.aload_n 3, 1) := by decide +kernel
theorem d_L_law_445 : decode b_L_law 445 = .ok (.invokestatic 128, 3) := by decide +kernel
theorem d_L_law_448 : decode b_L_law 448 = .ok (.istore 5, 2) := by decide +kernel
theorem d_L_law_450 : decode b_L_law 450 = .ok (.aload_n 2, 1) := by decide +kernel
theorem d_L_law_451 : decode b_L_law 451 = .ok (.aload_n 0, 1) := by decide +kernel
theorem d_L_law_452 : decode b_L_law 452 = .ok (.iload 4, 2) := by decide +kernel
theorem d_L_law_454 : decode b_L_law 454 = .ok (.iconst 1, 1) := by decide +kernel
theorem d_L_law_455 : decode b_L_law 455 = .ok (.iadd, 1) := by decide +kernel
theorem d_L_law_456 : decode b_L_law 456 = .ok (.iaload, 1) := by decide +kernel
theorem d_L_law_457 : decode b_L_law 457 = .ok (.aload_n 0, 1) := by decide +kernel
theorem d_L_law_458 : decode b_L_law 458 = .ok (.iload 4, 2) := by decide +kernel
theorem d_L_law_460 : decode b_L_law 460 = .ok (.iconst 2, 1) := by decide +kernel
theorem d_L_law_461 : decode b_L_law 461 = .ok (.iadd, 1) := by decide +kernel
theorem d_L_law_462 : decode b_L_law 462 = .ok (.iaload, 1) := by decide +kernel
theorem d_L_law_463 : decode b_L_law 463 = .ok (.invokevirtual 130, 3) := by decide +kernel
theorem d_L_law_466 : decode b_L_law 466 = .ok (.istore 6, 2) := by decide +kernel
theorem d_L_law_468 : decode b_L_law 468 = .ok (.aload_n 2, 1) := by decide +kernel
theorem d_L_law_469 : decode b_L_law 469 = .ok (.invokevirtual 113, 3) := by decide +kernel
theorem d_L_law_472 : decode b_L_law 472 = .ok (.iload 5, 2) := by decide +kernel
theorem d_L_law_474 : decode b_L_law 474 = .ok (.if_icmp .eq 5, 3) := by decide +kernel
theorem d_L_law_477 : decode b_L_law 477 = .ok (.iconst 0, 1) := by decide +kernel
theorem d_L_law_478 : decode b_L_law 478 = .ok (.ireturn, 1) := by decide +kernel
theorem d_L_law_479 : decode b_L_law 479 = .ok (.iload 5, 2) := by decide +kernel
theorem d_L_law_481 : decode b_L_law 481 = .ok (.ifCond .ne 15, 3) := by decide +kernel
theorem d_L_law_484 : decode b_L_law 484 = .ok (.aload_n 3, 1) := by decide +kernel
theorem d_L_law_485 : decode b_L_law 485 = .ok (.iconst 0, 1) := by decide +kernel
theorem d_L_law_486 : decode b_L_law 486 = .ok (.laload, 1) := by decide +kernel
theorem d_L_law_487 : decode b_L_law 487 = .ok (.iload 6, 2) := by decide +kernel
theorem d_L_law_489 : decode b_L_law 489 = .ok (.i2l, 1) := by decide +kernel
theorem d_L_law_490 : decode b_L_law 490 = .ok (.lcmp, 1) := by decide +kernel
theorem d_L_law_491 : decode b_L_law 491 = .ok (.ifCond .eq 5, 3) := by decide +kernel
theorem d_L_law_494 : decode b_L_law 494 = .ok (.iconst 0, 1) := by decide +kernel
theorem d_L_law_495 : decode b_L_law 495 = .ok (.ireturn, 1) := by decide +kernel
theorem d_L_law_496 : decode b_L_law 496 = .ok (.goto 1445, 3) := by decide +kernel
theorem d_L_law_499 : decode b_L_law 499 = .ok (.aload_n 1, 1) := by decide +kernel
theorem d_L_law_500 : decode b_L_law 500 = .ok (.aload_n 0, 1) := by decide +kernel
theorem d_L_law_501 : decode b_L_law 501 = .ok (.iload 4, 2) := by decide +kernel
theorem d_L_law_503 : decode b_L_law 503 = .ok (.iconst 1, 1) := by decide +kernel
theorem d_L_law_504 : decode b_L_law 504 = .ok (.iadd, 1) := by decide +kernel
theorem d_L_law_505 : decode b_L_law 505 = .ok (.iaload, 1) := by decide +kernel
theorem d_L_law_506 : decode b_L_law 506 = .ok (.aload_n 0, 1) := by decide +kernel
theorem d_L_law_507 : decode b_L_law 507 = .ok (.iload 4, 2) := by decide +kernel
theorem d_L_law_509 : decode b_L_law 509 = .ok (.iconst 2, 1) := by decide +kernel
theorem d_L_law_510 : decode b_L_law 510 = .ok (.iadd, 1) := by decide +kernel
theorem d_L_law_511 : decode b_L_law 511 = .ok (.iaload, 1) := by decide +kernel
theorem d_L_law_512 : decode b_L_law 512 = .ok (.aload_n 3, 1) := by decide +kernel
theorem d_L_law_513 : decode b_L_law 513 = .ok (.invokestatic 131, 3) := by decide +kernel
theorem d_L_law_516 : decode b_L_law 516 = .ok (.istore 5, 2) := by decide +kernel
theorem d_L_law_518 : decode b_L_law 518 = .ok (.aload_n 2, 1) := by decide +kernel
theorem d_L_law_519 : decode b_L_law 519 = .ok (.aload_n 0, 1) := by decide +kernel
theorem d_L_law_520 : decode b_L_law 520 = .ok (.iload 4, 2) := by decide +kernel
theorem d_L_law_522 : decode b_L_law 522 = .ok (.iconst 1, 1) := by decide +kernel
theorem d_L_law_523 : decode b_L_law 523 = .ok (.iadd, 1) := by decide +kernel
theorem d_L_law_524 : decode b_L_law 524 = .ok (.iaload, 1) := by decide +kernel
theorem d_L_law_525 : decode b_L_law 525 = .ok (.aload_n 0, 1) := by decide +kernel
theorem d_L_law_526 : decode b_L_law 526 = .ok (.iload 4, 2) := by decide +kernel
theorem d_L_law_528 : decode b_L_law 528 = .ok (.iconst 2, 1) := by decide +kernel
theorem d_L_law_529 : decode b_L_law 529 = .ok (.iadd, 1) := by decide +kernel
theorem d_L_law_530 : decode b_L_law 530 = .ok (.iaload, 1) := by decide +kernel
theorem d_L_law_531 : decode b_L_law 531 = .ok (.invokevirtual 133, 3) := by decide +kernel
theorem d_L_law_534 : decode b_L_law 534 = .ok (.istore 6, 2) := by decide +kernel
theorem d_L_law_536 : decode b_L_law 536 = .ok (.aload_n 2, 1) := by decide +kernel
theorem d_L_law_537 : decode b_L_law 537 = .ok (.invokevirtual 113, 3) := by decide +kernel
theorem d_L_law_540 : decode b_L_law 540 = .ok (.iload 5, 2) := by decide +kernel
theorem d_L_law_542 : decode b_L_law 542 = .ok (.if_icmp .eq 5, 3) := by decide +kernel
theorem d_L_law_545 : decode b_L_law 545 = .ok (.iconst 0, 1) := by decide +kernel
theorem d_L_law_546 : decode b_L_law 546 = .ok (.ireturn, 1) := by decide +kernel
theorem d_L_law_547 : decode b_L_law 547 = .ok (.iload 5, 2) := by decide +kernel
theorem d_L_law_549 : decode b_L_law 549 = .ok (.ifCond .ne 15, 3) := by decide +kernel
theorem d_L_law_552 : decode b_L_law 552 = .ok (.aload_n 3, 1) := by decide +kernel
theorem d_L_law_553 : decode b_L_law 553 = .ok (.iconst 0, 1) := by decide +kernel
theorem d_L_law_554 : decode b_L_law 554 = .ok (.laload, 1) := by decide +kernel
theorem d_L_law_555 : decode b_L_law 555 = .ok (.iload 6, 2) := by decide +kernel
theorem d_L_law_557 : decode b_L_law 557 = .ok (.i2l, 1) := by decide +kernel
theorem d_L_law_558 : decode b_L_law 558 = .ok (.lcmp, 1) := by decide +kernel
theorem d_L_law_559 : decode b_L_law 559 = .ok (.ifCond .eq 5, 3) := by decide +kernel
theorem d_L_law_562 : decode b_L_law 562 = .ok (.iconst 0, 1) := by decide +kernel
theorem d_L_law_563 : decode b_L_law 563 = .ok (.ireturn, 1) := by decide +kernel
theorem d_L_law_564 : decode b_L_law 564 = .ok (.goto 1377, 3) := by decide +kernel
theorem d_L_law_567 : decode b_L_law 567 = .ok (.aload_n 1, 1) := by decide +kernel
theorem d_L_law_568 : decode b_L_law 568 = .ok (.aload_n 0, 1) := by decide +kernel
theorem d_L_law_569 : decode b_L_law 569 = .ok (.iload 4, 2) := by decide +kernel
theorem d_L_law_571 : decode b_L_law 571 = .ok (.iconst 1, 1) := by decide +kernel
theorem d_L_law_572 : decode b_L_law 572 = .ok (.iadd, 1) := by decide +kernel
theorem d_L_law_573 : decode b_L_law 573 = .ok (.iaload, 1) := by decide +kernel
theorem d_L_law_574 : decode b_L_law 574 = .ok (.aload_n 3, 1) := by decide +kernel
theorem d_L_law_575 : decode b_L_law 575 = .ok (.invokestatic 134, 3) := by decide +kernel
theorem d_L_law_578 : decode b_L_law 578 = .ok (.istore 5, 2) := by decide +kernel
theorem d_L_law_580 : decode b_L_law 580 = .ok (.aload_n 2, 1) := by decide +kernel
theorem d_L_law_581 : decode b_L_law 581 = .ok (.aload_n 0, 1) := by decide +kernel
theorem d_L_law_582 : decode b_L_law 582 = .ok (.iload 4, 2) := by decide +kernel
theorem d_L_law_584 : decode b_L_law 584 = .ok (.iconst 1, 1) := by decide +kernel
theorem d_L_law_585 : decode b_L_law 585 = .ok (.iadd, 1) := by decide +kernel
theorem d_L_law_586 : decode b_L_law 586 = .ok (.iaload, 1) := by decide +kernel
theorem d_L_law_587 : decode b_L_law 587 = .ok (.invokevirtual 137, 3) := by decide +kernel
theorem d_L_law_590 : decode b_L_law 590 = .ok (.istore 6, 2) := by decide +kernel
theorem d_L_law_592 : decode b_L_law 592 = .ok (.aload_n 2, 1) := by decide +kernel
theorem d_L_law_593 : decode b_L_law 593 = .ok (.invokevirtual 113, 3) := by decide +kernel
theorem d_L_law_596 : decode b_L_law 596 = .ok (.iload 5, 2) := by decide +kernel
theorem d_L_law_598 : decode b_L_law 598 = .ok (.if_icmp .eq 5, 3) := by decide +kernel
theorem d_L_law_601 : decode b_L_law 601 = .ok (.iconst 0, 1) := by decide +kernel
theorem d_L_law_602 : decode b_L_law 602 = .ok (.ireturn, 1) := by decide +kernel
theorem d_L_law_603 : decode b_L_law 603 = .ok (.iload 5, 2) := by decide +kernel
theorem d_L_law_605 : decode b_L_law 605 = .ok (.ifCond .ne 15, 3) := by decide +kernel
theorem d_L_law_608 : decode b_L_law 608 = .ok (.aload_n 3, 1) := by decide +kernel
theorem d_L_law_609 : decode b_L_law 609 = .ok (.iconst 0, 1) := by decide +kernel
theorem d_L_law_610 : decode b_L_law 610 = .ok (.laload, 1) := by decide +kernel
theorem d_L_law_611 : decode b_L_law 611 = .ok (.iload 6, 2) := by decide +kernel
theorem d_L_law_613 : decode b_L_law 613 = .ok (.i2l, 1) := by decide +kernel
theorem d_L_law_614 : decode b_L_law 614 = .ok (.lcmp, 1) := by decide +kernel
theorem d_L_law_615 : decode b_L_law 615 = .ok (.ifCond .eq 5, 3) := by decide +kernel
theorem d_L_law_618 : decode b_L_law 618 = .ok (.iconst 0, 1) := by decide +kernel
theorem d_L_law_619 : decode b_L_law 619 = .ok (.ireturn, 1) := by decide +kernel
theorem d_L_law_620 : decode b_L_law 620 = .ok (.goto 1321, 3) := by decide +kernel
theorem d_L_law_623 : decode b_L_law 623 = .ok (.aload_n 1, 1) := by decide +kernel
theorem d_L_law_624 : decode b_L_law 624 = .ok (.aload_n 0, 1) := by decide +kernel
theorem d_L_law_625 : decode b_L_law 625 = .ok (.iload 4, 2) := by decide +kernel
theorem d_L_law_627 : decode b_L_law 627 = .ok (.iconst 1, 1) := by decide +kernel
theorem d_L_law_628 : decode b_L_law 628 = .ok (.iadd, 1) := by decide +kernel
theorem d_L_law_629 : decode b_L_law 629 = .ok (.iaload, 1) := by decide +kernel
theorem d_L_law_630 : decode b_L_law 630 = .ok (.aload_n 0, 1) := by decide +kernel
theorem d_L_law_631 : decode b_L_law 631 = .ok (.iload 4, 2) := by decide +kernel
theorem d_L_law_633 : decode b_L_law 633 = .ok (.iconst 2, 1) := by decide +kernel
theorem d_L_law_634 : decode b_L_law 634 = .ok (.iadd, 1) := by decide +kernel
theorem d_L_law_635 : decode b_L_law 635 = .ok (.iaload, 1) := by decide +kernel
theorem d_L_law_636 : decode b_L_law 636 = .ok (.aload_n 0, 1) := by decide +kernel
theorem d_L_law_637 : decode b_L_law 637 = .ok (.iload 4, 2) := by decide +kernel
theorem d_L_law_639 : decode b_L_law 639 = .ok (.iconst 3, 1) := by decide +kernel
theorem d_L_law_640 : decode b_L_law 640 = .ok (.iadd, 1) := by decide +kernel
theorem d_L_law_641 : decode b_L_law 641 = .ok (.iaload, 1) := by decide +kernel
theorem d_L_law_642 : decode b_L_law 642 = .ok (.aload_n 3, 1) := by decide +kernel
theorem d_L_law_643 : decode b_L_law 643 = .ok (.invokestatic 138, 3) := by decide +kernel
theorem d_L_law_646 : decode b_L_law 646 = .ok (.istore 5, 2) := by decide +kernel
theorem d_L_law_648 : decode b_L_law 648 = .ok (.aload_n 2, 1) := by decide +kernel
theorem d_L_law_649 : decode b_L_law 649 = .ok (.aload_n 0, 1) := by decide +kernel
theorem d_L_law_650 : decode b_L_law 650 = .ok (.iload 4, 2) := by decide +kernel
theorem d_L_law_652 : decode b_L_law 652 = .ok (.iconst 1, 1) := by decide +kernel
theorem d_L_law_653 : decode b_L_law 653 = .ok (.iadd, 1) := by decide +kernel
theorem d_L_law_654 : decode b_L_law 654 = .ok (.iaload, 1) := by decide +kernel
theorem d_L_law_655 : decode b_L_law 655 = .ok (.aload_n 0, 1) := by decide +kernel
theorem d_L_law_656 : decode b_L_law 656 = .ok (.iload 4, 2) := by decide +kernel
theorem d_L_law_658 : decode b_L_law 658 = .ok (.iconst 2, 1) := by decide +kernel
theorem d_L_law_659 : decode b_L_law 659 = .ok (.iadd, 1) := by decide +kernel
theorem d_L_law_660 : decode b_L_law 660 = .ok (.iaload, 1) := by decide +kernel
theorem d_L_law_661 : decode b_L_law 661 = .ok (.aload_n 0, 1) := by decide +kernel
theorem d_L_law_662 : decode b_L_law 662 = .ok (.iload 4, 2) := by decide +kernel
theorem d_L_law_664 : decode b_L_law 664 = .ok (.iconst 3, 1) := by decide +kernel
theorem d_L_law_665 : decode b_L_law 665 = .ok (.iadd, 1) := by decide +kernel
theorem d_L_law_666 : decode b_L_law 666 = .ok (.iaload, 1) := by decide +kernel
theorem d_L_law_667 : decode b_L_law 667 = .ok (.invokevirtual 141, 3) := by decide +kernel
theorem d_L_law_670 : decode b_L_law 670 = .ok (.istore 6, 2) := by decide +kernel
theorem d_L_law_672 : decode b_L_law 672 = .ok (.aload_n 2, 1) := by decide +kernel
theorem d_L_law_673 : decode b_L_law 673 = .ok (.invokevirtual 113, 3) := by decide +kernel
theorem d_L_law_676 : decode b_L_law 676 = .ok (.iload 5, 2) := by decide +kernel
theorem d_L_law_678 : decode b_L_law 678 = .ok (.if_icmp .eq 5, 3) := by decide +kernel
theorem d_L_law_681 : decode b_L_law 681 = .ok (.iconst 0, 1) := by decide +kernel
theorem d_L_law_682 : decode b_L_law 682 = .ok (.ireturn, 1) := by decide +kernel
theorem d_L_law_683 : decode b_L_law 683 = .ok (.iload 5, 2) := by decide +kernel
theorem d_L_law_685 : decode b_L_law 685 = .ok (.ifCond .ne 15, 3) := by decide +kernel
theorem d_L_law_688 : decode b_L_law 688 = .ok (.aload_n 3, 1) := by decide +kernel
theorem d_L_law_689 : decode b_L_law 689 = .ok (.iconst 0, 1) := by decide +kernel
theorem d_L_law_690 : decode b_L_law 690 = .ok (.laload, 1) := by decide +kernel
theorem d_L_law_691 : decode b_L_law 691 = .ok (.iload 6, 2) := by decide +kernel
theorem d_L_law_693 : decode b_L_law 693 = .ok (.i2l, 1) := by decide +kernel
theorem d_L_law_694 : decode b_L_law 694 = .ok (.lcmp, 1) := by decide +kernel
theorem d_L_law_695 : decode b_L_law 695 = .ok (.ifCond .eq 5, 3) := by decide +kernel
theorem d_L_law_698 : decode b_L_law 698 = .ok (.iconst 0, 1) := by decide +kernel
theorem d_L_law_699 : decode b_L_law 699 = .ok (.ireturn, 1) := by decide +kernel
theorem d_L_law_700 : decode b_L_law 700 = .ok (.goto 1241, 3) := by decide +kernel
theorem d_L_law_703 : decode b_L_law 703 = .ok (.aload_n 1, 1) := by decide +kernel
theorem d_L_law_704 : decode b_L_law 704 = .ok (.aload_n 0, 1) := by decide +kernel
theorem d_L_law_705 : decode b_L_law 705 = .ok (.iload 4, 2) := by decide +kernel
theorem d_L_law_707 : decode b_L_law 707 = .ok (.iconst 1, 1) := by decide +kernel
theorem d_L_law_708 : decode b_L_law 708 = .ok (.iadd, 1) := by decide +kernel
theorem d_L_law_709 : decode b_L_law 709 = .ok (.iaload, 1) := by decide +kernel
theorem d_L_law_710 : decode b_L_law 710 = .ok (.aload_n 0, 1) := by decide +kernel
theorem d_L_law_711 : decode b_L_law 711 = .ok (.iload 4, 2) := by decide +kernel
theorem d_L_law_713 : decode b_L_law 713 = .ok (.iconst 2, 1) := by decide +kernel
theorem d_L_law_714 : decode b_L_law 714 = .ok (.iadd, 1) := by decide +kernel
theorem d_L_law_715 : decode b_L_law 715 = .ok (.iaload, 1) := by decide +kernel
theorem d_L_law_716 : decode b_L_law 716 = .ok (.aload_n 3, 1) := by decide +kernel
theorem d_L_law_717 : decode b_L_law 717 = .ok (.invokestatic 142, 3) := by decide +kernel
theorem d_L_law_720 : decode b_L_law 720 = .ok (.istore 5, 2) := by decide +kernel
theorem d_L_law_722 : decode b_L_law 722 = .ok (.aload_n 2, 1) := by decide +kernel
theorem d_L_law_723 : decode b_L_law 723 = .ok (.aload_n 0, 1) := by decide +kernel
theorem d_L_law_724 : decode b_L_law 724 = .ok (.iload 4, 2) := by decide +kernel
theorem d_L_law_726 : decode b_L_law 726 = .ok (.iconst 1, 1) := by decide +kernel
theorem d_L_law_727 : decode b_L_law 727 = .ok (.iadd, 1) := by decide +kernel
theorem d_L_law_728 : decode b_L_law 728 = .ok (.iaload, 1) := by decide +kernel
theorem d_L_law_729 : decode b_L_law 729 = .ok (.aload_n 0, 1) := by decide +kernel
theorem d_L_law_730 : decode b_L_law 730 = .ok (.iload 4, 2) := by decide +kernel
theorem d_L_law_732 : decode b_L_law 732 = .ok (.iconst 2, 1) := by decide +kernel
theorem d_L_law_733 : decode b_L_law 733 = .ok (.iadd, 1) := by decide +kernel
theorem d_L_law_734 : decode b_L_law 734 = .ok (.iaload, 1) := by decide +kernel
theorem d_L_law_735 : decode b_L_law 735 = .ok (.invokevirtual 144, 3) := by decide +kernel
theorem d_L_law_738 : decode b_L_law 738 = .ok (.istore 6, 2) := by decide +kernel
theorem d_L_law_740 : decode b_L_law 740 = .ok (.aload_n 2, 1) := by decide +kernel
theorem d_L_law_741 : decode b_L_law 741 = .ok (.invokevirtual 113, 3) := by decide +kernel
theorem d_L_law_744 : decode b_L_law 744 = .ok (.iload 5, 2) := by decide +kernel
theorem d_L_law_746 : decode b_L_law 746 = .ok (.if_icmp .eq 5, 3) := by decide +kernel
theorem d_L_law_749 : decode b_L_law 749 = .ok (.iconst 0, 1) := by decide +kernel
theorem d_L_law_750 : decode b_L_law 750 = .ok (.ireturn, 1) := by decide +kernel
theorem d_L_law_751 : decode b_L_law 751 = .ok (.iload 5, 2) := by decide +kernel
theorem d_L_law_753 : decode b_L_law 753 = .ok (.ifCond .ne 15, 3) := by decide +kernel
theorem d_L_law_756 : decode b_L_law 756 = .ok (.aload_n 3, 1) := by decide +kernel
theorem d_L_law_757 : decode b_L_law 757 = .ok (.iconst 0, 1) := by decide +kernel
theorem d_L_law_758 : decode b_L_law 758 = .ok (.laload, 1) := by decide +kernel
theorem d_L_law_759 : decode b_L_law 759 = .ok (.iload 6, 2) := by decide +kernel
theorem d_L_law_761 : decode b_L_law 761 = .ok (.i2l, 1) := by decide +kernel
theorem d_L_law_762 : decode b_L_law 762 = .ok (.lcmp, 1) := by decide +kernel
theorem d_L_law_763 : decode b_L_law 763 = .ok (.ifCond .eq 5, 3) := by decide +kernel
theorem d_L_law_766 : decode b_L_law 766 = .ok (.iconst 0, 1) := by decide +kernel
theorem d_L_law_767 : decode b_L_law 767 = .ok (.ireturn, 1) := by decide +kernel
theorem d_L_law_768 : decode b_L_law 768 = .ok (.goto 1173, 3) := by decide +kernel
theorem d_L_law_771 : decode b_L_law 771 = .ok (.aload_n 1, 1) := by decide +kernel
theorem d_L_law_772 : decode b_L_law 772 = .ok (.aload_n 0, 1) := by decide +kernel
theorem d_L_law_773 : decode b_L_law 773 = .ok (.iload 4, 2) := by decide +kernel
theorem d_L_law_775 : decode b_L_law 775 = .ok (.iconst 1, 1) := by decide +kernel
theorem d_L_law_776 : decode b_L_law 776 = .ok (.iadd, 1) := by decide +kernel
theorem d_L_law_777 : decode b_L_law 777 = .ok (.iaload, 1) := by decide +kernel
theorem d_L_law_778 : decode b_L_law 778 = .ok (.aload_n 0, 1) := by decide +kernel
theorem d_L_law_779 : decode b_L_law 779 = .ok (.iload 4, 2) := by decide +kernel
theorem d_L_law_781 : decode b_L_law 781 = .ok (.iconst 2, 1) := by decide +kernel
theorem d_L_law_782 : decode b_L_law 782 = .ok (.iadd, 1) := by decide +kernel
theorem d_L_law_783 : decode b_L_law 783 = .ok (.iaload, 1) := by decide +kernel
theorem d_L_law_784 : decode b_L_law 784 = .ok (.aload_n 0, 1) := by decide +kernel
theorem d_L_law_785 : decode b_L_law 785 = .ok (.iload 4, 2) := by decide +kernel
theorem d_L_law_787 : decode b_L_law 787 = .ok (.iconst 3, 1) := by decide +kernel
theorem d_L_law_788 : decode b_L_law 788 = .ok (.iadd, 1) := by decide +kernel
theorem d_L_law_789 : decode b_L_law 789 = .ok (.iaload, 1) := by decide +kernel
theorem d_L_law_790 : decode b_L_law 790 = .ok (.aload_n 0, 1) := by decide +kernel
theorem d_L_law_791 : decode b_L_law 791 = .ok (.iload 4, 2) := by decide +kernel
theorem d_L_law_793 : decode b_L_law 793 = .ok (.iconst 4, 1) := by decide +kernel
theorem d_L_law_794 : decode b_L_law 794 = .ok (.iadd, 1) := by decide +kernel
theorem d_L_law_795 : decode b_L_law 795 = .ok (.iaload, 1) := by decide +kernel
theorem d_L_law_796 : decode b_L_law 796 = .ok (.aload_n 3, 1) := by decide +kernel
theorem d_L_law_797 : decode b_L_law 797 = .ok (.invokestatic 145, 3) := by decide +kernel
theorem d_L_law_800 : decode b_L_law 800 = .ok (.istore 5, 2) := by decide +kernel
theorem d_L_law_802 : decode b_L_law 802 = .ok (.aload_n 2, 1) := by decide +kernel
theorem d_L_law_803 : decode b_L_law 803 = .ok (.aload_n 0, 1) := by decide +kernel
theorem d_L_law_804 : decode b_L_law 804 = .ok (.iload 4, 2) := by decide +kernel
theorem d_L_law_806 : decode b_L_law 806 = .ok (.iconst 1, 1) := by decide +kernel
theorem d_L_law_807 : decode b_L_law 807 = .ok (.iadd, 1) := by decide +kernel
theorem d_L_law_808 : decode b_L_law 808 = .ok (.iaload, 1) := by decide +kernel
theorem d_L_law_809 : decode b_L_law 809 = .ok (.aload_n 0, 1) := by decide +kernel
theorem d_L_law_810 : decode b_L_law 810 = .ok (.iload 4, 2) := by decide +kernel
theorem d_L_law_812 : decode b_L_law 812 = .ok (.iconst 2, 1) := by decide +kernel
theorem d_L_law_813 : decode b_L_law 813 = .ok (.iadd, 1) := by decide +kernel
theorem d_L_law_814 : decode b_L_law 814 = .ok (.iaload, 1) := by decide +kernel
theorem d_L_law_815 : decode b_L_law 815 = .ok (.aload_n 0, 1) := by decide +kernel
theorem d_L_law_816 : decode b_L_law 816 = .ok (.iload 4, 2) := by decide +kernel
theorem d_L_law_818 : decode b_L_law 818 = .ok (.iconst 3, 1) := by decide +kernel
theorem d_L_law_819 : decode b_L_law 819 = .ok (.iadd, 1) := by decide +kernel
theorem d_L_law_820 : decode b_L_law 820 = .ok (.iaload, 1) := by decide +kernel
theorem d_L_law_821 : decode b_L_law 821 = .ok (.aload_n 0, 1) := by decide +kernel
theorem d_L_law_822 : decode b_L_law 822 = .ok (.iload 4, 2) := by decide +kernel
theorem d_L_law_824 : decode b_L_law 824 = .ok (.iconst 4, 1) := by decide +kernel
theorem d_L_law_825 : decode b_L_law 825 = .ok (.iadd, 1) := by decide +kernel
theorem d_L_law_826 : decode b_L_law 826 = .ok (.iaload, 1) := by decide +kernel
theorem d_L_law_827 : decode b_L_law 827 = .ok (.invokevirtual 148, 3) := by decide +kernel
theorem d_L_law_830 : decode b_L_law 830 = .ok (.istore 6, 2) := by decide +kernel
theorem d_L_law_832 : decode b_L_law 832 = .ok (.aload_n 2, 1) := by decide +kernel
theorem d_L_law_833 : decode b_L_law 833 = .ok (.invokevirtual 113, 3) := by decide +kernel
theorem d_L_law_836 : decode b_L_law 836 = .ok (.iload 5, 2) := by decide +kernel
theorem d_L_law_838 : decode b_L_law 838 = .ok (.if_icmp .eq 5, 3) := by decide +kernel
theorem d_L_law_841 : decode b_L_law 841 = .ok (.iconst 0, 1) := by decide +kernel
theorem d_L_law_842 : decode b_L_law 842 = .ok (.ireturn, 1) := by decide +kernel
theorem d_L_law_843 : decode b_L_law 843 = .ok (.iload 5, 2) := by decide +kernel
theorem d_L_law_845 : decode b_L_law 845 = .ok (.ifCond .ne 15, 3) := by decide +kernel
theorem d_L_law_848 : decode b_L_law 848 = .ok (.aload_n 3, 1) := by decide +kernel
theorem d_L_law_849 : decode b_L_law 849 = .ok (.iconst 0, 1) := by decide +kernel
theorem d_L_law_850 : decode b_L_law 850 = .ok (.laload, 1) := by decide +kernel
theorem d_L_law_851 : decode b_L_law 851 = .ok (.iload 6, 2) := by decide +kernel
theorem d_L_law_853 : decode b_L_law 853 = .ok (.i2l, 1) := by decide +kernel
theorem d_L_law_854 : decode b_L_law 854 = .ok (.lcmp, 1) := by decide +kernel
theorem d_L_law_855 : decode b_L_law 855 = .ok (.ifCond .eq 5, 3) := by decide +kernel
theorem d_L_law_858 : decode b_L_law 858 = .ok (.iconst 0, 1) := by decide +kernel
theorem d_L_law_859 : decode b_L_law 859 = .ok (.ireturn, 1) := by decide +kernel
theorem d_L_law_860 : decode b_L_law 860 = .ok (.goto 1081, 3) := by decide +kernel
theorem d_L_law_863 : decode b_L_law 863 = .ok (.aload_n 1, 1) := by decide +kernel
theorem d_L_law_864 : decode b_L_law 864 = .ok (.aload_n 0, 1) := by decide +kernel
theorem d_L_law_865 : decode b_L_law 865 = .ok (.iload 4, 2) := by decide +kernel
theorem d_L_law_867 : decode b_L_law 867 = .ok (.iconst 1, 1) := by decide +kernel
theorem d_L_law_868 : decode b_L_law 868 = .ok (.iadd, 1) := by decide +kernel
theorem d_L_law_869 : decode b_L_law 869 = .ok (.iaload, 1) := by decide +kernel
theorem d_L_law_870 : decode b_L_law 870 = .ok (.aload_n 0, 1) := by decide +kernel
theorem d_L_law_871 : decode b_L_law 871 = .ok (.iload 4, 2) := by decide +kernel
theorem d_L_law_873 : decode b_L_law 873 = .ok (.iconst 2, 1) := by decide +kernel
theorem d_L_law_874 : decode b_L_law 874 = .ok (.iadd, 1) := by decide +kernel
theorem d_L_law_875 : decode b_L_law 875 = .ok (.iaload, 1) := by decide +kernel
theorem d_L_law_876 : decode b_L_law 876 = .ok (.aload_n 0, 1) := by decide +kernel
theorem d_L_law_877 : decode b_L_law 877 = .ok (.iload 4, 2) := by decide +kernel
theorem d_L_law_879 : decode b_L_law 879 = .ok (.iconst 3, 1) := by decide +kernel
theorem d_L_law_880 : decode b_L_law 880 = .ok (.iadd, 1) := by decide +kernel
theorem d_L_law_881 : decode b_L_law 881 = .ok (.iaload, 1) := by decide +kernel
theorem d_L_law_882 : decode b_L_law 882 = .ok (.aload_n 0, 1) := by decide +kernel
theorem d_L_law_883 : decode b_L_law 883 = .ok (.iload 4, 2) := by decide +kernel
theorem d_L_law_885 : decode b_L_law 885 = .ok (.iconst 4, 1) := by decide +kernel
theorem d_L_law_886 : decode b_L_law 886 = .ok (.iadd, 1) := by decide +kernel
theorem d_L_law_887 : decode b_L_law 887 = .ok (.iaload, 1) := by decide +kernel
theorem d_L_law_888 : decode b_L_law 888 = .ok (.aload_n 0, 1) := by decide +kernel
theorem d_L_law_889 : decode b_L_law 889 = .ok (.iload 4, 2) := by decide +kernel
theorem d_L_law_891 : decode b_L_law 891 = .ok (.iconst 5, 1) := by decide +kernel
theorem d_L_law_892 : decode b_L_law 892 = .ok (.iadd, 1) := by decide +kernel
theorem d_L_law_893 : decode b_L_law 893 = .ok (.iaload, 1) := by decide +kernel
theorem d_L_law_894 : decode b_L_law 894 = .ok (.aload_n 3, 1) := by decide +kernel
theorem d_L_law_895 : decode b_L_law 895 = .ok (.invokestatic 149, 3) := by decide +kernel
theorem d_L_law_898 : decode b_L_law 898 = .ok (.istore 5, 2) := by decide +kernel
theorem d_L_law_900 : decode b_L_law 900 = .ok (.aload_n 2, 1) := by decide +kernel
theorem d_L_law_901 : decode b_L_law 901 = .ok (.aload_n 0, 1) := by decide +kernel
theorem d_L_law_902 : decode b_L_law 902 = .ok (.iload 4, 2) := by decide +kernel
theorem d_L_law_904 : decode b_L_law 904 = .ok (.iconst 1, 1) := by decide +kernel
theorem d_L_law_905 : decode b_L_law 905 = .ok (.iadd, 1) := by decide +kernel
theorem d_L_law_906 : decode b_L_law 906 = .ok (.iaload, 1) := by decide +kernel
theorem d_L_law_907 : decode b_L_law 907 = .ok (.aload_n 0, 1) := by decide +kernel
theorem d_L_law_908 : decode b_L_law 908 = .ok (.iload 4, 2) := by decide +kernel
theorem d_L_law_910 : decode b_L_law 910 = .ok (.iconst 2, 1) := by decide +kernel
theorem d_L_law_911 : decode b_L_law 911 = .ok (.iadd, 1) := by decide +kernel
theorem d_L_law_912 : decode b_L_law 912 = .ok (.iaload, 1) := by decide +kernel
theorem d_L_law_913 : decode b_L_law 913 = .ok (.aload_n 0, 1) := by decide +kernel
theorem d_L_law_914 : decode b_L_law 914 = .ok (.iload 4, 2) := by decide +kernel
theorem d_L_law_916 : decode b_L_law 916 = .ok (.iconst 3, 1) := by decide +kernel
theorem d_L_law_917 : decode b_L_law 917 = .ok (.iadd, 1) := by decide +kernel
theorem d_L_law_918 : decode b_L_law 918 = .ok (.iaload, 1) := by decide +kernel
theorem d_L_law_919 : decode b_L_law 919 = .ok (.aload_n 0, 1) := by decide +kernel
theorem d_L_law_920 : decode b_L_law 920 = .ok (.iload 4, 2) := by decide +kernel
theorem d_L_law_922 : decode b_L_law 922 = .ok (.iconst 4, 1) := by decide +kernel
theorem d_L_law_923 : decode b_L_law 923 = .ok (.iadd, 1) := by decide +kernel
theorem d_L_law_924 : decode b_L_law 924 = .ok (.iaload, 1) := by decide +kernel
theorem d_L_law_925 : decode b_L_law 925 = .ok (.aload_n 0, 1) := by decide +kernel
theorem d_L_law_926 : decode b_L_law 926 = .ok (.iload 4, 2) := by decide +kernel
theorem d_L_law_928 : decode b_L_law 928 = .ok (.iconst 5, 1) := by decide +kernel
theorem d_L_law_929 : decode b_L_law 929 = .ok (.iadd, 1) := by decide +kernel
theorem d_L_law_930 : decode b_L_law 930 = .ok (.iaload, 1) := by decide +kernel
theorem d_L_law_931 : decode b_L_law 931 = .ok (.invokevirtual 152, 3) := by decide +kernel
theorem d_L_law_934 : decode b_L_law 934 = .ok (.istore 6, 2) := by decide +kernel
theorem d_L_law_936 : decode b_L_law 936 = .ok (.aload_n 2, 1) := by decide +kernel
theorem d_L_law_937 : decode b_L_law 937 = .ok (.invokevirtual 113, 3) := by decide +kernel
theorem d_L_law_940 : decode b_L_law 940 = .ok (.iload 5, 2) := by decide +kernel
theorem d_L_law_942 : decode b_L_law 942 = .ok (.if_icmp .eq 5, 3) := by decide +kernel
theorem d_L_law_945 : decode b_L_law 945 = .ok (.iconst 0, 1) := by decide +kernel
theorem d_L_law_946 : decode b_L_law 946 = .ok (.ireturn, 1) := by decide +kernel
theorem d_L_law_947 : decode b_L_law 947 = .ok (.iload 5, 2) := by decide +kernel
theorem d_L_law_949 : decode b_L_law 949 = .ok (.ifCond .ne 15, 3) := by decide +kernel
theorem d_L_law_952 : decode b_L_law 952 = .ok (.aload_n 3, 1) := by decide +kernel
theorem d_L_law_953 : decode b_L_law 953 = .ok (.iconst 0, 1) := by decide +kernel
theorem d_L_law_954 : decode b_L_law 954 = .ok (.laload, 1) := by decide +kernel
theorem d_L_law_955 : decode b_L_law 955 = .ok (.iload 6, 2) := by decide +kernel
theorem d_L_law_957 : decode b_L_law 957 = .ok (.i2l, 1) := by decide +kernel
theorem d_L_law_958 : decode b_L_law 958 = .ok (.lcmp, 1) := by decide +kernel
theorem d_L_law_959 : decode b_L_law 959 = .ok (.ifCond .eq 5, 3) := by decide +kernel
theorem d_L_law_962 : decode b_L_law 962 = .ok (.iconst 0, 1) := by decide +kernel
theorem d_L_law_963 : decode b_L_law 963 = .ok (.ireturn, 1) := by decide +kernel
theorem d_L_law_964 : decode b_L_law 964 = .ok (.goto 977, 3) := by decide +kernel
theorem d_L_law_967 : decode b_L_law 967 = .ok (.aload_n 1, 1) := by decide +kernel
theorem d_L_law_968 : decode b_L_law 968 = .ok (.aload_n 0, 1) := by decide +kernel
theorem d_L_law_969 : decode b_L_law 969 = .ok (.iload 4, 2) := by decide +kernel
theorem d_L_law_971 : decode b_L_law 971 = .ok (.iconst 1, 1) := by decide +kernel
theorem d_L_law_972 : decode b_L_law 972 = .ok (.iadd, 1) := by decide +kernel
theorem d_L_law_973 : decode b_L_law 973 = .ok (.iaload, 1) := by decide +kernel
theorem d_L_law_974 : decode b_L_law 974 = .ok (.aload_n 0, 1) := by decide +kernel
theorem d_L_law_975 : decode b_L_law 975 = .ok (.iload 4, 2) := by decide +kernel
theorem d_L_law_977 : decode b_L_law 977 = .ok (.iconst 2, 1) := by decide +kernel
theorem d_L_law_978 : decode b_L_law 978 = .ok (.iadd, 1) := by decide +kernel
theorem d_L_law_979 : decode b_L_law 979 = .ok (.iaload, 1) := by decide +kernel
theorem d_L_law_980 : decode b_L_law 980 = .ok (.aload_n 0, 1) := by decide +kernel
theorem d_L_law_981 : decode b_L_law 981 = .ok (.iload 4, 2) := by decide +kernel
theorem d_L_law_983 : decode b_L_law 983 = .ok (.iconst 3, 1) := by decide +kernel
theorem d_L_law_984 : decode b_L_law 984 = .ok (.iadd, 1) := by decide +kernel
theorem d_L_law_985 : decode b_L_law 985 = .ok (.iaload, 1) := by decide +kernel
theorem d_L_law_986 : decode b_L_law 986 = .ok (.aload_n 3, 1) := by decide +kernel
theorem d_L_law_987 : decode b_L_law 987 = .ok (.invokestatic 153, 3) := by decide +kernel
theorem d_L_law_990 : decode b_L_law 990 = .ok (.istore 5, 2) := by decide +kernel
theorem d_L_law_992 : decode b_L_law 992 = .ok (.aload_n 2, 1) := by decide +kernel
theorem d_L_law_993 : decode b_L_law 993 = .ok (.aload_n 0, 1) := by decide +kernel
theorem d_L_law_994 : decode b_L_law 994 = .ok (.iload 4, 2) := by decide +kernel
theorem d_L_law_996 : decode b_L_law 996 = .ok (.iconst 1, 1) := by decide +kernel
theorem d_L_law_997 : decode b_L_law 997 = .ok (.iadd, 1) := by decide +kernel
theorem d_L_law_998 : decode b_L_law 998 = .ok (.iaload, 1) := by decide +kernel
theorem d_L_law_999 : decode b_L_law 999 = .ok (.aload_n 0, 1) := by decide +kernel
theorem d_L_law_1000 : decode b_L_law 1000 = .ok (.iload 4, 2) := by decide +kernel
theorem d_L_law_1002 : decode b_L_law 1002 = .ok (.iconst 2, 1) := by decide +kernel
theorem d_L_law_1003 : decode b_L_law 1003 = .ok (.iadd, 1) := by decide +kernel
theorem d_L_law_1004 : decode b_L_law 1004 = .ok (.iaload, 1) := by decide +kernel
theorem d_L_law_1005 : decode b_L_law 1005 = .ok (.aload_n 0, 1) := by decide +kernel
theorem d_L_law_1006 : decode b_L_law 1006 = .ok (.iload 4, 2) := by decide +kernel
theorem d_L_law_1008 : decode b_L_law 1008 = .ok (.iconst 3, 1) := by decide +kernel
theorem d_L_law_1009 : decode b_L_law 1009 = .ok (.iadd, 1) := by decide +kernel
theorem d_L_law_1010 : decode b_L_law 1010 = .ok (.iaload, 1) := by decide +kernel
theorem d_L_law_1011 : decode b_L_law 1011 = .ok (.invokevirtual 155, 3) := by decide +kernel
theorem d_L_law_1014 : decode b_L_law 1014 = .ok (.istore 6, 2) := by decide +kernel
theorem d_L_law_1016 : decode b_L_law 1016 = .ok (.aload_n 2, 1) := by decide +kernel
theorem d_L_law_1017 : decode b_L_law 1017 = .ok (.invokevirtual 113, 3) := by decide +kernel
theorem d_L_law_1020 : decode b_L_law 1020 = .ok (.iload 5, 2) := by decide +kernel
theorem d_L_law_1022 : decode b_L_law 1022 = .ok (.if_icmp .eq 5, 3) := by decide +kernel
theorem d_L_law_1025 : decode b_L_law 1025 = .ok (.iconst 0, 1) := by decide +kernel
theorem d_L_law_1026 : decode b_L_law 1026 = .ok (.ireturn, 1) := by decide +kernel
theorem d_L_law_1027 : decode b_L_law 1027 = .ok (.iload 5, 2) := by decide +kernel
theorem d_L_law_1029 : decode b_L_law 1029 = .ok (.ifCond .ne 15, 3) := by decide +kernel
theorem d_L_law_1032 : decode b_L_law 1032 = .ok (.aload_n 3, 1) := by decide +kernel
theorem d_L_law_1033 : decode b_L_law 1033 = .ok (.iconst 0, 1) := by decide +kernel
theorem d_L_law_1034 : decode b_L_law 1034 = .ok (.laload, 1) := by decide +kernel
theorem d_L_law_1035 : decode b_L_law 1035 = .ok (.iload 6, 2) := by decide +kernel
theorem d_L_law_1037 : decode b_L_law 1037 = .ok (.i2l, 1) := by decide +kernel
theorem d_L_law_1038 : decode b_L_law 1038 = .ok (.lcmp, 1) := by decide +kernel
theorem d_L_law_1039 : decode b_L_law 1039 = .ok (.ifCond .eq 5, 3) := by decide +kernel
theorem d_L_law_1042 : decode b_L_law 1042 = .ok (.iconst 0, 1) := by decide +kernel
theorem d_L_law_1043 : decode b_L_law 1043 = .ok (.ireturn, 1) := by decide +kernel
theorem d_L_law_1044 : decode b_L_law 1044 = .ok (.goto 897, 3) := by decide +kernel
theorem d_L_law_1047 : decode b_L_law 1047 = .ok (.aload_n 1, 1) := by decide +kernel
theorem d_L_law_1048 : decode b_L_law 1048 = .ok (.aload_n 0, 1) := by decide +kernel
theorem d_L_law_1049 : decode b_L_law 1049 = .ok (.iload 4, 2) := by decide +kernel
theorem d_L_law_1051 : decode b_L_law 1051 = .ok (.iconst 1, 1) := by decide +kernel
theorem d_L_law_1052 : decode b_L_law 1052 = .ok (.iadd, 1) := by decide +kernel
theorem d_L_law_1053 : decode b_L_law 1053 = .ok (.iaload, 1) := by decide +kernel
theorem d_L_law_1054 : decode b_L_law 1054 = .ok (.aload_n 0, 1) := by decide +kernel
theorem d_L_law_1055 : decode b_L_law 1055 = .ok (.iload 4, 2) := by decide +kernel
theorem d_L_law_1057 : decode b_L_law 1057 = .ok (.iconst 2, 1) := by decide +kernel
theorem d_L_law_1058 : decode b_L_law 1058 = .ok (.iadd, 1) := by decide +kernel
theorem d_L_law_1059 : decode b_L_law 1059 = .ok (.iaload, 1) := by decide +kernel
theorem d_L_law_1060 : decode b_L_law 1060 = .ok (.ifCond .eq 7, 3) := by decide +kernel
theorem d_L_law_1063 : decode b_L_law 1063 = .ok (.iconst 1, 1) := by decide +kernel
theorem d_L_law_1064 : decode b_L_law 1064 = .ok (.goto 4, 3) := by decide +kernel
theorem d_L_law_1067 : decode b_L_law 1067 = .ok (.iconst 0, 1) := by decide +kernel
theorem d_L_law_1068 : decode b_L_law 1068 = .ok (.aload_n 3, 1) := by decide +kernel
theorem d_L_law_1069 : decode b_L_law 1069 = .ok (.invokestatic 156, 3) := by decide +kernel
theorem d_L_law_1072 : decode b_L_law 1072 = .ok (.istore 5, 2) := by decide +kernel
theorem d_L_law_1074 : decode b_L_law 1074 = .ok (.aload_n 2, 1) := by decide +kernel
theorem d_L_law_1075 : decode b_L_law 1075 = .ok (.aload_n 0, 1) := by decide +kernel
theorem d_L_law_1076 : decode b_L_law 1076 = .ok (.iload 4, 2) := by decide +kernel
theorem d_L_law_1078 : decode b_L_law 1078 = .ok (.iconst 1, 1) := by decide +kernel
theorem d_L_law_1079 : decode b_L_law 1079 = .ok (.iadd, 1) := by decide +kernel
theorem d_L_law_1080 : decode b_L_law 1080 = .ok (.iaload, 1) := by decide +kernel
theorem d_L_law_1081 : decode b_L_law 1081 = .ok (.aload_n 0, 1) := by decide +kernel
theorem d_L_law_1082 : decode b_L_law 1082 = .ok (.iload 4, 2) := by decide +kernel
theorem d_L_law_1084 : decode b_L_law 1084 = .ok (.iconst 2, 1) := by decide +kernel
theorem d_L_law_1085 : decode b_L_law 1085 = .ok (.iadd, 1) := by decide +kernel
theorem d_L_law_1086 : decode b_L_law 1086 = .ok (.iaload, 1) := by decide +kernel
theorem d_L_law_1087 : decode b_L_law 1087 = .ok (.ifCond .eq 7, 3) := by decide +kernel
theorem d_L_law_1090 : decode b_L_law 1090 = .ok (.iconst 1, 1) := by decide +kernel
theorem d_L_law_1091 : decode b_L_law 1091 = .ok (.goto 4, 3) := by decide +kernel
theorem d_L_law_1094 : decode b_L_law 1094 = .ok (.iconst 0, 1) := by decide +kernel
theorem d_L_law_1095 : decode b_L_law 1095 = .ok (.invokevirtual 159, 3) := by decide +kernel
theorem d_L_law_1098 : decode b_L_law 1098 = .ok (.lstore 6, 2) := by decide +kernel
theorem d_L_law_1100 : decode b_L_law 1100 = .ok (.aload_n 2, 1) := by decide +kernel
theorem d_L_law_1101 : decode b_L_law 1101 = .ok (.invokevirtual 113, 3) := by decide +kernel
theorem d_L_law_1104 : decode b_L_law 1104 = .ok (.iload 5, 2) := by decide +kernel
theorem d_L_law_1106 : decode b_L_law 1106 = .ok (.if_icmp .eq 5, 3) := by decide +kernel
theorem d_L_law_1109 : decode b_L_law 1109 = .ok (.iconst 0, 1) := by decide +kernel
theorem d_L_law_1110 : decode b_L_law 1110 = .ok (.ireturn, 1) := by decide +kernel
theorem d_L_law_1111 : decode b_L_law 1111 = .ok (.iload 5, 2) := by decide +kernel
theorem d_L_law_1113 : decode b_L_law 1113 = .ok (.ifCond .ne 14, 3) := by decide +kernel
theorem d_L_law_1116 : decode b_L_law 1116 = .ok (.aload_n 3, 1) := by decide +kernel
theorem d_L_law_1117 : decode b_L_law 1117 = .ok (.iconst 0, 1) := by decide +kernel
theorem d_L_law_1118 : decode b_L_law 1118 = .ok (.laload, 1) := by decide +kernel
theorem d_L_law_1119 : decode b_L_law 1119 = .ok (.lload 6, 2) := by decide +kernel
theorem d_L_law_1121 : decode b_L_law 1121 = .ok (.lcmp, 1) := by decide +kernel
theorem d_L_law_1122 : decode b_L_law 1122 = .ok (.ifCond .eq 5, 3) := by decide +kernel
theorem d_L_law_1125 : decode b_L_law 1125 = .ok (.iconst 0, 1) := by decide +kernel
theorem d_L_law_1126 : decode b_L_law 1126 = .ok (.ireturn, 1) := by decide +kernel
theorem d_L_law_1127 : decode b_L_law 1127 = .ok (.goto 814, 3) := by decide +kernel
theorem d_L_law_1130 : decode b_L_law 1130 = .ok (.aload_n 1, 1) := by decide +kernel
theorem d_L_law_1131 : decode b_L_law 1131 = .ok (.aload_n 0, 1) := by decide +kernel
theorem d_L_law_1132 : decode b_L_law 1132 = .ok (.iload 4, 2) := by decide +kernel
theorem d_L_law_1134 : decode b_L_law 1134 = .ok (.iconst 1, 1) := by decide +kernel
theorem d_L_law_1135 : decode b_L_law 1135 = .ok (.iadd, 1) := by decide +kernel
theorem d_L_law_1136 : decode b_L_law 1136 = .ok (.iaload, 1) := by decide +kernel
theorem d_L_law_1137 : decode b_L_law 1137 = .ok (.aload_n 0, 1) := by decide +kernel
theorem d_L_law_1138 : decode b_L_law 1138 = .ok (.iload 4, 2) := by decide +kernel
theorem d_L_law_1140 : decode b_L_law 1140 = .ok (.iconst 2, 1) := by decide +kernel
theorem d_L_law_1141 : decode b_L_law 1141 = .ok (.iadd, 1) := by decide +kernel
theorem d_L_law_1142 : decode b_L_law 1142 = .ok (.iaload, 1) := by decide +kernel
theorem d_L_law_1143 : decode b_L_law 1143 = .ok (.aload_n 0, 1) := by decide +kernel
theorem d_L_law_1144 : decode b_L_law 1144 = .ok (.iload 4, 2) := by decide +kernel
theorem d_L_law_1146 : decode b_L_law 1146 = .ok (.iconst 3, 1) := by decide +kernel
theorem d_L_law_1147 : decode b_L_law 1147 = .ok (.iadd, 1) := by decide +kernel
theorem d_L_law_1148 : decode b_L_law 1148 = .ok (.iaload, 1) := by decide +kernel
theorem d_L_law_1149 : decode b_L_law 1149 = .ok (.aload_n 3, 1) := by decide +kernel
theorem d_L_law_1150 : decode b_L_law 1150 = .ok (.invokestatic 160, 3) := by decide +kernel
theorem d_L_law_1153 : decode b_L_law 1153 = .ok (.istore 5, 2) := by decide +kernel
theorem d_L_law_1155 : decode b_L_law 1155 = .ok (.aload_n 2, 1) := by decide +kernel
theorem d_L_law_1156 : decode b_L_law 1156 = .ok (.aload_n 0, 1) := by decide +kernel
theorem d_L_law_1157 : decode b_L_law 1157 = .ok (.iload 4, 2) := by decide +kernel
theorem d_L_law_1159 : decode b_L_law 1159 = .ok (.iconst 1, 1) := by decide +kernel
theorem d_L_law_1160 : decode b_L_law 1160 = .ok (.iadd, 1) := by decide +kernel
theorem d_L_law_1161 : decode b_L_law 1161 = .ok (.iaload, 1) := by decide +kernel
theorem d_L_law_1162 : decode b_L_law 1162 = .ok (.aload_n 0, 1) := by decide +kernel
theorem d_L_law_1163 : decode b_L_law 1163 = .ok (.iload 4, 2) := by decide +kernel
theorem d_L_law_1165 : decode b_L_law 1165 = .ok (.iconst 2, 1) := by decide +kernel
theorem d_L_law_1166 : decode b_L_law 1166 = .ok (.iadd, 1) := by decide +kernel
theorem d_L_law_1167 : decode b_L_law 1167 = .ok (.iaload, 1) := by decide +kernel
theorem d_L_law_1168 : decode b_L_law 1168 = .ok (.aload_n 0, 1) := by decide +kernel
theorem d_L_law_1169 : decode b_L_law 1169 = .ok (.iload 4, 2) := by decide +kernel
theorem d_L_law_1171 : decode b_L_law 1171 = .ok (.iconst 3, 1) := by decide +kernel
theorem d_L_law_1172 : decode b_L_law 1172 = .ok (.iadd, 1) := by decide +kernel
theorem d_L_law_1173 : decode b_L_law 1173 = .ok (.iaload, 1) := by decide +kernel
theorem d_L_law_1174 : decode b_L_law 1174 = .ok (.invokevirtual 162, 3) := by decide +kernel
theorem d_L_law_1177 : decode b_L_law 1177 = .ok (.istore 6, 2) := by decide +kernel
theorem d_L_law_1179 : decode b_L_law 1179 = .ok (.aload_n 2, 1) := by decide +kernel
theorem d_L_law_1180 : decode b_L_law 1180 = .ok (.invokevirtual 113, 3) := by decide +kernel
theorem d_L_law_1183 : decode b_L_law 1183 = .ok (.iload 5, 2) := by decide +kernel
theorem d_L_law_1185 : decode b_L_law 1185 = .ok (.if_icmp .eq 5, 3) := by decide +kernel
theorem d_L_law_1188 : decode b_L_law 1188 = .ok (.iconst 0, 1) := by decide +kernel
theorem d_L_law_1189 : decode b_L_law 1189 = .ok (.ireturn, 1) := by decide +kernel
theorem d_L_law_1190 : decode b_L_law 1190 = .ok (.iload 5, 2) := by decide +kernel
theorem d_L_law_1192 : decode b_L_law 1192 = .ok (.ifCond .ne 15, 3) := by decide +kernel
theorem d_L_law_1195 : decode b_L_law 1195 = .ok (.aload_n 3, 1) := by decide +kernel
theorem d_L_law_1196 : decode b_L_law 1196 = .ok (.iconst 0, 1) := by decide +kernel
theorem d_L_law_1197 : decode b_L_law 1197 = .ok (.laload, 1) := by decide +kernel
theorem d_L_law_1198 : decode b_L_law 1198 = .ok (.iload 6, 2) := by decide +kernel
theorem d_L_law_1200 : decode b_L_law 1200 = .ok (.i2l, 1) := by decide +kernel
theorem d_L_law_1201 : decode b_L_law 1201 = .ok (.lcmp, 1) := by decide +kernel
theorem d_L_law_1202 : decode b_L_law 1202 = .ok (.ifCond .eq 5, 3) := by decide +kernel
theorem d_L_law_1205 : decode b_L_law 1205 = .ok (.iconst 0, 1) := by decide +kernel
theorem d_L_law_1206 : decode b_L_law 1206 = .ok (.ireturn, 1) := by decide +kernel
theorem d_L_law_1207 : decode b_L_law 1207 = .ok (.goto 734, 3) := by decide +kernel
theorem d_L_law_1210 : decode b_L_law 1210 = .ok (.aload_n 1, 1) := by decide +kernel
theorem d_L_law_1211 : decode b_L_law 1211 = .ok (.aload_n 0, 1) := by decide +kernel
theorem d_L_law_1212 : decode b_L_law 1212 = .ok (.iload 4, 2) := by decide +kernel
theorem d_L_law_1214 : decode b_L_law 1214 = .ok (.iconst 1, 1) := by decide +kernel
theorem d_L_law_1215 : decode b_L_law 1215 = .ok (.iadd, 1) := by decide +kernel
theorem d_L_law_1216 : decode b_L_law 1216 = .ok (.iaload, 1) := by decide +kernel
theorem d_L_law_1217 : decode b_L_law 1217 = .ok (.aload_n 0, 1) := by decide +kernel
theorem d_L_law_1218 : decode b_L_law 1218 = .ok (.iload 4, 2) := by decide +kernel
theorem d_L_law_1220 : decode b_L_law 1220 = .ok (.iconst 2, 1) := by decide +kernel
theorem d_L_law_1221 : decode b_L_law 1221 = .ok (.iadd, 1) := by decide +kernel
theorem d_L_law_1222 : decode b_L_law 1222 = .ok (.iaload, 1) := by decide +kernel
theorem d_L_law_1223 : decode b_L_law 1223 = .ok (.aload_n 3, 1) := by decide +kernel
theorem d_L_law_1224 : decode b_L_law 1224 = .ok (.invokestatic 163, 3) := by decide +kernel
theorem d_L_law_1227 : decode b_L_law 1227 = .ok (.istore 5, 2) := by decide +kernel
theorem d_L_law_1229 : decode b_L_law 1229 = .ok (.aload_n 2, 1) := by decide +kernel
theorem d_L_law_1230 : decode b_L_law 1230 = .ok (.aload_n 0, 1) := by decide +kernel
theorem d_L_law_1231 : decode b_L_law 1231 = .ok (.iload 4, 2) := by decide +kernel
theorem d_L_law_1233 : decode b_L_law 1233 = .ok (.iconst 1, 1) := by decide +kernel
theorem d_L_law_1234 : decode b_L_law 1234 = .ok (.iadd, 1) := by decide +kernel
theorem d_L_law_1235 : decode b_L_law 1235 = .ok (.iaload, 1) := by decide +kernel
theorem d_L_law_1236 : decode b_L_law 1236 = .ok (.aload_n 0, 1) := by decide +kernel
theorem d_L_law_1237 : decode b_L_law 1237 = .ok (.iload 4, 2) := by decide +kernel
theorem d_L_law_1239 : decode b_L_law 1239 = .ok (.iconst 2, 1) := by decide +kernel
theorem d_L_law_1240 : decode b_L_law 1240 = .ok (.iadd, 1) := by decide +kernel
theorem d_L_law_1241 : decode b_L_law 1241 = .ok (.iaload, 1) := by decide +kernel
theorem d_L_law_1242 : decode b_L_law 1242 = .ok (.invokevirtual 165, 3) := by decide +kernel
theorem d_L_law_1245 : decode b_L_law 1245 = .ok (.istore 6, 2) := by decide +kernel
theorem d_L_law_1247 : decode b_L_law 1247 = .ok (.aload_n 2, 1) := by decide +kernel
theorem d_L_law_1248 : decode b_L_law 1248 = .ok (.invokevirtual 113, 3) := by decide +kernel
theorem d_L_law_1251 : decode b_L_law 1251 = .ok (.iload 5, 2) := by decide +kernel
theorem d_L_law_1253 : decode b_L_law 1253 = .ok (.if_icmp .eq 5, 3) := by decide +kernel
theorem d_L_law_1256 : decode b_L_law 1256 = .ok (.iconst 0, 1) := by decide +kernel
theorem d_L_law_1257 : decode b_L_law 1257 = .ok (.ireturn, 1) := by decide +kernel
theorem d_L_law_1258 : decode b_L_law 1258 = .ok (.iload 5, 2) := by decide +kernel
theorem d_L_law_1260 : decode b_L_law 1260 = .ok (.ifCond .ne 15, 3) := by decide +kernel
theorem d_L_law_1263 : decode b_L_law 1263 = .ok (.aload_n 3, 1) := by decide +kernel
theorem d_L_law_1264 : decode b_L_law 1264 = .ok (.iconst 0, 1) := by decide +kernel
theorem d_L_law_1265 : decode b_L_law 1265 = .ok (.laload, 1) := by decide +kernel
theorem d_L_law_1266 : decode b_L_law 1266 = .ok (.iload 6, 2) := by decide +kernel
theorem d_L_law_1268 : decode b_L_law 1268 = .ok (.i2l, 1) := by decide +kernel
theorem d_L_law_1269 : decode b_L_law 1269 = .ok (.lcmp, 1) := by decide +kernel
theorem d_L_law_1270 : decode b_L_law 1270 = .ok (.ifCond .eq 5, 3) := by decide +kernel
theorem d_L_law_1273 : decode b_L_law 1273 = .ok (.iconst 0, 1) := by decide +kernel
theorem d_L_law_1274 : decode b_L_law 1274 = .ok (.ireturn, 1) := by decide +kernel
theorem d_L_law_1275 : decode b_L_law 1275 = .ok (.goto 666, 3) := by decide +kernel
theorem d_L_law_1278 : decode b_L_law 1278 = .ok (.aload_n 1, 1) := by decide +kernel
theorem d_L_law_1279 : decode b_L_law 1279 = .ok (.aload_n 3, 1) := by decide +kernel
theorem d_L_law_1280 : decode b_L_law 1280 = .ok (.invokestatic 166, 3) := by decide +kernel
theorem d_L_law_1283 : decode b_L_law 1283 = .ok (.istore 5, 2) := by decide +kernel
theorem d_L_law_1285 : decode b_L_law 1285 = .ok (.aload_n 2, 1) := by decide +kernel
theorem d_L_law_1286 : decode b_L_law 1286 = .ok (.invokevirtual 168, 3) := by decide +kernel
theorem d_L_law_1289 : decode b_L_law 1289 = .ok (.istore 6, 2) := by decide +kernel
theorem d_L_law_1291 : decode b_L_law 1291 = .ok (.aload_n 2, 1) := by decide +kernel
theorem d_L_law_1292 : decode b_L_law 1292 = .ok (.invokevirtual 113, 3) := by decide +kernel
theorem d_L_law_1295 : decode b_L_law 1295 = .ok (.iload 5, 2) := by decide +kernel
theorem d_L_law_1297 : decode b_L_law 1297 = .ok (.if_icmp .eq 5, 3) := by decide +kernel
theorem d_L_law_1300 : decode b_L_law 1300 = .ok (.iconst 0, 1) := by decide +kernel
theorem d_L_law_1301 : decode b_L_law 1301 = .ok (.ireturn, 1) := by decide +kernel
theorem d_L_law_1302 : decode b_L_law 1302 = .ok (.iload 5, 2) := by decide +kernel
theorem d_L_law_1304 : decode b_L_law 1304 = .ok (.ifCond .ne 15, 3) := by decide +kernel
theorem d_L_law_1307 : decode b_L_law 1307 = .ok (.aload_n 3, 1) := by decide +kernel
theorem d_L_law_1308 : decode b_L_law 1308 = .ok (.iconst 0, 1) := by decide +kernel
theorem d_L_law_1309 : decode b_L_law 1309 = .ok (.laload, 1) := by decide +kernel
theorem d_L_law_1310 : decode b_L_law 1310 = .ok (.iload 6, 2) := by decide +kernel
theorem d_L_law_1312 : decode b_L_law 1312 = .ok (.i2l, 1) := by decide +kernel
theorem d_L_law_1313 : decode b_L_law 1313 = .ok (.lcmp, 1) := by decide +kernel
theorem d_L_law_1314 : decode b_L_law 1314 = .ok (.ifCond .eq 5, 3) := by decide +kernel
theorem d_L_law_1317 : decode b_L_law 1317 = .ok (.iconst 0, 1) := by decide +kernel
theorem d_L_law_1318 : decode b_L_law 1318 = .ok (.ireturn, 1) := by decide +kernel
theorem d_L_law_1319 : decode b_L_law 1319 = .ok (.goto 622, 3) := by decide +kernel
theorem d_L_law_1322 : decode b_L_law 1322 = .ok (.aload_n 1, 1) := by decide +kernel
theorem d_L_law_1323 : decode b_L_law 1323 = .ok (.aload_n 0, 1) := by decide +kernel
theorem d_L_law_1324 : decode b_L_law 1324 = .ok (.iload 4, 2) := by decide +kernel
theorem d_L_law_1326 : decode b_L_law 1326 = .ok (.iconst 1, 1) := by decide +kernel
theorem d_L_law_1327 : decode b_L_law 1327 = .ok (.iadd, 1) := by decide +kernel
theorem d_L_law_1328 : decode b_L_law 1328 = .ok (.iaload, 1) := by decide +kernel
theorem d_L_law_1329 : decode b_L_law 1329 = .ok (.aload_n 0, 1) := by decide +kernel
theorem d_L_law_1330 : decode b_L_law 1330 = .ok (.iload 4, 2) := by decide +kernel
theorem d_L_law_1332 : decode b_L_law 1332 = .ok (.iconst 2, 1) := by decide +kernel
theorem d_L_law_1333 : decode b_L_law 1333 = .ok (.iadd, 1) := by decide +kernel
theorem d_L_law_1334 : decode b_L_law 1334 = .ok (.iaload, 1) := by decide +kernel
theorem d_L_law_1335 : decode b_L_law 1335 = .ok (.aload_n 0, 1) := by decide +kernel
theorem d_L_law_1336 : decode b_L_law 1336 = .ok (.iload 4, 2) := by decide +kernel
theorem d_L_law_1338 : decode b_L_law 1338 = .ok (.iconst 3, 1) := by decide +kernel
theorem d_L_law_1339 : decode b_L_law 1339 = .ok (.iadd, 1) := by decide +kernel
theorem d_L_law_1340 : decode b_L_law 1340 = .ok (.iaload, 1) := by decide +kernel
theorem d_L_law_1341 : decode b_L_law 1341 = .ok (.aload_n 3, 1) := by decide +kernel
theorem d_L_law_1342 : decode b_L_law 1342 = .ok (.invokestatic 169, 3) := by decide +kernel
theorem d_L_law_1345 : decode b_L_law 1345 = .ok (.istore 5, 2) := by decide +kernel
theorem d_L_law_1347 : decode b_L_law 1347 = .ok (.aload_n 2, 1) := by decide +kernel
theorem d_L_law_1348 : decode b_L_law 1348 = .ok (.aload_n 0, 1) := by decide +kernel
theorem d_L_law_1349 : decode b_L_law 1349 = .ok (.iload 4, 2) := by decide +kernel
theorem d_L_law_1351 : decode b_L_law 1351 = .ok (.iconst 1, 1) := by decide +kernel
theorem d_L_law_1352 : decode b_L_law 1352 = .ok (.iadd, 1) := by decide +kernel
theorem d_L_law_1353 : decode b_L_law 1353 = .ok (.iaload, 1) := by decide +kernel
theorem d_L_law_1354 : decode b_L_law 1354 = .ok (.aload_n 0, 1) := by decide +kernel
theorem d_L_law_1355 : decode b_L_law 1355 = .ok (.iload 4, 2) := by decide +kernel
theorem d_L_law_1357 : decode b_L_law 1357 = .ok (.iconst 2, 1) := by decide +kernel
theorem d_L_law_1358 : decode b_L_law 1358 = .ok (.iadd, 1) := by decide +kernel
theorem d_L_law_1359 : decode b_L_law 1359 = .ok (.iaload, 1) := by decide +kernel
theorem d_L_law_1360 : decode b_L_law 1360 = .ok (.aload_n 0, 1) := by decide +kernel
theorem d_L_law_1361 : decode b_L_law 1361 = .ok (.iload 4, 2) := by decide +kernel
theorem d_L_law_1363 : decode b_L_law 1363 = .ok (.iconst 3, 1) := by decide +kernel
theorem d_L_law_1364 : decode b_L_law 1364 = .ok (.iadd, 1) := by decide +kernel
theorem d_L_law_1365 : decode b_L_law 1365 = .ok (.iaload, 1) := by decide +kernel
theorem d_L_law_1366 : decode b_L_law 1366 = .ok (.invokevirtual 171, 3) := by decide +kernel
theorem d_L_law_1369 : decode b_L_law 1369 = .ok (.istore 6, 2) := by decide +kernel
theorem d_L_law_1371 : decode b_L_law 1371 = .ok (.aload_n 2, 1) := by decide +kernel
theorem d_L_law_1372 : decode b_L_law 1372 = .ok (.invokevirtual 113, 3) := by decide +kernel
theorem d_L_law_1375 : decode b_L_law 1375 = .ok (.iload 5, 2) := by decide +kernel
theorem d_L_law_1377 : decode b_L_law 1377 = .ok (.if_icmp .eq 5, 3) := by decide +kernel
theorem d_L_law_1380 : decode b_L_law 1380 = .ok (.iconst 0, 1) := by decide +kernel
theorem d_L_law_1381 : decode b_L_law 1381 = .ok (.ireturn, 1) := by decide +kernel
theorem d_L_law_1382 : decode b_L_law 1382 = .ok (.iload 5, 2) := by decide +kernel
theorem d_L_law_1384 : decode b_L_law 1384 = .ok (.ifCond .ne 15, 3) := by decide +kernel
theorem d_L_law_1387 : decode b_L_law 1387 = .ok (.aload_n 3, 1) := by decide +kernel
theorem d_L_law_1388 : decode b_L_law 1388 = .ok (.iconst 0, 1) := by decide +kernel
theorem d_L_law_1389 : decode b_L_law 1389 = .ok (.laload, 1) := by decide +kernel
theorem d_L_law_1390 : decode b_L_law 1390 = .ok (.iload 6, 2) := by decide +kernel
theorem d_L_law_1392 : decode b_L_law 1392 = .ok (.i2l, 1) := by decide +kernel
theorem d_L_law_1393 : decode b_L_law 1393 = .ok (.lcmp, 1) := by decide +kernel
theorem d_L_law_1394 : decode b_L_law 1394 = .ok (.ifCond .eq 5, 3) := by decide +kernel
theorem d_L_law_1397 : decode b_L_law 1397 = .ok (.iconst 0, 1) := by decide +kernel
theorem d_L_law_1398 : decode b_L_law 1398 = .ok (.ireturn, 1) := by decide +kernel
theorem d_L_law_1399 : decode b_L_law 1399 = .ok (.goto 542, 3) := by decide +kernel
theorem d_L_law_1402 : decode b_L_law 1402 = .ok (.aload_n 1, 1) := by decide +kernel
theorem d_L_law_1403 : decode b_L_law 1403 = .ok (.aload_n 0, 1) := by decide +kernel
theorem d_L_law_1404 : decode b_L_law 1404 = .ok (.iload 4, 2) := by decide +kernel
theorem d_L_law_1406 : decode b_L_law 1406 = .ok (.iconst 1, 1) := by decide +kernel
theorem d_L_law_1407 : decode b_L_law 1407 = .ok (.iadd, 1) := by decide +kernel
theorem d_L_law_1408 : decode b_L_law 1408 = .ok (.iaload, 1) := by decide +kernel
theorem d_L_law_1409 : decode b_L_law 1409 = .ok (.aload_n 0, 1) := by decide +kernel
theorem d_L_law_1410 : decode b_L_law 1410 = .ok (.iload 4, 2) := by decide +kernel
theorem d_L_law_1412 : decode b_L_law 1412 = .ok (.iconst 2, 1) := by decide +kernel
theorem d_L_law_1413 : decode b_L_law 1413 = .ok (.iadd, 1) := by decide +kernel
theorem d_L_law_1414 : decode b_L_law 1414 = .ok (.iaload, 1) := by decide +kernel
theorem d_L_law_1415 : decode b_L_law 1415 = .ok (.aload_n 0, 1) := by decide +kernel
theorem d_L_law_1416 : decode b_L_law 1416 = .ok (.iload 4, 2) := by decide +kernel
theorem d_L_law_1418 : decode b_L_law 1418 = .ok (.iconst 3, 1) := by decide +kernel
theorem d_L_law_1419 : decode b_L_law 1419 = .ok (.iadd, 1) := by decide +kernel
theorem d_L_law_1420 : decode b_L_law 1420 = .ok (.iaload, 1) := by decide +kernel
theorem d_L_law_1421 : decode b_L_law 1421 = .ok (.aload_n 3, 1) := by decide +kernel
theorem d_L_law_1422 : decode b_L_law 1422 = .ok (.invokestatic 172, 3) := by decide +kernel
theorem d_L_law_1425 : decode b_L_law 1425 = .ok (.istore 5, 2) := by decide +kernel
theorem d_L_law_1427 : decode b_L_law 1427 = .ok (.aload_n 2, 1) := by decide +kernel
theorem d_L_law_1428 : decode b_L_law 1428 = .ok (.aload_n 0, 1) := by decide +kernel
theorem d_L_law_1429 : decode b_L_law 1429 = .ok (.iload 4, 2) := by decide +kernel
theorem d_L_law_1431 : decode b_L_law 1431 = .ok (.iconst 1, 1) := by decide +kernel
theorem d_L_law_1432 : decode b_L_law 1432 = .ok (.iadd, 1) := by decide +kernel
theorem d_L_law_1433 : decode b_L_law 1433 = .ok (.iaload, 1) := by decide +kernel
theorem d_L_law_1434 : decode b_L_law 1434 = .ok (.aload_n 0, 1) := by decide +kernel
theorem d_L_law_1435 : decode b_L_law 1435 = .ok (.iload 4, 2) := by decide +kernel
theorem d_L_law_1437 : decode b_L_law 1437 = .ok (.iconst 2, 1) := by decide +kernel
theorem d_L_law_1438 : decode b_L_law 1438 = .ok (.iadd, 1) := by decide +kernel
theorem d_L_law_1439 : decode b_L_law 1439 = .ok (.iaload, 1) := by decide +kernel
theorem d_L_law_1440 : decode b_L_law 1440 = .ok (.aload_n 0, 1) := by decide +kernel
theorem d_L_law_1441 : decode b_L_law 1441 = .ok (.iload 4, 2) := by decide +kernel
theorem d_L_law_1443 : decode b_L_law 1443 = .ok (.iconst 3, 1) := by decide +kernel
theorem d_L_law_1444 : decode b_L_law 1444 = .ok (.iadd, 1) := by decide +kernel
theorem d_L_law_1445 : decode b_L_law 1445 = .ok (.iaload, 1) := by decide +kernel
theorem d_L_law_1446 : decode b_L_law 1446 = .ok (.invokevirtual 174, 3) := by decide +kernel
theorem d_L_law_1449 : decode b_L_law 1449 = .ok (.lstore 6, 2) := by decide +kernel
theorem d_L_law_1451 : decode b_L_law 1451 = .ok (.aload_n 2, 1) := by decide +kernel
theorem d_L_law_1452 : decode b_L_law 1452 = .ok (.invokevirtual 113, 3) := by decide +kernel
theorem d_L_law_1455 : decode b_L_law 1455 = .ok (.iload 5, 2) := by decide +kernel
theorem d_L_law_1457 : decode b_L_law 1457 = .ok (.if_icmp .eq 5, 3) := by decide +kernel
theorem d_L_law_1460 : decode b_L_law 1460 = .ok (.iconst 0, 1) := by decide +kernel
theorem d_L_law_1461 : decode b_L_law 1461 = .ok (.ireturn, 1) := by decide +kernel
theorem d_L_law_1462 : decode b_L_law 1462 = .ok (.iload 5, 2) := by decide +kernel
theorem d_L_law_1464 : decode b_L_law 1464 = .ok (.ifCond .ne 14, 3) := by decide +kernel
theorem d_L_law_1467 : decode b_L_law 1467 = .ok (.aload_n 3, 1) := by decide +kernel
theorem d_L_law_1468 : decode b_L_law 1468 = .ok (.iconst 0, 1) := by decide +kernel
theorem d_L_law_1469 : decode b_L_law 1469 = .ok (.laload, 1) := by decide +kernel
theorem d_L_law_1470 : decode b_L_law 1470 = .ok (.lload 6, 2) := by decide +kernel
theorem d_L_law_1472 : decode b_L_law 1472 = .ok (.lcmp, 1) := by decide +kernel
theorem d_L_law_1473 : decode b_L_law 1473 = .ok (.ifCond .eq 5, 3) := by decide +kernel
theorem d_L_law_1476 : decode b_L_law 1476 = .ok (.iconst 0, 1) := by decide +kernel
theorem d_L_law_1477 : decode b_L_law 1477 = .ok (.ireturn, 1) := by decide +kernel
theorem d_L_law_1478 : decode b_L_law 1478 = .ok (.goto 463, 3) := by decide +kernel
theorem d_L_law_1481 : decode b_L_law 1481 = .ok (.aload_n 1, 1) := by decide +kernel
theorem d_L_law_1482 : decode b_L_law 1482 = .ok (.aload_n 0, 1) := by decide +kernel
theorem d_L_law_1483 : decode b_L_law 1483 = .ok (.iload 4, 2) := by decide +kernel
theorem d_L_law_1485 : decode b_L_law 1485 = .ok (.iconst 1, 1) := by decide +kernel
theorem d_L_law_1486 : decode b_L_law 1486 = .ok (.iadd, 1) := by decide +kernel
theorem d_L_law_1487 : decode b_L_law 1487 = .ok (.iaload, 1) := by decide +kernel
theorem d_L_law_1488 : decode b_L_law 1488 = .ok (.aload_n 0, 1) := by decide +kernel
theorem d_L_law_1489 : decode b_L_law 1489 = .ok (.iload 4, 2) := by decide +kernel
theorem d_L_law_1491 : decode b_L_law 1491 = .ok (.iconst 2, 1) := by decide +kernel
theorem d_L_law_1492 : decode b_L_law 1492 = .ok (.iadd, 1) := by decide +kernel
theorem d_L_law_1493 : decode b_L_law 1493 = .ok (.iaload, 1) := by decide +kernel
theorem d_L_law_1494 : decode b_L_law 1494 = .ok (.aload_n 3, 1) := by decide +kernel
theorem d_L_law_1495 : decode b_L_law 1495 = .ok (.invokestatic 175, 3) := by decide +kernel
theorem d_L_law_1498 : decode b_L_law 1498 = .ok (.istore 5, 2) := by decide +kernel
theorem d_L_law_1500 : decode b_L_law 1500 = .ok (.aload_n 2, 1) := by decide +kernel
theorem d_L_law_1501 : decode b_L_law 1501 = .ok (.aload_n 0, 1) := by decide +kernel
theorem d_L_law_1502 : decode b_L_law 1502 = .ok (.iload 4, 2) := by decide +kernel
theorem d_L_law_1504 : decode b_L_law 1504 = .ok (.iconst 1, 1) := by decide +kernel
theorem d_L_law_1505 : decode b_L_law 1505 = .ok (.iadd, 1) := by decide +kernel
theorem d_L_law_1506 : decode b_L_law 1506 = .ok (.iaload, 1) := by decide +kernel
theorem d_L_law_1507 : decode b_L_law 1507 = .ok (.aload_n 0, 1) := by decide +kernel
theorem d_L_law_1508 : decode b_L_law 1508 = .ok (.iload 4, 2) := by decide +kernel
theorem d_L_law_1510 : decode b_L_law 1510 = .ok (.iconst 2, 1) := by decide +kernel
theorem d_L_law_1511 : decode b_L_law 1511 = .ok (.iadd, 1) := by decide +kernel
theorem d_L_law_1512 : decode b_L_law 1512 = .ok (.iaload, 1) := by decide +kernel
theorem d_L_law_1513 : decode b_L_law 1513 = .ok (.invokevirtual 177, 3) := by decide +kernel
theorem d_L_law_1516 : decode b_L_law 1516 = .ok (.lstore 6, 2) := by decide +kernel
theorem d_L_law_1518 : decode b_L_law 1518 = .ok (.aload_n 2, 1) := by decide +kernel
theorem d_L_law_1519 : decode b_L_law 1519 = .ok (.invokevirtual 113, 3) := by decide +kernel
theorem d_L_law_1522 : decode b_L_law 1522 = .ok (.iload 5, 2) := by decide +kernel
theorem d_L_law_1524 : decode b_L_law 1524 = .ok (.if_icmp .eq 5, 3) := by decide +kernel
theorem d_L_law_1527 : decode b_L_law 1527 = .ok (.iconst 0, 1) := by decide +kernel
theorem d_L_law_1528 : decode b_L_law 1528 = .ok (.ireturn, 1) := by decide +kernel
theorem d_L_law_1529 : decode b_L_law 1529 = .ok (.iload 5, 2) := by decide +kernel
theorem d_L_law_1531 : decode b_L_law 1531 = .ok (.ifCond .ne 14, 3) := by decide +kernel
theorem d_L_law_1534 : decode b_L_law 1534 = .ok (.aload_n 3, 1) := by decide +kernel
theorem d_L_law_1535 : decode b_L_law 1535 = .ok (.iconst 0, 1) := by decide +kernel
theorem d_L_law_1536 : decode b_L_law 1536 = .ok (.laload, 1) := by decide +kernel
theorem d_L_law_1537 : decode b_L_law 1537 = .ok (.lload 6, 2) := by decide +kernel
theorem d_L_law_1539 : decode b_L_law 1539 = .ok (.lcmp, 1) := by decide +kernel
theorem d_L_law_1540 : decode b_L_law 1540 = .ok (.ifCond .eq 5, 3) := by decide +kernel
theorem d_L_law_1543 : decode b_L_law 1543 = .ok (.iconst 0, 1) := by decide +kernel
theorem d_L_law_1544 : decode b_L_law 1544 = .ok (.ireturn, 1) := by decide +kernel
theorem d_L_law_1545 : decode b_L_law 1545 = .ok (.goto 396, 3) := by decide +kernel
theorem d_L_law_1548 : decode b_L_law 1548 = .ok (.aload_n 1, 1) := by decide +kernel
theorem d_L_law_1549 : decode b_L_law 1549 = .ok (.aload_n 0, 1) := by decide +kernel
theorem d_L_law_1550 : decode b_L_law 1550 = .ok (.iload 4, 2) := by decide +kernel
theorem d_L_law_1552 : decode b_L_law 1552 = .ok (.iconst 1, 1) := by decide +kernel
theorem d_L_law_1553 : decode b_L_law 1553 = .ok (.iadd, 1) := by decide +kernel
theorem d_L_law_1554 : decode b_L_law 1554 = .ok (.iaload, 1) := by decide +kernel
theorem d_L_law_1555 : decode b_L_law 1555 = .ok (.aload_n 3, 1) := by decide +kernel
theorem d_L_law_1556 : decode b_L_law 1556 = .ok (.invokestatic 178, 3) := by decide +kernel
theorem d_L_law_1559 : decode b_L_law 1559 = .ok (.istore 5, 2) := by decide +kernel
theorem d_L_law_1561 : decode b_L_law 1561 = .ok (.aload_n 2, 1) := by decide +kernel
theorem d_L_law_1562 : decode b_L_law 1562 = .ok (.aload_n 0, 1) := by decide +kernel
theorem d_L_law_1563 : decode b_L_law 1563 = .ok (.iload 4, 2) := by decide +kernel
theorem d_L_law_1565 : decode b_L_law 1565 = .ok (.iconst 1, 1) := by decide +kernel
theorem d_L_law_1566 : decode b_L_law 1566 = .ok (.iadd, 1) := by decide +kernel
theorem d_L_law_1567 : decode b_L_law 1567 = .ok (.iaload, 1) := by decide +kernel
theorem d_L_law_1568 : decode b_L_law 1568 = .ok (.invokevirtual 180, 3) := by decide +kernel
theorem d_L_law_1571 : decode b_L_law 1571 = .ok (.istore 6, 2) := by decide +kernel
theorem d_L_law_1573 : decode b_L_law 1573 = .ok (.aload_n 2, 1) := by decide +kernel
theorem d_L_law_1574 : decode b_L_law 1574 = .ok (.invokevirtual 113, 3) := by decide +kernel
theorem d_L_law_1577 : decode b_L_law 1577 = .ok (.iload 5, 2) := by decide +kernel
theorem d_L_law_1579 : decode b_L_law 1579 = .ok (.if_icmp .eq 5, 3) := by decide +kernel
theorem d_L_law_1582 : decode b_L_law 1582 = .ok (.iconst 0, 1) := by decide +kernel
theorem d_L_law_1583 : decode b_L_law 1583 = .ok (.ireturn, 1) := by decide +kernel
theorem d_L_law_1584 : decode b_L_law 1584 = .ok (.iload 5, 2) := by decide +kernel
theorem d_L_law_1586 : decode b_L_law 1586 = .ok (.ifCond .ne 22, 3) := by decide +kernel
theorem d_L_law_1589 : decode b_L_law 1589 = .ok (.aload_n 3, 1) := by decide +kernel
theorem d_L_law_1590 : decode b_L_law 1590 = .ok (.iconst 0, 1) := by decide +kernel
theorem d_L_law_1591 : decode b_L_law 1591 = .ok (.laload, 1) := by decide +kernel
theorem d_L_law_1592 : decode b_L_law 1592 = .ok (.iload 6, 2) := by decide +kernel
theorem d_L_law_1594 : decode b_L_law 1594 = .ok (.ifCond .eq 7, 3) := by decide +kernel
theorem d_L_law_1597 : decode b_L_law 1597 = .ok (.lconst 1, 1) := by decide +kernel
theorem d_L_law_1598 : decode b_L_law 1598 = .ok (.goto 4, 3) := by decide +kernel
theorem d_L_law_1601 : decode b_L_law 1601 = .ok (.lconst 0, 1) := by decide +kernel
theorem d_L_law_1602 : decode b_L_law 1602 = .ok (.lcmp, 1) := by decide +kernel
theorem d_L_law_1603 : decode b_L_law 1603 = .ok (.ifCond .eq 5, 3) := by decide +kernel
theorem d_L_law_1606 : decode b_L_law 1606 = .ok (.iconst 0, 1) := by decide +kernel
theorem d_L_law_1607 : decode b_L_law 1607 = .ok (.ireturn, 1) := by decide +kernel
theorem d_L_law_1608 : decode b_L_law 1608 = .ok (.goto 333, 3) := by decide +kernel
theorem d_L_law_1611 : decode b_L_law 1611 = .ok (.aload_n 1, 1) := by decide +kernel
theorem d_L_law_1612 : decode b_L_law 1612 = .ok (.aload_n 0, 1) := by decide +kernel
theorem d_L_law_1613 : decode b_L_law 1613 = .ok (.iload 4, 2) := by decide +kernel
theorem d_L_law_1615 : decode b_L_law 1615 = .ok (.iconst 1, 1) := by decide +kernel
theorem d_L_law_1616 : decode b_L_law 1616 = .ok (.iadd, 1) := by decide +kernel
theorem d_L_law_1617 : decode b_L_law 1617 = .ok (.iaload, 1) := by decide +kernel
theorem d_L_law_1618 : decode b_L_law 1618 = .ok (.aload_n 0, 1) := by decide +kernel
theorem d_L_law_1619 : decode b_L_law 1619 = .ok (.iload 4, 2) := by decide +kernel
theorem d_L_law_1621 : decode b_L_law 1621 = .ok (.iconst 2, 1) := by decide +kernel
theorem d_L_law_1622 : decode b_L_law 1622 = .ok (.iadd, 1) := by decide +kernel
theorem d_L_law_1623 : decode b_L_law 1623 = .ok (.iaload, 1) := by decide +kernel
theorem d_L_law_1624 : decode b_L_law 1624 = .ok (.aload_n 0, 1) := by decide +kernel
theorem d_L_law_1625 : decode b_L_law 1625 = .ok (.iload 4, 2) := by decide +kernel
theorem d_L_law_1627 : decode b_L_law 1627 = .ok (.iconst 3, 1) := by decide +kernel
theorem d_L_law_1628 : decode b_L_law 1628 = .ok (.iadd, 1) := by decide +kernel
theorem d_L_law_1629 : decode b_L_law 1629 = .ok (.iaload, 1) := by decide +kernel
theorem d_L_law_1630 : decode b_L_law 1630 = .ok (.aload_n 3, 1) := by decide +kernel
theorem d_L_law_1631 : decode b_L_law 1631 = .ok (.invokestatic 181, 3) := by decide +kernel
theorem d_L_law_1634 : decode b_L_law 1634 = .ok (.istore 5, 2) := by decide +kernel
theorem d_L_law_1636 : decode b_L_law 1636 = .ok (.aload_n 2, 1) := by decide +kernel
theorem d_L_law_1637 : decode b_L_law 1637 = .ok (.aload_n 0, 1) := by decide +kernel
theorem d_L_law_1638 : decode b_L_law 1638 = .ok (.iload 4, 2) := by decide +kernel
theorem d_L_law_1640 : decode b_L_law 1640 = .ok (.iconst 1, 1) := by decide +kernel
theorem d_L_law_1641 : decode b_L_law 1641 = .ok (.iadd, 1) := by decide +kernel
theorem d_L_law_1642 : decode b_L_law 1642 = .ok (.iaload, 1) := by decide +kernel
theorem d_L_law_1643 : decode b_L_law 1643 = .ok (.aload_n 0, 1) := by decide +kernel
theorem d_L_law_1644 : decode b_L_law 1644 = .ok (.iload 4, 2) := by decide +kernel
theorem d_L_law_1646 : decode b_L_law 1646 = .ok (.iconst 2, 1) := by decide +kernel
theorem d_L_law_1647 : decode b_L_law 1647 = .ok (.iadd, 1) := by decide +kernel
theorem d_L_law_1648 : decode b_L_law 1648 = .ok (.iaload, 1) := by decide +kernel
theorem d_L_law_1649 : decode b_L_law 1649 = .ok (.aload_n 0, 1) := by decide +kernel
theorem d_L_law_1650 : decode b_L_law 1650 = .ok (.iload 4, 2) := by decide +kernel
theorem d_L_law_1652 : decode b_L_law 1652 = .ok (.iconst 3, 1) := by decide +kernel
theorem d_L_law_1653 : decode b_L_law 1653 = .ok (.iadd, 1) := by decide +kernel
theorem d_L_law_1654 : decode b_L_law 1654 = .ok (.iaload, 1) := by decide +kernel
theorem d_L_law_1655 : decode b_L_law 1655 = .ok (.invokevirtual 183, 3) := by decide +kernel
theorem d_L_law_1658 : decode b_L_law 1658 = .ok (.lstore 6, 2) := by decide +kernel
theorem d_L_law_1660 : decode b_L_law 1660 = .ok (.aload_n 2, 1) := by decide +kernel
theorem d_L_law_1661 : decode b_L_law 1661 = .ok (.invokevirtual 113, 3) := by decide +kernel
theorem d_L_law_1664 : decode b_L_law 1664 = .ok (.iload 5, 2) := by decide +kernel
theorem d_L_law_1666 : decode b_L_law 1666 = .ok (.if_icmp .eq 5, 3) := by decide +kernel
theorem d_L_law_1669 : decode b_L_law 1669 = .ok (.iconst 0, 1) := by decide +kernel
theorem d_L_law_1670 : decode b_L_law 1670 = .ok (.ireturn, 1) := by decide +kernel
theorem d_L_law_1671 : decode b_L_law 1671 = .ok (.iload 5, 2) := by decide +kernel
theorem d_L_law_1673 : decode b_L_law 1673 = .ok (.ifCond .ne 14, 3) := by decide +kernel
theorem d_L_law_1676 : decode b_L_law 1676 = .ok (.aload_n 3, 1) := by decide +kernel
theorem d_L_law_1677 : decode b_L_law 1677 = .ok (.iconst 0, 1) := by decide +kernel
theorem d_L_law_1678 : decode b_L_law 1678 = .ok (.laload, 1) := by decide +kernel
theorem d_L_law_1679 : decode b_L_law 1679 = .ok (.lload 6, 2) := by decide +kernel
theorem d_L_law_1681 : decode b_L_law 1681 = .ok (.lcmp, 1) := by decide +kernel
theorem d_L_law_1682 : decode b_L_law 1682 = .ok (.ifCond .eq 5, 3) := by decide +kernel
theorem d_L_law_1685 : decode b_L_law 1685 = .ok (.iconst 0, 1) := by decide +kernel
theorem d_L_law_1686 : decode b_L_law 1686 = .ok (.ireturn, 1) := by decide +kernel
theorem d_L_law_1687 : decode b_L_law 1687 = .ok (.goto 254, 3) := by decide +kernel
theorem d_L_law_1690 : decode b_L_law 1690 = .ok (.aload_n 1, 1) := by decide +kernel
theorem d_L_law_1691 : decode b_L_law 1691 = .ok (.aload_n 0, 1) := by decide +kernel
theorem d_L_law_1692 : decode b_L_law 1692 = .ok (.iload 4, 2) := by decide +kernel
theorem d_L_law_1694 : decode b_L_law 1694 = .ok (.iconst 1, 1) := by decide +kernel
theorem d_L_law_1695 : decode b_L_law 1695 = .ok (.iadd, 1) := by decide +kernel
theorem d_L_law_1696 : decode b_L_law 1696 = .ok (.iaload, 1) := by decide +kernel
theorem d_L_law_1697 : decode b_L_law 1697 = .ok (.aload_n 0, 1) := by decide +kernel
theorem d_L_law_1698 : decode b_L_law 1698 = .ok (.iload 4, 2) := by decide +kernel
theorem d_L_law_1700 : decode b_L_law 1700 = .ok (.iconst 2, 1) := by decide +kernel
theorem d_L_law_1701 : decode b_L_law 1701 = .ok (.iadd, 1) := by decide +kernel
theorem d_L_law_1702 : decode b_L_law 1702 = .ok (.iaload, 1) := by decide +kernel
theorem d_L_law_1703 : decode b_L_law 1703 = .ok (.invokestatic 184, 3) := by decide +kernel
theorem d_L_law_1706 : decode b_L_law 1706 = .ok (.istore 5, 2) := by decide +kernel
theorem d_L_law_1708 : decode b_L_law 1708 = .ok (.aload_n 2, 1) := by decide +kernel
theorem d_L_law_1709 : decode b_L_law 1709 = .ok (.aload_n 0, 1) := by decide +kernel
theorem d_L_law_1710 : decode b_L_law 1710 = .ok (.iload 4, 2) := by decide +kernel
theorem d_L_law_1712 : decode b_L_law 1712 = .ok (.iconst 1, 1) := by decide +kernel
theorem d_L_law_1713 : decode b_L_law 1713 = .ok (.iadd, 1) := by decide +kernel
theorem d_L_law_1714 : decode b_L_law 1714 = .ok (.iaload, 1) := by decide +kernel
theorem d_L_law_1715 : decode b_L_law 1715 = .ok (.aload_n 0, 1) := by decide +kernel
theorem d_L_law_1716 : decode b_L_law 1716 = .ok (.iload 4, 2) := by decide +kernel
theorem d_L_law_1718 : decode b_L_law 1718 = .ok (.iconst 2, 1) := by decide +kernel
theorem d_L_law_1719 : decode b_L_law 1719 = .ok (.iadd, 1) := by decide +kernel
theorem d_L_law_1720 : decode b_L_law 1720 = .ok (.iaload, 1) := by decide +kernel
theorem d_L_law_1721 : decode b_L_law 1721 = .ok (.invokevirtual 187, 3) := by decide +kernel
theorem d_L_law_1724 : decode b_L_law 1724 = .ok (.aload_n 2, 1) := by decide +kernel
theorem d_L_law_1725 : decode b_L_law 1725 = .ok (.invokevirtual 113, 3) := by decide +kernel
theorem d_L_law_1728 : decode b_L_law 1728 = .ok (.iload 5, 2) := by decide +kernel
theorem d_L_law_1730 : decode b_L_law 1730 = .ok (.if_icmp .eq 5, 3) := by decide +kernel
theorem d_L_law_1733 : decode b_L_law 1733 = .ok (.iconst 0, 1) := by decide +kernel
theorem d_L_law_1734 : decode b_L_law 1734 = .ok (.ireturn, 1) := by decide +kernel
theorem d_L_law_1735 : decode b_L_law 1735 = .ok (.goto 206, 3) := by decide +kernel
theorem d_L_law_1738 : decode b_L_law 1738 = .ok (.aload_n 1, 1) := by decide +kernel
theorem d_L_law_1739 : decode b_L_law 1739 = .ok (.aload_n 0, 1) := by decide +kernel
theorem d_L_law_1740 : decode b_L_law 1740 = .ok (.iload 4, 2) := by decide +kernel
theorem d_L_law_1742 : decode b_L_law 1742 = .ok (.iconst 1, 1) := by decide +kernel
theorem d_L_law_1743 : decode b_L_law 1743 = .ok (.iadd, 1) := by decide +kernel
theorem d_L_law_1744 : decode b_L_law 1744 = .ok (.iaload, 1) := by decide +kernel
theorem d_L_law_1745 : decode b_L_law 1745 = .ok (.aload_n 0, 1) := by decide +kernel
theorem d_L_law_1746 : decode b_L_law 1746 = .ok (.iload 4, 2) := by decide +kernel
theorem d_L_law_1748 : decode b_L_law 1748 = .ok (.iconst 2, 1) := by decide +kernel
theorem d_L_law_1749 : decode b_L_law 1749 = .ok (.iadd, 1) := by decide +kernel
theorem d_L_law_1750 : decode b_L_law 1750 = .ok (.iaload, 1) := by decide +kernel
theorem d_L_law_1751 : decode b_L_law 1751 = .ok (.aload_n 3, 1) := by decide +kernel
theorem d_L_law_1752 : decode b_L_law 1752 = .ok (.invokestatic 188, 3) := by decide +kernel
theorem d_L_law_1755 : decode b_L_law 1755 = .ok (.istore 5, 2) := by decide +kernel
theorem d_L_law_1757 : decode b_L_law 1757 = .ok (.aload_n 2, 1) := by decide +kernel
theorem d_L_law_1758 : decode b_L_law 1758 = .ok (.aload_n 0, 1) := by decide +kernel
theorem d_L_law_1759 : decode b_L_law 1759 = .ok (.iload 4, 2) := by decide +kernel
theorem d_L_law_1761 : decode b_L_law 1761 = .ok (.iconst 1, 1) := by decide +kernel
theorem d_L_law_1762 : decode b_L_law 1762 = .ok (.iadd, 1) := by decide +kernel
theorem d_L_law_1763 : decode b_L_law 1763 = .ok (.iaload, 1) := by decide +kernel
theorem d_L_law_1764 : decode b_L_law 1764 = .ok (.aload_n 0, 1) := by decide +kernel
theorem d_L_law_1765 : decode b_L_law 1765 = .ok (.iload 4, 2) := by decide +kernel
theorem d_L_law_1767 : decode b_L_law 1767 = .ok (.iconst 2, 1) := by decide +kernel
theorem d_L_law_1768 : decode b_L_law 1768 = .ok (.iadd, 1) := by decide +kernel
theorem d_L_law_1769 : decode b_L_law 1769 = .ok (.iaload, 1) := by decide +kernel
theorem d_L_law_1770 : decode b_L_law 1770 = .ok (.invokevirtual 190, 3) := by decide +kernel
theorem d_L_law_1773 : decode b_L_law 1773 = .ok (.lstore 6, 2) := by decide +kernel
theorem d_L_law_1775 : decode b_L_law 1775 = .ok (.aload_n 2, 1) := by decide +kernel
theorem d_L_law_1776 : decode b_L_law 1776 = .ok (.invokevirtual 113, 3) := by decide +kernel
theorem d_L_law_1779 : decode b_L_law 1779 = .ok (.iload 5, 2) := by decide +kernel
theorem d_L_law_1781 : decode b_L_law 1781 = .ok (.if_icmp .eq 5, 3) := by decide +kernel
theorem d_L_law_1784 : decode b_L_law 1784 = .ok (.iconst 0, 1) := by decide +kernel
theorem d_L_law_1785 : decode b_L_law 1785 = .ok (.ireturn, 1) := by decide +kernel
theorem d_L_law_1786 : decode b_L_law 1786 = .ok (.iload 5, 2) := by decide +kernel
theorem d_L_law_1788 : decode b_L_law 1788 = .ok (.ifCond .ne 14, 3) := by decide +kernel
theorem d_L_law_1791 : decode b_L_law 1791 = .ok (.aload_n 3, 1) := by decide +kernel
theorem d_L_law_1792 : decode b_L_law 1792 = .ok (.iconst 0, 1) := by decide +kernel
theorem d_L_law_1793 : decode b_L_law 1793 = .ok (.laload, 1) := by decide +kernel
theorem d_L_law_1794 : decode b_L_law 1794 = .ok (.lload 6, 2) := by decide +kernel
theorem d_L_law_1796 : decode b_L_law 1796 = .ok (.lcmp, 1) := by decide +kernel
theorem d_L_law_1797 : decode b_L_law 1797 = .ok (.ifCond .eq 5, 3) := by decide +kernel
theorem d_L_law_1800 : decode b_L_law 1800 = .ok (.iconst 0, 1) := by decide +kernel
theorem d_L_law_1801 : decode b_L_law 1801 = .ok (.ireturn, 1) := by decide +kernel
theorem d_L_law_1802 : decode b_L_law 1802 = .ok (.goto 139, 3) := by decide +kernel
theorem d_L_law_1805 : decode b_L_law 1805 = .ok (.aload_n 1, 1) := by decide +kernel
theorem d_L_law_1806 : decode b_L_law 1806 = .ok (.aload_n 0, 1) := by decide +kernel
theorem d_L_law_1807 : decode b_L_law 1807 = .ok (.iload 4, 2) := by decide +kernel
theorem d_L_law_1809 : decode b_L_law 1809 = .ok (.iconst 1, 1) := by decide +kernel
theorem d_L_law_1810 : decode b_L_law 1810 = .ok (.iadd, 1) := by decide +kernel
theorem d_L_law_1811 : decode b_L_law 1811 = .ok (.iaload, 1) := by decide +kernel
theorem d_L_law_1812 : decode b_L_law 1812 = .ok (.aload_n 0, 1) := by decide +kernel
theorem d_L_law_1813 : decode b_L_law 1813 = .ok (.iload 4, 2) := by decide +kernel
theorem d_L_law_1815 : decode b_L_law 1815 = .ok (.iconst 2, 1) := by decide +kernel
theorem d_L_law_1816 : decode b_L_law 1816 = .ok (.iadd, 1) := by decide +kernel
theorem d_L_law_1817 : decode b_L_law 1817 = .ok (.iaload, 1) := by decide +kernel
theorem d_L_law_1818 : decode b_L_law 1818 = .ok (.aload_n 3, 1) := by decide +kernel
theorem d_L_law_1819 : decode b_L_law 1819 = .ok (.invokestatic 191, 3) := by decide +kernel
theorem d_L_law_1822 : decode b_L_law 1822 = .ok (.istore 5, 2) := by decide +kernel
theorem d_L_law_1824 : decode b_L_law 1824 = .ok (.aload_n 2, 1) := by decide +kernel
theorem d_L_law_1825 : decode b_L_law 1825 = .ok (.aload_n 0, 1) := by decide +kernel
theorem d_L_law_1826 : decode b_L_law 1826 = .ok (.iload 4, 2) := by decide +kernel
theorem d_L_law_1828 : decode b_L_law 1828 = .ok (.iconst 1, 1) := by decide +kernel
theorem d_L_law_1829 : decode b_L_law 1829 = .ok (.iadd, 1) := by decide +kernel
theorem d_L_law_1830 : decode b_L_law 1830 = .ok (.iaload, 1) := by decide +kernel
theorem d_L_law_1831 : decode b_L_law 1831 = .ok (.aload_n 0, 1) := by decide +kernel
theorem d_L_law_1832 : decode b_L_law 1832 = .ok (.iload 4, 2) := by decide +kernel
theorem d_L_law_1834 : decode b_L_law 1834 = .ok (.iconst 2, 1) := by decide +kernel
theorem d_L_law_1835 : decode b_L_law 1835 = .ok (.iadd, 1) := by decide +kernel
theorem d_L_law_1836 : decode b_L_law 1836 = .ok (.iaload, 1) := by decide +kernel
theorem d_L_law_1837 : decode b_L_law 1837 = .ok (.invokevirtual 193, 3) := by decide +kernel
theorem d_L_law_1840 : decode b_L_law 1840 = .ok (.istore 6, 2) := by decide +kernel
theorem d_L_law_1842 : decode b_L_law 1842 = .ok (.aload_n 2, 1) := by decide +kernel
theorem d_L_law_1843 : decode b_L_law 1843 = .ok (.invokevirtual 113, 3) := by decide +kernel
theorem d_L_law_1846 : decode b_L_law 1846 = .ok (.iload 5, 2) := by decide +kernel
theorem d_L_law_1848 : decode b_L_law 1848 = .ok (.if_icmp .eq 5, 3) := by decide +kernel
theorem d_L_law_1851 : decode b_L_law 1851 = .ok (.iconst 0, 1) := by decide +kernel
theorem d_L_law_1852 : decode b_L_law 1852 = .ok (.ireturn, 1) := by decide +kernel
theorem d_L_law_1853 : decode b_L_law 1853 = .ok (.iload 5, 2) := by decide +kernel
theorem d_L_law_1855 : decode b_L_law 1855 = .ok (.ifCond .ne 15, 3) := by decide +kernel
theorem d_L_law_1858 : decode b_L_law 1858 = .ok (.aload_n 3, 1) := by decide +kernel
theorem d_L_law_1859 : decode b_L_law 1859 = .ok (.iconst 0, 1) := by decide +kernel
theorem d_L_law_1860 : decode b_L_law 1860 = .ok (.laload, 1) := by decide +kernel
theorem d_L_law_1861 : decode b_L_law 1861 = .ok (.iload 6, 2) := by decide +kernel
theorem d_L_law_1863 : decode b_L_law 1863 = .ok (.i2l, 1) := by decide +kernel
theorem d_L_law_1864 : decode b_L_law 1864 = .ok (.lcmp, 1) := by decide +kernel
theorem d_L_law_1865 : decode b_L_law 1865 = .ok (.ifCond .eq 5, 3) := by decide +kernel
theorem d_L_law_1868 : decode b_L_law 1868 = .ok (.iconst 0, 1) := by decide +kernel
theorem d_L_law_1869 : decode b_L_law 1869 = .ok (.ireturn, 1) := by decide +kernel
theorem d_L_law_1870 : decode b_L_law 1870 = .ok (.goto 71, 3) := by decide +kernel
theorem d_L_law_1873 : decode b_L_law 1873 = .ok (.aload_n 1, 1) := by decide +kernel
theorem d_L_law_1874 : decode b_L_law 1874 = .ok (.aload_n 0, 1) := by decide +kernel
theorem d_L_law_1875 : decode b_L_law 1875 = .ok (.iload 4, 2) := by decide +kernel
theorem d_L_law_1877 : decode b_L_law 1877 = .ok (.iconst 1, 1) := by decide +kernel
theorem d_L_law_1878 : decode b_L_law 1878 = .ok (.iadd, 1) := by decide +kernel
theorem d_L_law_1879 : decode b_L_law 1879 = .ok (.iaload, 1) := by decide +kernel
theorem d_L_law_1880 : decode b_L_law 1880 = .ok (.aload_n 0, 1) := by decide +kernel
theorem d_L_law_1881 : decode b_L_law 1881 = .ok (.iload 4, 2) := by decide +kernel
theorem d_L_law_1883 : decode b_L_law 1883 = .ok (.iconst 2, 1) := by decide +kernel
theorem d_L_law_1884 : decode b_L_law 1884 = .ok (.iadd, 1) := by decide +kernel
theorem d_L_law_1885 : decode b_L_law 1885 = .ok (.iaload, 1) := by decide +kernel
theorem d_L_law_1886 : decode b_L_law 1886 = .ok (.aload_n 3, 1) := by decide +kernel
theorem d_L_law_1887 : decode b_L_law 1887 = .ok (.invokestatic 194, 3) := by decide +kernel
theorem d_L_law_1890 : decode b_L_law 1890 = .ok (.istore 5, 2) := by decide +kernel
theorem d_L_law_1892 : decode b_L_law 1892 = .ok (.aload_n 2, 1) := by decide +kernel
theorem d_L_law_1893 : decode b_L_law 1893 = .ok (.aload_n 0, 1) := by decide +kernel
theorem d_L_law_1894 : decode b_L_law 1894 = .ok (.iload 4, 2) := by decide +kernel
theorem d_L_law_1896 : decode b_L_law 1896 = .ok (.iconst 1, 1) := by decide +kernel
theorem d_L_law_1897 : decode b_L_law 1897 = .ok (.iadd, 1) := by decide +kernel
theorem d_L_law_1898 : decode b_L_law 1898 = .ok (.iaload, 1) := by decide +kernel
theorem d_L_law_1899 : decode b_L_law 1899 = .ok (.aload_n 0, 1) := by decide +kernel
theorem d_L_law_1900 : decode b_L_law 1900 = .ok (.iload 4, 2) := by decide +kernel
theorem d_L_law_1902 : decode b_L_law 1902 = .ok (.iconst 2, 1) := by decide +kernel
theorem d_L_law_1903 : decode b_L_law 1903 = .ok (.iadd, 1) := by decide +kernel
theorem d_L_law_1904 : decode b_L_law 1904 = .ok (.iaload, 1) := by decide +kernel
theorem d_L_law_1905 : decode b_L_law 1905 = .ok (.invokevirtual 196, 3) := by decide +kernel
theorem d_L_law_1908 : decode b_L_law 1908 = .ok (.istore 6, 2) := by decide +kernel
theorem d_L_law_1910 : decode b_L_law 1910 = .ok (.aload_n 2, 1) := by decide +kernel
theorem d_L_law_1911 : decode b_L_law 1911 = .ok (.invokevirtual 113, 3) := by decide +kernel
theorem d_L_law_1914 : decode b_L_law 1914 = .ok (.iload 5, 2) := by decide +kernel
theorem d_L_law_1916 : decode b_L_law 1916 = .ok (.if_icmp .eq 5, 3) := by decide +kernel
theorem d_L_law_1919 : decode b_L_law 1919 = .ok (.iconst 0, 1) := by decide +kernel
theorem d_L_law_1920 : decode b_L_law 1920 = .ok (.ireturn, 1) := by decide +kernel
theorem d_L_law_1921 : decode b_L_law 1921 = .ok (.iload 5, 2) := by decide +kernel
theorem d_L_law_1923 : decode b_L_law 1923 = .ok (.ifCond .ne 15, 3) := by decide +kernel
theorem d_L_law_1926 : decode b_L_law 1926 = .ok (.aload_n 3, 1) := by decide +kernel
theorem d_L_law_1927 : decode b_L_law 1927 = .ok (.iconst 0, 1) := by decide +kernel
theorem d_L_law_1928 : decode b_L_law 1928 = .ok (.laload, 1) := by decide +kernel
theorem d_L_law_1929 : decode b_L_law 1929 = .ok (.iload 6, 2) := by decide +kernel
theorem d_L_law_1931 : decode b_L_law 1931 = .ok (.i2l, 1) := by decide +kernel
theorem d_L_law_1932 : decode b_L_law 1932 = .ok (.lcmp, 1) := by decide +kernel
theorem d_L_law_1933 : decode b_L_law 1933 = .ok (.ifCond .eq 5, 3) := by decide +kernel
theorem d_L_law_1936 : decode b_L_law 1936 = .ok (.iconst 0, 1) := by decide +kernel
theorem d_L_law_1937 : decode b_L_law 1937 = .ok (.ireturn, 1) := by decide +kernel
theorem d_L_law_1938 : decode b_L_law 1938 = .ok (.goto 3, 3) := by decide +kernel
theorem d_L_law_1941 : decode b_L_law 1941 = .ok (.iinc 4 6, 3) := by decide +kernel
theorem d_L_law_1944 : decode b_L_law 1944 = .ok (.goto (-1921), 3) := by decide +kernel
theorem d_L_law_1947 : decode b_L_law 1947 = .ok (.iconst 1, 1) := by decide +kernel
theorem d_L_law_1948 : decode b_L_law 1948 = .ok (.ireturn, 1) := by decide +kernel
