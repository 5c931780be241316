theorem dL_law_0 : decode code 0 = .ok (.new 7, 3) := by decide +kernel
theorem dL_law_3 : decode code 3 = .ok (.dup, 1) := by decide +kernel
theorem dL_law_4 : decode code 4 = .ok (.invokespecial 9, 3) := by decide +kernel
theorem dL_law_7 : decode code 7 = .ok (.astore_n 1, 1) := by decide +kernel
theorem dL_law_8 : decode code 8 = .ok (.new 10, 3) := by decide +kernel
theorem dL_law_11 : decode code 11 = .ok (.dup, 1) := by decide +kernel
theorem dL_law_12 : decode code 12 = .ok (.invokespecial 12, 3) := by decide +kernel
theorem dL_law_15 : decode code 15 = .ok (.astore_n 2, 1) := by decide +kernel
theorem dL_law_16 : decode code 16 = .ok (.iconst 0, 1) := by decide +kernel
theorem dL_law_17 : decode code 17 = .ok (.istore_n 3, 1) := by decide +kernel
theorem dL_law_18 : decode code 18 = .ok (.iload_n 3, 1) := by decide +kernel
theorem dL_law_19 : decode code 19 = .ok (.aload_n 0, 1) := by decide +kernel
theorem dL_law_20 : decode code 20 = .ok (.arraylength, 1) := by decide +kernel
theorem dL_law_21 : decode code 21 = .ok (.iconst 5, 1) := by decide +kernel
theorem dL_law_22 : decode code 22 = .ok (.isub, 1) := by decide +kernel
theorem dL_law_23 : decode code 23 = .ok (.if_icmp .gt 753, 3) := by decide +kernel
theorem dL_law_26 : decode code 26 = .ok (.aload_n 0, 1) := by decide +kernel
theorem dL_law_27 : decode code 27 = .ok (.iload_n 3, 1) := by decide +kernel
theorem dL_law_28 : decode code 28 = .ok (.iaload, 1) := by decide +kernel
theorem dL_law_29 : decode code 29 = .ok (.bipush 31, 2) := by decide +kernel
theorem dL_law_31 : decode code 31 = .ok (.iand, 1) := by decide +kernel
theorem dL_law_32 : decode code 32 = .ok (.tableswitch 738 0 23 #[112, 145, 178, 189, 212, 225, 248, 261, 274, 287, 300, 333, 402, 425, 448, 471, 504, 537, 560, 573, 596, 649, 702, 725], 112) := by decide +kernel
theorem dL_law_144 : decode code 144 = .ok (.aload_n 1, 1) := by decide +kernel
theorem dL_law_145 : decode code 145 = .ok (.aload_n 0, 1) := by decide +kernel
theorem dL_law_146 : decode code 146 = .ok (.iload_n 3, 1) := by decide +kernel
theorem dL_law_147 : decode code 147 = .ok (.iconst 1, 1) := by decide +kernel
theorem dL_law_148 : decode code 148 = .ok (.iadd, 1) := by decide +kernel
theorem dL_law_149 : decode code 149 = .ok (.iaload, 1) := by decide +kernel
theorem dL_law_150 : decode code 150 = .ok (.aload_n 0, 1) := by decide +kernel
theorem dL_law_151 : decode code 151 = .ok (.iload_n 3, 1) := by decide +kernel
theorem dL_law_152 : decode code 152 = .ok (.iconst 2, 1) := by decide +kernel
theorem dL_law_153 : decode code 153 = .ok (.iadd, 1) := by decide +kernel
theorem dL_law_154 : decode code 154 = .ok (.iaload, 1) := by decide +kernel
theorem dL_law_155 : decode code 155 = .ok (.invokevirtual 13, 3) := by decide +kernel
theorem dL_law_158 : decode code 158 = .ok (.aload_n 2, 1) := by decide +kernel
theorem dL_law_159 : decode code 159 = .ok (.aload_n 0, 1) := by decide +kernel
theorem dL_law_160 : decode code 160 = .ok (.iload_n 3, 1) := by decide +kernel
theorem dL_law_161 : decode code 161 = .ok (.iconst 1, 1) := by decide +kernel
theorem dL_law_162 : decode code 162 = .ok (.iadd, 1) := by decide +kernel
theorem dL_law_163 : decode code 163 = .ok (.iaload, 1) := by decide +kernel
theorem dL_law_164 : decode code 164 = .ok (.aload_n 0, 1) := by decide +kernel
theorem dL_law_165 : decode code 165 = .ok (.iload_n 3, 1) := by decide +kernel
theorem dL_law_166 : decode code 166 = .ok (.iconst 2, 1) := by decide +kernel
theorem dL_law_167 : decode code 167 = .ok (.iadd, 1) := by decide +kernel
theorem dL_law_168 : decode code 168 = .ok (.iaload, 1) := by decide +kernel
theorem dL_law_169 : decode code 169 = .ok (.invokevirtual 17, 3) := by decide +kernel
theorem dL_law_172 : decode code 172 = .ok (.if_icmp .eq 598, 3) := by decide +kernel
theorem dL_law_175 : decode code 175 = .ok (.iconst 0, 1) := by decide +kernel
theorem dL_law_176 : decode code 176 = .ok (.ireturn, 1) := by decide +kernel
theorem dL_law_177 : decode code 177 = .ok (.aload_n 1, 1) := by decide +kernel
theorem dL_law_178 : decode code 178 = .ok (.aload_n 0, 1) := by decide +kernel
theorem dL_law_179 : decode code 179 = .ok (.iload_n 3, 1) := by decide +kernel
theorem dL_law_180 : decode code 180 = .ok (.iconst 1, 1) := by decide +kernel
theorem dL_law_181 : decode code 181 = .ok (.iadd, 1) := by decide +kernel
theorem dL_law_182 : decode code 182 = .ok (.iaload, 1) := by decide +kernel
theorem dL_law_183 : decode code 183 = .ok (.aload_n 0, 1) := by decide +kernel
theorem dL_law_184 : decode code 184 = .ok (.iload_n 3, 1) := by decide +kernel
theorem dL_law_185 : decode code 185 = .ok (.iconst 2, 1) := by decide +kernel
theorem dL_law_186 : decode code 186 = .ok (.iadd, 1) := by decide +kernel
theorem dL_law_187 : decode code 187 = .ok (.iaload, 1) := by decide +kernel
theorem dL_law_188 : decode code 188 = .ok (.invokevirtual 18, 3) := by decide +kernel
theorem dL_law_191 : decode code 191 = .ok (.aload_n 2, 1) := by decide +kernel
theorem dL_law_192 : decode code 192 = .ok (.aload_n 0, 1) := by decide +kernel
theorem dL_law_193 : decode code 193 = .ok (.iload_n 3, 1) := by decide +kernel
theorem dL_law_194 : decode code 194 = .ok (.iconst 1, 1) := by decide +kernel
theorem dL_law_195 : decode code 195 = .ok (.iadd, 1) := by decide +kernel
theorem dL_law_196 : decode code 196 = .ok (.iaload, 1) := by decide +kernel
theorem dL_law_197 : decode code 197 = .ok (.aload_n 0, 1) := by decide +kernel
theorem dL_law_198 : decode code 198 = .ok (.iload_n 3, 1) := by decide +kernel
theorem dL_law_199 : decode code 199 = .ok (.iconst 2, 1) := by decide +kernel
theorem dL_law_200 : decode code 200 = .ok (.iadd, 1) := by decide +kernel
theorem dL_law_201 : decode code 201 = .ok (.iaload, 1) := by decide +kernel
theorem dL_law_202 : decode code 202 = .ok (.invokevirtual 21, 3) := by decide +kernel
theorem dL_law_205 : decode code 205 = .ok (.if_icmp .eq 565, 3) := by decide +kernel
theorem dL_law_208 : decode code 208 = .ok (.iconst 0, 1) := by decide +kernel
theorem dL_law_209 : decode code 209 = .ok (.ireturn, 1) := by decide +kernel
theorem dL_law_210 : decode code 210 = .ok (.aload_n 1, 1) := by decide +kernel
theorem dL_law_211 : decode code 211 = .ok (.invokevirtual 22, 3) := by decide +kernel
theorem dL_law_214 : decode code 214 = .ok (.aload_n 2, 1) := by decide +kernel
theorem dL_law_215 : decode code 215 = .ok (.invokevirtual 25, 3) := by decide +kernel
theorem dL_law_218 : decode code 218 = .ok (.goto 552, 3) := by decide +kernel
theorem dL_law_221 : decode code 221 = .ok (.aload_n 1, 1) := by decide +kernel
theorem dL_law_222 : decode code 222 = .ok (.aload_n 0, 1) := by decide +kernel
theorem dL_law_223 : decode code 223 = .ok (.iload_n 3, 1) := by decide +kernel
theorem dL_law_224 : decode code 224 = .ok (.iconst 1, 1) := by decide +kernel
theorem dL_law_225 : decode code 225 = .ok (.iadd, 1) := by decide +kernel
theorem dL_law_226 : decode code 226 = .ok (.iaload, 1) := by decide +kernel
theorem dL_law_227 : decode code 227 = .ok (.invokevirtual 26, 3) := by decide +kernel
theorem dL_law_230 : decode code 230 = .ok (.aload_n 2, 1) := by decide +kernel
theorem dL_law_231 : decode code 231 = .ok (.aload_n 0, 1) := by decide +kernel
theorem dL_law_232 : decode code 232 = .ok (.iload_n 3, 1) := by decide +kernel
theorem dL_law_233 : decode code 233 = .ok (.iconst 1, 1) := by decide +kernel
theorem dL_law_234 : decode code 234 = .ok (.iadd, 1) := by decide +kernel
theorem dL_law_235 : decode code 235 = .ok (.iaload, 1) := by decide +kernel
theorem dL_law_236 : decode code 236 = .ok (.invokevirtual 30, 3) := by decide +kernel
theorem dL_law_239 : decode code 239 = .ok (.if_icmp .eq 531, 3) := by decide +kernel
theorem dL_law_242 : decode code 242 = .ok (.iconst 0, 1) := by decide +kernel
theorem dL_law_243 : decode code 243 = .ok (.ireturn, 1) := by decide +kernel
theorem dL_law_244 : decode code 244 = .ok (.aload_n 1, 1) := by decide +kernel
theorem dL_law_245 : decode code 245 = .ok (.invokevirtual 31, 3) := by decide +kernel
theorem dL_law_248 : decode code 248 = .ok (.aload_n 2, 1) := by decide +kernel
theorem dL_law_249 : decode code 249 = .ok (.invokevirtual 35, 3) := by decide +kernel
theorem dL_law_252 : decode code 252 = .ok (.if_icmp .eq 518, 3) := by decide +kernel
theorem dL_law_255 : decode code 255 = .ok (.iconst 0, 1) := by decide +kernel
theorem dL_law_256 : decode code 256 = .ok (.ireturn, 1) := by decide +kernel
theorem dL_law_257 : decode code 257 = .ok (.aload_n 1, 1) := by decide +kernel
theorem dL_law_258 : decode code 258 = .ok (.aload_n 0, 1) := by decide +kernel
theorem dL_law_259 : decode code 259 = .ok (.iload_n 3, 1) := by decide +kernel
theorem dL_law_260 : decode code 260 = .ok (.iconst 1, 1) := by decide +kernel
theorem dL_law_261 : decode code 261 = .ok (.iadd, 1) := by decide +kernel
theorem dL_law_262 : decode code 262 = .ok (.iaload, 1) := by decide +kernel
theorem dL_law_263 : decode code 263 = .ok (.invokevirtual 36, 3) := by decide +kernel
theorem dL_law_266 : decode code 266 = .ok (.aload_n 2, 1) := by decide +kernel
theorem dL_law_267 : decode code 267 = .ok (.aload_n 0, 1) := by decide +kernel
theorem dL_law_268 : decode code 268 = .ok (.iload_n 3, 1) := by decide +kernel
theorem dL_law_269 : decode code 269 = .ok (.iconst 1, 1) := by decide +kernel
theorem dL_law_270 : decode code 270 = .ok (.iadd, 1) := by decide +kernel
theorem dL_law_271 : decode code 271 = .ok (.iaload, 1) := by decide +kernel
theorem dL_law_272 : decode code 272 = .ok (.invokevirtual 40, 3) := by decide +kernel
theorem dL_law_275 : decode code 275 = .ok (.if_icmp .eq 495, 3) := by decide +kernel
theorem dL_law_278 : decode code 278 = .ok (.iconst 0, 1) := by decide +kernel
theorem dL_law_279 : decode code 279 = .ok (.ireturn, 1) := by decide +kernel
theorem dL_law_280 : decode code 280 = .ok (.aload_n 1, 1) := by decide +kernel
theorem dL_law_281 : decode code 281 = .ok (.invokevirtual 41, 3) := by decide +kernel
theorem dL_law_284 : decode code 284 = .ok (.aload_n 2, 1) := by decide +kernel
theorem dL_law_285 : decode code 285 = .ok (.invokevirtual 44, 3) := by decide +kernel
theorem dL_law_288 : decode code 288 = .ok (.if_icmp .eq 482, 3) := by decide +kernel
theorem dL_law_291 : decode code 291 = .ok (.iconst 0, 1) := by decide +kernel
theorem dL_law_292 : decode code 292 = .ok (.ireturn, 1) := by decide +kernel
theorem dL_law_293 : decode code 293 = .ok (.aload_n 1, 1) := by decide +kernel
theorem dL_law_294 : decode code 294 = .ok (.invokevirtual 45, 3) := by decide +kernel
theorem dL_law_297 : decode code 297 = .ok (.aload_n 2, 1) := by decide +kernel
theorem dL_law_298 : decode code 298 = .ok (.invokevirtual 49, 3) := by decide +kernel
theorem dL_law_301 : decode code 301 = .ok (.if_icmp .eq 469, 3) := by decide +kernel
theorem dL_law_304 : decode code 304 = .ok (.iconst 0, 1) := by decide +kernel
theorem dL_law_305 : decode code 305 = .ok (.ireturn, 1) := by decide +kernel
theorem dL_law_306 : decode code 306 = .ok (.aload_n 1, 1) := by decide +kernel
theorem dL_law_307 : decode code 307 = .ok (.invokevirtual 50, 3) := by decide +kernel
theorem dL_law_310 : decode code 310 = .ok (.aload_n 2, 1) := by decide +kernel
theorem dL_law_311 : decode code 311 = .ok (.invokevirtual 53, 3) := by decide +kernel
theorem dL_law_314 : decode code 314 = .ok (.if_icmp .eq 456, 3) := by decide +kernel
theorem dL_law_317 : decode code 317 = .ok (.iconst 0, 1) := by decide +kernel
theorem dL_law_318 : decode code 318 = .ok (.ireturn, 1) := by decide +kernel
theorem dL_law_319 : decode code 319 = .ok (.aload_n 1, 1) := by decide +kernel
theorem dL_law_320 : decode code 320 = .ok (.invokevirtual 54, 3) := by decide +kernel
theorem dL_law_323 : decode code 323 = .ok (.aload_n 2, 1) := by decide +kernel
theorem dL_law_324 : decode code 324 = .ok (.invokevirtual 57, 3) := by decide +kernel
theorem dL_law_327 : decode code 327 = .ok (.if_icmp .eq 443, 3) := by decide +kernel
theorem dL_law_330 : decode code 330 = .ok (.iconst 0, 1) := by decide +kernel
theorem dL_law_331 : decode code 331 = .ok (.ireturn, 1) := by decide +kernel
theorem dL_law_332 : decode code 332 = .ok (.aload_n 1, 1) := by decide +kernel
theorem dL_law_333 : decode code 333 = .ok (.aload_n 0, 1) := by decide +kernel
theorem dL_law_334 : decode code 334 = .ok (.iload_n 3, 1) := by decide +kernel
theorem dL_law_335 : decode code 335 = .ok (.iconst 1, 1) := by decide +kernel
theorem dL_law_336 : decode code 336 = .ok (.iadd, 1) := by decide +kernel
theorem dL_law_337 : decode code 337 = .ok (.iaload, 1) := by decide +kernel
theorem dL_law_338 : decode code 338 = .ok (.aload_n 0, 1) := by decide +kernel
theorem dL_law_339 : decode code 339 = .ok (.iload_n 3, 1) := by decide +kernel
theorem dL_law_340 : decode code 340 = .ok (.iconst 2, 1) := by decide +kernel
theorem dL_law_341 : decode code 341 = .ok (.iadd, 1) := by decide +kernel
theorem dL_law_342 : decode code 342 = .ok (.iaload, 1) := by decide +kernel
theorem dL_law_343 : decode code 343 = .ok (.invokevirtual 58, 3) := by decide +kernel
theorem dL_law_346 : decode code 346 = .ok (.aload_n 2, 1) := by decide +kernel
theorem dL_law_347 : decode code 347 = .ok (.aload_n 0, 1) := by decide +kernel
theorem dL_law_348 : decode code 348 = .ok (.iload_n 3, 1) := by decide +kernel
theorem dL_law_349 : decode code 349 = .ok (.iconst 1, 1) := by decide +kernel
theorem dL_law_350 : decode code 350 = .ok (.iadd, 1) := by decide +kernel
theorem dL_law_351 : decode code 351 = .ok (.iaload, 1) := by decide +kernel
theorem dL_law_352 : decode code 352 = .ok (.aload_n 0, 1) := by decide +kernel
theorem dL_law_353 : decode code 353 = .ok (.iload_n 3, 1) := by decide +kernel
theorem dL_law_354 : decode code 354 = .ok (.iconst 2, 1) := by decide +kernel
theorem dL_law_355 : decode code 355 = .ok (.iadd, 1) := by decide +kernel
theorem dL_law_356 : decode code 356 = .ok (.iaload, 1) := by decide +kernel
theorem dL_law_357 : decode code 357 = .ok (.invokevirtual 62, 3) := by decide +kernel
theorem dL_law_360 : decode code 360 = .ok (.if_icmp .eq 410, 3) := by decide +kernel
theorem dL_law_363 : decode code 363 = .ok (.iconst 0, 1) := by decide +kernel
theorem dL_law_364 : decode code 364 = .ok (.ireturn, 1) := by decide +kernel
theorem dL_law_365 : decode code 365 = .ok (.aload_n 1, 1) := by decide +kernel
theorem dL_law_366 : decode code 366 = .ok (.aload_n 0, 1) := by decide +kernel
theorem dL_law_367 : decode code 367 = .ok (.iload_n 3, 1) := by decide +kernel
theorem dL_law_368 : decode code 368 = .ok (.iconst 1, 1) := by decide +kernel
theorem dL_law_369 : decode code 369 = .ok (.iadd, 1) := by decide +kernel
theorem dL_law_370 : decode code 370 = .ok (.iaload, 1) := by decide +kernel
theorem dL_law_371 : decode code 371 = .ok (.aload_n 0, 1) := by decide +kernel
theorem dL_law_372 : decode code 372 = .ok (.iload_n 3, 1) := by decide +kernel
theorem dL_law_373 : decode code 373 = .ok (.iconst 2, 1) := by decide +kernel
theorem dL_law_374 : decode code 374 = .ok (.iadd, 1) := by decide +kernel
theorem dL_law_375 : decode code 375 = .ok (.iaload, 1) := by decide +kernel
theorem dL_law_376 : decode code 376 = .ok (.aload_n 0, 1) := by decide +kernel
theorem dL_law_377 : decode code 377 = .ok (.iload_n 3, 1) := by decide +kernel
theorem dL_law_378 : decode code 378 = .ok (.iconst 3, 1) := by decide +kernel
theorem dL_law_379 : decode code 379 = .ok (.iadd, 1) := by decide +kernel
theorem dL_law_380 : decode code 380 = .ok (.iaload, 1) := by decide +kernel
theorem dL_law_381 : decode code 381 = .ok (.aload_n 0, 1) := by decide +kernel
theorem dL_law_382 : decode code 382 = .ok (.iload_n 3, 1) := by decide +kernel
theorem dL_law_383 : decode code 383 = .ok (.iconst 4, 1) := by decide +kernel
theorem dL_law_384 : decode code 384 = .ok (.iadd, 1) := by decide +kernel
theorem dL_law_385 : decode code 385 = .ok (.iaload, 1) := by decide +kernel
theorem dL_law_386 : decode code 386 = .ok (.ifCond .eq 7, 3) := by decide +kernel
theorem dL_law_389 : decode code 389 = .ok (.iconst 1, 1) := by decide +kernel
theorem dL_law_390 : decode code 390 = .ok (.goto 4, 3) := by decide +kernel
theorem dL_law_393 : decode code 393 = .ok (.iconst 0, 1) := by decide +kernel
theorem dL_law_394 : decode code 394 = .ok (.invokevirtual 63, 3) := by decide +kernel
theorem dL_law_397 : decode code 397 = .ok (.aload_n 2, 1) := by decide +kernel
theorem dL_law_398 : decode code 398 = .ok (.aload_n 0, 1) := by decide +kernel
theorem dL_law_399 : decode code 399 = .ok (.iload_n 3, 1) := by decide +kernel
theorem dL_law_400 : decode code 400 = .ok (.iconst 1, 1) := by decide +kernel
theorem dL_law_401 : decode code 401 = .ok (.iadd, 1) := by decide +kernel
theorem dL_law_402 : decode code 402 = .ok (.iaload, 1) := by decide +kernel
theorem dL_law_403 : decode code 403 = .ok (.aload_n 0, 1) := by decide +kernel
theorem dL_law_404 : decode code 404 = .ok (.iload_n 3, 1) := by decide +kernel
theorem dL_law_405 : decode code 405 = .ok (.iconst 2, 1) := by decide +kernel
theorem dL_law_406 : decode code 406 = .ok (.iadd, 1) := by decide +kernel
theorem dL_law_407 : decode code 407 = .ok (.iaload, 1) := by decide +kernel
theorem dL_law_408 : decode code 408 = .ok (.aload_n 0, 1) := by decide +kernel
theorem dL_law_409 : decode code 409 = .ok (.iload_n 3, 1) := by decide +kernel
theorem dL_law_410 : decode code 410 = .ok (.iconst 3, 1) := by decide +kernel
theorem dL_law_411 : decode code 411 = .ok (.iadd, 1) := by decide +kernel
theorem dL_law_412 : decode code 412 = .ok (.iaload, 1) := by decide +kernel
theorem dL_law_413 : decode code 413 = .ok (.aload_n 0, 1) := by decide +kernel
theorem dL_law_414 : decode code 414 = .ok (.iload_n 3, 1) := by decide +kernel
theorem dL_law_415 : decode code 415 = .ok (.iconst 4, 1) := by decide +kernel
theorem dL_law_416 : decode code 416 = .ok (.iadd, 1) := by decide +kernel
theorem dL_law_417 : decode code 417 = .ok (.iaload, 1) := by decide +kernel
theorem dL_law_418 : decode code 418 = .ok (.ifCond .eq 7, 3) := by decide +kernel
theorem dL_law_421 : decode code 421 = .ok (.iconst 1, 1) := by decide +kernel
theorem dL_law_422 : decode code 422 = .ok (.goto 4, 3) := by decide +kernel
theorem dL_law_425 : decode code 425 = .ok (.iconst 0, 1) := by decide +kernel
theorem dL_law_426 : decode code 426 = .ok (.invokevirtual 67, 3) := by decide +kernel
theorem dL_law_429 : decode code 429 = .ok (.if_icmp .eq 341, 3) := by decide +kernel
theorem dL_law_432 : decode code 432 = .ok (.iconst 0, 1) := by decide +kernel
theorem dL_law_433 : decode code 433 = .ok (.ireturn, 1) := by decide +kernel
theorem dL_law_434 : decode code 434 = .ok (.aload_n 1, 1) := by decide +kernel
theorem dL_law_435 : decode code 435 = .ok (.aload_n 0, 1) := by decide +kernel
theorem dL_law_436 : decode code 436 = .ok (.iload_n 3, 1) := by decide +kernel
theorem dL_law_437 : decode code 437 = .ok (.iconst 1, 1) := by decide +kernel
theorem dL_law_438 : decode code 438 = .ok (.iadd, 1) := by decide +kernel
theorem dL_law_439 : decode code 439 = .ok (.iaload, 1) := by decide +kernel
theorem dL_law_440 : decode code 440 = .ok (.invokevirtual 68, 3) := by decide +kernel
theorem dL_law_443 : decode code 443 = .ok (.aload_n 2, 1) := by decide +kernel
theorem dL_law_444 : decode code 444 = .ok (.aload_n 0, 1) := by decide +kernel
theorem dL_law_445 : decode code 445 = .ok (.iload_n 3, 1) := by decide +kernel
theorem dL_law_446 : decode code 446 = .ok (.iconst 1, 1) := by decide +kernel
theorem dL_law_447 : decode code 447 = .ok (.iadd, 1) := by decide +kernel
theorem dL_law_448 : decode code 448 = .ok (.iaload, 1) := by decide +kernel
theorem dL_law_449 : decode code 449 = .ok (.invokevirtual 71, 3) := by decide +kernel
theorem dL_law_452 : decode code 452 = .ok (.if_icmp .eq 318, 3) := by decide +kernel
theorem dL_law_455 : decode code 455 = .ok (.iconst 0, 1) := by decide +kernel
theorem dL_law_456 : decode code 456 = .ok (.ireturn, 1) := by decide +kernel
theorem dL_law_457 : decode code 457 = .ok (.aload_n 1, 1) := by decide +kernel
theorem dL_law_458 : decode code 458 = .ok (.aload_n 0, 1) := by decide +kernel
theorem dL_law_459 : decode code 459 = .ok (.iload_n 3, 1) := by decide +kernel
theorem dL_law_460 : decode code 460 = .ok (.iconst 1, 1) := by decide +kernel
theorem dL_law_461 : decode code 461 = .ok (.iadd, 1) := by decide +kernel
theorem dL_law_462 : decode code 462 = .ok (.iaload, 1) := by decide +kernel
theorem dL_law_463 : decode code 463 = .ok (.invokevirtual 72, 3) := by decide +kernel
theorem dL_law_466 : decode code 466 = .ok (.aload_n 2, 1) := by decide +kernel
theorem dL_law_467 : decode code 467 = .ok (.aload_n 0, 1) := by decide +kernel
theorem dL_law_468 : decode code 468 = .ok (.iload_n 3, 1) := by decide +kernel
theorem dL_law_469 : decode code 469 = .ok (.iconst 1, 1) := by decide +kernel
theorem dL_law_470 : decode code 470 = .ok (.iadd, 1) := by decide +kernel
theorem dL_law_471 : decode code 471 = .ok (.iaload, 1) := by decide +kernel
theorem dL_law_472 : decode code 472 = .ok (.invokevirtual 75, 3) := by decide +kernel
theorem dL_law_475 : decode code 475 = .ok (.if_icmp .eq 295, 3) := by decide +kernel
theorem dL_law_478 : decode code 478 = .ok (.iconst 0, 1) := by decide +kernel
theorem dL_law_479 : decode code 479 = .ok (.ireturn, 1) := by decide +kernel
theorem dL_law_480 : decode code 480 = .ok (.aload_n 1, 1) := by decide +kernel
theorem dL_law_481 : decode code 481 = .ok (.aload_n 0, 1) := by decide +kernel
theorem dL_law_482 : decode code 482 = .ok (.iload_n 3, 1) := by decide +kernel
theorem dL_law_483 : decode code 483 = .ok (.iconst 1, 1) := by decide +kernel
theorem dL_law_484 : decode code 484 = .ok (.iadd, 1) := by decide +kernel
theorem dL_law_485 : decode code 485 = .ok (.iaload, 1) := by decide +kernel
theorem dL_law_486 : decode code 486 = .ok (.invokevirtual 76, 3) := by decide +kernel
theorem dL_law_489 : decode code 489 = .ok (.aload_n 2, 1) := by decide +kernel
theorem dL_law_490 : decode code 490 = .ok (.aload_n 0, 1) := by decide +kernel
theorem dL_law_491 : decode code 491 = .ok (.iload_n 3, 1) := by decide +kernel
theorem dL_law_492 : decode code 492 = .ok (.iconst 1, 1) := by decide +kernel
theorem dL_law_493 : decode code 493 = .ok (.iadd, 1) := by decide +kernel
theorem dL_law_494 : decode code 494 = .ok (.iaload, 1) := by decide +kernel
theorem dL_law_495 : decode code 495 = .ok (.invokevirtual 79, 3) := by decide +kernel
theorem dL_law_498 : decode code 498 = .ok (.if_icmp .eq 272, 3) := by decide +kernel
theorem dL_law_501 : decode code 501 = .ok (.iconst 0, 1) := by decide +kernel
theorem dL_law_502 : decode code 502 = .ok (.ireturn, 1) := by decide +kernel
theorem dL_law_503 : decode code 503 = .ok (.aload_n 1, 1) := by decide +kernel
theorem dL_law_504 : decode code 504 = .ok (.aload_n 0, 1) := by decide +kernel
theorem dL_law_505 : decode code 505 = .ok (.iload_n 3, 1) := by decide +kernel
theorem dL_law_506 : decode code 506 = .ok (.iconst 1, 1) := by decide +kernel
theorem dL_law_507 : decode code 507 = .ok (.iadd, 1) := by decide +kernel
theorem dL_law_508 : decode code 508 = .ok (.iaload, 1) := by decide +kernel
theorem dL_law_509 : decode code 509 = .ok (.aload_n 0, 1) := by decide +kernel
theorem dL_law_510 : decode code 510 = .ok (.iload_n 3, 1) := by decide +kernel
theorem dL_law_511 : decode code 511 = .ok (.iconst 2, 1) := by decide +kernel
theorem dL_law_512 : decode code 512 = .ok (.iadd, 1) := by decide +kernel
theorem dL_law_513 : decode code 513 = .ok (.iaload, 1) := by decide +kernel
theorem dL_law_514 : decode code 514 = .ok (.invokevirtual 80, 3) := by decide +kernel
theorem dL_law_517 : decode code 517 = .ok (.aload_n 2, 1) := by decide +kernel
theorem dL_law_518 : decode code 518 = .ok (.aload_n 0, 1) := by decide +kernel
theorem dL_law_519 : decode code 519 = .ok (.iload_n 3, 1) := by decide +kernel
theorem dL_law_520 : decode code 520 = .ok (.iconst 1, 1) := by decide +kernel
theorem dL_law_521 : decode code 521 = .ok (.iadd, 1) := by decide +kernel
theorem dL_law_522 : decode code 522 = .ok (.iaload, 1) := by decide +kernel
theorem dL_law_523 : decode code 523 = .ok (.aload_n 0, 1) := by decide +kernel
theorem dL_law_524 : decode code 524 = .ok (.iload_n 3, 1) := by decide +kernel
theorem dL_law_525 : decode code 525 = .ok (.iconst 2, 1) := by decide +kernel
theorem dL_law_526 : decode code 526 = .ok (.iadd, 1) := by decide +kernel
theorem dL_law_527 : decode code 527 = .ok (.iaload, 1) := by decide +kernel
theorem dL_law_528 : decode code 528 = .ok (.invokevirtual 83, 3) := by decide +kernel
theorem dL_law_531 : decode code 531 = .ok (.if_icmp .eq 239, 3) := by decide +kernel
theorem dL_law_534 : decode code 534 = .ok (.iconst 0, 1) := by decide +kernel
theorem dL_law_535 : decode code 535 = .ok (.ireturn, 1) := by decide +kernel
theorem dL_law_536 : decode code 536 = .ok (.aload_n 1, 1) := by decide +kernel
theorem dL_law_537 : decode code 537 = .ok (.aload_n 0, 1) := by decide +kernel
theorem dL_law_538 : decode code 538 = .ok (.iload_n 3, 1) := by decide +kernel
theorem dL_law_539 : decode code 539 = .ok (.iconst 1, 1) := by decide +kernel
theorem dL_law_540 : decode code 540 = .ok (.iadd, 1) := by decide +kernel
theorem dL_law_541 : decode code 541 = .ok (.iaload, 1) := by decide +kernel
theorem dL_law_542 : decode code 542 = .ok (.aload_n 0, 1) := by decide +kernel
theorem dL_law_543 : decode code 543 = .ok (.iload_n 3, 1) := by decide +kernel
theorem dL_law_544 : decode code 544 = .ok (.iconst 2, 1) := by decide +kernel
theorem dL_law_545 : decode code 545 = .ok (.iadd, 1) := by decide +kernel
theorem dL_law_546 : decode code 546 = .ok (.iaload, 1) := by decide +kernel
theorem dL_law_547 : decode code 547 = .ok (.invokevirtual 84, 3) := by decide +kernel
theorem dL_law_550 : decode code 550 = .ok (.aload_n 2, 1) := by decide +kernel
theorem dL_law_551 : decode code 551 = .ok (.aload_n 0, 1) := by decide +kernel
theorem dL_law_552 : decode code 552 = .ok (.iload_n 3, 1) := by decide +kernel
theorem dL_law_553 : decode code 553 = .ok (.iconst 1, 1) := by decide +kernel
theorem dL_law_554 : decode code 554 = .ok (.iadd, 1) := by decide +kernel
theorem dL_law_555 : decode code 555 = .ok (.iaload, 1) := by decide +kernel
theorem dL_law_556 : decode code 556 = .ok (.aload_n 0, 1) := by decide +kernel
theorem dL_law_557 : decode code 557 = .ok (.iload_n 3, 1) := by decide +kernel
theorem dL_law_558 : decode code 558 = .ok (.iconst 2, 1) := by decide +kernel
theorem dL_law_559 : decode code 559 = .ok (.iadd, 1) := by decide +kernel
theorem dL_law_560 : decode code 560 = .ok (.iaload, 1) := by decide +kernel
theorem dL_law_561 : decode code 561 = .ok (.invokevirtual 87, 3) := by decide +kernel
theorem dL_law_564 : decode code 564 = .ok (.if_icmp .eq 206, 3) := by decide +kernel
theorem dL_law_567 : decode code 567 = .ok (.iconst 0, 1) := by decide +kernel
theorem dL_law_568 : decode code 568 = .ok (.ireturn, 1) := by decide +kernel
theorem dL_law_569 : decode code 569 = .ok (.aload_n 1, 1) := by decide +kernel
theorem dL_law_570 : decode code 570 = .ok (.aload_n 0, 1) := by decide +kernel
theorem dL_law_571 : decode code 571 = .ok (.iload_n 3, 1) := by decide +kernel
theorem dL_law_572 : decode code 572 = .ok (.iconst 1, 1) := by decide +kernel
theorem dL_law_573 : decode code 573 = .ok (.iadd, 1) := by decide +kernel
theorem dL_law_574 : decode code 574 = .ok (.iaload, 1) := by decide +kernel
theorem dL_law_575 : decode code 575 = .ok (.invokevirtual 88, 3) := by decide +kernel
theorem dL_law_578 : decode code 578 = .ok (.aload_n 2, 1) := by decide +kernel
theorem dL_law_579 : decode code 579 = .ok (.aload_n 0, 1) := by decide +kernel
theorem dL_law_580 : decode code 580 = .ok (.iload_n 3, 1) := by decide +kernel
theorem dL_law_581 : decode code 581 = .ok (.iconst 1, 1) := by decide +kernel
theorem dL_law_582 : decode code 582 = .ok (.iadd, 1) := by decide +kernel
theorem dL_law_583 : decode code 583 = .ok (.iaload, 1) := by decide +kernel
theorem dL_law_584 : decode code 584 = .ok (.invokevirtual 91, 3) := by decide +kernel
theorem dL_law_587 : decode code 587 = .ok (.if_icmp .eq 183, 3) := by decide +kernel
theorem dL_law_590 : decode code 590 = .ok (.iconst 0, 1) := by decide +kernel
theorem dL_law_591 : decode code 591 = .ok (.ireturn, 1) := by decide +kernel
theorem dL_law_592 : decode code 592 = .ok (.aload_n 1, 1) := by decide +kernel
theorem dL_law_593 : decode code 593 = .ok (.invokevirtual 92, 3) := by decide +kernel
theorem dL_law_596 : decode code 596 = .ok (.aload_n 2, 1) := by decide +kernel
theorem dL_law_597 : decode code 597 = .ok (.invokevirtual 95, 3) := by decide +kernel
theorem dL_law_600 : decode code 600 = .ok (.if_icmp .eq 170, 3) := by decide +kernel
theorem dL_law_603 : decode code 603 = .ok (.iconst 0, 1) := by decide +kernel
theorem dL_law_604 : decode code 604 = .ok (.ireturn, 1) := by decide +kernel
theorem dL_law_605 : decode code 605 = .ok (.aload_n 1, 1) := by decide +kernel
theorem dL_law_606 : decode code 606 = .ok (.aload_n 0, 1) := by decide +kernel
theorem dL_law_607 : decode code 607 = .ok (.iload_n 3, 1) := by decide +kernel
theorem dL_law_608 : decode code 608 = .ok (.iconst 1, 1) := by decide +kernel
theorem dL_law_609 : decode code 609 = .ok (.iadd, 1) := by decide +kernel
theorem dL_law_610 : decode code 610 = .ok (.iaload, 1) := by decide +kernel
theorem dL_law_611 : decode code 611 = .ok (.invokevirtual 96, 3) := by decide +kernel
theorem dL_law_614 : decode code 614 = .ok (.aload_n 2, 1) := by decide +kernel
theorem dL_law_615 : decode code 615 = .ok (.aload_n 0, 1) := by decide +kernel
theorem dL_law_616 : decode code 616 = .ok (.iload_n 3, 1) := by decide +kernel
theorem dL_law_617 : decode code 617 = .ok (.iconst 1, 1) := by decide +kernel
theorem dL_law_618 : decode code 618 = .ok (.iadd, 1) := by decide +kernel
theorem dL_law_619 : decode code 619 = .ok (.iaload, 1) := by decide +kernel
theorem dL_law_620 : decode code 620 = .ok (.invokevirtual 99, 3) := by decide +kernel
theorem dL_law_623 : decode code 623 = .ok (.if_icmp .eq 147, 3) := by decide +kernel
theorem dL_law_626 : decode code 626 = .ok (.iconst 0, 1) := by decide +kernel
theorem dL_law_627 : decode code 627 = .ok (.ireturn, 1) := by decide +kernel
theorem dL_law_628 : decode code 628 = .ok (.aload_n 1, 1) := by decide +kernel
theorem dL_law_629 : decode code 629 = .ok (.aload_n 0, 1) := by decide +kernel
theorem dL_law_630 : decode code 630 = .ok (.iload_n 3, 1) := by decide +kernel
theorem dL_law_631 : decode code 631 = .ok (.iconst 1, 1) := by decide +kernel
theorem dL_law_632 : decode code 632 = .ok (.iadd, 1) := by decide +kernel
theorem dL_law_633 : decode code 633 = .ok (.iaload, 1) := by decide +kernel
theorem dL_law_634 : decode code 634 = .ok (.aload_n 0, 1) := by decide +kernel
theorem dL_law_635 : decode code 635 = .ok (.iload_n 3, 1) := by decide +kernel
theorem dL_law_636 : decode code 636 = .ok (.iconst 2, 1) := by decide +kernel
theorem dL_law_637 : decode code 637 = .ok (.iadd, 1) := by decide +kernel
theorem dL_law_638 : decode code 638 = .ok (.iaload, 1) := by decide +kernel
theorem dL_law_639 : decode code 639 = .ok (.aload_n 0, 1) := by decide +kernel
theorem dL_law_640 : decode code 640 = .ok (.iload_n 3, 1) := by decide +kernel
theorem dL_law_641 : decode code 641 = .ok (.iconst 3, 1) := by decide +kernel
theorem dL_law_642 : decode code 642 = .ok (.iadd, 1) := by decide +kernel
theorem dL_law_643 : decode code 643 = .ok (.iaload, 1) := by decide +kernel
theorem dL_law_644 : decode code 644 = .ok (.aload_n 0, 1) := by decide +kernel
theorem dL_law_645 : decode code 645 = .ok (.iload_n 3, 1) := by decide +kernel
theorem dL_law_646 : decode code 646 = .ok (.iconst 4, 1) := by decide +kernel
theorem dL_law_647 : decode code 647 = .ok (.iadd, 1) := by decide +kernel
theorem dL_law_648 : decode code 648 = .ok (.iaload, 1) := by decide +kernel
theorem dL_law_649 : decode code 649 = .ok (.invokevirtual 100, 3) := by decide +kernel
theorem dL_law_652 : decode code 652 = .ok (.aload_n 2, 1) := by decide +kernel
theorem dL_law_653 : decode code 653 = .ok (.aload_n 0, 1) := by decide +kernel
theorem dL_law_654 : decode code 654 = .ok (.iload_n 3, 1) := by decide +kernel
theorem dL_law_655 : decode code 655 = .ok (.iconst 1, 1) := by decide +kernel
theorem dL_law_656 : decode code 656 = .ok (.iadd, 1) := by decide +kernel
theorem dL_law_657 : decode code 657 = .ok (.iaload, 1) := by decide +kernel
theorem dL_law_658 : decode code 658 = .ok (.aload_n 0, 1) := by decide +kernel
theorem dL_law_659 : decode code 659 = .ok (.iload_n 3, 1) := by decide +kernel
theorem dL_law_660 : decode code 660 = .ok (.iconst 2, 1) := by decide +kernel
theorem dL_law_661 : decode code 661 = .ok (.iadd, 1) := by decide +kernel
theorem dL_law_662 : decode code 662 = .ok (.iaload, 1) := by decide +kernel
theorem dL_law_663 : decode code 663 = .ok (.aload_n 0, 1) := by decide +kernel
theorem dL_law_664 : decode code 664 = .ok (.iload_n 3, 1) := by decide +kernel
theorem dL_law_665 : decode code 665 = .ok (.iconst 3, 1) := by decide +kernel
theorem dL_law_666 : decode code 666 = .ok (.iadd, 1) := by decide +kernel
theorem dL_law_667 : decode code 667 = .ok (.iaload, 1) := by decide +kernel
theorem dL_law_668 : decode code 668 = .ok (.aload_n 0, 1) := by decide +kernel
theorem dL_law_669 : decode code 669 = .ok (.iload_n 3, 1) := by decide +kernel
theorem dL_law_670 : decode code 670 = .ok (.iconst 4, 1) := by decide +kernel
theorem dL_law_671 : decode code 671 = .ok (.iadd, 1) := by decide +kernel
theorem dL_law_672 : decode code 672 = .ok (.iaload, 1) := by decide +kernel
theorem dL_law_673 : decode code 673 = .ok (.invokevirtual 104, 3) := by decide +kernel
theorem dL_law_676 : decode code 676 = .ok (.if_icmp .eq 94, 3) := by decide +kernel
theorem dL_law_679 : decode code 679 = .ok (.iconst 0, 1) := by decide +kernel
theorem dL_law_680 : decode code 680 = .ok (.ireturn, 1) := by decide +kernel
theorem dL_law_681 : decode code 681 = .ok (.aload_n 1, 1) := by decide +kernel
theorem dL_law_682 : decode code 682 = .ok (.aload_n 0, 1) := by decide +kernel
theorem dL_law_683 : decode code 683 = .ok (.iload_n 3, 1) := by decide +kernel
theorem dL_law_684 : decode code 684 = .ok (.iconst 1, 1) := by decide +kernel
theorem dL_law_685 : decode code 685 = .ok (.iadd, 1) := by decide +kernel
theorem dL_law_686 : decode code 686 = .ok (.iaload, 1) := by decide +kernel
theorem dL_law_687 : decode code 687 = .ok (.aload_n 0, 1) := by decide +kernel
theorem dL_law_688 : decode code 688 = .ok (.iload_n 3, 1) := by decide +kernel
theorem dL_law_689 : decode code 689 = .ok (.iconst 2, 1) := by decide +kernel
theorem dL_law_690 : decode code 690 = .ok (.iadd, 1) := by decide +kernel
theorem dL_law_691 : decode code 691 = .ok (.iaload, 1) := by decide +kernel
theorem dL_law_692 : decode code 692 = .ok (.aload_n 0, 1) := by decide +kernel
theorem dL_law_693 : decode code 693 = .ok (.iload_n 3, 1) := by decide +kernel
theorem dL_law_694 : decode code 694 = .ok (.iconst 3, 1) := by decide +kernel
theorem dL_law_695 : decode code 695 = .ok (.iadd, 1) := by decide +kernel
theorem dL_law_696 : decode code 696 = .ok (.iaload, 1) := by decide +kernel
theorem dL_law_697 : decode code 697 = .ok (.aload_n 0, 1) := by decide +kernel
theorem dL_law_698 : decode code 698 = .ok (.iload_n 3, 1) := by decide +kernel
theorem dL_law_699 : decode code 699 = .ok (.iconst 4, 1) := by decide +kernel
theorem dL_law_700 : decode code 700 = .ok (.iadd, 1) := by decide +kernel
theorem dL_law_701 : decode code 701 = .ok (.iaload, 1) := by decide +kernel
theorem dL_law_702 : decode code 702 = .ok (.invokevirtual 105, 3) := by decide +kernel
theorem dL_law_705 : decode code 705 = .ok (.aload_n 2, 1) := by decide +kernel
theorem dL_law_706 : decode code 706 = .ok (.aload_n 0, 1) := by decide +kernel
theorem dL_law_707 : decode code 707 = .ok (.iload_n 3, 1) := by decide +kernel
theorem dL_law_708 : decode code 708 = .ok (.iconst 1, 1) := by decide +kernel
theorem dL_law_709 : decode code 709 = .ok (.iadd, 1) := by decide +kernel
theorem dL_law_710 : decode code 710 = .ok (.iaload, 1) := by decide +kernel
theorem dL_law_711 : decode code 711 = .ok (.aload_n 0, 1) := by decide +kernel
theorem dL_law_712 : decode code 712 = .ok (.iload_n 3, 1) := by decide +kernel
theorem dL_law_713 : decode code 713 = .ok (.iconst 2, 1) := by decide +kernel
theorem dL_law_714 : decode code 714 = .ok (.iadd, 1) := by decide +kernel
theorem dL_law_715 : decode code 715 = .ok (.iaload, 1) := by decide +kernel
theorem dL_law_716 : decode code 716 = .ok (.aload_n 0, 1) := by decide +kernel
theorem dL_law_717 : decode code 717 = .ok (.iload_n 3, 1) := by decide +kernel
theorem dL_law_718 : decode code 718 = .ok (.iconst 3, 1) := by decide +kernel
theorem dL_law_719 : decode code 719 = .ok (.iadd, 1) := by decide +kernel
theorem dL_law_720 : decode code 720 = .ok (.iaload, 1) := by decide +kernel
theorem dL_law_721 : decode code 721 = .ok (.aload_n 0, 1) := by decide +kernel
theorem dL_law_722 : decode code 722 = .ok (.iload_n 3, 1) := by decide +kernel
theorem dL_law_723 : decode code 723 = .ok (.iconst 4, 1) := by decide +kernel
theorem dL_law_724 : decode code 724 = .ok (.iadd, 1) := by decide +kernel
theorem dL_law_725 : decode code 725 = .ok (.iaload, 1) := by decide +kernel
theorem dL_law_726 : decode code 726 = .ok (.invokevirtual 108, 3) := by decide +kernel
theorem dL_law_729 : decode code 729 = .ok (.if_icmp .eq 41, 3) := by decide +kernel
theorem dL_law_732 : decode code 732 = .ok (.iconst 0, 1) := by decide +kernel
theorem dL_law_733 : decode code 733 = .ok (.ireturn, 1) := by decide +kernel
theorem dL_law_734 : decode code 734 = .ok (.aload_n 1, 1) := by decide +kernel
theorem dL_law_735 : decode code 735 = .ok (.aload_n 0, 1) := by decide +kernel
theorem dL_law_736 : decode code 736 = .ok (.iload_n 3, 1) := by decide +kernel
theorem dL_law_737 : decode code 737 = .ok (.iconst 1, 1) := by decide +kernel
theorem dL_law_738 : decode code 738 = .ok (.iadd, 1) := by decide +kernel
theorem dL_law_739 : decode code 739 = .ok (.iaload, 1) := by decide +kernel
theorem dL_law_740 : decode code 740 = .ok (.invokevirtual 109, 3) := by decide +kernel
theorem dL_law_743 : decode code 743 = .ok (.aload_n 2, 1) := by decide +kernel
theorem dL_law_744 : decode code 744 = .ok (.aload_n 0, 1) := by decide +kernel
theorem dL_law_745 : decode code 745 = .ok (.iload_n 3, 1) := by decide +kernel
theorem dL_law_746 : decode code 746 = .ok (.iconst 1, 1) := by decide +kernel
theorem dL_law_747 : decode code 747 = .ok (.iadd, 1) := by decide +kernel
theorem dL_law_748 : decode code 748 = .ok (.iaload, 1) := by decide +kernel
theorem dL_law_749 : decode code 749 = .ok (.invokevirtual 112, 3) := by decide +kernel
theorem dL_law_752 : decode code 752 = .ok (.if_icmp .eq 18, 3) := by decide +kernel
theorem dL_law_755 : decode code 755 = .ok (.iconst 0, 1) := by decide +kernel
theorem dL_law_756 : decode code 756 = .ok (.ireturn, 1) := by decide +kernel
theorem dL_law_757 : decode code 757 = .ok (.aload_n 1, 1) := by decide +kernel
theorem dL_law_758 : decode code 758 = .ok (.invokevirtual 113, 3) := by decide +kernel
theorem dL_law_761 : decode code 761 = .ok (.aload_n 2, 1) := by decide +kernel
theorem dL_law_762 : decode code 762 = .ok (.invokevirtual 116, 3) := by decide +kernel
theorem dL_law_765 : decode code 765 = .ok (.if_icmp .eq 5, 3) := by decide +kernel
theorem dL_law_768 : decode code 768 = .ok (.iconst 0, 1) := by decide +kernel
theorem dL_law_769 : decode code 769 = .ok (.ireturn, 1) := by decide +kernel
theorem dL_law_770 : decode code 770 = .ok (.iinc 3 5, 3) := by decide +kernel
theorem dL_law_773 : decode code 773 = .ok (.goto (-755), 3) := by decide +kernel
theorem dL_law_776 : decode code 776 = .ok (.iconst 1, 1) := by decide +kernel
theorem dL_law_777 : decode code 777 = .ok (.ireturn, 1) := by decide +kernel
