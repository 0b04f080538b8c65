theorem dL_law_0 : decode code 0 = .ok (.new 7, 3) := by decide +kernel
theorem dL_law_3 : decode code 3 = .ok (.dup, 1) := by decide +kernel
theorem dL_law_4 : decode code 4 = .ok (.invokespecial 9, 3) := by decide +kernel
theorem dL_law_7 : decode code 7 = .ok (.astore_n 1, 1) := by decide +kernel
theorem dL_law_8 : decode code 8 = .ok (.new 10, 3) := by decide +kernel
theorem dL_law_11 : decode code 11 = .ok (.dup, 1) := by decide +kernel
theorem dL_law_12 : decode code 12 = .ok (.invokespecial 12, 3) := by decide +kernel
theorem dL_law_15 : decode code 15 = .ok (.astore_n 2, 1) := by decide +kernel
theorem dL_law_16 : decode code 16 = .ok (.iconst 0, 1) := by decide +kernel
theorem dL_law_17 : decode code 17 = .ok (.istore_n 3, 1) := by decide +kernel
theorem dL_law_18 : decode code 18 = .ok (.iload_n 3, 1) := by decide +kernel
theorem dL_law_19 : decode code 19 = .ok (.aload_n 0, 1) := by decide +kernel
theorem dL_law_20 : decode code 20 = .ok (.arraylength, 1) := by decide +kernel
theorem dL_law_21 : decode code 21 = .ok (.bipush 6, 2) := by decide +kernel
theorem dL_law_23 : decode code 23 = .ok (.isub, 1) := by decide +kernel
theorem dL_law_24 : decode code 24 = .ok (.if_icmp .gt 1134, 3) := by decide +kernel
theorem dL_law_27 : decode code 27 = .ok (.aload_n 0, 1) := by decide +kernel
theorem dL_law_28 : decode code 28 = .ok (.iload_n 3, 1) := by decide +kernel
theorem dL_law_29 : decode code 29 = .ok (.iaload, 1) := by decide +kernel
theorem dL_law_30 : decode code 30 = .ok (.bipush 31, 2) := by decide +kernel
theorem dL_law_32 : decode code 32 = .ok (.iand, 1) := by decide +kernel
theorem dL_law_33 : decode code 33 = .ok (.tableswitch 1119 0 31 #[143, 206, 229, 242, 255, 278, 311, 344, 357, 390, 433, 466, 489, 512, 525, 568, 591, 634, 677, 710, 733, 766, 799, 832, 875, 918, 941, 974, 997, 1050, 1073, 1096], 143) := by decide +kernel
theorem dL_law_176 : decode code 176 = .ok (.aload_n 1, 1) := by decide +kernel
theorem dL_law_177 : decode code 177 = .ok (.aload_n 0, 1) := by decide +kernel
theorem dL_law_178 : decode code 178 = .ok (.iload_n 3, 1) := by decide +kernel
theorem dL_law_179 : decode code 179 = .ok (.iconst 1, 1) := by decide +kernel
theorem dL_law_180 : decode code 180 = .ok (.iadd, 1) := by decide +kernel
theorem dL_law_181 : decode code 181 = .ok (.iaload, 1) := by decide +kernel
theorem dL_law_182 : decode code 182 = .ok (.aload_n 0, 1) := by decide +kernel
theorem dL_law_183 : decode code 183 = .ok (.iload_n 3, 1) := by decide +kernel
theorem dL_law_184 : decode code 184 = .ok (.iconst 2, 1) := by decide +kernel
theorem dL_law_185 : decode code 185 = .ok (.iadd, 1) := by decide +kernel
theorem dL_law_186 : decode code 186 = .ok (.iaload, 1) := by decide +kernel
theorem dL_law_187 : decode code 187 = .ok (.aload_n 0, 1) := by decide +kernel
theorem dL_law_188 : decode code 188 = .ok (.iload_n 3, 1) := by decide +kernel
theorem dL_law_189 : decode code 189 = .ok (.iconst 3, 1) := by decide +kernel
theorem dL_law_190 : decode code 190 = .ok (.iadd, 1) := by decide +kernel
theorem dL_law_191 : decode code 191 = .ok (.iaload, 1) := by decide +kernel
theorem dL_law_192 : decode code 192 = .ok (.aload_n 0, 1) := by decide +kernel
theorem dL_law_193 : decode code 193 = .ok (.iload_n 3, 1) := by decide +kernel
theorem dL_law_194 : decode code 194 = .ok (.iconst 4, 1) := by decide +kernel
theorem dL_law_195 : decode code 195 = .ok (.iadd, 1) := by decide +kernel
theorem dL_law_196 : decode code 196 = .ok (.iaload, 1) := by decide +kernel
theorem dL_law_197 : decode code 197 = .ok (.aload_n 0, 1) := by decide +kernel
theorem dL_law_198 : decode code 198 = .ok (.iload_n 3, 1) := by decide +kernel
theorem dL_law_199 : decode code 199 = .ok (.iconst 5, 1) := by decide +kernel
theorem dL_law_200 : decode code 200 = .ok (.iadd, 1) := by decide +kernel
theorem dL_law_201 : decode code 201 = .ok (.iaload, 1) := by decide +kernel
theorem dL_law_202 : decode code 202 = .ok (.invokevirtual 13, 3) := by decide +kernel
theorem dL_law_205 : decode code 205 = .ok (.aload_n 2, 1) := by decide +kernel
theorem dL_law_206 : decode code 206 = .ok (.aload_n 0, 1) := by decide +kernel
theorem dL_law_207 : decode code 207 = .ok (.iload_n 3, 1) := by decide +kernel
theorem dL_law_208 : decode code 208 = .ok (.iconst 1, 1) := by decide +kernel
theorem dL_law_209 : decode code 209 = .ok (.iadd, 1) := by decide +kernel
theorem dL_law_210 : decode code 210 = .ok (.iaload, 1) := by decide +kernel
theorem dL_law_211 : decode code 211 = .ok (.aload_n 0, 1) := by decide +kernel
theorem dL_law_212 : decode code 212 = .ok (.iload_n 3, 1) := by decide +kernel
theorem dL_law_213 : decode code 213 = .ok (.iconst 2, 1) := by decide +kernel
theorem dL_law_214 : decode code 214 = .ok (.iadd, 1) := by decide +kernel
theorem dL_law_215 : decode code 215 = .ok (.iaload, 1) := by decide +kernel
theorem dL_law_216 : decode code 216 = .ok (.aload_n 0, 1) := by decide +kernel
theorem dL_law_217 : decode code 217 = .ok (.iload_n 3, 1) := by decide +kernel
theorem dL_law_218 : decode code 218 = .ok (.iconst 3, 1) := by decide +kernel
theorem dL_law_219 : decode code 219 = .ok (.iadd, 1) := by decide +kernel
theorem dL_law_220 : decode code 220 = .ok (.iaload, 1) := by decide +kernel
theorem dL_law_221 : decode code 221 = .ok (.aload_n 0, 1) := by decide +kernel
theorem dL_law_222 : decode code 222 = .ok (.iload_n 3, 1) := by decide +kernel
theorem dL_law_223 : decode code 223 = .ok (.iconst 4, 1) := by decide +kernel
theorem dL_law_224 : decode code 224 = .ok (.iadd, 1) := by decide +kernel
theorem dL_law_225 : decode code 225 = .ok (.iaload, 1) := by decide +kernel
theorem dL_law_226 : decode code 226 = .ok (.aload_n 0, 1) := by decide +kernel
theorem dL_law_227 : decode code 227 = .ok (.iload_n 3, 1) := by decide +kernel
theorem dL_law_228 : decode code 228 = .ok (.iconst 5, 1) := by decide +kernel
theorem dL_law_229 : decode code 229 = .ok (.iadd, 1) := by decide +kernel
theorem dL_law_230 : decode code 230 = .ok (.iaload, 1) := by decide +kernel
theorem dL_law_231 : decode code 231 = .ok (.invokevirtual 17, 3) := by decide +kernel
theorem dL_law_234 : decode code 234 = .ok (.if_icmp .eq 918, 3) := by decide +kernel
theorem dL_law_237 : decode code 237 = .ok (.iconst 0, 1) := by decide +kernel
theorem dL_law_238 : decode code 238 = .ok (.ireturn, 1) := by decide +kernel
theorem dL_law_239 : decode code 239 = .ok (.aload_n 1, 1) := by decide +kernel
theorem dL_law_240 : decode code 240 = .ok (.aload_n 0, 1) := by decide +kernel
theorem dL_law_241 : decode code 241 = .ok (.iload_n 3, 1) := by decide +kernel
theorem dL_law_242 : decode code 242 = .ok (.iconst 1, 1) := by decide +kernel
theorem dL_law_243 : decode code 243 = .ok (.iadd, 1) := by decide +kernel
theorem dL_law_244 : decode code 244 = .ok (.iaload, 1) := by decide +kernel
theorem dL_law_245 : decode code 245 = .ok (.invokevirtual 18, 3) := by decide +kernel
theorem dL_law_248 : decode code 248 = .ok (.aload_n 2, 1) := by decide +kernel
theorem dL_law_249 : decode code 249 = .ok (.aload_n 0, 1) := by decide +kernel
theorem dL_law_250 : decode code 250 = .ok (.iload_n 3, 1) := by decide +kernel
theorem dL_law_251 : decode code 251 = .ok (.iconst 1, 1) := by decide +kernel
theorem dL_law_252 : decode code 252 = .ok (.iadd, 1) := by decide +kernel
theorem dL_law_253 : decode code 253 = .ok (.iaload, 1) := by decide +kernel
theorem dL_law_254 : decode code 254 = .ok (.invokevirtual 22, 3) := by decide +kernel
theorem dL_law_257 : decode code 257 = .ok (.if_icmp .eq 895, 3) := by decide +kernel
theorem dL_law_260 : decode code 260 = .ok (.iconst 0, 1) := by decide +kernel
theorem dL_law_261 : decode code 261 = .ok (.ireturn, 1) := by decide +kernel
theorem dL_law_262 : decode code 262 = .ok (.aload_n 1, 1) := by decide +kernel
theorem dL_law_263 : decode code 263 = .ok (.invokevirtual 23, 3) := by decide +kernel
theorem dL_law_266 : decode code 266 = .ok (.aload_n 2, 1) := by decide +kernel
theorem dL_law_267 : decode code 267 = .ok (.invokevirtual 27, 3) := by decide +kernel
theorem dL_law_270 : decode code 270 = .ok (.if_icmp .eq 882, 3) := by decide +kernel
theorem dL_law_273 : decode code 273 = .ok (.iconst 0, 1) := by decide +kernel
theorem dL_law_274 : decode code 274 = .ok (.ireturn, 1) := by decide +kernel
theorem dL_law_275 : decode code 275 = .ok (.aload_n 1, 1) := by decide +kernel
theorem dL_law_276 : decode code 276 = .ok (.invokevirtual 28, 3) := by decide +kernel
theorem dL_law_279 : decode code 279 = .ok (.aload_n 2, 1) := by decide +kernel
theorem dL_law_280 : decode code 280 = .ok (.invokevirtual 31, 3) := by decide +kernel
theorem dL_law_283 : decode code 283 = .ok (.if_icmp .eq 869, 3) := by decide +kernel
theorem dL_law_286 : decode code 286 = .ok (.iconst 0, 1) := by decide +kernel
theorem dL_law_287 : decode code 287 = .ok (.ireturn, 1) := by decide +kernel
theorem dL_law_288 : decode code 288 = .ok (.aload_n 1, 1) := by decide +kernel
theorem dL_law_289 : decode code 289 = .ok (.aload_n 0, 1) := by decide +kernel
theorem dL_law_290 : decode code 290 = .ok (.iload_n 3, 1) := by decide +kernel
theorem dL_law_291 : decode code 291 = .ok (.iconst 1, 1) := by decide +kernel
theorem dL_law_292 : decode code 292 = .ok (.iadd, 1) := by decide +kernel
theorem dL_law_293 : decode code 293 = .ok (.iaload, 1) := by decide +kernel
theorem dL_law_294 : decode code 294 = .ok (.invokevirtual 32, 3) := by decide +kernel
theorem dL_law_297 : decode code 297 = .ok (.aload_n 2, 1) := by decide +kernel
theorem dL_law_298 : decode code 298 = .ok (.aload_n 0, 1) := by decide +kernel
theorem dL_law_299 : decode code 299 = .ok (.iload_n 3, 1) := by decide +kernel
theorem dL_law_300 : decode code 300 = .ok (.iconst 1, 1) := by decide +kernel
theorem dL_law_301 : decode code 301 = .ok (.iadd, 1) := by decide +kernel
theorem dL_law_302 : decode code 302 = .ok (.iaload, 1) := by decide +kernel
theorem dL_law_303 : decode code 303 = .ok (.invokevirtual 35, 3) := by decide +kernel
theorem dL_law_306 : decode code 306 = .ok (.if_icmp .eq 846, 3) := by decide +kernel
theorem dL_law_309 : decode code 309 = .ok (.iconst 0, 1) := by decide +kernel
theorem dL_law_310 : decode code 310 = .ok (.ireturn, 1) := by decide +kernel
theorem dL_law_311 : decode code 311 = .ok (.aload_n 1, 1) := by decide +kernel
theorem dL_law_312 : decode code 312 = .ok (.aload_n 0, 1) := by decide +kernel
theorem dL_law_313 : decode code 313 = .ok (.iload_n 3, 1) := by decide +kernel
theorem dL_law_314 : decode code 314 = .ok (.iconst 1, 1) := by decide +kernel
theorem dL_law_315 : decode code 315 = .ok (.iadd, 1) := by decide +kernel
theorem dL_law_316 : decode code 316 = .ok (.iaload, 1) := by decide +kernel
theorem dL_law_317 : decode code 317 = .ok (.aload_n 0, 1) := by decide +kernel
theorem dL_law_318 : decode code 318 = .ok (.iload_n 3, 1) := by decide +kernel
theorem dL_law_319 : decode code 319 = .ok (.iconst 2, 1) := by decide +kernel
theorem dL_law_320 : decode code 320 = .ok (.iadd, 1) := by decide +kernel
theorem dL_law_321 : decode code 321 = .ok (.iaload, 1) := by decide +kernel
theorem dL_law_322 : decode code 322 = .ok (.invokevirtual 36, 3) := by decide +kernel
theorem dL_law_325 : decode code 325 = .ok (.aload_n 2, 1) := by decide +kernel
theorem dL_law_326 : decode code 326 = .ok (.aload_n 0, 1) := by decide +kernel
theorem dL_law_327 : decode code 327 = .ok (.iload_n 3, 1) := by decide +kernel
theorem dL_law_328 : decode code 328 = .ok (.iconst 1, 1) := by decide +kernel
theorem dL_law_329 : decode code 329 = .ok (.iadd, 1) := by decide +kernel
theorem dL_law_330 : decode code 330 = .ok (.iaload, 1) := by decide +kernel
theorem dL_law_331 : decode code 331 = .ok (.aload_n 0, 1) := by decide +kernel
theorem dL_law_332 : decode code 332 = .ok (.iload_n 3, 1) := by decide +kernel
theorem dL_law_333 : decode code 333 = .ok (.iconst 2, 1) := by decide +kernel
theorem dL_law_334 : decode code 334 = .ok (.iadd, 1) := by decide +kernel
theorem dL_law_335 : decode code 335 = .ok (.iaload, 1) := by decide +kernel
theorem dL_law_336 : decode code 336 = .ok (.invokevirtual 40, 3) := by decide +kernel
theorem dL_law_339 : decode code 339 = .ok (.if_icmp .eq 813, 3) := by decide +kernel
theorem dL_law_342 : decode code 342 = .ok (.iconst 0, 1) := by decide +kernel
theorem dL_law_343 : decode code 343 = .ok (.ireturn, 1) := by decide +kernel
theorem dL_law_344 : decode code 344 = .ok (.aload_n 1, 1) := by decide +kernel
theorem dL_law_345 : decode code 345 = .ok (.aload_n 0, 1) := by decide +kernel
theorem dL_law_346 : decode code 346 = .ok (.iload_n 3, 1) := by decide +kernel
theorem dL_law_347 : decode code 347 = .ok (.iconst 1, 1) := by decide +kernel
theorem dL_law_348 : decode code 348 = .ok (.iadd, 1) := by decide +kernel
theorem dL_law_349 : decode code 349 = .ok (.iaload, 1) := by decide +kernel
theorem dL_law_350 : decode code 350 = .ok (.aload_n 0, 1) := by decide +kernel
theorem dL_law_351 : decode code 351 = .ok (.iload_n 3, 1) := by decide +kernel
theorem dL_law_352 : decode code 352 = .ok (.iconst 2, 1) := by decide +kernel
theorem dL_law_353 : decode code 353 = .ok (.iadd, 1) := by decide +kernel
theorem dL_law_354 : decode code 354 = .ok (.iaload, 1) := by decide +kernel
theorem dL_law_355 : decode code 355 = .ok (.invokevirtual 41, 3) := by decide +kernel
theorem dL_law_358 : decode code 358 = .ok (.aload_n 2, 1) := by decide +kernel
theorem dL_law_359 : decode code 359 = .ok (.aload_n 0, 1) := by decide +kernel
theorem dL_law_360 : decode code 360 = .ok (.iload_n 3, 1) := by decide +kernel
theorem dL_law_361 : decode code 361 = .ok (.iconst 1, 1) := by decide +kernel
theorem dL_law_362 : decode code 362 = .ok (.iadd, 1) := by decide +kernel
theorem dL_law_363 : decode code 363 = .ok (.iaload, 1) := by decide +kernel
theorem dL_law_364 : decode code 364 = .ok (.aload_n 0, 1) := by decide +kernel
theorem dL_law_365 : decode code 365 = .ok (.iload_n 3, 1) := by decide +kernel
theorem dL_law_366 : decode code 366 = .ok (.iconst 2, 1) := by decide +kernel
theorem dL_law_367 : decode code 367 = .ok (.iadd, 1) := by decide +kernel
theorem dL_law_368 : decode code 368 = .ok (.iaload, 1) := by decide +kernel
theorem dL_law_369 : decode code 369 = .ok (.invokevirtual 44, 3) := by decide +kernel
theorem dL_law_372 : decode code 372 = .ok (.if_icmp .eq 780, 3) := by decide +kernel
theorem dL_law_375 : decode code 375 = .ok (.iconst 0, 1) := by decide +kernel
theorem dL_law_376 : decode code 376 = .ok (.ireturn, 1) := by decide +kernel
theorem dL_law_377 : decode code 377 = .ok (.aload_n 1, 1) := by decide +kernel
theorem dL_law_378 : decode code 378 = .ok (.invokevirtual 45, 3) := by decide +kernel
theorem dL_law_381 : decode code 381 = .ok (.aload_n 2, 1) := by decide +kernel
theorem dL_law_382 : decode code 382 = .ok (.invokevirtual 48, 3) := by decide +kernel
theorem dL_law_385 : decode code 385 = .ok (.if_icmp .eq 767, 3) := by decide +kernel
theorem dL_law_388 : decode code 388 = .ok (.iconst 0, 1) := by decide +kernel
theorem dL_law_389 : decode code 389 = .ok (.ireturn, 1) := by decide +kernel
theorem dL_law_390 : decode code 390 = .ok (.aload_n 1, 1) := by decide +kernel
theorem dL_law_391 : decode code 391 = .ok (.aload_n 0, 1) := by decide +kernel
theorem dL_law_392 : decode code 392 = .ok (.iload_n 3, 1) := by decide +kernel
theorem dL_law_393 : decode code 393 = .ok (.iconst 1, 1) := by decide +kernel
theorem dL_law_394 : decode code 394 = .ok (.iadd, 1) := by decide +kernel
theorem dL_law_395 : decode code 395 = .ok (.iaload, 1) := by decide +kernel
theorem dL_law_396 : decode code 396 = .ok (.aload_n 0, 1) := by decide +kernel
theorem dL_law_397 : decode code 397 = .ok (.iload_n 3, 1) := by decide +kernel
theorem dL_law_398 : decode code 398 = .ok (.iconst 2, 1) := by decide +kernel
theorem dL_law_399 : decode code 399 = .ok (.iadd, 1) := by decide +kernel
theorem dL_law_400 : decode code 400 = .ok (.iaload, 1) := by decide +kernel
theorem dL_law_401 : decode code 401 = .ok (.invokevirtual 49, 3) := by decide +kernel
theorem dL_law_404 : decode code 404 = .ok (.aload_n 2, 1) := by decide +kernel
theorem dL_law_405 : decode code 405 = .ok (.aload_n 0, 1) := by decide +kernel
theorem dL_law_406 : decode code 406 = .ok (.iload_n 3, 1) := by decide +kernel
theorem dL_law_407 : decode code 407 = .ok (.iconst 1, 1) := by decide +kernel
theorem dL_law_408 : decode code 408 = .ok (.iadd, 1) := by decide +kernel
theorem dL_law_409 : decode code 409 = .ok (.iaload, 1) := by decide +kernel
theorem dL_law_410 : decode code 410 = .ok (.aload_n 0, 1) := by decide +kernel
theorem dL_law_411 : decode code 411 = .ok (.iload_n 3, 1) := by decide +kernel
theorem dL_law_412 : decode code 412 = .ok (.iconst 2, 1) := by decide +kernel
theorem dL_law_413 : decode code 413 = .ok (.iadd, 1) := by decide +kernel
theorem dL_law_414 : decode code 414 = .ok (.iaload, 1) := by decide +kernel
theorem dL_law_415 : decode code 415 = .ok (.invokevirtual 52, 3) := by decide +kernel
theorem dL_law_418 : decode code 418 = .ok (.if_icmp .eq 734, 3) := by decide +kernel
theorem dL_law_421 : decode code 421 = .ok (.iconst 0, 1) := by decide +kernel
theorem dL_law_422 : decode code 422 = .ok (.ireturn, 1) := by decide +kernel
theorem dL_law_423 : decode code 423 = .ok (.aload_n 1, 1) := by decide +kernel
theorem dL_law_424 : decode code 424 = .ok (.aload_n 0, 1) := by decide +kernel
theorem dL_law_425 : decode code 425 = .ok (.iload_n 3, 1) := by decide +kernel
theorem dL_law_426 : decode code 426 = .ok (.iconst 1, 1) := by decide +kernel
theorem dL_law_427 : decode code 427 = .ok (.iadd, 1) := by decide +kernel
theorem dL_law_428 : decode code 428 = .ok (.iaload, 1) := by decide +kernel
theorem dL_law_429 : decode code 429 = .ok (.aload_n 0, 1) := by decide +kernel
theorem dL_law_430 : decode code 430 = .ok (.iload_n 3, 1) := by decide +kernel
theorem dL_law_431 : decode code 431 = .ok (.iconst 2, 1) := by decide +kernel
theorem dL_law_432 : decode code 432 = .ok (.iadd, 1) := by decide +kernel
theorem dL_law_433 : decode code 433 = .ok (.iaload, 1) := by decide +kernel
theorem dL_law_434 : decode code 434 = .ok (.aload_n 0, 1) := by decide +kernel
theorem dL_law_435 : decode code 435 = .ok (.iload_n 3, 1) := by decide +kernel
theorem dL_law_436 : decode code 436 = .ok (.iconst 3, 1) := by decide +kernel
theorem dL_law_437 : decode code 437 = .ok (.iadd, 1) := by decide +kernel
theorem dL_law_438 : decode code 438 = .ok (.iaload, 1) := by decide +kernel
theorem dL_law_439 : decode code 439 = .ok (.invokevirtual 53, 3) := by decide +kernel
theorem dL_law_442 : decode code 442 = .ok (.aload_n 2, 1) := by decide +kernel
theorem dL_law_443 : decode code 443 = .ok (.aload_n 0, 1) := by decide +kernel
theorem dL_law_444 : decode code 444 = .ok (.iload_n 3, 1) := by decide +kernel
theorem dL_law_445 : decode code 445 = .ok (.iconst 1, 1) := by decide +kernel
theorem dL_law_446 : decode code 446 = .ok (.iadd, 1) := by decide +kernel
theorem dL_law_447 : decode code 447 = .ok (.iaload, 1) := by decide +kernel
theorem dL_law_448 : decode code 448 = .ok (.aload_n 0, 1) := by decide +kernel
theorem dL_law_449 : decode code 449 = .ok (.iload_n 3, 1) := by decide +kernel
theorem dL_law_450 : decode code 450 = .ok (.iconst 2, 1) := by decide +kernel
theorem dL_law_451 : decode code 451 = .ok (.iadd, 1) := by decide +kernel
theorem dL_law_452 : decode code 452 = .ok (.iaload, 1) := by decide +kernel
theorem dL_law_453 : decode code 453 = .ok (.aload_n 0, 1) := by decide +kernel
theorem dL_law_454 : decode code 454 = .ok (.iload_n 3, 1) := by decide +kernel
theorem dL_law_455 : decode code 455 = .ok (.iconst 3, 1) := by decide +kernel
theorem dL_law_456 : decode code 456 = .ok (.iadd, 1) := by decide +kernel
theorem dL_law_457 : decode code 457 = .ok (.iaload, 1) := by decide +kernel
theorem dL_law_458 : decode code 458 = .ok (.invokevirtual 57, 3) := by decide +kernel
theorem dL_law_461 : decode code 461 = .ok (.if_icmp .eq 691, 3) := by decide +kernel
theorem dL_law_464 : decode code 464 = .ok (.iconst 0, 1) := by decide +kernel
theorem dL_law_465 : decode code 465 = .ok (.ireturn, 1) := by decide +kernel
theorem dL_law_466 : decode code 466 = .ok (.aload_n 1, 1) := by decide +kernel
theorem dL_law_467 : decode code 467 = .ok (.aload_n 0, 1) := by decide +kernel
theorem dL_law_468 : decode code 468 = .ok (.iload_n 3, 1) := by decide +kernel
theorem dL_law_469 : decode code 469 = .ok (.iconst 1, 1) := by decide +kernel
theorem dL_law_470 : decode code 470 = .ok (.iadd, 1) := by decide +kernel
theorem dL_law_471 : decode code 471 = .ok (.iaload, 1) := by decide +kernel
theorem dL_law_472 : decode code 472 = .ok (.aload_n 0, 1) := by decide +kernel
theorem dL_law_473 : decode code 473 = .ok (.iload_n 3, 1) := by decide +kernel
theorem dL_law_474 : decode code 474 = .ok (.iconst 2, 1) := by decide +kernel
theorem dL_law_475 : decode code 475 = .ok (.iadd, 1) := by decide +kernel
theorem dL_law_476 : decode code 476 = .ok (.iaload, 1) := by decide +kernel
theorem dL_law_477 : decode code 477 = .ok (.invokevirtual 58, 3) := by decide +kernel
theorem dL_law_480 : decode code 480 = .ok (.aload_n 2, 1) := by decide +kernel
theorem dL_law_481 : decode code 481 = .ok (.aload_n 0, 1) := by decide +kernel
theorem dL_law_482 : decode code 482 = .ok (.iload_n 3, 1) := by decide +kernel
theorem dL_law_483 : decode code 483 = .ok (.iconst 1, 1) := by decide +kernel
theorem dL_law_484 : decode code 484 = .ok (.iadd, 1) := by decide +kernel
theorem dL_law_485 : decode code 485 = .ok (.iaload, 1) := by decide +kernel
theorem dL_law_486 : decode code 486 = .ok (.aload_n 0, 1) := by decide +kernel
theorem dL_law_487 : decode code 487 = .ok (.iload_n 3, 1) := by decide +kernel
theorem dL_law_488 : decode code 488 = .ok (.iconst 2, 1) := by decide +kernel
theorem dL_law_489 : decode code 489 = .ok (.iadd, 1) := by decide +kernel
theorem dL_law_490 : decode code 490 = .ok (.iaload, 1) := by decide +kernel
theorem dL_law_491 : decode code 491 = .ok (.invokevirtual 61, 3) := by decide +kernel
theorem dL_law_494 : decode code 494 = .ok (.if_icmp .eq 658, 3) := by decide +kernel
theorem dL_law_497 : decode code 497 = .ok (.iconst 0, 1) := by decide +kernel
theorem dL_law_498 : decode code 498 = .ok (.ireturn, 1) := by decide +kernel
theorem dL_law_499 : decode code 499 = .ok (.aload_n 1, 1) := by decide +kernel
theorem dL_law_500 : decode code 500 = .ok (.aload_n 0, 1) := by decide +kernel
theorem dL_law_501 : decode code 501 = .ok (.iload_n 3, 1) := by decide +kernel
theorem dL_law_502 : decode code 502 = .ok (.iconst 1, 1) := by decide +kernel
theorem dL_law_503 : decode code 503 = .ok (.iadd, 1) := by decide +kernel
theorem dL_law_504 : decode code 504 = .ok (.iaload, 1) := by decide +kernel
theorem dL_law_505 : decode code 505 = .ok (.invokevirtual 62, 3) := by decide +kernel
theorem dL_law_508 : decode code 508 = .ok (.aload_n 2, 1) := by decide +kernel
theorem dL_law_509 : decode code 509 = .ok (.aload_n 0, 1) := by decide +kernel
theorem dL_law_510 : decode code 510 = .ok (.iload_n 3, 1) := by decide +kernel
theorem dL_law_511 : decode code 511 = .ok (.iconst 1, 1) := by decide +kernel
theorem dL_law_512 : decode code 512 = .ok (.iadd, 1) := by decide +kernel
theorem dL_law_513 : decode code 513 = .ok (.iaload, 1) := by decide +kernel
theorem dL_law_514 : decode code 514 = .ok (.invokevirtual 65, 3) := by decide +kernel
theorem dL_law_517 : decode code 517 = .ok (.if_icmp .eq 635, 3) := by decide +kernel
theorem dL_law_520 : decode code 520 = .ok (.iconst 0, 1) := by decide +kernel
theorem dL_law_521 : decode code 521 = .ok (.ireturn, 1) := by decide +kernel
theorem dL_law_522 : decode code 522 = .ok (.aload_n 1, 1) := by decide +kernel
theorem dL_law_523 : decode code 523 = .ok (.aload_n 0, 1) := by decide +kernel
theorem dL_law_524 : decode code 524 = .ok (.iload_n 3, 1) := by decide +kernel
theorem dL_law_525 : decode code 525 = .ok (.iconst 1, 1) := by decide +kernel
theorem dL_law_526 : decode code 526 = .ok (.iadd, 1) := by decide +kernel
theorem dL_law_527 : decode code 527 = .ok (.iaload, 1) := by decide +kernel
theorem dL_law_528 : decode code 528 = .ok (.invokevirtual 66, 3) := by decide +kernel
theorem dL_law_531 : decode code 531 = .ok (.aload_n 2, 1) := by decide +kernel
theorem dL_law_532 : decode code 532 = .ok (.aload_n 0, 1) := by decide +kernel
theorem dL_law_533 : decode code 533 = .ok (.iload_n 3, 1) := by decide +kernel
theorem dL_law_534 : decode code 534 = .ok (.iconst 1, 1) := by decide +kernel
theorem dL_law_535 : decode code 535 = .ok (.iadd, 1) := by decide +kernel
theorem dL_law_536 : decode code 536 = .ok (.iaload, 1) := by decide +kernel
theorem dL_law_537 : decode code 537 = .ok (.invokevirtual 69, 3) := by decide +kernel
theorem dL_law_540 : decode code 540 = .ok (.if_icmp .eq 612, 3) := by decide +kernel
theorem dL_law_543 : decode code 543 = .ok (.iconst 0, 1) := by decide +kernel
theorem dL_law_544 : decode code 544 = .ok (.ireturn, 1) := by decide +kernel
theorem dL_law_545 : decode code 545 = .ok (.aload_n 1, 1) := by decide +kernel
theorem dL_law_546 : decode code 546 = .ok (.invokevirtual 70, 3) := by decide +kernel
theorem dL_law_549 : decode code 549 = .ok (.aload_n 2, 1) := by decide +kernel
theorem dL_law_550 : decode code 550 = .ok (.invokevirtual 73, 3) := by decide +kernel
theorem dL_law_553 : decode code 553 = .ok (.if_icmp .eq 599, 3) := by decide +kernel
theorem dL_law_556 : decode code 556 = .ok (.iconst 0, 1) := by decide +kernel
theorem dL_law_557 : decode code 557 = .ok (.ireturn, 1) := by decide +kernel
theorem dL_law_558 : decode code 558 = .ok (.aload_n 1, 1) := by decide +kernel
theorem dL_law_559 : decode code 559 = .ok (.aload_n 0, 1) := by decide +kernel
theorem dL_law_560 : decode code 560 = .ok (.iload_n 3, 1) := by decide +kernel
theorem dL_law_561 : decode code 561 = .ok (.iconst 1, 1) := by decide +kernel
theorem dL_law_562 : decode code 562 = .ok (.iadd, 1) := by decide +kernel
theorem dL_law_563 : decode code 563 = .ok (.iaload, 1) := by decide +kernel
theorem dL_law_564 : decode code 564 = .ok (.aload_n 0, 1) := by decide +kernel
theorem dL_law_565 : decode code 565 = .ok (.iload_n 3, 1) := by decide +kernel
theorem dL_law_566 : decode code 566 = .ok (.iconst 2, 1) := by decide +kernel
theorem dL_law_567 : decode code 567 = .ok (.iadd, 1) := by decide +kernel
theorem dL_law_568 : decode code 568 = .ok (.iaload, 1) := by decide +kernel
theorem dL_law_569 : decode code 569 = .ok (.aload_n 0, 1) := by decide +kernel
theorem dL_law_570 : decode code 570 = .ok (.iload_n 3, 1) := by decide +kernel
theorem dL_law_571 : decode code 571 = .ok (.iconst 3, 1) := by decide +kernel
theorem dL_law_572 : decode code 572 = .ok (.iadd, 1) := by decide +kernel
theorem dL_law_573 : decode code 573 = .ok (.iaload, 1) := by decide +kernel
theorem dL_law_574 : decode code 574 = .ok (.invokevirtual 74, 3) := by decide +kernel
theorem dL_law_577 : decode code 577 = .ok (.aload_n 2, 1) := by decide +kernel
theorem dL_law_578 : decode code 578 = .ok (.aload_n 0, 1) := by decide +kernel
theorem dL_law_579 : decode code 579 = .ok (.iload_n 3, 1) := by decide +kernel
theorem dL_law_580 : decode code 580 = .ok (.iconst 1, 1) := by decide +kernel
theorem dL_law_581 : decode code 581 = .ok (.iadd, 1) := by decide +kernel
theorem dL_law_582 : decode code 582 = .ok (.iaload, 1) := by decide +kernel
theorem dL_law_583 : decode code 583 = .ok (.aload_n 0, 1) := by decide +kernel
theorem dL_law_584 : decode code 584 = .ok (.iload_n 3, 1) := by decide +kernel
theorem dL_law_585 : decode code 585 = .ok (.iconst 2, 1) := by decide +kernel
theorem dL_law_586 : decode code 586 = .ok (.iadd, 1) := by decide +kernel
theorem dL_law_587 : decode code 587 = .ok (.iaload, 1) := by decide +kernel
theorem dL_law_588 : decode code 588 = .ok (.aload_n 0, 1) := by decide +kernel
theorem dL_law_589 : decode code 589 = .ok (.iload_n 3, 1) := by decide +kernel
theorem dL_law_590 : decode code 590 = .ok (.iconst 3, 1) := by decide +kernel
theorem dL_law_591 : decode code 591 = .ok (.iadd, 1) := by decide +kernel
theorem dL_law_592 : decode code 592 = .ok (.iaload, 1) := by decide +kernel
theorem dL_law_593 : decode code 593 = .ok (.invokevirtual 77, 3) := by decide +kernel
theorem dL_law_596 : decode code 596 = .ok (.if_icmp .eq 556, 3) := by decide +kernel
theorem dL_law_599 : decode code 599 = .ok (.iconst 0, 1) := by decide +kernel
theorem dL_law_600 : decode code 600 = .ok (.ireturn, 1) := by decide +kernel
theorem dL_law_601 : decode code 601 = .ok (.aload_n 1, 1) := by decide +kernel
theorem dL_law_602 : decode code 602 = .ok (.aload_n 0, 1) := by decide +kernel
theorem dL_law_603 : decode code 603 = .ok (.iload_n 3, 1) := by decide +kernel
theorem dL_law_604 : decode code 604 = .ok (.iconst 1, 1) := by decide +kernel
theorem dL_law_605 : decode code 605 = .ok (.iadd, 1) := by decide +kernel
theorem dL_law_606 : decode code 606 = .ok (.iaload, 1) := by decide +kernel
theorem dL_law_607 : decode code 607 = .ok (.invokevirtual 78, 3) := by decide +kernel
theorem dL_law_610 : decode code 610 = .ok (.aload_n 2, 1) := by decide +kernel
theorem dL_law_611 : decode code 611 = .ok (.aload_n 0, 1) := by decide +kernel
theorem dL_law_612 : decode code 612 = .ok (.iload_n 3, 1) := by decide +kernel
theorem dL_law_613 : decode code 613 = .ok (.iconst 1, 1) := by decide +kernel
theorem dL_law_614 : decode code 614 = .ok (.iadd, 1) := by decide +kernel
theorem dL_law_615 : decode code 615 = .ok (.iaload, 1) := by decide +kernel
theorem dL_law_616 : decode code 616 = .ok (.invokevirtual 81, 3) := by decide +kernel
theorem dL_law_619 : decode code 619 = .ok (.if_icmp .eq 533, 3) := by decide +kernel
theorem dL_law_622 : decode code 622 = .ok (.iconst 0, 1) := by decide +kernel
theorem dL_law_623 : decode code 623 = .ok (.ireturn, 1) := by decide +kernel
theorem dL_law_624 : decode code 624 = .ok (.aload_n 1, 1) := by decide +kernel
theorem dL_law_625 : decode code 625 = .ok (.aload_n 0, 1) := by decide +kernel
theorem dL_law_626 : decode code 626 = .ok (.iload_n 3, 1) := by decide +kernel
theorem dL_law_627 : decode code 627 = .ok (.iconst 1, 1) := by decide +kernel
theorem dL_law_628 : decode code 628 = .ok (.iadd, 1) := by decide +kernel
theorem dL_law_629 : decode code 629 = .ok (.iaload, 1) := by decide +kernel
theorem dL_law_630 : decode code 630 = .ok (.aload_n 0, 1) := by decide +kernel
theorem dL_law_631 : decode code 631 = .ok (.iload_n 3, 1) := by decide +kernel
theorem dL_law_632 : decode code 632 = .ok (.iconst 2, 1) := by decide +kernel
theorem dL_law_633 : decode code 633 = .ok (.iadd, 1) := by decide +kernel
theorem dL_law_634 : decode code 634 = .ok (.iaload, 1) := by decide +kernel
theorem dL_law_635 : decode code 635 = .ok (.aload_n 0, 1) := by decide +kernel
theorem dL_law_636 : decode code 636 = .ok (.iload_n 3, 1) := by decide +kernel
theorem dL_law_637 : decode code 637 = .ok (.iconst 3, 1) := by decide +kernel
theorem dL_law_638 : decode code 638 = .ok (.iadd, 1) := by decide +kernel
theorem dL_law_639 : decode code 639 = .ok (.iaload, 1) := by decide +kernel
theorem dL_law_640 : decode code 640 = .ok (.invokevirtual 82, 3) := by decide +kernel
theorem dL_law_643 : decode code 643 = .ok (.aload_n 2, 1) := by decide +kernel
theorem dL_law_644 : decode code 644 = .ok (.aload_n 0, 1) := by decide +kernel
theorem dL_law_645 : decode code 645 = .ok (.iload_n 3, 1) := by decide +kernel
theorem dL_law_646 : decode code 646 = .ok (.iconst 1, 1) := by decide +kernel
theorem dL_law_647 : decode code 647 = .ok (.iadd, 1) := by decide +kernel
theorem dL_law_648 : decode code 648 = .ok (.iaload, 1) := by decide +kernel
theorem dL_law_649 : decode code 649 = .ok (.aload_n 0, 1) := by decide +kernel
theorem dL_law_650 : decode code 650 = .ok (.iload_n 3, 1) := by decide +kernel
theorem dL_law_651 : decode code 651 = .ok (.iconst 2, 1) := by decide +kernel
theorem dL_law_652 : decode code 652 = .ok (.iadd, 1) := by decide +kernel
theorem dL_law_653 : decode code 653 = .ok (.iaload, 1) := by decide +kernel
theorem dL_law_654 : decode code 654 = .ok (.aload_n 0, 1) := by decide +kernel
theorem dL_law_655 : decode code 655 = .ok (.iload_n 3, 1) := by decide +kernel
theorem dL_law_656 : decode code 656 = .ok (.iconst 3, 1) := by decide +kernel
