/-! ===== the law as a function: written by a program ===== -/
theorem d_L_law_0 : decode cL_law 0 = .ok (.new 7, 3) := by decide +kernel
theorem d_L_law_3 : decode cL_law 3 = .ok (.dup, 1) := by decide +kernel
theorem d_L_law_4 : decode cL_law 4 = .ok (.invokespecial 9, 3) := by decide +kernel
theorem d_L_law_7 : decode cL_law 7 = .ok (.astore_n 1, 1) := by decide +kernel
theorem d_L_law_8 : decode cL_law 8 = .ok (.new 10, 3) := by decide +kernel
theorem d_L_law_11 : decode cL_law 11 = .ok (.dup, 1) := by decide +kernel
theorem d_L_law_12 : decode cL_law 12 = .ok (.invokespecial 12, 3) := by decide +kernel
theorem d_L_law_15 : decode cL_law 15 = .ok (.astore_n 2, 1) := by decide +kernel
theorem d_L_law_16 : decode cL_law 16 = .ok (.iconst 0, 1) := by decide +kernel
theorem d_L_law_17 : decode cL_law 17 = .ok (.istore_n 3, 1) := by decide +kernel
theorem d_L_law_18 : decode cL_law 18 = .ok (.iload_n 3, 1) := by decide +kernel
theorem d_L_law_19 : decode cL_law 19 = .ok (.aload_n 0, 1) := by decide +kernel
theorem d_L_law_20 : decode cL_law 20 = .ok (.arraylength, 1) := by decide +kernel
theorem d_L_law_21 : decode cL_law 21 = .ok (.bipush 6, 2) := by decide +kernel
theorem d_L_law_23 : decode cL_law 23 = .ok (.isub, 1) := by decide +kernel
theorem d_L_law_24 : decode cL_law 24 = .ok (.if_icmp .gt 1581, 3) := by decide +kernel
theorem d_L_law_27 : decode cL_law 27 = .ok (.aload_n 0, 1) := by decide +kernel
theorem d_L_law_28 : decode cL_law 28 = .ok (.iload_n 3, 1) := by decide +kernel
theorem d_L_law_29 : decode cL_law 29 = .ok (.iaload, 1) := by decide +kernel
theorem d_L_law_30 : decode cL_law 30 = .ok (.bipush 63, 2) := by decide +kernel
theorem d_L_law_32 : decode cL_law 32 = .ok (.iand, 1) := by decide +kernel
theorem d_L_law_33 : decode cL_law 33 = .ok (.tableswitch 1566 0 43 #[191, 254, 277, 300, 333, 366, 399, 432, 465, 488, 511, 544, 567, 600, 633, 656, 689, 712, 745, 778, 811, 834, 857, 880, 923, 956, 979, 1012, 1035, 1068, 1101, 1144, 1178, 1201, 1234, 1247, 1280, 1324, 1347, 1390, 1464, 1497, 1520, 1543], 191) := by decide +kernel
theorem d_L_law_224 : decode cL_law 224 = .ok (.aload_n 1, 1) := by decide +kernel
theorem d_L_law_225 : decode cL_law 225 = .ok (.aload_n 0, 1) := by decide +kernel
theorem d_L_law_226 : decode cL_law 226 = .ok (.iload_n 3, 1) := by decide +kernel
theorem d_L_law_227 : decode cL_law 227 = .ok (.iconst 1, 1) := by decide +kernel
theorem d_L_law_228 : decode cL_law 228 = .ok (.iadd, 1) := by decide +kernel
theorem d_L_law_229 : decode cL_law 229 = .ok (.iaload, 1) := by decide +kernel
theorem d_L_law_230 : decode cL_law 230 = .ok (.aload_n 0, 1) := by decide +kernel
theorem d_L_law_231 : decode cL_law 231 = .ok (.iload_n 3, 1) := by decide +kernel
theorem d_L_law_232 : decode cL_law 232 = .ok (.iconst 2, 1) := by decide +kernel
theorem d_L_law_233 : decode cL_law 233 = .ok (.iadd, 1) := by decide +kernel
theorem d_L_law_234 : decode cL_law 234 = .ok (.iaload, 1) := by decide +kernel
theorem d_L_law_235 : decode cL_law 235 = .ok (.aload_n 0, 1) := by decide +kernel
theorem d_L_law_236 : decode cL_law 236 = .ok (.iload_n 3, 1) := by decide +kernel
theorem d_L_law_237 : decode cL_law 237 = .ok (.iconst 3, 1) := by decide +kernel
theorem d_L_law_238 : decode cL_law 238 = .ok (.iadd, 1) := by decide +kernel
theorem d_L_law_239 : decode cL_law 239 = .ok (.iaload, 1) := by decide +kernel
theorem d_L_law_240 : decode cL_law 240 = .ok (.aload_n 0, 1) := by decide +kernel
theorem d_L_law_241 : decode cL_law 241 = .ok (.iload_n 3, 1) := by decide +kernel
theorem d_L_law_242 : decode cL_law 242 = .ok (.iconst 4, 1) := by decide +kernel
theorem d_L_law_243 : decode cL_law 243 = .ok (.iadd, 1) := by decide +kernel
theorem d_L_law_244 : decode cL_law 244 = .ok (.iaload, 1) := by decide +kernel
theorem d_L_law_245 : decode cL_law 245 = .ok (.aload_n 0, 1) := by decide +kernel
theorem d_L_law_246 : decode cL_law 246 = .ok (.iload_n 3, 1) := by decide +kernel
theorem d_L_law_247 : decode cL_law 247 = .ok (.iconst 5, 1) := by decide +kernel
theorem d_L_law_248 : decode cL_law 248 = .ok (.iadd, 1) := by decide +kernel
theorem d_L_law_249 : decode cL_law 249 = .ok (.iaload, 1) := by decide +kernel
theorem d_L_law_250 : decode cL_law 250 = .ok (.invokevirtual 13, 3) := by decide +kernel
theorem d_L_law_253 : decode cL_law 253 = .ok (.aload_n 2, 1) := by decide +kernel
theorem d_L_law_254 : decode cL_law 254 = .ok (.aload_n 0, 1) := by decide +kernel
theorem d_L_law_255 : decode cL_law 255 = .ok (.iload_n 3, 1) := by decide +kernel
theorem d_L_law_256 : decode cL_law 256 = .ok (.iconst 1, 1) := by decide +kernel
theorem d_L_law_257 : decode cL_law 257 = .ok (.iadd, 1) := by decide +kernel
theorem d_L_law_258 : decode cL_law 258 = .ok (.iaload, 1) := by decide +kernel
theorem d_L_law_259 : decode cL_law 259 = .ok (.aload_n 0, 1) := by decide +kernel
theorem d_L_law_260 : decode cL_law 260 = .ok (.iload_n 3, 1) := by decide +kernel
theorem d_L_law_261 : decode cL_law 261 = .ok (.iconst 2, 1) := by decide +kernel
theorem d_L_law_262 : decode cL_law 262 = .ok (.iadd, 1) := by decide +kernel
theorem d_L_law_263 : decode cL_law 263 = .ok (.iaload, 1) := by decide +kernel
theorem d_L_law_264 : decode cL_law 264 = .ok (.aload_n 0, 1) := by decide +kernel
theorem d_L_law_265 : decode cL_law 265 = .ok (.iload_n 3, 1) := by decide +kernel
theorem d_L_law_266 : decode cL_law 266 = .ok (.iconst 3, 1) := by decide +kernel
theorem d_L_law_267 : decode cL_law 267 = .ok (.iadd, 1) := by decide +kernel
theorem d_L_law_268 : decode cL_law 268 = .ok (.iaload, 1) := by decide +kernel
theorem d_L_law_269 : decode cL_law 269 = .ok (.aload_n 0, 1) := by decide +kernel
theorem d_L_law_270 : decode cL_law 270 = .ok (.iload_n 3, 1) := by decide +kernel
theorem d_L_law_271 : decode cL_law 271 = .ok (.iconst 4, 1) := by decide +kernel
theorem d_L_law_272 : decode cL_law 272 = .ok (.iadd, 1) := by decide +kernel
theorem d_L_law_273 : decode cL_law 273 = .ok (.iaload, 1) := by decide +kernel
theorem d_L_law_274 : decode cL_law 274 = .ok (.aload_n 0, 1) := by decide +kernel
theorem d_L_law_275 : decode cL_law 275 = .ok (.iload_n 3, 1) := by decide +kernel
theorem d_L_law_276 : decode cL_law 276 = .ok (.iconst 5, 1) := by decide +kernel
theorem d_L_law_277 : decode cL_law 277 = .ok (.iadd, 1) := by decide +kernel
theorem d_L_law_278 : decode cL_law 278 = .ok (.iaload, 1) := by decide +kernel
theorem d_L_law_279 : decode cL_law 279 = .ok (.invokevirtual 17, 3) := by decide +kernel
theorem d_L_law_282 : decode cL_law 282 = .ok (.if_icmp .eq 1317, 3) := by decide +kernel
theorem d_L_law_285 : decode cL_law 285 = .ok (.iconst 0, 1) := by decide +kernel
theorem d_L_law_286 : decode cL_law 286 = .ok (.ireturn, 1) := by decide +kernel
theorem d_L_law_287 : decode cL_law 287 = .ok (.aload_n 1, 1) := by decide +kernel
theorem d_L_law_288 : decode cL_law 288 = .ok (.aload_n 0, 1) := by decide +kernel
theorem d_L_law_289 : decode cL_law 289 = .ok (.iload_n 3, 1) := by decide +kernel
theorem d_L_law_290 : decode cL_law 290 = .ok (.iconst 1, 1) := by decide +kernel
theorem d_L_law_291 : decode cL_law 291 = .ok (.iadd, 1) := by decide +kernel
theorem d_L_law_292 : decode cL_law 292 = .ok (.iaload, 1) := by decide +kernel
theorem d_L_law_293 : decode cL_law 293 = .ok (.invokevirtual 18, 3) := by decide +kernel
theorem d_L_law_296 : decode cL_law 296 = .ok (.aload_n 2, 1) := by decide +kernel
theorem d_L_law_297 : decode cL_law 297 = .ok (.aload_n 0, 1) := by decide +kernel
theorem d_L_law_298 : decode cL_law 298 = .ok (.iload_n 3, 1) := by decide +kernel
theorem d_L_law_299 : decode cL_law 299 = .ok (.iconst 1, 1) := by decide +kernel
theorem d_L_law_300 : decode cL_law 300 = .ok (.iadd, 1) := by decide +kernel
theorem d_L_law_301 : decode cL_law 301 = .ok (.iaload, 1) := by decide +kernel
theorem d_L_law_302 : decode cL_law 302 = .ok (.invokevirtual 22, 3) := by decide +kernel
theorem d_L_law_305 : decode cL_law 305 = .ok (.if_icmp .eq 1294, 3) := by decide +kernel
theorem d_L_law_308 : decode cL_law 308 = .ok (.iconst 0, 1) := by decide +kernel
theorem d_L_law_309 : decode cL_law 309 = .ok (.ireturn, 1) := by decide +kernel
theorem d_L_law_310 : decode cL_law 310 = .ok (.aload_n 1, 1) := by decide +kernel
theorem d_L_law_311 : decode cL_law 311 = .ok (.aload_n 0, 1) := by decide +kernel
theorem d_L_law_312 : decode cL_law 312 = .ok (.iload_n 3, 1) := by decide +kernel
theorem d_L_law_313 : decode cL_law 313 = .ok (.iconst 1, 1) := by decide +kernel
theorem d_L_law_314 : decode cL_law 314 = .ok (.iadd, 1) := by decide +kernel
theorem d_L_law_315 : decode cL_law 315 = .ok (.iaload, 1) := by decide +kernel
theorem d_L_law_316 : decode cL_law 316 = .ok (.invokevirtual 23, 3) := by decide +kernel
theorem d_L_law_319 : decode cL_law 319 = .ok (.aload_n 2, 1) := by decide +kernel
theorem d_L_law_320 : decode cL_law 320 = .ok (.aload_n 0, 1) := by decide +kernel
theorem d_L_law_321 : decode cL_law 321 = .ok (.iload_n 3, 1) := by decide +kernel
theorem d_L_law_322 : decode cL_law 322 = .ok (.iconst 1, 1) := by decide +kernel
theorem d_L_law_323 : decode cL_law 323 = .ok (.iadd, 1) := by decide +kernel
theorem d_L_law_324 : decode cL_law 324 = .ok (.iaload, 1) := by decide +kernel
theorem d_L_law_325 : decode cL_law 325 = .ok (.invokevirtual 26, 3) := by decide +kernel
theorem d_L_law_328 : decode cL_law 328 = .ok (.if_icmp .eq 1271, 3) := by decide +kernel
theorem d_L_law_331 : decode cL_law 331 = .ok (.iconst 0, 1) := by decide +kernel
theorem d_L_law_332 : decode cL_law 332 = .ok (.ireturn, 1) := by decide +kernel
theorem d_L_law_333 : decode cL_law 333 = .ok (.aload_n 1, 1) := by decide +kernel
theorem d_L_law_334 : decode cL_law 334 = .ok (.aload_n 0, 1) := by decide +kernel
theorem d_L_law_335 : decode cL_law 335 = .ok (.iload_n 3, 1) := by decide +kernel
theorem d_L_law_336 : decode cL_law 336 = .ok (.iconst 1, 1) := by decide +kernel
theorem d_L_law_337 : decode cL_law 337 = .ok (.iadd, 1) := by decide +kernel
theorem d_L_law_338 : decode cL_law 338 = .ok (.iaload, 1) := by decide +kernel
theorem d_L_law_339 : decode cL_law 339 = .ok (.aload_n 0, 1) := by decide +kernel
theorem d_L_law_340 : decode cL_law 340 = .ok (.iload_n 3, 1) := by decide +kernel
theorem d_L_law_341 : decode cL_law 341 = .ok (.iconst 2, 1) := by decide +kernel
theorem d_L_law_342 : decode cL_law 342 = .ok (.iadd, 1) := by decide +kernel
theorem d_L_law_343 : decode cL_law 343 = .ok (.iaload, 1) := by decide +kernel
theorem d_L_law_344 : decode cL_law 344 = .ok (.invokevirtual 27, 3) := by decide +kernel
theorem d_L_law_347 : decode cL_law 347 = .ok (.aload_n 2, 1) := by decide +kernel
theorem d_L_law_348 : decode cL_law 348 = .ok (.aload_n 0, 1) := by decide +kernel
theorem d_L_law_349 : decode cL_law 349 = .ok (.iload_n 3, 1) := by decide +kernel
theorem d_L_law_350 : decode cL_law 350 = .ok (.iconst 1, 1) := by decide +kernel
theorem d_L_law_351 : decode cL_law 351 = .ok (.iadd, 1) := by decide +kernel
theorem d_L_law_352 : decode cL_law 352 = .ok (.iaload, 1) := by decide +kernel
theorem d_L_law_353 : decode cL_law 353 = .ok (.aload_n 0, 1) := by decide +kernel
theorem d_L_law_354 : decode cL_law 354 = .ok (.iload_n 3, 1) := by decide +kernel
theorem d_L_law_355 : decode cL_law 355 = .ok (.iconst 2, 1) := by decide +kernel
theorem d_L_law_356 : decode cL_law 356 = .ok (.iadd, 1) := by decide +kernel
theorem d_L_law_357 : decode cL_law 357 = .ok (.iaload, 1) := by decide +kernel
theorem d_L_law_358 : decode cL_law 358 = .ok (.invokevirtual 31, 3) := by decide +kernel
theorem d_L_law_361 : decode cL_law 361 = .ok (.if_icmp .eq 1238, 3) := by decide +kernel
theorem d_L_law_364 : decode cL_law 364 = .ok (.iconst 0, 1) := by decide +kernel
theorem d_L_law_365 : decode cL_law 365 = .ok (.ireturn, 1) := by decide +kernel
theorem d_L_law_366 : decode cL_law 366 = .ok (.aload_n 1, 1) := by decide +kernel
theorem d_L_law_367 : decode cL_law 367 = .ok (.aload_n 0, 1) := by decide +kernel
theorem d_L_law_368 : decode cL_law 368 = .ok (.iload_n 3, 1) := by decide +kernel
theorem d_L_law_369 : decode cL_law 369 = .ok (.iconst 1, 1) := by decide +kernel
theorem d_L_law_370 : decode cL_law 370 = .ok (.iadd, 1) := by decide +kernel
theorem d_L_law_371 : decode cL_law 371 = .ok (.iaload, 1) := by decide +kernel
theorem d_L_law_372 : decode cL_law 372 = .ok (.aload_n 0, 1) := by decide +kernel
theorem d_L_law_373 : decode cL_law 373 = .ok (.iload_n 3, 1) := by decide +kernel
theorem d_L_law_374 : decode cL_law 374 = .ok (.iconst 2, 1) := by decide +kernel
theorem d_L_law_375 : decode cL_law 375 = .ok (.iadd, 1) := by decide +kernel
theorem d_L_law_376 : decode cL_law 376 = .ok (.iaload, 1) := by decide +kernel
theorem d_L_law_377 : decode cL_law 377 = .ok (.invokevirtual 32, 3) := by decide +kernel
theorem d_L_law_380 : decode cL_law 380 = .ok (.aload_n 2, 1) := by decide +kernel
theorem d_L_law_381 : decode cL_law 381 = .ok (.aload_n 0, 1) := by decide +kernel
theorem d_L_law_382 : decode cL_law 382 = .ok (.iload_n 3, 1) := by decide +kernel
theorem d_L_law_383 : decode cL_law 383 = .ok (.iconst 1, 1) := by decide +kernel
theorem d_L_law_384 : decode cL_law 384 = .ok (.iadd, 1) := by decide +kernel
theorem d_L_law_385 : decode cL_law 385 = .ok (.iaload, 1) := by decide +kernel
theorem d_L_law_386 : decode cL_law 386 = .ok (.aload_n 0, 1) := by decide +kernel
theorem d_L_law_387 : decode cL_law 387 = .ok (.iload_n 3, 1) := by decide +kernel
theorem d_L_law_388 : decode cL_law 388 = .ok (.iconst 2, 1) := by decide +kernel
theorem d_L_law_389 : decode cL_law 389 = .ok (.iadd, 1) := by decide +kernel
theorem d_L_law_390 : decode cL_law 390 = .ok (.iaload, 1) := by decide +kernel
theorem d_L_law_391 : decode cL_law 391 = .ok (.invokevirtual 35, 3) := by decide +kernel
theorem d_L_law_394 : decode cL_law 394 = .ok (.if_icmp .eq 1205, 3) := by decide +kernel
theorem d_L_law_397 : decode cL_law 397 = .ok (.iconst 0, 1) := by decide +kernel
theorem d_L_law_398 : decode cL_law 398 = .ok (.ireturn, 1) := by decide +kernel
theorem d_L_law_399 : decode cL_law 399 = .ok (.aload_n 1, 1) := by decide +kernel
theorem d_L_law_400 : decode cL_law 400 = .ok (.aload_n 0, 1) := by decide +kernel
theorem d_L_law_401 : decode cL_law 401 = .ok (.iload_n 3, 1) := by decide +kernel
theorem d_L_law_402 : decode cL_law 402 = .ok (.iconst 1, 1) := by decide +kernel
theorem d_L_law_403 : decode cL_law 403 = .ok (.iadd, 1) := by decide +kernel
theorem d_L_law_404 : decode cL_law 404 = .ok (.iaload, 1) := by decide +kernel
theorem d_L_law_405 : decode cL_law 405 = .ok (.aload_n 0, 1) := by decide +kernel
theorem d_L_law_406 : decode cL_law 406 = .ok (.iload_n 3, 1) := by decide +kernel
theorem d_L_law_407 : decode cL_law 407 = .ok (.iconst 2, 1) := by decide +kernel
theorem d_L_law_408 : decode cL_law 408 = .ok (.iadd, 1) := by decide +kernel
theorem d_L_law_409 : decode cL_law 409 = .ok (.iaload, 1) := by decide +kernel
theorem d_L_law_410 : decode cL_law 410 = .ok (.invokevirtual 36, 3) := by decide +kernel
theorem d_L_law_413 : decode cL_law 413 = .ok (.aload_n 2, 1) := by decide +kernel
theorem d_L_law_414 : decode cL_law 414 = .ok (.aload_n 0, 1) := by decide +kernel
theorem d_L_law_415 : decode cL_law 415 = .ok (.iload_n 3, 1) := by decide +kernel
theorem d_L_law_416 : decode cL_law 416 = .ok (.iconst 1, 1) := by decide +kernel
theorem d_L_law_417 : decode cL_law 417 = .ok (.iadd, 1) := by decide +kernel
theorem d_L_law_418 : decode cL_law 418 = .ok (.iaload, 1) := by decide +kernel
theorem d_L_law_419 : decode cL_law 419 = .ok (.aload_n 0, 1) := by decide +kernel
theorem d_L_law_420 : decode cL_law 420 = .ok (.iload_n 3, 1) := by decide +kernel
theorem d_L_law_421 : decode cL_law 421 = .ok (.iconst 2, 1) := by decide +kernel
theorem d_L_law_422 : decode cL_law 422 = .ok (.iadd, 1) := by decide +kernel
theorem d_L_law_423 : decode cL_law 423 = .ok (.iaload, 1) := by decide +kernel
theorem d_L_law_424 : decode cL_law 424 = .ok (.invokevirtual 39, 3) := by decide +kernel
theorem d_L_law_427 : decode cL_law 427 = .ok (.if_icmp .eq 1172, 3) := by decide +kernel
theorem d_L_law_430 : decode cL_law 430 = .ok (.iconst 0, 1) := by decide +kernel
theorem d_L_law_431 : decode cL_law 431 = .ok (.ireturn, 1) := by decide +kernel
theorem d_L_law_432 : decode cL_law 432 = .ok (.aload_n 1, 1) := by decide +kernel
theorem d_L_law_433 : decode cL_law 433 = .ok (.aload_n 0, 1) := by decide +kernel
theorem d_L_law_434 : decode cL_law 434 = .ok (.iload_n 3, 1) := by decide +kernel
theorem d_L_law_435 : decode cL_law 435 = .ok (.iconst 1, 1) := by decide +kernel
theorem d_L_law_436 : decode cL_law 436 = .ok (.iadd, 1) := by decide +kernel
theorem d_L_law_437 : decode cL_law 437 = .ok (.iaload, 1) := by decide +kernel
theorem d_L_law_438 : decode cL_law 438 = .ok (.aload_n 0, 1) := by decide +kernel
theorem d_L_law_439 : decode cL_law 439 = .ok (.iload_n 3, 1) := by decide +kernel
theorem d_L_law_440 : decode cL_law 440 = .ok (.iconst 2, 1) := by decide +kernel
theorem d_L_law_441 : decode cL_law 441 = .ok (.iadd, 1) := by decide +kernel
theorem d_L_law_442 : decode cL_law 442 = .ok (.iaload, 1) := by decide +kernel
theorem d_L_law_443 : decode cL_law 443 = .ok (.invokevirtual 40, 3) := by decide +kernel
theorem d_L_law_446 : decode cL_law 446 = .ok (.aload_n 2, 1) := by decide +kernel
theorem d_L_law_447 : decode cL_law 447 = .ok (.aload_n 0, 1) := by decide +kernel
theorem d_L_law_448 : decode cL_law 448 = .ok (.iload_n 3, 1) := by decide +kernel
theorem d_L_law_449 : decode cL_law 449 = .ok (.iconst 1, 1) := by decide +kernel
theorem d_L_law_450 : decode cL_law 450 = .ok (.iadd, 1) := by decide +kernel
theorem d_L_law_451 : decode cL_law 451 = .ok (.iaload, 1) := by decide +kernel
theorem d_L_law_452 : decode cL_law 452 = .ok (.aload_n 0, 1) := by decide +kernel
theorem d_L_law_453 : decode cL_law 453 = .ok (.iload_n 3, 1) := by decide +kernel
theorem d_L_law_454 : decode cL_law 454 = .ok (.iconst 2, 1) := by decide +kernel
theorem d_L_law_455 : decode cL_law 455 = .ok (.iadd, 1) := by decide +kernel
theorem d_L_law_456 : decode cL_law 456 = .ok (.iaload, 1) := by decide +kernel
theorem d_L_law_457 : decode cL_law 457 = .ok (.invokevirtual 43, 3) := by decide +kernel
theorem d_L_law_460 : decode cL_law 460 = .ok (.if_icmp .eq 1139, 3) := by decide +kernel
theorem d_L_law_463 : decode cL_law 463 = .ok (.iconst 0, 1) := by decide +kernel
theorem d_L_law_464 : decode cL_law 464 = .ok (.ireturn, 1) := by decide +kernel
theorem d_L_law_465 : decode cL_law 465 = .ok (.aload_n 1, 1) := by decide +kernel
theorem d_L_law_466 : decode cL_law 466 = .ok (.aload_n 0, 1) := by decide +kernel
theorem d_L_law_467 : decode cL_law 467 = .ok (.iload_n 3, 1) := by decide +kernel
theorem d_L_law_468 : decode cL_law 468 = .ok (.iconst 1, 1) := by decide +kernel
theorem d_L_law_469 : decode cL_law 469 = .ok (.iadd, 1) := by decide +kernel
theorem d_L_law_470 : decode cL_law 470 = .ok (.iaload, 1) := by decide +kernel
theorem d_L_law_471 : decode cL_law 471 = .ok (.aload_n 0, 1) := by decide +kernel
theorem d_L_law_472 : decode cL_law 472 = .ok (.iload_n 3, 1) := by decide +kernel
theorem d_L_law_473 : decode cL_law 473 = .ok (.iconst 2, 1) := by decide +kernel
theorem d_L_law_474 : decode cL_law 474 = .ok (.iadd, 1) := by decide +kernel
theorem d_L_law_475 : decode cL_law 475 = .ok (.iaload, 1) := by decide +kernel
theorem d_L_law_476 : decode cL_law 476 = .ok (.invokevirtual 44, 3) := by decide +kernel
theorem d_L_law_479 : decode cL_law 479 = .ok (.aload_n 2, 1) := by decide +kernel
theorem d_L_law_480 : decode cL_law 480 = .ok (.aload_n 0, 1) := by decide +kernel
theorem d_L_law_481 : decode cL_law 481 = .ok (.iload_n 3, 1) := by decide +kernel
theorem d_L_law_482 : decode cL_law 482 = .ok (.iconst 1, 1) := by decide +kernel
theorem d_L_law_483 : decode cL_law 483 = .ok (.iadd, 1) := by decide +kernel
theorem d_L_law_484 : decode cL_law 484 = .ok (.iaload, 1) := by decide +kernel
theorem d_L_law_485 : decode cL_law 485 = .ok (.aload_n 0, 1) := by decide +kernel
theorem d_L_law_486 : decode cL_law 486 = .ok (.iload_n 3, 1) := by decide +kernel
theorem d_L_law_487 : decode cL_law 487 = .ok (.iconst 2, 1) := by decide +kernel
theorem d_L_law_488 : decode cL_law 488 = .ok (.iadd, 1) := by decide +kernel
theorem d_L_law_489 : decode cL_law 489 = .ok (.iaload, 1) := by decide +kernel
theorem d_L_law_490 : decode cL_law 490 = .ok (.invokevirtual 47, 3) := by decide +kernel
theorem d_L_law_493 : decode cL_law 493 = .ok (.if_icmp .eq 1106, 3) := by decide +kernel
theorem d_L_law_496 : decode cL_law 496 = .ok (.iconst 0, 1) := by decide +kernel
theorem d_L_law_497 : decode cL_law 497 = .ok (.ireturn, 1) := by decide +kernel
theorem d_L_law_498 : decode cL_law 498 = .ok (.aload_n 1, 1) := by decide +kernel
theorem d_L_law_499 : decode cL_law 499 = .ok (.aload_n 0, 1) := by decide +kernel
theorem d_L_law_500 : decode cL_law 500 = .ok (.iload_n 3, 1) := by decide +kernel
theorem d_L_law_501 : decode cL_law 501 = .ok (.iconst 1, 1) := by decide +kernel
theorem d_L_law_502 : decode cL_law 502 = .ok (.iadd, 1) := by decide +kernel
theorem d_L_law_503 : decode cL_law 503 = .ok (.iaload, 1) := by decide +kernel
theorem d_L_law_504 : decode cL_law 504 = .ok (.invokevirtual 48, 3) := by decide +kernel
theorem d_L_law_507 : decode cL_law 507 = .ok (.aload_n 2, 1) := by decide +kernel
theorem d_L_law_508 : decode cL_law 508 = .ok (.aload_n 0, 1) := by decide +kernel
theorem d_L_law_509 : decode cL_law 509 = .ok (.iload_n 3, 1) := by decide +kernel
theorem d_L_law_510 : decode cL_law 510 = .ok (.iconst 1, 1) := by decide +kernel
theorem d_L_law_511 : decode cL_law 511 = .ok (.iadd, 1) := by decide +kernel
theorem d_L_law_512 : decode cL_law 512 = .ok (.iaload, 1) := by decide +kernel
theorem d_L_law_513 : decode cL_law 513 = .ok (.invokevirtual 51, 3) := by decide +kernel
theorem d_L_law_516 : decode cL_law 516 = .ok (.if_icmp .eq 1083, 3) := by decide +kernel
theorem d_L_law_519 : decode cL_law 519 = .ok (.iconst 0, 1) := by decide +kernel
theorem d_L_law_520 : decode cL_law 520 = .ok (.ireturn, 1) := by decide +kernel
theorem d_L_law_521 : decode cL_law 521 = .ok (.aload_n 1, 1) := by decide +kernel
theorem d_L_law_522 : decode cL_law 522 = .ok (.aload_n 0, 1) := by decide +kernel
theorem d_L_law_523 : decode cL_law 523 = .ok (.iload_n 3, 1) := by decide +kernel
theorem d_L_law_524 : decode cL_law 524 = .ok (.iconst 1, 1) := by decide +kernel
theorem d_L_law_525 : decode cL_law 525 = .ok (.iadd, 1) := by decide +kernel
theorem d_L_law_526 : decode cL_law 526 = .ok (.iaload, 1) := by decide +kernel
theorem d_L_law_527 : decode cL_law 527 = .ok (.invokevirtual 52, 3) := by decide +kernel
theorem d_L_law_530 : decode cL_law 530 = .ok (.aload_n 2, 1) := by decide +kernel
theorem d_L_law_531 : decode cL_law 531 = .ok (.aload_n 0, 1) := by decide +kernel
theorem d_L_law_532 : decode cL_law 532 = .ok (.iload_n 3, 1) := by decide +kernel
theorem d_L_law_533 : decode cL_law 533 = .ok (.iconst 1, 1) := by decide +kernel
theorem d_L_law_534 : decode cL_law 534 = .ok (.iadd, 1) := by decide +kernel
theorem d_L_law_535 : decode cL_law 535 = .ok (.iaload, 1) := by decide +kernel
theorem d_L_law_536 : decode cL_law 536 = .ok (.invokevirtual 55, 3) := by decide +kernel
theorem d_L_law_539 : decode cL_law 539 = .ok (.if_icmp .eq 1060, 3) := by decide +kernel
theorem d_L_law_542 : decode cL_law 542 = .ok (.iconst 0, 1) := by decide +kernel
theorem d_L_law_543 : decode cL_law 543 = .ok (.ireturn, 1) := by decide +kernel
theorem d_L_law_544 : decode cL_law 544 = .ok (.aload_n 1, 1) := by decide +kernel
theorem d_L_law_545 : decode cL_law 545 = .ok (.aload_n 0, 1) := by decide +kernel
theorem d_L_law_546 : decode cL_law 546 = .ok (.iload_n 3, 1) := by decide +kernel
theorem d_L_law_547 : decode cL_law 547 = .ok (.iconst 1, 1) := by decide +kernel
theorem d_L_law_548 : decode cL_law 548 = .ok (.iadd, 1) := by decide +kernel
theorem d_L_law_549 : decode cL_law 549 = .ok (.iaload, 1) := by decide +kernel
theorem d_L_law_550 : decode cL_law 550 = .ok (.aload_n 0, 1) := by decide +kernel
theorem d_L_law_551 : decode cL_law 551 = .ok (.iload_n 3, 1) := by decide +kernel
theorem d_L_law_552 : decode cL_law 552 = .ok (.iconst 2, 1) := by decide +kernel
theorem d_L_law_553 : decode cL_law 553 = .ok (.iadd, 1) := by decide +kernel
theorem d_L_law_554 : decode cL_law 554 = .ok (.iaload, 1) := by decide +kernel
theorem d_L_law_555 : decode cL_law 555 = .ok (.invokevirtual 56, 3) := by decide +kernel
theorem d_L_law_558 : decode cL_law 558 = .ok (.aload_n 2, 1) := by decide +kernel
theorem d_L_law_559 : decode cL_law 559 = .ok (.aload_n 0, 1) := by decide +kernel
theorem d_L_law_560 : decode cL_law 560 = .ok (.iload_n 3, 1) := by decide +kernel
theorem d_L_law_561 : decode cL_law 561 = .ok (.iconst 1, 1) := by decide +kernel
theorem d_L_law_562 : decode cL_law 562 = .ok (.iadd, 1) := by decide +kernel
theorem d_L_law_563 : decode cL_law 563 = .ok (.iaload, 1) := by decide +kernel
theorem d_L_law_564 : decode cL_law 564 = .ok (.aload_n 0, 1) := by decide +kernel
theorem d_L_law_565 : decode cL_law 565 = .ok (.iload_n 3, 1) := by decide +kernel
theorem d_L_law_566 : decode cL_law 566 = .ok (.iconst 2, 1) := by decide +kernel
theorem d_L_law_567 : decode cL_law 567 = .ok (.iadd, 1) := by decide +kernel
theorem d_L_law_568 : decode cL_law 568 = .ok (.iaload, 1) := by decide +kernel
theorem d_L_law_569 : decode cL_law 569 = .ok (.invokevirtual 59, 3) := by decide +kernel
theorem d_L_law_572 : decode cL_law 572 = .ok (.if_icmp .eq 1027, 3) := by decide +kernel
theorem d_L_law_575 : decode cL_law 575 = .ok (.iconst 0, 1) := by decide +kernel
theorem d_L_law_576 : decode cL_law 576 = .ok (.ireturn, 1) := by decide +kernel
theorem d_L_law_577 : decode cL_law 577 = .ok (.aload_n 1, 1) := by decide +kernel
theorem d_L_law_578 : decode cL_law 578 = .ok (.aload_n 0, 1) := by decide +kernel
theorem d_L_law_579 : decode cL_law 579 = .ok (.iload_n 3, 1) := by decide +kernel
theorem d_L_law_580 : decode cL_law 580 = .ok (.iconst 1, 1) := by decide +kernel
theorem d_L_law_581 : decode cL_law 581 = .ok (.iadd, 1) := by decide +kernel
theorem d_L_law_582 : decode cL_law 582 = .ok (.iaload, 1) := by decide +kernel
theorem d_L_law_583 : decode cL_law 583 = .ok (.invokevirtual 60, 3) := by decide +kernel
theorem d_L_law_586 : decode cL_law 586 = .ok (.aload_n 2, 1) := by decide +kernel
theorem d_L_law_587 : decode cL_law 587 = .ok (.aload_n 0, 1) := by decide +kernel
theorem d_L_law_588 : decode cL_law 588 = .ok (.iload_n 3, 1) := by decide +kernel
theorem d_L_law_589 : decode cL_law 589 = .ok (.iconst 1, 1) := by decide +kernel
theorem d_L_law_590 : decode cL_law 590 = .ok (.iadd, 1) := by decide +kernel
theorem d_L_law_591 : decode cL_law 591 = .ok (.iaload, 1) := by decide +kernel
theorem d_L_law_592 : decode cL_law 592 = .ok (.invokevirtual 63, 3) := by decide +kernel
theorem d_L_law_595 : decode cL_law 595 = .ok (.if_icmp .eq 1004, 3) := by decide +kernel
theorem d_L_law_598 : decode cL_law 598 = .ok (.iconst 0, 1) := by decide +kernel
theorem d_L_law_599 : decode cL_law 599 = .ok (.ireturn, 1) := by decide +kernel
theorem d_L_law_600 : decode cL_law 600 = .ok (.aload_n 1, 1) := by decide +kernel
theorem d_L_law_601 : decode cL_law 601 = .ok (.aload_n 0, 1) := by decide +kernel
theorem d_L_law_602 : decode cL_law 602 = .ok (.iload_n 3, 1) := by decide +kernel
theorem d_L_law_603 : decode cL_law 603 = .ok (.iconst 1, 1) := by decide +kernel
theorem d_L_law_604 : decode cL_law 604 = .ok (.iadd, 1) := by decide +kernel
theorem d_L_law_605 : decode cL_law 605 = .ok (.iaload, 1) := by decide +kernel
theorem d_L_law_606 : decode cL_law 606 = .ok (.aload_n 0, 1) := by decide +kernel
theorem d_L_law_607 : decode cL_law 607 = .ok (.iload_n 3, 1) := by decide +kernel
theorem d_L_law_608 : decode cL_law 608 = .ok (.iconst 2, 1) := by decide +kernel
theorem d_L_law_609 : decode cL_law 609 = .ok (.iadd, 1) := by decide +kernel
theorem d_L_law_610 : decode cL_law 610 = .ok (.iaload, 1) := by decide +kernel
theorem d_L_law_611 : decode cL_law 611 = .ok (.invokevirtual 64, 3) := by decide +kernel
theorem d_L_law_614 : decode cL_law 614 = .ok (.aload_n 2, 1) := by decide +kernel
theorem d_L_law_615 : decode cL_law 615 = .ok (.aload_n 0, 1) := by decide +kernel
theorem d_L_law_616 : decode cL_law 616 = .ok (.iload_n 3, 1) := by decide +kernel
theorem d_L_law_617 : decode cL_law 617 = .ok (.iconst 1, 1) := by decide +kernel
theorem d_L_law_618 : decode cL_law 618 = .ok (.iadd, 1) := by decide +kernel
theorem d_L_law_619 : decode cL_law 619 = .ok (.iaload, 1) := by decide +kernel
theorem d_L_law_620 : decode cL_law 620 = .ok (.aload_n 0, 1) := by decide +kernel
theorem d_L_law_621 : decode cL_law 621 = .ok (.iload_n 3, 1) := by decide +kernel
theorem d_L_law_622 : decode cL_law 622 = .ok (.iconst 2, 1) := by decide +kernel
theorem d_L_law_623 : decode cL_law 623 = .ok (.iadd, 1) := by decide +kernel
theorem d_L_law_624 : decode cL_law 624 = .ok (.iaload, 1) := by decide +kernel
theorem d_L_law_625 : decode cL_law 625 = .ok (.invokevirtual 67, 3) := by decide +kernel
theorem d_L_law_628 : decode cL_law 628 = .ok (.if_icmp .eq 971, 3) := by decide +kernel
theorem d_L_law_631 : decode cL_law 631 = .ok (.iconst 0, 1) := by decide +kernel
theorem d_L_law_632 : decode cL_law 632 = .ok (.ireturn, 1) := by decide +kernel
theorem d_L_law_633 : decode cL_law 633 = .ok (.aload_n 1, 1) := by decide +kernel
theorem d_L_law_634 : decode cL_law 634 = .ok (.aload_n 0, 1) := by decide +kernel
theorem d_L_law_635 : decode cL_law 635 = .ok (.iload_n 3, 1) := by decide +kernel
theorem d_L_law_636 : decode cL_law 636 = .ok (.iconst 1, 1) := by decide +kernel
theorem d_L_law_637 : decode cL_law 637 = .ok (.iadd, 1) := by decide +kernel
theorem d_L_law_638 : decode cL_law 638 = .ok (.iaload, 1) := by decide +kernel
theorem d_L_law_639 : decode cL_law 639 = .ok (.aload_n 0, 1) := by decide +kernel
theorem d_L_law_640 : decode cL_law 640 = .ok (.iload_n 3, 1) := by decide +kernel
theorem d_L_law_641 : decode cL_law 641 = .ok (.iconst 2, 1) := by decide +kernel
theorem d_L_law_642 : decode cL_law 642 = .ok (.iadd, 1) := by decide +kernel
theorem d_L_law_643 : decode cL_law 643 = .ok (.iaload, 1) := by decide +kernel
theorem d_L_law_644 : decode cL_law 644 = .ok (.invokevirtual 68, 3) := by decide +kernel
theorem d_L_law_647 : decode cL_law 647 = .ok (.aload_n 2, 1) := by decide +kernel
theorem d_L_law_648 : decode cL_law 648 = .ok (.aload_n 0, 1) := by decide +kernel
theorem d_L_law_649 : decode cL_law 649 = .ok (.iload_n 3, 1) := by decide +kernel
theorem d_L_law_650 : decode cL_law 650 = .ok (.iconst 1, 1) := by decide +kernel
theorem d_L_law_651 : decode cL_law 651 = .ok (.iadd, 1) := by decide +kernel
theorem d_L_law_652 : decode cL_law 652 = .ok (.iaload, 1) := by decide +kernel
theorem d_L_law_653 : decode cL_law 653 = .ok (.aload_n 0, 1) := by decide +kernel
theorem d_L_law_654 : decode cL_law 654 = .ok (.iload_n 3, 1) := by decide +kernel
theorem d_L_law_655 : decode cL_law 655 = .ok (.iconst 2, 1) := by decide +kernel
theorem d_L_law_656 : decode cL_law 656 = .ok (.iadd, 1) := by decide +kernel
theorem d_L_law_657 : decode cL_law 657 = .ok (.iaload, 1) := by decide +kernel
theorem d_L_law_658 : decode cL_law 658 = .ok (.invokevirtual 71, 3) := by decide +kernel
theorem d_L_law_661 : decode cL_law 661 = .ok (.if_icmp .eq 938, 3) := by decide +kernel
theorem d_L_law_664 : decode cL_law 664 = .ok (.iconst 0, 1) := by decide +kernel
theorem d_L_law_665 : decode cL_law 665 = .ok (.ireturn, 1) := by decide +kernel
theorem d_L_law_666 : decode cL_law 666 = .ok (.aload_n 1, 1) := by decide +kernel
theorem d_L_law_667 : decode cL_law 667 = .ok (.aload_n 0, 1) := by decide +kernel
theorem d_L_law_668 : decode cL_law 668 = .ok (.iload_n 3, 1) := by decide +kernel
theorem d_L_law_669 : decode cL_law 669 = .ok (.iconst 1, 1) := by decide +kernel
theorem d_L_law_670 : decode cL_law 670 = .ok (.iadd, 1) := by decide +kernel
theorem d_L_law_671 : decode cL_law 671 = .ok (.iaload, 1) := by decide +kernel
theorem d_L_law_672 : decode cL_law 672 = .ok (.invokevirtual 72, 3) := by decide +kernel
theorem d_L_law_675 : decode cL_law 675 = .ok (.aload_n 2, 1) := by decide +kernel
theorem d_L_law_676 : decode cL_law 676 = .ok (.aload_n 0, 1) := by decide +kernel
theorem d_L_law_677 : decode cL_law 677 = .ok (.iload_n 3, 1) := by decide +kernel
theorem d_L_law_678 : decode cL_law 678 = .ok (.iconst 1, 1) := by decide +kernel
theorem d_L_law_679 : decode cL_law 679 = .ok (.iadd, 1) := by decide +kernel
theorem d_L_law_680 : decode cL_law 680 = .ok (.iaload, 1) := by decide +kernel
theorem d_L_law_681 : decode cL_law 681 = .ok (.invokevirtual 75, 3) := by decide +kernel
theorem d_L_law_684 : decode cL_law 684 = .ok (.if_icmp .eq 915, 3) := by decide +kernel
theorem d_L_law_687 : decode cL_law 687 = .ok (.iconst 0, 1) := by decide +kernel
theorem d_L_law_688 : decode cL_law 688 = .ok (.ireturn, 1) := by decide +kernel
theorem d_L_law_689 : decode cL_law 689 = .ok (.aload_n 1, 1) := by decide +kernel
theorem d_L_law_690 : decode cL_law 690 = .ok (.aload_n 0, 1) := by decide +kernel
theorem d_L_law_691 : decode cL_law 691 = .ok (.iload_n 3, 1) := by decide +kernel
theorem d_L_law_692 : decode cL_law 692 = .ok (.iconst 1, 1) := by decide +kernel
theorem d_L_law_693 : decode cL_law 693 = .ok (.iadd, 1) := by decide +kernel
theorem d_L_law_694 : decode cL_law 694 = .ok (.iaload, 1) := by decide +kernel
theorem d_L_law_695 : decode cL_law 695 = .ok (.aload_n 0, 1) := by decide +kernel
theorem d_L_law_696 : decode cL_law 696 = .ok (.iload_n 3, 1) := by decide +kernel
theorem d_L_law_697 : decode cL_law 697 = .ok (.iconst 2, 1) := by decide +kernel
theorem d_L_law_698 : decode cL_law 698 = .ok (.iadd, 1) := by decide +kernel
theorem d_L_law_699 : decode cL_law 699 = .ok (.iaload, 1) := by decide +kernel
theorem d_L_law_700 : decode cL_law 700 = .ok (.invokevirtual 76, 3) := by decide +kernel
theorem d_L_law_703 : decode cL_law 703 = .ok (.aload_n 2, 1) := by decide +kernel
theorem d_L_law_704 : decode cL_law 704 = .ok (.aload_n 0, 1) := by decide +kernel
theorem d_L_law_705 : decode cL_law 705 = .ok (.iload_n 3, 1) := by decide +kernel
theorem d_L_law_706 : decode cL_law 706 = .ok (.iconst 1, 1) := by decide +kernel
theorem d_L_law_707 : decode cL_law 707 = .ok (.iadd, 1) := by decide +kernel
theorem d_L_law_708 : decode cL_law 708 = .ok (.iaload, 1) := by decide +kernel
theorem d_L_law_709 : decode cL_law 709 = .ok (.aload_n 0, 1) := by decide +kernel
theorem d_L_law_710 : decode cL_law 710 = .ok (.iload_n 3, 1) := by decide +kernel
theorem d_L_law_711 : decode cL_law 711 = .ok (.iconst 2, 1) := by decide +kernel
theorem d_L_law_712 : decode cL_law 712 = .ok (.iadd, 1) := by decide +kernel
theorem d_L_law_713 : decode cL_law 713 = .ok (.iaload, 1) := by decide +kernel
theorem d_L_law_714 : decode cL_law 714 = .ok (.invokevirtual 79, 3) := by decide +kernel
theorem d_L_law_717 : decode cL_law 717 = .ok (.if_icmp .eq 882, 3) := by decide +kernel
theorem d_L_law_720 : decode cL_law 720 = .ok (.iconst 0, 1) := by decide +kernel
theorem d_L_law_721 : decode cL_law 721 = .ok (.ireturn, 1) := by decide +kernel
theorem d_L_law_722 : decode cL_law 722 = .ok (.aload_n 1, 1) := by decide +kernel
theorem d_L_law_723 : decode cL_law 723 = .ok (.aload_n 0, 1) := by decide +kernel
theorem d_L_law_724 : decode cL_law 724 = .ok (.iload_n 3, 1) := by decide +kernel
theorem d_L_law_725 : decode cL_law 725 = .ok (.iconst 1, 1) := by decide +kernel
theorem d_L_law_726 : decode cL_law 726 = .ok (.iadd, 1) := by decide +kernel
theorem d_L_law_727 : decode cL_law 727 = .ok (.iaload, 1) := by decide +kernel
theorem d_L_law_728 : decode cL_law 728 = .ok (.invokevirtual 80, 3) := by decide +kernel
theorem d_L_law_731 : decode cL_law 731 = .ok (.aload_n 2, 1) := by decide +kernel
theorem d_L_law_732 : decode cL_law 732 = .ok (.aload_n 0, 1) := by decide +kernel
theorem d_L_law_733 : decode cL_law 733 = .ok (.iload_n 3, 1) := by decide +kernel
theorem d_L_law_734 : decode cL_law 734 = .ok (.iconst 1, 1) := by decide +kernel
theorem d_L_law_735 : decode cL_law 735 = .ok (.iadd, 1) := by decide +kernel
theorem d_L_law_736 : decode cL_law 736 = .ok (.iaload, 1) := by decide +kernel
theorem d_L_law_737 : decode cL_law 737 = .ok (.invokevirtual 83, 3) := by decide +kernel
theorem d_L_law_740 : decode cL_law 740 = .ok (.if_icmp .eq 859, 3) := by decide +kernel
theorem d_L_law_743 : decode cL_law 743 = .ok (.iconst 0, 1) := by decide +kernel
theorem d_L_law_744 : decode cL_law 744 = .ok (.ireturn, 1) := by decide +kernel
theorem d_L_law_745 : decode cL_law 745 = .ok (.aload_n 1, 1) := by decide +kernel
theorem d_L_law_746 : decode cL_law 746 = .ok (.aload_n 0, 1) := by decide +kernel
theorem d_L_law_747 : decode cL_law 747 = .ok (.iload_n 3, 1) := by decide +kernel
theorem d_L_law_748 : decode cL_law 748 = .ok (.iconst 1, 1) := by decide +kernel
theorem d_L_law_749 : decode cL_law 749 = .ok (.iadd, 1) := by decide +kernel
theorem d_L_law_750 : decode cL_law 750 = .ok (.iaload, 1) := by decide +kernel
theorem d_L_law_751 : decode cL_law 751 = .ok (.aload_n 0, 1) := by decide +kernel
theorem d_L_law_752 : decode cL_law 752 = .ok (.iload_n 3, 1) := by decide +kernel
theorem d_L_law_753 : decode cL_law 753 = .ok (.iconst 2, 1) := by decide +kernel
theorem d_L_law_754 : decode cL_law 754 = .ok (.iadd, 1) := by decide +kernel
theorem d_L_law_755 : decode cL_law 755 = .ok (.iaload, 1) := by decide +kernel
theorem d_L_law_756 : decode cL_law 756 = .ok (.invokevirtual 84, 3) := by decide +kernel
theorem d_L_law_759 : decode cL_law 759 = .ok (.aload_n 2, 1) := by decide +kernel
theorem d_L_law_760 : decode cL_law 760 = .ok (.aload_n 0, 1) := by decide +kernel
theorem d_L_law_761 : decode cL_law 761 = .ok (.iload_n 3, 1) := by decide +kernel
theorem d_L_law_762 : decode cL_law 762 = .ok (.iconst 1, 1) := by decide +kernel
theorem d_L_law_763 : decode cL_law 763 = .ok (.iadd, 1) := by decide +kernel
theorem d_L_law_764 : decode cL_law 764 = .ok (.iaload, 1) := by decide +kernel
theorem d_L_law_765 : decode cL_law 765 = .ok (.aload_n 0, 1) := by decide +kernel
theorem d_L_law_766 : decode cL_law 766 = .ok (.iload_n 3, 1) := by decide +kernel
theorem d_L_law_767 : decode cL_law 767 = .ok (.iconst 2, 1) := by decide +kernel
theorem d_L_law_768 : decode cL_law 768 = .ok (.iadd, 1) := by decide +kernel
theorem d_L_law_769 : decode cL_law 769 = .ok (.iaload, 1) := by decide +kernel
theorem d_L_law_770 : decode cL_law 770 = .ok (.invokevirtual 87, 3) := by decide +kernel
theorem d_L_law_773 : decode cL_law 773 = .ok (.if_icmp .eq 826, 3) := by decide +kernel
theorem d_L_law_776 : decode cL_law 776 = .ok (.iconst 0, 1) := by decide +kernel
theorem d_L_law_777 : decode cL_law 777 = .ok (.ireturn, 1) := by decide +kernel
theorem d_L_law_778 : decode cL_law 778 = .ok (.aload_n 1, 1) := by decide +kernel
theorem d_L_law_779 : decode cL_law 779 = .ok (.aload_n 0, 1) := by decide +kernel
theorem d_L_law_780 : decode cL_law 780 = .ok (.iload_n 3, 1) := by decide +kernel
theorem d_L_law_781 : decode cL_law 781 = .ok (.iconst 1, 1) := by decide +kernel
theorem d_L_law_782 : decode cL_law 782 = .ok (.iadd, 1) := by decide +kernel
theorem d_L_law_783 : decode cL_law 783 = .ok (.iaload, 1) := by decide +kernel
theorem d_L_law_784 : decode cL_law 784 = .ok (.aload_n 0, 1) := by decide +kernel
theorem d_L_law_785 : decode cL_law 785 = .ok (.iload_n 3, 1) := by decide +kernel
theorem d_L_law_786 : decode cL_law 786 = .ok (.iconst 2, 1) := by decide +kernel
theorem d_L_law_787 : decode cL_law 787 = .ok (.iadd, 1) := by decide +kernel
theorem d_L_law_788 : decode cL_law 788 = .ok (.iaload, 1) := by decide +kernel
theorem d_L_law_789 : decode cL_law 789 = .ok (.invokevirtual 88, 3) := by decide +kernel
theorem d_L_law_792 : decode cL_law 792 = .ok (.aload_n 2, 1) := by decide +kernel
theorem d_L_law_793 : decode cL_law 793 = .ok (.aload_n 0, 1) := by decide +kernel
theorem d_L_law_794 : decode cL_law 794 = .ok (.iload_n 3, 1) := by decide +kernel
theorem d_L_law_795 : decode cL_law 795 = .ok (.iconst 1, 1) := by decide +kernel
theorem d_L_law_796 : decode cL_law 796 = .ok (.iadd, 1) := by decide +kernel
theorem d_L_law_797 : decode cL_law 797 = .ok (.iaload, 1) := by decide +kernel
theorem d_L_law_798 : decode cL_law 798 = .ok (.aload_n 0, 1) := by decide +kernel
theorem d_L_law_799 : decode cL_law 799 = .ok (.iload_n 3, 1) := by decide +kernel
theorem d_L_law_800 : decode cL_law 800 = .ok (.iconst 2, 1) := by decide +kernel
theorem d_L_law_801 : decode cL_law 801 = .ok (.iadd, 1) := by decide +kernel
theorem d_L_law_802 : decode cL_law 802 = .ok (.iaload, 1) := by decide +kernel
theorem d_L_law_803 : decode cL_law 803 = .ok (.invokevirtual 91, 3) := by decide +kernel
theorem d_L_law_806 : decode cL_law 806 = .ok (.if_icmp .eq 793, 3) := by decide +kernel
theorem d_L_law_809 : decode cL_law 809 = .ok (.iconst 0, 1) := by decide +kernel
theorem d_L_law_810 : decode cL_law 810 = .ok (.ireturn, 1) := by decide +kernel
theorem d_L_law_811 : decode cL_law 811 = .ok (.aload_n 1, 1) := by decide +kernel
theorem d_L_law_812 : decode cL_law 812 = .ok (.aload_n 0, 1) := by decide +kernel
theorem d_L_law_813 : decode cL_law 813 = .ok (.iload_n 3, 1) := by decide +kernel
theorem d_L_law_814 : decode cL_law 814 = .ok (.iconst 1, 1) := by decide +kernel
theorem d_L_law_815 : decode cL_law 815 = .ok (.iadd, 1) := by decide +kernel
theorem d_L_law_816 : decode cL_law 816 = .ok (.iaload, 1) := by decide +kernel
theorem d_L_law_817 : decode cL_law 817 = .ok (.aload_n 0, 1) := by decide +kernel
theorem d_L_law_818 : decode cL_law 818 = .ok (.iload_n 3, 1) := by decide +kernel
theorem d_L_law_819 : decode cL_law 819 = .ok (.iconst 2, 1) := by decide +kernel
theorem d_L_law_820 : decode cL_law 820 = .ok (.iadd, 1) := by decide +kernel
theorem d_L_law_821 : decode cL_law 821 = .ok (.iaload, 1) := by decide +kernel
theorem d_L_law_822 : decode cL_law 822 = .ok (.invokevirtual 92, 3) := by decide +kernel
theorem d_L_law_825 : decode cL_law 825 = .ok (.aload_n 2, 1) := by decide +kernel
theorem d_L_law_826 : decode cL_law 826 = .ok (.aload_n 0, 1) := by decide +kernel
theorem d_L_law_827 : decode cL_law 827 = .ok (.iload_n 3, 1) := by decide +kernel
theorem d_L_law_828 : decode cL_law 828 = .ok (.iconst 1, 1) := by decide +kernel
theorem d_L_law_829 : decode cL_law 829 = .ok (.iadd, 1) := by decide +kernel
theorem d_L_law_830 : decode cL_law 830 = .ok (.iaload, 1) := by decide +kernel
theorem d_L_law_831 : decode cL_law 831 = .ok (.aload_n 0, 1) := by decide +kernel
theorem d_L_law_832 : decode cL_law 832 = .ok (.iload_n 3, 1) := by decide +kernel
theorem d_L_law_833 : decode cL_law 833 = .ok (.iconst 2, 1) := by decide +kernel
theorem d_L_law_834 : decode cL_law 834 = .ok (.iadd, 1) := by decide +kernel
theorem d_L_law_835 : decode cL_law 835 = .ok (.iaload, 1) := by decide +kernel
theorem d_L_law_836 : decode cL_law 836 = .ok (.invokevirtual 95, 3) := by decide +kernel
theorem d_L_law_839 : decode cL_law 839 = .ok (.if_icmp .eq 760, 3) := by decide +kernel
theorem d_L_law_842 : decode cL_law 842 = .ok (.iconst 0, 1) := by decide +kernel
theorem d_L_law_843 : decode cL_law 843 = .ok (.ireturn, 1) := by decide +kernel
theorem d_L_law_844 : decode cL_law 844 = .ok (.aload_n 1, 1) := by decide +kernel
theorem d_L_law_845 : decode cL_law 845 = .ok (.aload_n 0, 1) := by decide +kernel
theorem d_L_law_846 : decode cL_law 846 = .ok (.iload_n 3, 1) := by decide +kernel
theorem d_L_law_847 : decode cL_law 847 = .ok (.iconst 1, 1) := by decide +kernel
theorem d_L_law_848 : decode cL_law 848 = .ok (.iadd, 1) := by decide +kernel
theorem d_L_law_849 : decode cL_law 849 = .ok (.iaload, 1) := by decide +kernel
theorem d_L_law_850 : decode cL_law 850 = .ok (.invokevirtual 96, 3) := by decide +kernel
theorem d_L_law_853 : decode cL_law 853 = .ok (.aload_n 2, 1) := by decide +kernel
theorem d_L_law_854 : decode cL_law 854 = .ok (.aload_n 0, 1) := by decide +kernel
theorem d_L_law_855 : decode cL_law 855 = .ok (.iload_n 3, 1) := by decide +kernel
theorem d_L_law_856 : decode cL_law 856 = .ok (.iconst 1, 1) := by decide +kernel
theorem d_L_law_857 : decode cL_law 857 = .ok (.iadd, 1) := by decide +kernel
theorem d_L_law_858 : decode cL_law 858 = .ok (.iaload, 1) := by decide +kernel
theorem d_L_law_859 : decode cL_law 859 = .ok (.invokevirtual 99, 3) := by decide +kernel
theorem d_L_law_862 : decode cL_law 862 = .ok (.if_icmp .eq 737, 3) := by decide +kernel
theorem d_L_law_865 : decode cL_law 865 = .ok (.iconst 0, 1) := by decide +kernel
theorem d_L_law_866 : decode cL_law 866 = .ok (.ireturn, 1) := by decide +kernel
theorem d_L_law_867 : decode cL_law 867 = .ok (.aload_n 1, 1) := by decide +kernel
theorem d_L_law_868 : decode cL_law 868 = .ok (.aload_n 0, 1) := by decide +kernel
theorem d_L_law_869 : decode cL_law 869 = .ok (.iload_n 3, 1) := by decide +kernel
theorem d_L_law_870 : decode cL_law 870 = .ok (.iconst 1, 1) := by decide +kernel
theorem d_L_law_871 : decode cL_law 871 = .ok (.iadd, 1) := by decide +kernel
theorem d_L_law_872 : decode cL_law 872 = .ok (.iaload, 1) := by decide +kernel
theorem d_L_law_873 : decode cL_law 873 = .ok (.invokevirtual 100, 3) := by decide +kernel
theorem d_L_law_876 : decode cL_law 876 = .ok (.aload_n 2, 1) := by decide +kernel
theorem d_L_law_877 : decode cL_law 877 = .ok (.aload_n 0, 1) := by decide +kernel
theorem d_L_law_878 : decode cL_law 878 = .ok (.iload_n 3, 1) := by decide +kernel
theorem d_L_law_879 : decode cL_law 879 = .ok (.iconst 1, 1) := by decide +kernel
theorem d_L_law_880 : decode cL_law 880 = .ok (.iadd, 1) := by decide +kernel
theorem d_L_law_881 : decode cL_law 881 = .ok (.iaload, 1) := by decide +kernel
theorem d_L_law_882 : decode cL_law 882 = .ok (.invokevirtual 103, 3) := by decide +kernel
theorem d_L_law_885 : decode cL_law 885 = .ok (.if_icmp .eq 714, 3) := by decide +kernel
theorem d_L_law_888 : decode cL_law 888 = .ok (.iconst 0, 1) := by decide +kernel
theorem d_L_law_889 : decode cL_law 889 = .ok (.ireturn, 1) := by decide +kernel
theorem d_L_law_890 : decode cL_law 890 = .ok (.aload_n 1, 1) := by decide +kernel
theorem d_L_law_891 : decode cL_law 891 = .ok (.aload_n 0, 1) := by decide +kernel
theorem d_L_law_892 : decode cL_law 892 = .ok (.iload_n 3, 1) := by decide +kernel
theorem d_L_law_893 : decode cL_law 893 = .ok (.iconst 1, 1) := by decide +kernel
theorem d_L_law_894 : decode cL_law 894 = .ok (.iadd, 1) := by decide +kernel
theorem d_L_law_895 : decode cL_law 895 = .ok (.iaload, 1) := by decide +kernel
theorem d_L_law_896 : decode cL_law 896 = .ok (.invokevirtual 104, 3) := by decide +kernel
theorem d_L_law_899 : decode cL_law 899 = .ok (.aload_n 2, 1) := by decide +kernel
theorem d_L_law_900 : decode cL_law 900 = .ok (.aload_n 0, 1) := by decide +kernel
theorem d_L_law_901 : decode cL_law 901 = .ok (.iload_n 3, 1) := by decide +kernel
theorem d_L_law_902 : decode cL_law 902 = .ok (.iconst 1, 1) := by decide +kernel
theorem d_L_law_903 : decode cL_law 903 = .ok (.iadd, 1) := by decide +kernel
theorem d_L_law_904 : decode cL_law 904 = .ok (.iaload, 1) := by decide +kernel
theorem d_L_law_905 : decode cL_law 905 = .ok (.invokevirtual 107, 3) := by decide +kernel
theorem d_L_law_908 : decode cL_law 908 = .ok (.if_icmp .eq 691, 3) := by decide +kernel
theorem d_L_law_911 : decode cL_law 911 = .ok (.iconst 0, 1) := by decide +kernel
theorem d_L_law_912 : decode cL_law 912 = .ok (.ireturn, 1) := by decide +kernel
theorem d_L_law_913 : decode cL_law 913 = .ok (.aload_n 1, 1) := by decide +kernel
theorem d_L_law_914 : decode cL_law 914 = .ok (.aload_n 0, 1) := by decide +kernel
theorem d_L_law_915 : decode cL_law 915 = .ok (.iload_n 3, 1) := by decide +kernel
theorem d_L_law_916 : decode cL_law 916 = .ok (.iconst 1, 1) := by decide +kernel
theorem d_L_law_917 : decode cL_law 917 = .ok (.iadd, 1) := by decide +kernel
theorem d_L_law_918 : decode cL_law 918 = .ok (.iaload, 1) := by decide +kernel
theorem d_L_law_919 : decode cL_law 919 = .ok (.aload_n 0, 1) := by decide +kernel
theorem d_L_law_920 : decode cL_law 920 = .ok (.iload_n 3, 1) := by decide +kernel
theorem d_L_law_921 : decode cL_law 921 = .ok (.iconst 2, 1) := by decide +kernel
theorem d_L_law_922 : decode cL_law 922 = .ok (.iadd, 1) := by decide +kernel
theorem d_L_law_923 : decode cL_law 923 = .ok (.iaload, 1) := by decide +kernel
theorem d_L_law_924 : decode cL_law 924 = .ok (.aload_n 0, 1) := by decide +kernel
theorem d_L_law_925 : decode cL_law 925 = .ok (.iload_n 3, 1) := by decide +kernel
theorem d_L_law_926 : decode cL_law 926 = .ok (.iconst 3, 1) := by decide +kernel
theorem d_L_law_927 : decode cL_law 927 = .ok (.iadd, 1) := by decide +kernel
theorem d_L_law_928 : decode cL_law 928 = .ok (.iaload, 1) := by decide +kernel
theorem d_L_law_929 : decode cL_law 929 = .ok (.invokevirtual 108, 3) := by decide +kernel
theorem d_L_law_932 : decode cL_law 932 = .ok (.aload_n 2, 1) := by decide +kernel
theorem d_L_law_933 : decode cL_law 933 = .ok (.aload_n 0, 1) := by decide +kernel
theorem d_L_law_934 : decode cL_law 934 = .ok (.iload_n 3, 1) := by decide +kernel
theorem d_L_law_935 : decode cL_law 935 = .ok (.iconst 1, 1) := by decide +kernel
theorem d_L_law_936 : decode cL_law 936 = .ok (.iadd, 1) := by decide +kernel
theorem d_L_law_937 : decode cL_law 937 = .ok (.iaload, 1) := by decide +kernel
theorem d_L_law_938 : decode cL_law 938 = .ok (.aload_n 0, 1) := by decide +kernel
theorem d_L_law_939 : decode cL_law 939 = .ok (.iload_n 3, 1) := by decide +kernel
theorem d_L_law_940 : decode cL_law 940 = .ok (.iconst 2, 1) := by decide +kernel
theorem d_L_law_941 : decode cL_law 941 = .ok (.iadd, 1) := by decide +kernel
theorem d_L_law_942 : decode cL_law 942 = .ok (.iaload, 1) := by decide +kernel
theorem d_L_law_943 : decode cL_law 943 = .ok (.aload_n 0, 1) := by decide +kernel
theorem d_L_law_944 : decode cL_law 944 = .ok (.iload_n 3, 1) := by decide +kernel
theorem d_L_law_945 : decode cL_law 945 = .ok (.iconst 3, 1) := by decide +kernel
theorem d_L_law_946 : decode cL_law 946 = .ok (.iadd, 1) := by decide +kernel
theorem d_L_law_947 : decode cL_law 947 = .ok (.iaload, 1) := by decide +kernel
theorem d_L_law_948 : decode cL_law 948 = .ok (.invokevirtual 112, 3) := by decide +kernel
theorem d_L_law_951 : decode cL_law 951 = .ok (.if_icmp .eq 648, 3) := by decide +kernel
theorem d_L_law_954 : decode cL_law 954 = .ok (.iconst 0, 1) := by decide +kernel
theorem d_L_law_955 : decode cL_law 955 = .ok (.ireturn, 1) := by decide +kernel
theorem d_L_law_956 : decode cL_law 956 = .ok (.aload_n 1, 1) := by decide +kernel
theorem d_L_law_957 : decode cL_law 957 = .ok (.aload_n 0, 1) := by decide +kernel
theorem d_L_law_958 : decode cL_law 958 = .ok (.iload_n 3, 1) := by decide +kernel
theorem d_L_law_959 : decode cL_law 959 = .ok (.iconst 1, 1) := by decide +kernel
theorem d_L_law_960 : decode cL_law 960 = .ok (.iadd, 1) := by decide +kernel
theorem d_L_law_961 : decode cL_law 961 = .ok (.iaload, 1) := by decide +kernel
theorem d_L_law_962 : decode cL_law 962 = .ok (.aload_n 0, 1) := by decide +kernel
theorem d_L_law_963 : decode cL_law 963 = .ok (.iload_n 3, 1) := by decide +kernel
theorem d_L_law_964 : decode cL_law 964 = .ok (.iconst 2, 1) := by decide +kernel
theorem d_L_law_965 : decode cL_law 965 = .ok (.iadd, 1) := by decide +kernel
theorem d_L_law_966 : decode cL_law 966 = .ok (.iaload, 1) := by decide +kernel
theorem d_L_law_967 : decode cL_law 967 = .ok (.invokevirtual 113, 3) := by decide +kernel
theorem d_L_law_970 : decode cL_law 970 = .ok (.aload_n 2, 1) := by decide +kernel
theorem d_L_law_971 : decode cL_law 971 = .ok (.aload_n 0, 1) := by decide +kernel
theorem d_L_law_972 : decode cL_law 972 = .ok (.iload_n 3, 1) := by decide +kernel
theorem d_L_law_973 : decode cL_law 973 = .ok (.iconst 1, 1) := by decide +kernel
theorem d_L_law_974 : decode cL_law 974 = .ok (.iadd, 1) := by decide +kernel
theorem d_L_law_975 : decode cL_law 975 = .ok (.iaload, 1) := by decide +kernel
theorem d_L_law_976 : decode cL_law 976 = .ok (.aload_n 0, 1) := by decide +kernel
theorem d_L_law_977 : decode cL_law 977 = .ok (.iload_n 3, 1) := by decide +kernel
theorem d_L_law_978 : decode cL_law 978 = .ok (.iconst 2, 1) := by decide +kernel
theorem d_L_law_979 : decode cL_law 979 = .ok (.iadd, 1) := by decide +kernel
theorem d_L_law_980 : decode cL_law 980 = .ok (.iaload, 1) := by decide +kernel
theorem d_L_law_981 : decode cL_law 981 = .ok (.invokevirtual 116, 3) := by decide +kernel
theorem d_L_law_984 : decode cL_law 984 = .ok (.if_icmp .eq 615, 3) := by decide +kernel
theorem d_L_law_987 : decode cL_law 987 = .ok (.iconst 0, 1) := by decide +kernel
theorem d_L_law_988 : decode cL_law 988 = .ok (.ireturn, 1) := by decide +kernel
theorem d_L_law_989 : decode cL_law 989 = .ok (.aload_n 1, 1) := by decide +kernel
theorem d_L_law_990 : decode cL_law 990 = .ok (.aload_n 0, 1) := by decide +kernel
theorem d_L_law_991 : decode cL_law 991 = .ok (.iload_n 3, 1) := by decide +kernel
theorem d_L_law_992 : decode cL_law 992 = .ok (.iconst 1, 1) := by decide +kernel
theorem d_L_law_993 : decode cL_law 993 = .ok (.iadd, 1) := by decide +kernel
theorem d_L_law_994 : decode cL_law 994 = .ok (.iaload, 1) := by decide +kernel
theorem d_L_law_995 : decode cL_law 995 = .ok (.invokevirtual 117, 3) := by decide +kernel
theorem d_L_law_998 : decode cL_law 998 = .ok (.aload_n 2, 1) := by decide +kernel
theorem d_L_law_999 : decode cL_law 999 = .ok (.aload_n 0, 1) := by decide +kernel
theorem d_L_law_1000 : decode cL_law 1000 = .ok (.iload_n 3, 1) := by decide +kernel
theorem d_L_law_1001 : decode cL_law 1001 = .ok (.iconst 1, 1) := by decide +kernel
theorem d_L_law_1002 : decode cL_law 1002 = .ok (.iadd, 1) := by decide +kernel
theorem d_L_law_1003 : decode cL_law 1003 = .ok (.iaload, 1) := by decide +kernel
theorem d_L_law_1004 : decode cL_law 1004 = .ok (.invokevirtual 120, 3) := by decide +kernel
theorem d_L_law_1007 : decode cL_law 1007 = .ok (.if_icmp .eq 592, 3) := by decide +kernel
theorem d_L_law_1010 : decode cL_law 1010 = .ok (.iconst 0, 1) := by decide +kernel
theorem d_L_law_1011 : decode cL_law 1011 = .ok (.ireturn, 1) := by decide +kernel
theorem d_L_law_1012 : decode cL_law 1012 = .ok (.aload_n 1, 1) := by decide +kernel
theorem d_L_law_1013 : decode cL_law 1013 = .ok (.aload_n 0, 1) := by decide +kernel
theorem d_L_law_1014 : decode cL_law 1014 = .ok (.iload_n 3, 1) := by decide +kernel
theorem d_L_law_1015 : decode cL_law 1015 = .ok (.iconst 1, 1) := by decide +kernel
theorem d_L_law_1016 : decode cL_law 1016 = .ok (.iadd, 1) := by decide +kernel
theorem d_L_law_1017 : decode cL_law 1017 = .ok (.iaload, 1) := by decide +kernel
theorem d_L_law_1018 : decode cL_law 1018 = .ok (.aload_n 0, 1) := by decide +kernel
theorem d_L_law_1019 : decode cL_law 1019 = .ok (.iload_n 3, 1) := by decide +kernel
theorem d_L_law_1020 : decode cL_law 1020 = .ok (.iconst 2, 1) := by decide +kernel
theorem d_L_law_1021 : decode cL_law 1021 = .ok (.iadd, 1) := by decide +kernel
theorem d_L_law_1022 : decode cL_law 1022 = .ok (.iaload, 1) := by decide +kernel
theorem d_L_law_1023 : decode cL_law 1023 = .ok (.invokevirtual 121, 3) := by decide +kernel
theorem d_L_law_1026 : decode cL_law 1026 = .ok (.aload_n 2, 1) := by decide +kernel
theorem d_L_law_1027 : decode cL_law 1027 = .ok (.aload_n 0, 1) := by decide +kernel
theorem d_L_law_1028 : decode cL_law 1028 = .ok (.iload_n 3, 1) := by decide +kernel
theorem d_L_law_1029 : decode cL_law 1029 = .ok (.iconst 1, 1) := by decide +kernel
theorem d_L_law_1030 : decode cL_law 1030 = .ok (.iadd, 1) := by decide +kernel
theorem d_L_law_1031 : decode cL_law 1031 = .ok (.iaload, 1) := by decide +kernel
theorem d_L_law_1032 : decode cL_law 1032 = .ok (.aload_n 0, 1) := by decide +kernel
theorem d_L_law_1033 : decode cL_law 1033 = .ok (.iload_n 3, 1) := by decide +kernel
theorem d_L_law_1034 : decode cL_law 1034 = .ok (.iconst 2, 1) := by decide +kernel
theorem d_L_law_1035 : decode cL_law 1035 = .ok (.iadd, 1) := by decide +kernel
theorem d_L_law_1036 : decode cL_law 1036 = .ok (.iaload, 1) := by decide +kernel
theorem d_L_law_1037 : decode cL_law 1037 = .ok (.invokevirtual 124, 3) := by decide +kernel
theorem d_L_law_1040 : decode cL_law 1040 = .ok (.if_icmp .eq 559, 3) := by decide +kernel
theorem d_L_law_1043 : decode cL_law 1043 = .ok (.iconst 0, 1) := by decide +kernel
theorem d_L_law_1044 : decode cL_law 1044 = .ok (.ireturn, 1) := by decide +kernel
theorem d_L_law_1045 : decode cL_law 1045 = .ok (.aload_n 1, 1) := by decide +kernel
theorem d_L_law_1046 : decode cL_law 1046 = .ok (.aload_n 0, 1) := by decide +kernel
theorem d_L_law_1047 : decode cL_law 1047 = .ok (.iload_n 3, 1) := by decide +kernel
theorem d_L_law_1048 : decode cL_law 1048 = .ok (.iconst 1, 1) := by decide +kernel
theorem d_L_law_1049 : decode cL_law 1049 = .ok (.iadd, 1) := by decide +kernel
theorem d_L_law_1050 : decode cL_law 1050 = .ok (.iaload, 1) := by decide +kernel
theorem d_L_law_1051 : decode cL_law 1051 = .ok (.invokevirtual 125, 3) := by decide +kernel
theorem d_L_law_1054 : decode cL_law 1054 = .ok (.aload_n 2, 1) := by decide +kernel
theorem d_L_law_1055 : decode cL_law 1055 = .ok (.aload_n 0, 1) := by decide +kernel
theorem d_L_law_1056 : decode cL_law 1056 = .ok (.iload_n 3, 1) := by decide +kernel
theorem d_L_law_1057 : decode cL_law 1057 = .ok (.iconst 1, 1) := by decide +kernel
theorem d_L_law_1058 : decode cL_law 1058 = .ok (.iadd, 1) := by decide +kernel
theorem d_L_law_1059 : decode cL_law 1059 = .ok (.iaload, 1) := by decide +kernel
theorem d_L_law_1060 : decode cL_law 1060 = .ok (.invokevirtual 128, 3) := by decide +kernel
theorem d_L_law_1063 : decode cL_law 1063 = .ok (.if_icmp .eq 536, 3) := by decide +kernel
theorem d_L_law_1066 : decode cL_law 1066 = .ok (.iconst 0, 1) := by decide +kernel
theorem d_L_law_1067 : decode cL_law 1067 = .ok (.ireturn, 1) := by decide +kernel
theorem d_L_law_1068 : decode cL_law 1068 = .ok (.aload_n 1, 1) := by decide +kernel
theorem d_L_law_1069 : decode cL_law 1069 = .ok (.aload_n 0, 1) := by decide +kernel
theorem d_L_law_1070 : decode cL_law 1070 = .ok (.iload_n 3, 1) := by decide +kernel
theorem d_L_law_1071 : decode cL_law 1071 = .ok (.iconst 1, 1) := by decide +kernel
theorem d_L_law_1072 : decode cL_law 1072 = .ok (.iadd, 1) := by decide +kernel
theorem d_L_law_1073 : decode cL_law 1073 = .ok (.iaload, 1) := by decide +kernel
theorem d_L_law_1074 : decode cL_law 1074 = .ok (.aload_n 0, 1) := by decide +kernel
theorem d_L_law_1075 : decode cL_law 1075 = .ok (.iload_n 3, 1) := by decide +kernel
theorem d_L_law_1076 : decode cL_law 1076 = .ok (.iconst 2, 1) := by decide +kernel
theorem d_L_law_1077 : decode cL_law 1077 = .ok (.iadd, 1) := by decide +kernel
theorem d_L_law_1078 : decode cL_law 1078 = .ok (.iaload, 1) := by decide +kernel
theorem d_L_law_1079 : decode cL_law 1079 = .ok (.invokevirtual 129, 3) := by decide +kernel
theorem d_L_law_1082 : decode cL_law 1082 = .ok (.aload_n 2, 1) := by decide +kernel
theorem d_L_law_1083 : decode cL_law 1083 = .ok (.aload_n 0, 1) := by decide +kernel
theorem d_L_law_1084 : decode cL_law 1084 = .ok (.iload_n 3, 1) := by decide +kernel
theorem d_L_law_1085 : decode cL_law 1085 = .ok (.iconst 1, 1) := by decide +kernel
theorem d_L_law_1086 : decode cL_law 1086 = .ok (.iadd, 1) := by decide +kernel
theorem d_L_law_1087 : decode cL_law 1087 = .ok (.iaload, 1) := by decide +kernel
theorem d_L_law_1088 : decode cL_law 1088 = .ok (.aload_n 0, 1) := by decide +kernel
theorem d_L_law_1089 : decode cL_law 1089 = .ok (.iload_n 3, 1) := by decide +kernel
theorem d_L_law_1090 : decode cL_law 1090 = .ok (.iconst 2, 1) := by decide +kernel
theorem d_L_law_1091 : decode cL_law 1091 = .ok (.iadd, 1) := by decide +kernel
theorem d_L_law_1092 : decode cL_law 1092 = .ok (.iaload, 1) := by decide +kernel
theorem d_L_law_1093 : decode cL_law 1093 = .ok (.invokevirtual 132, 3) := by decide +kernel
theorem d_L_law_1096 : decode cL_law 1096 = .ok (.if_icmp .eq 503, 3) := by decide +kernel
theorem d_L_law_1099 : decode cL_law 1099 = .ok (.iconst 0, 1) := by decide +kernel
theorem d_L_law_1100 : decode cL_law 1100 = .ok (.ireturn, 1) := by decide +kernel
theorem d_L_law_1101 : decode cL_law 1101 = .ok (.aload_n 1, 1) := by decide +kernel
theorem d_L_law_1102 : decode cL_law 1102 = .ok (.aload_n 0, 1) := by decide +kernel
theorem d_L_law_1103 : decode cL_law 1103 = .ok (.iload_n 3, 1) := by decide +kernel
theorem d_L_law_1104 : decode cL_law 1104 = .ok (.iconst 1, 1) := by decide +kernel
theorem d_L_law_1105 : decode cL_law 1105 = .ok (.iadd, 1) := by decide +kernel
theorem d_L_law_1106 : decode cL_law 1106 = .ok (.iaload, 1) := by decide +kernel
theorem d_L_law_1107 : decode cL_law 1107 = .ok (.aload_n 0, 1) := by decide +kernel
theorem d_L_law_1108 : decode cL_law 1108 = .ok (.iload_n 3, 1) := by decide +kernel
theorem d_L_law_1109 : decode cL_law 1109 = .ok (.iconst 2, 1) := by decide +kernel
theorem d_L_law_1110 : decode cL_law 1110 = .ok (.iadd, 1) := by decide +kernel
theorem d_L_law_1111 : decode cL_law 1111 = .ok (.iaload, 1) := by decide +kernel
theorem d_L_law_1112 : decode cL_law 1112 = .ok (.invokevirtual 133, 3) := by decide +kernel
theorem d_L_law_1115 : decode cL_law 1115 = .ok (.aload_n 2, 1) := by decide +kernel
theorem d_L_law_1116 : decode cL_law 1116 = .ok (.aload_n 0, 1) := by decide +kernel
theorem d_L_law_1117 : decode cL_law 1117 = .ok (.iload_n 3, 1) := by decide +kernel
theorem d_L_law_1118 : decode cL_law 1118 = .ok (.iconst 1, 1) := by decide +kernel
theorem d_L_law_1119 : decode cL_law 1119 = .ok (.iadd, 1) := by decide +kernel
theorem d_L_law_1120 : decode cL_law 1120 = .ok (.iaload, 1) := by decide +kernel
theorem d_L_law_1121 : decode cL_law 1121 = .ok (.aload_n 0, 1) := by decide +kernel
theorem d_L_law_1122 : decode cL_law 1122 = .ok (.iload_n 3, 1) := by decide +kernel
theorem d_L_law_1123 : decode cL_law 1123 = .ok (.iconst 2, 1) := by decide +kernel
theorem d_L_law_1124 : decode cL_law 1124 = .ok (.iadd, 1) := by decide +kernel
theorem d_L_law_1125 : decode cL_law 1125 = .ok (.iaload, 1) := by decide +kernel
theorem d_L_law_1126 : decode cL_law 1126 = .ok (.invokevirtual 136, 3) := by decide +kernel
theorem d_L_law_1129 : decode cL_law 1129 = .ok (.if_icmp .eq 470, 3) := by decide +kernel
theorem d_L_law_1132 : decode cL_law 1132 = .ok (.iconst 0, 1) := by decide +kernel
theorem d_L_law_1133 : decode cL_law 1133 = .ok (.ireturn, 1) := by decide +kernel
theorem d_L_law_1134 : decode cL_law 1134 = .ok (.aload_n 1, 1) := by decide +kernel
theorem d_L_law_1135 : decode cL_law 1135 = .ok (.aload_n 0, 1) := by decide +kernel
theorem d_L_law_1136 : decode cL_law 1136 = .ok (.iload_n 3, 1) := by decide +kernel
theorem d_L_law_1137 : decode cL_law 1137 = .ok (.iconst 1, 1) := by decide +kernel
theorem d_L_law_1138 : decode cL_law 1138 = .ok (.iadd, 1) := by decide +kernel
theorem d_L_law_1139 : decode cL_law 1139 = .ok (.iaload, 1) := by decide +kernel
theorem d_L_law_1140 : decode cL_law 1140 = .ok (.aload_n 0, 1) := by decide +kernel
theorem d_L_law_1141 : decode cL_law 1141 = .ok (.iload_n 3, 1) := by decide +kernel
theorem d_L_law_1142 : decode cL_law 1142 = .ok (.iconst 2, 1) := by decide +kernel
theorem d_L_law_1143 : decode cL_law 1143 = .ok (.iadd, 1) := by decide +kernel
theorem d_L_law_1144 : decode cL_law 1144 = .ok (.iaload, 1) := by decide +kernel
theorem d_L_law_1145 : decode cL_law 1145 = .ok (.aload_n 0, 1) := by decide +kernel
theorem d_L_law_1146 : decode cL_law 1146 = .ok (.iload_n 3, 1) := by decide +kernel
theorem d_L_law_1147 : decode cL_law 1147 = .ok (.iconst 3, 1) := by decide +kernel
theorem d_L_law_1148 : decode cL_law 1148 = .ok (.iadd, 1) := by decide +kernel
theorem d_L_law_1149 : decode cL_law 1149 = .ok (.iaload, 1) := by decide +kernel
theorem d_L_law_1150 : decode cL_law 1150 = .ok (.invokevirtual 137, 3) := by decide +kernel
theorem d_L_law_1153 : decode cL_law 1153 = .ok (.aload_n 2, 1) := by decide +kernel
theorem d_L_law_1154 : decode cL_law 1154 = .ok (.aload_n 0, 1) := by decide +kernel
theorem d_L_law_1155 : decode cL_law 1155 = .ok (.iload_n 3, 1) := by decide +kernel
theorem d_L_law_1156 : decode cL_law 1156 = .ok (.iconst 1, 1) := by decide +kernel
theorem d_L_law_1157 : decode cL_law 1157 = .ok (.iadd, 1) := by decide +kernel
theorem d_L_law_1158 : decode cL_law 1158 = .ok (.iaload, 1) := by decide +kernel
theorem d_L_law_1159 : decode cL_law 1159 = .ok (.aload_n 0, 1) := by decide +kernel
theorem d_L_law_1160 : decode cL_law 1160 = .ok (.iload_n 3, 1) := by decide +kernel
theorem d_L_law_1161 : decode cL_law 1161 = .ok (.iconst 2, 1) := by decide +kernel
theorem d_L_law_1162 : decode cL_law 1162 = .ok (.iadd, 1) := by decide +kernel
theorem d_L_law_1163 : decode cL_law 1163 = .ok (.iaload, 1) := by decide +kernel
theorem d_L_law_1164 : decode cL_law 1164 = .ok (.aload_n 0, 1) := by decide +kernel
theorem d_L_law_1165 : decode cL_law 1165 = .ok (.iload_n 3, 1) := by decide +kernel
theorem d_L_law_1166 : decode cL_law 1166 = .ok (.iconst 3, 1) := by decide +kernel
theorem d_L_law_1167 : decode cL_law 1167 = .ok (.iadd, 1) := by decide +kernel
theorem d_L_law_1168 : decode cL_law 1168 = .ok (.iaload, 1) := by decide +kernel
theorem d_L_law_1169 : decode cL_law 1169 = .ok (.invokevirtual 140, 3) := by decide +kernel
theorem d_L_law_1172 : decode cL_law 1172 = .ok (.if_icmp .eq 427, 3) := by decide +kernel
theorem d_L_law_1175 : decode cL_law 1175 = .ok (.iconst 0, 1) := by decide +kernel
theorem d_L_law_1176 : decode cL_law 1176 = .ok (.ireturn, 1) := by decide +kernel
theorem d_L_law_1177 : decode cL_law 1177 = .ok (.aload_n 1, 1) := by decide +kernel
theorem d_L_law_1178 : decode cL_law 1178 = .ok (.aload_n 0, 1) := by decide +kernel
theorem d_L_law_1179 : decode cL_law 1179 = .ok (.iload_n 3, 1) := by decide +kernel
theorem d_L_law_1180 : decode cL_law 1180 = .ok (.iconst 1, 1) := by decide +kernel
theorem d_L_law_1181 : decode cL_law 1181 = .ok (.iadd, 1) := by decide +kernel
theorem d_L_law_1182 : decode cL_law 1182 = .ok (.iaload, 1) := by decide +kernel
theorem d_L_law_1183 : decode cL_law 1183 = .ok (.aload_n 0, 1) := by decide +kernel
theorem d_L_law_1184 : decode cL_law 1184 = .ok (.iload_n 3, 1) := by decide +kernel
theorem d_L_law_1185 : decode cL_law 1185 = .ok (.iconst 2, 1) := by decide +kernel
theorem d_L_law_1186 : decode cL_law 1186 = .ok (.iadd, 1) := by decide +kernel
theorem d_L_law_1187 : decode cL_law 1187 = .ok (.iaload, 1) := by decide +kernel
theorem d_L_law_1188 : decode cL_law 1188 = .ok (.invokevirtual 141, 3) := by decide +kernel
theorem d_L_law_1191 : decode cL_law 1191 = .ok (.aload_n 2, 1) := by decide +kernel
theorem d_L_law_1192 : decode cL_law 1192 = .ok (.aload_n 0, 1) := by decide +kernel
theorem d_L_law_1193 : decode cL_law 1193 = .ok (.iload_n 3, 1) := by decide +kernel
theorem d_L_law_1194 : decode cL_law 1194 = .ok (.iconst 1, 1) := by decide +kernel
theorem d_L_law_1195 : decode cL_law 1195 = .ok (.iadd, 1) := by decide +kernel
theorem d_L_law_1196 : decode cL_law 1196 = .ok (.iaload, 1) := by decide +kernel
theorem d_L_law_1197 : decode cL_law 1197 = .ok (.aload_n 0, 1) := by decide +kernel
theorem d_L_law_1198 : decode cL_law 1198 = .ok (.iload_n 3, 1) := by decide +kernel
theorem d_L_law_1199 : decode cL_law 1199 = .ok (.iconst 2, 1) := by decide +kernel
theorem d_L_law_1200 : decode cL_law 1200 = .ok (.iadd, 1) := by decide +kernel
theorem d_L_law_1201 : decode cL_law 1201 = .ok (.iaload, 1) := by decide +kernel
theorem d_L_law_1202 : decode cL_law 1202 = .ok (.invokevirtual 145, 3) := by decide +kernel
theorem d_L_law_1205 : decode cL_law 1205 = .ok (.lcmp, 1) := by decide +kernel
theorem d_L_law_1206 : decode cL_law 1206 = .ok (.ifCond .eq 393, 3) := by decide +kernel
theorem d_L_law_1209 : decode cL_law 1209 = .ok (.iconst 0, 1) := by decide +kernel
theorem d_L_law_1210 : decode cL_law 1210 = .ok (.ireturn, 1) := by decide +kernel
theorem d_L_law_1211 : decode cL_law 1211 = .ok (.aload_n 1, 1) := by decide +kernel
theorem d_L_law_1212 : decode cL_law 1212 = .ok (.aload_n 0, 1) := by decide +kernel
theorem d_L_law_1213 : decode cL_law 1213 = .ok (.iload_n 3, 1) := by decide +kernel
theorem d_L_law_1214 : decode cL_law 1214 = .ok (.iconst 1, 1) := by decide +kernel
theorem d_L_law_1215 : decode cL_law 1215 = .ok (.iadd, 1) := by decide +kernel
theorem d_L_law_1216 : decode cL_law 1216 = .ok (.iaload, 1) := by decide +kernel
theorem d_L_law_1217 : decode cL_law 1217 = .ok (.invokevirtual 146, 3) := by decide +kernel
theorem d_L_law_1220 : decode cL_law 1220 = .ok (.aload_n 2, 1) := by decide +kernel
theorem d_L_law_1221 : decode cL_law 1221 = .ok (.aload_n 0, 1) := by decide +kernel
theorem d_L_law_1222 : decode cL_law 1222 = .ok (.iload_n 3, 1) := by decide +kernel
theorem d_L_law_1223 : decode cL_law 1223 = .ok (.iconst 1, 1) := by decide +kernel
theorem d_L_law_1224 : decode cL_law 1224 = .ok (.iadd, 1) := by decide +kernel
theorem d_L_law_1225 : decode cL_law 1225 = .ok (.iaload, 1) := by decide +kernel
theorem d_L_law_1226 : decode cL_law 1226 = .ok (.invokevirtual 149, 3) := by decide +kernel
theorem d_L_law_1229 : decode cL_law 1229 = .ok (.if_icmp .eq 370, 3) := by decide +kernel
theorem d_L_law_1232 : decode cL_law 1232 = .ok (.iconst 0, 1) := by decide +kernel
theorem d_L_law_1233 : decode cL_law 1233 = .ok (.ireturn, 1) := by decide +kernel
theorem d_L_law_1234 : decode cL_law 1234 = .ok (.aload_n 1, 1) := by decide +kernel
theorem d_L_law_1235 : decode cL_law 1235 = .ok (.aload_n 0, 1) := by decide +kernel
theorem d_L_law_1236 : decode cL_law 1236 = .ok (.iload_n 3, 1) := by decide +kernel
theorem d_L_law_1237 : decode cL_law 1237 = .ok (.iconst 1, 1) := by decide +kernel
theorem d_L_law_1238 : decode cL_law 1238 = .ok (.iadd, 1) := by decide +kernel
theorem d_L_law_1239 : decode cL_law 1239 = .ok (.iaload, 1) := by decide +kernel
theorem d_L_law_1240 : decode cL_law 1240 = .ok (.aload_n 0, 1) := by decide +kernel
theorem d_L_law_1241 : decode cL_law 1241 = .ok (.iload_n 3, 1) := by decide +kernel
theorem d_L_law_1242 : decode cL_law 1242 = .ok (.iconst 2, 1) := by decide +kernel
theorem d_L_law_1243 : decode cL_law 1243 = .ok (.iadd, 1) := by decide +kernel
theorem d_L_law_1244 : decode cL_law 1244 = .ok (.iaload, 1) := by decide +kernel
theorem d_L_law_1245 : decode cL_law 1245 = .ok (.invokevirtual 150, 3) := by decide +kernel
theorem d_L_law_1248 : decode cL_law 1248 = .ok (.aload_n 2, 1) := by decide +kernel
theorem d_L_law_1249 : decode cL_law 1249 = .ok (.aload_n 0, 1) := by decide +kernel
theorem d_L_law_1250 : decode cL_law 1250 = .ok (.iload_n 3, 1) := by decide +kernel
theorem d_L_law_1251 : decode cL_law 1251 = .ok (.iconst 1, 1) := by decide +kernel
theorem d_L_law_1252 : decode cL_law 1252 = .ok (.iadd, 1) := by decide +kernel
theorem d_L_law_1253 : decode cL_law 1253 = .ok (.iaload, 1) := by decide +kernel
theorem d_L_law_1254 : decode cL_law 1254 = .ok (.aload_n 0, 1) := by decide +kernel
theorem d_L_law_1255 : decode cL_law 1255 = .ok (.iload_n 3, 1) := by decide +kernel
theorem d_L_law_1256 : decode cL_law 1256 = .ok (.iconst 2, 1) := by decide +kernel
theorem d_L_law_1257 : decode cL_law 1257 = .ok (.iadd, 1) := by decide +kernel
theorem d_L_law_1258 : decode cL_law 1258 = .ok (.iaload, 1) := by decide +kernel
theorem d_L_law_1259 : decode cL_law 1259 = .ok (.invokevirtual 153, 3) := by decide +kernel
theorem d_L_law_1262 : decode cL_law 1262 = .ok (.if_icmp .eq 337, 3) := by decide +kernel
theorem d_L_law_1265 : decode cL_law 1265 = .ok (.iconst 0, 1) := by decide +kernel
theorem d_L_law_1266 : decode cL_law 1266 = .ok (.ireturn, 1) := by decide +kernel
theorem d_L_law_1267 : decode cL_law 1267 = .ok (.aload_n 1, 1) := by decide +kernel
theorem d_L_law_1268 : decode cL_law 1268 = .ok (.invokevirtual 154, 3) := by decide +kernel
theorem d_L_law_1271 : decode cL_law 1271 = .ok (.aload_n 2, 1) := by decide +kernel
theorem d_L_law_1272 : decode cL_law 1272 = .ok (.invokevirtual 158, 3) := by decide +kernel
theorem d_L_law_1275 : decode cL_law 1275 = .ok (.if_icmp .eq 324, 3) := by decide +kernel
theorem d_L_law_1278 : decode cL_law 1278 = .ok (.iconst 0, 1) := by decide +kernel
theorem d_L_law_1279 : decode cL_law 1279 = .ok (.ireturn, 1) := by decide +kernel
theorem d_L_law_1280 : decode cL_law 1280 = .ok (.aload_n 1, 1) := by decide +kernel
theorem d_L_law_1281 : decode cL_law 1281 = .ok (.aload_n 0, 1) := by decide +kernel
theorem d_L_law_1282 : decode cL_law 1282 = .ok (.iload_n 3, 1) := by decide +kernel
theorem d_L_law_1283 : decode cL_law 1283 = .ok (.iconst 1, 1) := by decide +kernel
theorem d_L_law_1284 : decode cL_law 1284 = .ok (.iadd, 1) := by decide +kernel
theorem d_L_law_1285 : decode cL_law 1285 = .ok (.iaload, 1) := by decide +kernel
theorem d_L_law_1286 : decode cL_law 1286 = .ok (.aload_n 0, 1) := by decide +kernel
theorem d_L_law_1287 : decode cL_law 1287 = .ok (.iload_n 3, 1) := by decide +kernel
theorem d_L_law_1288 : decode cL_law 1288 = .ok (.iconst 2, 1) := by decide +kernel
theorem d_L_law_1289 : decode cL_law 1289 = .ok (.iadd, 1) := by decide +kernel
theorem d_L_law_1290 : decode cL_law 1290 = .ok (.iaload, 1) := by decide +kernel
theorem d_L_law_1291 : decode cL_law 1291 = .ok (.invokevirtual 159, 3) := by decide +kernel
theorem d_L_law_1294 : decode cL_law 1294 = .ok (.aload_n 2, 1) := by decide +kernel
theorem d_L_law_1295 : decode cL_law 1295 = .ok (.aload_n 0, 1) := by decide +kernel
theorem d_L_law_1296 : decode cL_law 1296 = .ok (.iload_n 3, 1) := by decide +kernel
theorem d_L_law_1297 : decode cL_law 1297 = .ok (.iconst 1, 1) := by decide +kernel
theorem d_L_law_1298 : decode cL_law 1298 = .ok (.iadd, 1) := by decide +kernel
theorem d_L_law_1299 : decode cL_law 1299 = .ok (.iaload, 1) := by decide +kernel
theorem d_L_law_1300 : decode cL_law 1300 = .ok (.aload_n 0, 1) := by decide +kernel
theorem d_L_law_1301 : decode cL_law 1301 = .ok (.iload_n 3, 1) := by decide +kernel
theorem d_L_law_1302 : decode cL_law 1302 = .ok (.iconst 2, 1) := by decide +kernel
theorem d_L_law_1303 : decode cL_law 1303 = .ok (.iadd, 1) := by decide +kernel
theorem d_L_law_1304 : decode cL_law 1304 = .ok (.iaload, 1) := by decide +kernel
theorem d_L_law_1305 : decode cL_law 1305 = .ok (.invokevirtual 162, 3) := by decide +kernel
theorem d_L_law_1308 : decode cL_law 1308 = .ok (.if_icmp .eq 291, 3) := by decide +kernel
theorem d_L_law_1311 : decode cL_law 1311 = .ok (.iconst 0, 1) := by decide +kernel
theorem d_L_law_1312 : decode cL_law 1312 = .ok (.ireturn, 1) := by decide +kernel
theorem d_L_law_1313 : decode cL_law 1313 = .ok (.aload_n 1, 1) := by decide +kernel
theorem d_L_law_1314 : decode cL_law 1314 = .ok (.aload_n 0, 1) := by decide +kernel
theorem d_L_law_1315 : decode cL_law 1315 = .ok (.iload_n 3, 1) := by decide +kernel
theorem d_L_law_1316 : decode cL_law 1316 = .ok (.iconst 1, 1) := by decide +kernel
theorem d_L_law_1317 : decode cL_law 1317 = .ok (.iadd, 1) := by decide +kernel
theorem d_L_law_1318 : decode cL_law 1318 = .ok (.iaload, 1) := by decide +kernel
theorem d_L_law_1319 : decode cL_law 1319 = .ok (.aload_n 0, 1) := by decide +kernel
theorem d_L_law_1320 : decode cL_law 1320 = .ok (.iload_n 3, 1) := by decide +kernel
theorem d_L_law_1321 : decode cL_law 1321 = .ok (.iconst 2, 1) := by decide +kernel
theorem d_L_law_1322 : decode cL_law 1322 = .ok (.iadd, 1) := by decide +kernel
theorem d_L_law_1323 : decode cL_law 1323 = .ok (.iaload, 1) := by decide +kernel
theorem d_L_law_1324 : decode cL_law 1324 = .ok (.aload_n 0, 1) := by decide +kernel
theorem d_L_law_1325 : decode cL_law 1325 = .ok (.iload_n 3, 1) := by decide +kernel
theorem d_L_law_1326 : decode cL_law 1326 = .ok (.iconst 3, 1) := by decide +kernel
theorem d_L_law_1327 : decode cL_law 1327 = .ok (.iadd, 1) := by decide +kernel
theorem d_L_law_1328 : decode cL_law 1328 = .ok (.iaload, 1) := by decide +kernel
theorem d_L_law_1329 : decode cL_law 1329 = .ok (.invokevirtual 163, 3) := by decide +kernel
theorem d_L_law_1332 : decode cL_law 1332 = .ok (.aload_n 2, 1) := by decide +kernel
theorem d_L_law_1333 : decode cL_law 1333 = .ok (.aload_n 0, 1) := by decide +kernel
theorem d_L_law_1334 : decode cL_law 1334 = .ok (.iload_n 3, 1) := by decide +kernel
theorem d_L_law_1335 : decode cL_law 1335 = .ok (.iconst 1, 1) := by decide +kernel
theorem d_L_law_1336 : decode cL_law 1336 = .ok (.iadd, 1) := by decide +kernel
theorem d_L_law_1337 : decode cL_law 1337 = .ok (.iaload, 1) := by decide +kernel
theorem d_L_law_1338 : decode cL_law 1338 = .ok (.aload_n 0, 1) := by decide +kernel
theorem d_L_law_1339 : decode cL_law 1339 = .ok (.iload_n 3, 1) := by decide +kernel
theorem d_L_law_1340 : decode cL_law 1340 = .ok (.iconst 2, 1) := by decide +kernel
theorem d_L_law_1341 : decode cL_law 1341 = .ok (.iadd, 1) := by decide +kernel
theorem d_L_law_1342 : decode cL_law 1342 = .ok (.iaload, 1) := by decide +kernel
theorem d_L_law_1343 : decode cL_law 1343 = .ok (.aload_n 0, 1) := by decide +kernel
theorem d_L_law_1344 : decode cL_law 1344 = .ok (.iload_n 3, 1) := by decide +kernel
theorem d_L_law_1345 : decode cL_law 1345 = .ok (.iconst 3, 1) := by decide +kernel
theorem d_L_law_1346 : decode cL_law 1346 = .ok (.iadd, 1) := by decide +kernel
theorem d_L_law_1347 : decode cL_law 1347 = .ok (.iaload, 1) := by decide +kernel
theorem d_L_law_1348 : decode cL_law 1348 = .ok (.invokevirtual 167, 3) := by decide +kernel
theorem d_L_law_1351 : decode cL_law 1351 = .ok (.lcmp, 1) := by decide +kernel
theorem d_L_law_1352 : decode cL_law 1352 = .ok (.ifCond .eq 247, 3) := by decide +kernel
theorem d_L_law_1355 : decode cL_law 1355 = .ok (.iconst 0, 1) := by decide +kernel
theorem d_L_law_1356 : decode cL_law 1356 = .ok (.ireturn, 1) := by decide +kernel
theorem d_L_law_1357 : decode cL_law 1357 = .ok (.aload_n 1, 1) := by decide +kernel
theorem d_L_law_1358 : decode cL_law 1358 = .ok (.aload_n 0, 1) := by decide +kernel
theorem d_L_law_1359 : decode cL_law 1359 = .ok (.iload_n 3, 1) := by decide +kernel
theorem d_L_law_1360 : decode cL_law 1360 = .ok (.iconst 1, 1) := by decide +kernel
theorem d_L_law_1361 : decode cL_law 1361 = .ok (.iadd, 1) := by decide +kernel
theorem d_L_law_1362 : decode cL_law 1362 = .ok (.iaload, 1) := by decide +kernel
theorem d_L_law_1363 : decode cL_law 1363 = .ok (.invokevirtual 168, 3) := by decide +kernel
theorem d_L_law_1366 : decode cL_law 1366 = .ok (.aload_n 2, 1) := by decide +kernel
theorem d_L_law_1367 : decode cL_law 1367 = .ok (.aload_n 0, 1) := by decide +kernel
theorem d_L_law_1368 : decode cL_law 1368 = .ok (.iload_n 3, 1) := by decide +kernel
theorem d_L_law_1369 : decode cL_law 1369 = .ok (.iconst 1, 1) := by decide +kernel
theorem d_L_law_1370 : decode cL_law 1370 = .ok (.iadd, 1) := by decide +kernel
theorem d_L_law_1371 : decode cL_law 1371 = .ok (.iaload, 1) := by decide +kernel
theorem d_L_law_1372 : decode cL_law 1372 = .ok (.invokevirtual 171, 3) := by decide +kernel
theorem d_L_law_1375 : decode cL_law 1375 = .ok (.if_icmp .eq 224, 3) := by decide +kernel
theorem d_L_law_1378 : decode cL_law 1378 = .ok (.iconst 0, 1) := by decide +kernel
theorem d_L_law_1379 : decode cL_law 1379 = .ok (.ireturn, 1) := by decide +kernel
theorem d_L_law_1380 : decode cL_law 1380 = .ok (.aload_n 1, 1) := by decide +kernel
theorem d_L_law_1381 : decode cL_law 1381 = .ok (.aload_n 0, 1) := by decide +kernel
theorem d_L_law_1382 : decode cL_law 1382 = .ok (.iload_n 3, 1) := by decide +kernel
theorem d_L_law_1383 : decode cL_law 1383 = .ok (.iconst 1, 1) := by decide +kernel
theorem d_L_law_1384 : decode cL_law 1384 = .ok (.iadd, 1) := by decide +kernel
theorem d_L_law_1385 : decode cL_law 1385 = .ok (.iaload, 1) := by decide +kernel
theorem d_L_law_1386 : decode cL_law 1386 = .ok (.aload_n 0, 1) := by decide +kernel
theorem d_L_law_1387 : decode cL_law 1387 = .ok (.iload_n 3, 1) := by decide +kernel
theorem d_L_law_1388 : decode cL_law 1388 = .ok (.iconst 2, 1) := by decide +kernel
theorem d_L_law_1389 : decode cL_law 1389 = .ok (.iadd, 1) := by decide +kernel
theorem d_L_law_1390 : decode cL_law 1390 = .ok (.iaload, 1) := by decide +kernel
theorem d_L_law_1391 : decode cL_law 1391 = .ok (.aload_n 0, 1) := by decide +kernel
theorem d_L_law_1392 : decode cL_law 1392 = .ok (.iload_n 3, 1) := by decide +kernel
theorem d_L_law_1393 : decode cL_law 1393 = .ok (.iconst 3, 1) := by decide +kernel
theorem d_L_law_1394 : decode cL_law 1394 = .ok (.iadd, 1) := by decide +kernel
theorem d_L_law_1395 : decode cL_law 1395 = .ok (.iaload, 1) := by decide +kernel
theorem d_L_law_1396 : decode cL_law 1396 = .ok (.invokevirtual 172, 3) := by decide +kernel
theorem d_L_law_1399 : decode cL_law 1399 = .ok (.aload_n 2, 1) := by decide +kernel
theorem d_L_law_1400 : decode cL_law 1400 = .ok (.aload_n 0, 1) := by decide +kernel
theorem d_L_law_1401 : decode cL_law 1401 = .ok (.iload_n 3, 1) := by decide +kernel
theorem d_L_law_1402 : decode cL_law 1402 = .ok (.iconst 1, 1) := by decide +kernel
theorem d_L_law_1403 : decode cL_law 1403 = .ok (.iadd, 1) := by decide +kernel
theorem d_L_law_1404 : decode cL_law 1404 = .ok (.iaload, 1) := by decide +kernel
theorem d_L_law_1405 : decode cL_law 1405 = .ok (.aload_n 0, 1) := by decide +kernel
theorem d_L_law_1406 : decode cL_law 1406 = .ok (.iload_n 3, 1) := by decide +kernel
theorem d_L_law_1407 : decode cL_law 1407 = .ok (.iconst 2, 1) := by decide +kernel
theorem d_L_law_1408 : decode cL_law 1408 = .ok (.iadd, 1) := by decide +kernel
theorem d_L_law_1409 : decode cL_law 1409 = .ok (.iaload, 1) := by decide +kernel
theorem d_L_law_1410 : decode cL_law 1410 = .ok (.aload_n 0, 1) := by decide +kernel
theorem d_L_law_1411 : decode cL_law 1411 = .ok (.iload_n 3, 1) := by decide +kernel
theorem d_L_law_1412 : decode cL_law 1412 = .ok (.iconst 3, 1) := by decide +kernel
theorem d_L_law_1413 : decode cL_law 1413 = .ok (.iadd, 1) := by decide +kernel
theorem d_L_law_1414 : decode cL_law 1414 = .ok (.iaload, 1) := by decide +kernel
theorem d_L_law_1415 : decode cL_law 1415 = .ok (.invokevirtual 175, 3) := by decide +kernel
theorem d_L_law_1418 : decode cL_law 1418 = .ok (.if_icmp .eq 181, 3) := by decide +kernel
theorem d_L_law_1421 : decode cL_law 1421 = .ok (.iconst 0, 1) := by decide +kernel
theorem d_L_law_1422 : decode cL_law 1422 = .ok (.ireturn, 1) := by decide +kernel
theorem d_L_law_1423 : decode cL_law 1423 = .ok (.aload_n 1, 1) := by decide +kernel
theorem d_L_law_1424 : decode cL_law 1424 = .ok (.aload_n 0, 1) := by decide +kernel
theorem d_L_law_1425 : decode cL_law 1425 = .ok (.iload_n 3, 1) := by decide +kernel
theorem d_L_law_1426 : decode cL_law 1426 = .ok (.iconst 1, 1) := by decide +kernel
theorem d_L_law_1427 : decode cL_law 1427 = .ok (.iadd, 1) := by decide +kernel
theorem d_L_law_1428 : decode cL_law 1428 = .ok (.iaload, 1) := by decide +kernel
theorem d_L_law_1429 : decode cL_law 1429 = .ok (.aload_n 0, 1) := by decide +kernel
theorem d_L_law_1430 : decode cL_law 1430 = .ok (.iload_n 3, 1) := by decide +kernel
theorem d_L_law_1431 : decode cL_law 1431 = .ok (.iconst 2, 1) := by decide +kernel
theorem d_L_law_1432 : decode cL_law 1432 = .ok (.iadd, 1) := by decide +kernel
theorem d_L_law_1433 : decode cL_law 1433 = .ok (.iaload, 1) := by decide +kernel
theorem d_L_law_1434 : decode cL_law 1434 = .ok (.aload_n 0, 1) := by decide +kernel
theorem d_L_law_1435 : decode cL_law 1435 = .ok (.iload_n 3, 1) := by decide +kernel
theorem d_L_law_1436 : decode cL_law 1436 = .ok (.iconst 3, 1) := by decide +kernel
theorem d_L_law_1437 : decode cL_law 1437 = .ok (.iadd, 1) := by decide +kernel
theorem d_L_law_1438 : decode cL_law 1438 = .ok (.iaload, 1) := by decide +kernel
theorem d_L_law_1439 : decode cL_law 1439 = .ok (.i2l, 1) := by decide +kernel
theorem d_L_law_1440 : decode cL_law 1440 = .ok (.bipush 32, 2) := by decide +kernel
theorem d_L_law_1442 : decode cL_law 1442 = .ok (.lshl, 1) := by decide +kernel
theorem d_L_law_1443 : decode cL_law 1443 = .ok (.aload_n 0, 1) := by decide +kernel
theorem d_L_law_1444 : decode cL_law 1444 = .ok (.iload_n 3, 1) := by decide +kernel
theorem d_L_law_1445 : decode cL_law 1445 = .ok (.iconst 4, 1) := by decide +kernel
theorem d_L_law_1446 : decode cL_law 1446 = .ok (.iadd, 1) := by decide +kernel
theorem d_L_law_1447 : decode cL_law 1447 = .ok (.iaload, 1) := by decide +kernel
theorem d_L_law_1448 : decode cL_law 1448 = .ok (.i2l, 1) := by decide +kernel
theorem d_L_law_1449 : decode cL_law 1449 = .ok (.ldc2_w 176, 3) := by decide +kernel
theorem d_L_law_1452 : decode cL_law 1452 = .ok (.land, 1) := by decide +kernel
theorem d_L_law_1453 : decode cL_law 1453 = .ok (.lor, 1) := by decide +kernel
theorem d_L_law_1454 : decode cL_law 1454 = .ok (.invokevirtual 178, 3) := by decide +kernel
theorem d_L_law_1457 : decode cL_law 1457 = .ok (.aload_n 2, 1) := by decide +kernel
theorem d_L_law_1458 : decode cL_law 1458 = .ok (.aload_n 0, 1) := by decide +kernel
theorem d_L_law_1459 : decode cL_law 1459 = .ok (.iload_n 3, 1) := by decide +kernel
theorem d_L_law_1460 : decode cL_law 1460 = .ok (.iconst 1, 1) := by decide +kernel
theorem d_L_law_1461 : decode cL_law 1461 = .ok (.iadd, 1) := by decide +kernel
theorem d_L_law_1462 : decode cL_law 1462 = .ok (.iaload, 1) := by decide +kernel
theorem d_L_law_1463 : decode cL_law 1463 = .ok (.aload_n 0, 1) := by decide +kernel
theorem d_L_law_1464 : decode cL_law 1464 = .ok (.iload_n 3, 1) := by decide +kernel
theorem d_L_law_1465 : decode cL_law 1465 = .ok (.iconst 2, 1) := by decide +kernel
theorem d_L_law_1466 : decode cL_law 1466 = .ok (.iadd, 1) := by decide +kernel
theorem d_L_law_1467 : decode cL_law 1467 = .ok (.iaload, 1) := by decide +kernel
theorem d_L_law_1468 : decode cL_law 1468 = .ok (.aload_n 0, 1) := by decide +kernel
theorem d_L_law_1469 : decode cL_law 1469 = .ok (.iload_n 3, 1) := by decide +kernel
theorem d_L_law_1470 : decode cL_law 1470 = .ok (.iconst 3, 1) := by decide +kernel
theorem d_L_law_1471 : decode cL_law 1471 = .ok (.iadd, 1) := by decide +kernel
theorem d_L_law_1472 : decode cL_law 1472 = .ok (.iaload, 1) := by decide +kernel
theorem d_L_law_1473 : decode cL_law 1473 = .ok (.i2l, 1) := by decide +kernel
theorem d_L_law_1474 : decode cL_law 1474 = .ok (.bipush 32, 2) := by decide +kernel
theorem d_L_law_1476 : decode cL_law 1476 = .ok (.lshl, 1) := by decide +kernel
theorem d_L_law_1477 : decode cL_law 1477 = .ok (.aload_n 0, 1) := by decide +kernel
theorem d_L_law_1478 : decode cL_law 1478 = .ok (.iload_n 3, 1) := by decide +kernel
theorem d_L_law_1479 : decode cL_law 1479 = .ok (.iconst 4, 1) := by decide +kernel
theorem d_L_law_1480 : decode cL_law 1480 = .ok (.iadd, 1) := by decide +kernel
theorem d_L_law_1481 : decode cL_law 1481 = .ok (.iaload, 1) := by decide +kernel
theorem d_L_law_1482 : decode cL_law 1482 = .ok (.i2l, 1) := by decide +kernel
theorem d_L_law_1483 : decode cL_law 1483 = .ok (.ldc2_w 176, 3) := by decide +kernel
theorem d_L_law_1486 : decode cL_law 1486 = .ok (.land, 1) := by decide +kernel
theorem d_L_law_1487 : decode cL_law 1487 = .ok (.lor, 1) := by decide +kernel
theorem d_L_law_1488 : decode cL_law 1488 = .ok (.invokevirtual 182, 3) := by decide +kernel
theorem d_L_law_1491 : decode cL_law 1491 = .ok (.lcmp, 1) := by decide +kernel
theorem d_L_law_1492 : decode cL_law 1492 = .ok (.ifCond .eq 107, 3) := by decide +kernel
theorem d_L_law_1495 : decode cL_law 1495 = .ok (.iconst 0, 1) := by decide +kernel
theorem d_L_law_1496 : decode cL_law 1496 = .ok (.ireturn, 1) := by decide +kernel
theorem d_L_law_1497 : decode cL_law 1497 = .ok (.aload_n 1, 1) := by decide +kernel
theorem d_L_law_1498 : decode cL_law 1498 = .ok (.aload_n 0, 1) := by decide +kernel
theorem d_L_law_1499 : decode cL_law 1499 = .ok (.iload_n 3, 1) := by decide +kernel
theorem d_L_law_1500 : decode cL_law 1500 = .ok (.iconst 1, 1) := by decide +kernel
theorem d_L_law_1501 : decode cL_law 1501 = .ok (.iadd, 1) := by decide +kernel
theorem d_L_law_1502 : decode cL_law 1502 = .ok (.iaload, 1) := by decide +kernel
theorem d_L_law_1503 : decode cL_law 1503 = .ok (.aload_n 0, 1) := by decide +kernel
theorem d_L_law_1504 : decode cL_law 1504 = .ok (.iload_n 3, 1) := by decide +kernel
theorem d_L_law_1505 : decode cL_law 1505 = .ok (.iconst 2, 1) := by decide +kernel
theorem d_L_law_1506 : decode cL_law 1506 = .ok (.iadd, 1) := by decide +kernel
theorem d_L_law_1507 : decode cL_law 1507 = .ok (.iaload, 1) := by decide +kernel
theorem d_L_law_1508 : decode cL_law 1508 = .ok (.invokevirtual 183, 3) := by decide +kernel
theorem d_L_law_1511 : decode cL_law 1511 = .ok (.aload_n 2, 1) := by decide +kernel
theorem d_L_law_1512 : decode cL_law 1512 = .ok (.aload_n 0, 1) := by decide +kernel
theorem d_L_law_1513 : decode cL_law 1513 = .ok (.iload_n 3, 1) := by decide +kernel
theorem d_L_law_1514 : decode cL_law 1514 = .ok (.iconst 1, 1) := by decide +kernel
theorem d_L_law_1515 : decode cL_law 1515 = .ok (.iadd, 1) := by decide +kernel
theorem d_L_law_1516 : decode cL_law 1516 = .ok (.iaload, 1) := by decide +kernel
theorem d_L_law_1517 : decode cL_law 1517 = .ok (.aload_n 0, 1) := by decide +kernel
theorem d_L_law_1518 : decode cL_law 1518 = .ok (.iload_n 3, 1) := by decide +kernel
theorem d_L_law_1519 : decode cL_law 1519 = .ok (.iconst 2, 1) := by decide +kernel
theorem d_L_law_1520 : decode cL_law 1520 = .ok (.iadd, 1) := by decide +kernel
theorem d_L_law_1521 : decode cL_law 1521 = .ok (.iaload, 1) := by decide +kernel
theorem d_L_law_1522 : decode cL_law 1522 = .ok (.invokevirtual 186, 3) := by decide +kernel
theorem d_L_law_1525 : decode cL_law 1525 = .ok (.if_icmp .eq 74, 3) := by decide +kernel
theorem d_L_law_1528 : decode cL_law 1528 = .ok (.iconst 0, 1) := by decide +kernel
theorem d_L_law_1529 : decode cL_law 1529 = .ok (.ireturn, 1) := by decide +kernel
theorem d_L_law_1530 : decode cL_law 1530 = .ok (.aload_n 1, 1) := by decide +kernel
theorem d_L_law_1531 : decode cL_law 1531 = .ok (.aload_n 0, 1) := by decide +kernel
theorem d_L_law_1532 : decode cL_law 1532 = .ok (.iload_n 3, 1) := by decide +kernel
theorem d_L_law_1533 : decode cL_law 1533 = .ok (.iconst 1, 1) := by decide +kernel
theorem d_L_law_1534 : decode cL_law 1534 = .ok (.iadd, 1) := by decide +kernel
theorem d_L_law_1535 : decode cL_law 1535 = .ok (.iaload, 1) := by decide +kernel
theorem d_L_law_1536 : decode cL_law 1536 = .ok (.invokevirtual 187, 3) := by decide +kernel
theorem d_L_law_1539 : decode cL_law 1539 = .ok (.aload_n 2, 1) := by decide +kernel
theorem d_L_law_1540 : decode cL_law 1540 = .ok (.aload_n 0, 1) := by decide +kernel
theorem d_L_law_1541 : decode cL_law 1541 = .ok (.iload_n 3, 1) := by decide +kernel
theorem d_L_law_1542 : decode cL_law 1542 = .ok (.iconst 1, 1) := by decide +kernel
theorem d_L_law_1543 : decode cL_law 1543 = .ok (.iadd, 1) := by decide +kernel
theorem d_L_law_1544 : decode cL_law 1544 = .ok (.iaload, 1) := by decide +kernel
theorem d_L_law_1545 : decode cL_law 1545 = .ok (.invokevirtual 190, 3) := by decide +kernel
theorem d_L_law_1548 : decode cL_law 1548 = .ok (.if_icmp .eq 51, 3) := by decide +kernel
theorem d_L_law_1551 : decode cL_law 1551 = .ok (.iconst 0, 1) := by decide +kernel
theorem d_L_law_1552 : decode cL_law 1552 = .ok (.ireturn, 1) := by decide +kernel
theorem d_L_law_1553 : decode cL_law 1553 = .ok (.aload_n 1, 1) := by decide +kernel
theorem d_L_law_1554 : decode cL_law 1554 = .ok (.aload_n 0, 1) := by decide +kernel
theorem d_L_law_1555 : decode cL_law 1555 = .ok (.iload_n 3, 1) := by decide +kernel
theorem d_L_law_1556 : decode cL_law 1556 = .ok (.iconst 1, 1) := by decide +kernel
theorem d_L_law_1557 : decode cL_law 1557 = .ok (.iadd, 1) := by decide +kernel
theorem d_L_law_1558 : decode cL_law 1558 = .ok (.iaload, 1) := by decide +kernel
theorem d_L_law_1559 : decode cL_law 1559 = .ok (.invokevirtual 191, 3) := by decide +kernel
theorem d_L_law_1562 : decode cL_law 1562 = .ok (.aload_n 2, 1) := by decide +kernel
theorem d_L_law_1563 : decode cL_law 1563 = .ok (.aload_n 0, 1) := by decide +kernel
theorem d_L_law_1564 : decode cL_law 1564 = .ok (.iload_n 3, 1) := by decide +kernel
theorem d_L_law_1565 : decode cL_law 1565 = .ok (.iconst 1, 1) := by decide +kernel
theorem d_L_law_1566 : decode cL_law 1566 = .ok (.iadd, 1) := by decide +kernel
theorem d_L_law_1567 : decode cL_law 1567 = .ok (.iaload, 1) := by decide +kernel
theorem d_L_law_1568 : decode cL_law 1568 = .ok (.invokevirtual 194, 3) := by decide +kernel
theorem d_L_law_1571 : decode cL_law 1571 = .ok (.if_icmp .eq 28, 3) := by decide +kernel
theorem d_L_law_1574 : decode cL_law 1574 = .ok (.iconst 0, 1) := by decide +kernel
theorem d_L_law_1575 : decode cL_law 1575 = .ok (.ireturn, 1) := by decide +kernel
theorem d_L_law_1576 : decode cL_law 1576 = .ok (.aload_n 1, 1) := by decide +kernel
theorem d_L_law_1577 : decode cL_law 1577 = .ok (.aload_n 0, 1) := by decide +kernel
theorem d_L_law_1578 : decode cL_law 1578 = .ok (.iload_n 3, 1) := by decide +kernel
theorem d_L_law_1579 : decode cL_law 1579 = .ok (.iconst 1, 1) := by decide +kernel
theorem d_L_law_1580 : decode cL_law 1580 = .ok (.iadd, 1) := by decide +kernel
theorem d_L_law_1581 : decode cL_law 1581 = .ok (.iaload, 1) := by decide +kernel
theorem d_L_law_1582 : decode cL_law 1582 = .ok (.invokevirtual 195, 3) := by decide +kernel
theorem d_L_law_1585 : decode cL_law 1585 = .ok (.aload_n 2, 1) := by decide +kernel
theorem d_L_law_1586 : decode cL_law 1586 = .ok (.aload_n 0, 1) := by decide +kernel
theorem d_L_law_1587 : decode cL_law 1587 = .ok (.iload_n 3, 1) := by decide +kernel
theorem d_L_law_1588 : decode cL_law 1588 = .ok (.iconst 1, 1) := by decide +kernel
theorem d_L_law_1589 : decode cL_law 1589 = .ok (.iadd, 1) := by decide +kernel
theorem d_L_law_1590 : decode cL_law 1590 = .ok (.iaload, 1) := by decide +kernel
theorem d_L_law_1591 : decode cL_law 1591 = .ok (.invokevirtual 198, 3) := by decide +kernel
theorem d_L_law_1594 : decode cL_law 1594 = .ok (.if_icmp .eq 5, 3) := by decide +kernel
theorem d_L_law_1597 : decode cL_law 1597 = .ok (.iconst 0, 1) := by decide +kernel
theorem d_L_law_1598 : decode cL_law 1598 = .ok (.ireturn, 1) := by decide +kernel
theorem d_L_law_1599 : decode cL_law 1599 = .ok (.iinc 3 6, 3) := by decide +kernel
theorem d_L_law_1602 : decode cL_law 1602 = .ok (.goto (-1584), 3) := by decide +kernel
theorem d_L_law_1605 : decode cL_law 1605 = .ok (.iconst 1, 1) := by decide +kernel
theorem d_L_law_1606 : decode cL_law 1606 = .ok (.ireturn, 1) := by decide +kernel
def F_L_law_b18 : Nat → Nat → Nat → Nat → Int32 → xH → Option (Int32 × xH × Nat × Nat)
  | 0, _, _, _, _, _ => none
  | n + 1, x0, x1, x2, x3, h => (al h x0).bind fun v20 => if (v20 - 6) < x3 then some (1, h, 0, 0) else (aI h x0 x3).bind fun v29 => if (v29 &&& 63) = 0 then (aI h x0 (x3 + 1)).bind fun v229 => (aI h x0 (x3 + 2)).bind fun v234 => (aI h x0 (x3 + 3)).bind fun v239 => (aI h x0 (x3 + 4)).bind fun v244 => (aI h x0 (x3 + 5)).bind fun v249 => (rc h x1 10).bind fun _ => (F_X11_feed x1 v229 v234 v239 v244 v249 h).bind fun z250 => (aI z250.2 x0 (x3 + 1)).bind fun v258 => (aI z250.2 x0 (x3 + 2)).bind fun v263 => (aI z250.2 x0 (x3 + 3)).bind fun v268 => (aI z250.2 x0 (x3 + 4)).bind fun v273 => (aI z250.2 x0 (x3 + 5)).bind fun v278 => (rc z250.2 x2 11).bind fun _ => (F_X12_feed x2 v258 v263 v268 v273 v278 z250.2).bind fun z279 => if z250.1 = z279.1 then F_L_law_b18 n x0 x1 x2 (x3 + 6) z279.2 else some (0, z279.2, 0, 0) else if (v29 &&& 63) = 1 then (aI h x0 (x3 + 1)).bind fun v292 => (rc h x1 10).bind fun _ => (F_X11_valley x1 v292 h).bind fun z293 => ((aI z293.2.1 x0 (x3 + 1)).bind fun v301 => (rc z293.2.1 x2 11).bind fun _ => (F_X12_valley x2 v301 z293.2.1).bind fun z302 => if z293.1 = z302.1 then F_L_law_b18 n x0 x1 x2 (x3 + 6) z302.2 else some (0, z302.2, 0, 0)).map (ac _ z293.2.2.1 z293.2.2.2) else if (v29 &&& 63) = 2 then (aI h x0 (x3 + 1)).bind fun v315 => (rc h x1 10).bind fun _ => (F_X11_fault x1 v315 h).bind fun z316 => (aI z316.2 x0 (x3 + 1)).bind fun v324 => (rc z316.2 x2 11).bind fun _ => (F_X12_fault x2 v324 z316.2).bind fun z325 => if z316.1 = z325.1 then F_L_law_b18 n x0 x1 x2 (x3 + 6) z325.2 else some (0, z325.2, 0, 0) else if (v29 &&& 63) = 3 then (aI h x0 (x3 + 1)).bind fun v338 => (aI h x0 (x3 + 2)).bind fun v343 => (rc h x1 10).bind fun _ => (F_X11_person x1 v338 v343 h).bind fun z344 => (aI z344.2 x0 (x3 + 1)).bind fun v352 => (aI z344.2 x0 (x3 + 2)).bind fun v357 => (rc z344.2 x2 11).bind fun _ => (F_X12_person x2 v352 v357 z344.2).bind fun z358 => if z344.1 = z358.1 then F_L_law_b18 n x0 x1 x2 (x3 + 6) z358.2 else some (0, z358.2, 0, 0) else if (v29 &&& 63) = 4 then (aI h x0 (x3 + 1)).bind fun v371 => (aI h x0 (x3 + 2)).bind fun v376 => (rc h x1 10).bind fun _ => (F_X11_sounds x1 v371 v376 h).bind fun z377 => (aI z377.2 x0 (x3 + 1)).bind fun v385 => (aI z377.2 x0 (x3 + 2)).bind fun v390 => (rc z377.2 x2 11).bind fun _ => (F_X12_sounds x2 v385 v390 z377.2).bind fun z391 => if z377.1 = z391.1 then F_L_law_b18 n x0 x1 x2 (x3 + 6) z391.2 else some (0, z391.2, 0, 0) else if (v29 &&& 63) = 5 then (aI h x0 (x3 + 1)).bind fun v404 => (aI h x0 (x3 + 2)).bind fun v409 => (rc h x1 10).bind fun _ => (F_X11_place x1 v404 v409 h).bind fun z410 => (aI z410.2 x0 (x3 + 1)).bind fun v418 => (aI z410.2 x0 (x3 + 2)).bind fun v423 => (rc z410.2 x2 11).bind fun _ => (F_X12_place x2 v418 v423 z410.2).bind fun z424 => if z410.1 = z424.1 then F_L_law_b18 n x0 x1 x2 (x3 + 6) z424.2 else some (0, z424.2, 0, 0) else if (v29 &&& 63) = 6 then (aI h x0 (x3 + 1)).bind fun v437 => (aI h x0 (x3 + 2)).bind fun v442 => (rc h x1 10).bind fun _ => (F_X11_note x1 v437 v442 h).bind fun z443 => (aI z443.2 x0 (x3 + 1)).bind fun v451 => (aI z443.2 x0 (x3 + 2)).bind fun v456 => (rc z443.2 x2 11).bind fun _ => (F_X12_note x2 v451 v456 z443.2).bind fun z457 => if z443.1 = z457.1 then F_L_law_b18 n x0 x1 x2 (x3 + 6) z457.2 else some (0, z457.2, 0, 0) else if (v29 &&& 63) = 7 then (aI h x0 (x3 + 1)).bind fun v470 => (aI h x0 (x3 + 2)).bind fun v475 => (rc h x1 10).bind fun _ => (F_X11_steps x1 v470 v475 h).bind fun z476 => (aI z476.2 x0 (x3 + 1)).bind fun v484 => (aI z476.2 x0 (x3 + 2)).bind fun v489 => (rc z476.2 x2 11).bind fun _ => (F_X12_steps x2 v484 v489 z476.2).bind fun z490 => if z476.1 = z490.1 then F_L_law_b18 n x0 x1 x2 (x3 + 6) z490.2 else some (0, z490.2, 0, 0) else if (v29 &&& 63) = 8 then (aI h x0 (x3 + 1)).bind fun v503 => (rc h x1 10).bind fun _ => (F_X11_whole x1 v503 h).bind fun z504 => (aI z504.2 x0 (x3 + 1)).bind fun v512 => (rc z504.2 x2 11).bind fun _ => (F_X12_whole x2 v512 z504.2).bind fun z513 => if z504.1 = z513.1 then F_L_law_b18 n x0 x1 x2 (x3 + 6) z513.2 else some (0, z513.2, 0, 0) else if (v29 &&& 63) = 9 then (aI h x0 (x3 + 1)).bind fun v526 => (rc h x1 10).bind fun _ => (F_X11_owners x1 v526 h).bind fun z527 => (aI z527.2 x0 (x3 + 1)).bind fun v535 => (rc z527.2 x2 11).bind fun _ => (F_X12_owners x2 v535 z527.2).bind fun z536 => if z527.1 = z536.1 then F_L_law_b18 n x0 x1 x2 (x3 + 6) z536.2 else some (0, z536.2, 0, 0) else if (v29 &&& 63) = 10 then (aI h x0 (x3 + 1)).bind fun v549 => (aI h x0 (x3 + 2)).bind fun v554 => (rc h x1 10).bind fun _ => (F_X11_go x1 v549 v554 h).bind fun z555 => (aI z555.2 x0 (x3 + 1)).bind fun v563 => (aI z555.2 x0 (x3 + 2)).bind fun v568 => (rc z555.2 x2 11).bind fun _ => (F_X12_go x2 v563 v568 z555.2).bind fun z569 => if z555.1 = z569.1 then F_L_law_b18 n x0 x1 x2 (x3 + 6) z569.2 else some (0, z569.2, 0, 0) else if (v29 &&& 63) = 11 then (aI h x0 (x3 + 1)).bind fun v582 => (rc h x1 10).bind fun _ => (F_X11_days x1 v582 h).bind fun z583 => (aI z583.2 x0 (x3 + 1)).bind fun v591 => (rc z583.2 x2 11).bind fun _ => (F_X12_days x2 v591 z583.2).bind fun z592 => if z583.1 = z592.1 then F_L_law_b18 n x0 x1 x2 (x3 + 6) z592.2 else some (0, z592.2, 0, 0) else if (v29 &&& 63) = 12 then (aI h x0 (x3 + 1)).bind fun v605 => (aI h x0 (x3 + 2)).bind fun v610 => (rc h x1 10).bind fun _ => (F_X11_ear x1 v605 v610 h).bind fun z611 => (aI z611.2 x0 (x3 + 1)).bind fun v619 => (aI z611.2 x0 (x3 + 2)).bind fun v624 => (rc z611.2 x2 11).bind fun _ => (F_X12_ear x2 v619 v624 z611.2).bind fun z625 => if z611.1 = z625.1 then F_L_law_b18 n x0 x1 x2 (x3 + 6) z625.2 else some (0, z625.2, 0, 0) else if (v29 &&& 63) = 13 then (aI h x0 (x3 + 1)).bind fun v638 => (aI h x0 (x3 + 2)).bind fun v643 => (rc h x1 10).bind fun _ => (F_X11_blank x1 v638 v643 h).bind fun z644 => (aI z644.2 x0 (x3 + 1)).bind fun v652 => (aI z644.2 x0 (x3 + 2)).bind fun v657 => (rc z644.2 x2 11).bind fun _ => (F_X12_blank x2 v652 v657 z644.2).bind fun z658 => if z644.1 = z658.1 then F_L_law_b18 n x0 x1 x2 (x3 + 6) z658.2 else some (0, z658.2, 0, 0) else if (v29 &&& 63) = 14 then (aI h x0 (x3 + 1)).bind fun v671 => (rc h x1 10).bind fun _ => (F_X11_undo x1 v671 h).bind fun z672 => (aI z672.2 x0 (x3 + 1)).bind fun v680 => (rc z672.2 x2 11).bind fun _ => (F_X12_undo x2 v680 z672.2).bind fun z681 => if z672.1 = z681.1 then F_L_law_b18 n x0 x1 x2 (x3 + 6) z681.2 else some (0, z681.2, 0, 0) else if (v29 &&& 63) = 15 then (aI h x0 (x3 + 1)).bind fun v694 => (aI h x0 (x3 + 2)).bind fun v699 => (rc h x1 10).bind fun _ => (F_X11_judge x1 v694 v699 h).bind fun z700 => (aI z700.2 x0 (x3 + 1)).bind fun v708 => (aI z700.2 x0 (x3 + 2)).bind fun v713 => (rc z700.2 x2 11).bind fun _ => (F_X12_judge x2 v708 v713 z700.2).bind fun z714 => if z700.1 = z714.1 then F_L_law_b18 n x0 x1 x2 (x3 + 6) z714.2 else some (0, z714.2, 0, 0) else if (v29 &&& 63) = 16 then (aI h x0 (x3 + 1)).bind fun v727 => (rc h x1 10).bind fun _ => (F_X11_perform x1 v727 h).bind fun z728 => (aI z728.2 x0 (x3 + 1)).bind fun v736 => (rc z728.2 x2 11).bind fun _ => (F_X12_perform x2 v736 z728.2).bind fun z737 => if z728.1 = z737.1 then F_L_law_b18 n x0 x1 x2 (x3 + 6) z737.2 else some (0, z737.2, 0, 0) else if (v29 &&& 63) = 17 then (aI h x0 (x3 + 1)).bind fun v750 => (aI h x0 (x3 + 2)).bind fun v755 => (rc h x1 10).bind fun _ => (F_X11_year x1 v750 v755 h).bind fun z756 => (aI z756.2 x0 (x3 + 1)).bind fun v764 => (aI z756.2 x0 (x3 + 2)).bind fun v769 => (rc z756.2 x2 11).bind fun _ => (F_X12_year x2 v764 v769 z756.2).bind fun z770 => if z756.1 = z770.1 then F_L_law_b18 n x0 x1 x2 (x3 + 6) z770.2 else some (0, z770.2, 0, 0) else if (v29 &&& 63) = 18 then (aI h x0 (x3 + 1)).bind fun v783 => (aI h x0 (x3 + 2)).bind fun v788 => (rc h x1 10).bind fun _ => (F_X11_blanks x1 v783 v788 h).bind fun z789 => (aI z789.2 x0 (x3 + 1)).bind fun v797 => (aI z789.2 x0 (x3 + 2)).bind fun v802 => (rc z789.2 x2 11).bind fun _ => (F_X12_blanks x2 v797 v802 z789.2).bind fun z803 => if z789.1 = z803.1 then F_L_law_b18 n x0 x1 x2 (x3 + 6) z803.2 else some (0, z803.2, 0, 0) else if (v29 &&& 63) = 19 then (aI h x0 (x3 + 1)).bind fun v816 => (aI h x0 (x3 + 2)).bind fun v821 => (rc h x1 10).bind fun _ => (F_X11_attempt x1 v816 v821 h).bind fun z822 => (aI z822.2 x0 (x3 + 1)).bind fun v830 => (aI z822.2 x0 (x3 + 2)).bind fun v835 => (rc z822.2 x2 11).bind fun _ => (F_X12_attempt x2 v830 v835 z822.2).bind fun z836 => if z822.1 = z836.1 then F_L_law_b18 n x0 x1 x2 (x3 + 6) z836.2 else some (0, z836.2, 0, 0) else if (v29 &&& 63) = 20 then (aI h x0 (x3 + 1)).bind fun v849 => (rc h x1 10).bind fun _ => (F_X11_knowing x1 v849 h).bind fun z850 => (aI z850.2 x0 (x3 + 1)).bind fun v858 => (rc z850.2 x2 11).bind fun _ => (F_X12_knowing x2 v858 z850.2).bind fun z859 => if z850.1 = z859.1 then F_L_law_b18 n x0 x1 x2 (x3 + 6) z859.2 else some (0, z859.2, 0, 0) else if (v29 &&& 63) = 21 then (aI h x0 (x3 + 1)).bind fun v872 => (rc h x1 10).bind fun _ => (F_X11_begins x1 v872 h).bind fun z873 => (aI z873.2 x0 (x3 + 1)).bind fun v881 => (rc z873.2 x2 11).bind fun _ => (F_X12_begins x2 v881 z873.2).bind fun z882 => if z873.1 = z882.1 then F_L_law_b18 n x0 x1 x2 (x3 + 6) z882.2 else some (0, z882.2, 0, 0) else if (v29 &&& 63) = 22 then (aI h x0 (x3 + 1)).bind fun v895 => (rc h x1 10).bind fun _ => (F_X11_atOnce x1 v895 h).bind fun z896 => (aI z896.2 x0 (x3 + 1)).bind fun v904 => (rc z896.2 x2 11).bind fun _ => (F_X12_atOnce x2 v904 z896.2).bind fun z905 => if z896.1 = z905.1 then F_L_law_b18 n x0 x1 x2 (x3 + 6) z905.2 else some (0, z905.2, 0, 0) else if (v29 &&& 63) = 23 then (aI h x0 (x3 + 1)).bind fun v918 => (aI h x0 (x3 + 2)).bind fun v923 => (aI h x0 (x3 + 3)).bind fun v928 => (rc h x1 10).bind fun _ => (F_X11_choir x1 v918 v923 v928 h).bind fun z929 => (aI z929.2 x0 (x3 + 1)).bind fun v937 => (aI z929.2 x0 (x3 + 2)).bind fun v942 => (aI z929.2 x0 (x3 + 3)).bind fun v947 => (rc z929.2 x2 11).bind fun _ => (F_X12_choir x2 v937 v942 v947 z929.2).bind fun z948 => if z929.1 = z948.1 then F_L_law_b18 n x0 x1 x2 (x3 + 6) z948.2 else some (0, z948.2, 0, 0) else if (v29 &&& 63) = 24 then (aI h x0 (x3 + 1)).bind fun v961 => (aI h x0 (x3 + 2)).bind fun v966 => (rc h x1 10).bind fun _ => (F_X11_row x1 v961 v966 h).bind fun z967 => (aI z967.2 x0 (x3 + 1)).bind fun v975 => (aI z967.2 x0 (x3 + 2)).bind fun v980 => (rc z967.2 x2 11).bind fun _ => (F_X12_row x2 v975 v980 z967.2).bind fun z981 => if z967.1 = z981.1 then F_L_law_b18 n x0 x1 x2 (x3 + 6) z981.2 else some (0, z981.2, 0, 0) else if (v29 &&& 63) = 25 then (aI h x0 (x3 + 1)).bind fun v994 => (rc h x1 10).bind fun _ => (F_X11_rows x1 v994 h).bind fun z995 => (aI z995.2 x0 (x3 + 1)).bind fun v1003 => (rc z995.2 x2 11).bind fun _ => (F_X12_rows x2 v1003 z995.2).bind fun z1004 => if z995.1 = z1004.1 then F_L_law_b18 n x0 x1 x2 (x3 + 6) z1004.2 else some (0, z1004.2, 0, 0) else if (v29 &&& 63) = 26 then (aI h x0 (x3 + 1)).bind fun v1017 => (aI h x0 (x3 + 2)).bind fun v1022 => (rc h x1 10).bind fun _ => (F_X11_pairs x1 v1017 v1022 h).bind fun z1023 => (aI z1023.2 x0 (x3 + 1)).bind fun v1031 => (aI z1023.2 x0 (x3 + 2)).bind fun v1036 => (rc z1023.2 x2 11).bind fun _ => (F_X12_pairs x2 v1031 v1036 z1023.2).bind fun z1037 => if z1023.1 = z1037.1 then F_L_law_b18 n x0 x1 x2 (x3 + 6) z1037.2 else some (0, z1037.2, 0, 0) else if (v29 &&& 63) = 27 then (aI h x0 (x3 + 1)).bind fun v1050 => (rc h x1 10).bind fun _ => (F_X11_longest x1 v1050 h).bind fun z1051 => (aI z1051.2 x0 (x3 + 1)).bind fun v1059 => (rc z1051.2 x2 11).bind fun _ => (F_X12_longest x2 v1059 z1051.2).bind fun z1060 => if z1051.1 = z1060.1 then F_L_law_b18 n x0 x1 x2 (x3 + 6) z1060.2 else some (0, z1060.2, 0, 0) else if (v29 &&& 63) = 28 then (aI h x0 (x3 + 1)).bind fun v1073 => (aI h x0 (x3 + 2)).bind fun v1078 => (rc h x1 10).bind fun _ => (F_X11_longNote x1 v1073 v1078 h).bind fun z1079 => (aI z1079.2 x0 (x3 + 1)).bind fun v1087 => (aI z1079.2 x0 (x3 + 2)).bind fun v1092 => (rc z1079.2 x2 11).bind fun _ => (F_X12_longNote x2 v1087 v1092 z1079.2).bind fun z1093 => if z1079.1 = z1093.1 then F_L_law_b18 n x0 x1 x2 (x3 + 6) z1093.2 else some (0, z1093.2, 0, 0) else if (v29 &&& 63) = 29 then (aI h x0 (x3 + 1)).bind fun v1106 => (aI h x0 (x3 + 2)).bind fun v1111 => (rc h x1 10).bind fun _ => (F_X11_through x1 v1106 v1111 h).bind fun z1112 => ((aI z1112.2.1 x0 (x3 + 1)).bind fun v1120 => (aI z1112.2.1 x0 (x3 + 2)).bind fun v1125 => (rc z1112.2.1 x2 11).bind fun _ => (F_X12_through x2 v1120 v1125 z1112.2.1).bind fun z1126 => if z1112.1 = z1126.1 then F_L_law_b18 n x0 x1 x2 (x3 + 6) z1126.2 else some (0, z1126.2, 0, 0)).map (ac _ z1112.2.2.1 z1112.2.2.2) else if (v29 &&& 63) = 30 then (aI h x0 (x3 + 1)).bind fun v1139 => (aI h x0 (x3 + 2)).bind fun v1144 => (aI h x0 (x3 + 3)).bind fun v1149 => (rc h x1 10).bind fun _ => (F_X11_throughNote x1 v1139 v1144 v1149 h).bind fun z1150 => ((aI z1150.2.1 x0 (x3 + 1)).bind fun v1158 => (aI z1150.2.1 x0 (x3 + 2)).bind fun v1163 => (aI z1150.2.1 x0 (x3 + 3)).bind fun v1168 => (rc z1150.2.1 x2 11).bind fun _ => (F_X12_throughNote x2 v1158 v1163 v1168 z1150.2.1).bind fun z1169 => if z1150.1 = z1169.1 then F_L_law_b18 n x0 x1 x2 (x3 + 6) z1169.2 else some (0, z1169.2, 0, 0)).map (ac _ z1150.2.2.1 z1150.2.2.2) else if (v29 &&& 63) = 31 then (aI h x0 (x3 + 1)).bind fun v1182 => (aI h x0 (x3 + 2)).bind fun v1187 => (rc h x1 10).bind fun _ => (F_X11_tunes x1 v1182 v1187 h).bind fun z1188 => (aI z1188.2 x0 (x3 + 1)).bind fun v1196 => (aI z1188.2 x0 (x3 + 2)).bind fun v1201 => (rc z1188.2 x2 11).bind fun _ => (F_X12_tunes x2 v1196 v1201 z1188.2).bind fun z1202 => if (lg_cmp z1188.1 z1202.1) = 0 then F_L_law_b18 n x0 x1 x2 (x3 + 6) z1202.2 else some (0, z1202.2, 0, 0) else if (v29 &&& 63) = 32 then (aI h x0 (x3 + 1)).bind fun v1216 => (rc h x1 10).bind fun _ => (F_X11_finds x1 v1216 h).bind fun z1217 => (aI z1217.2 x0 (x3 + 1)).bind fun v1225 => (rc z1217.2 x2 11).bind fun _ => (F_X12_finds x2 v1225 z1217.2).bind fun z1226 => if z1217.1 = z1226.1 then F_L_law_b18 n x0 x1 x2 (x3 + 6) z1226.2 else some (0, z1226.2, 0, 0) else if (v29 &&& 63) = 33 then (aI h x0 (x3 + 1)).bind fun v1239 => (aI h x0 (x3 + 2)).bind fun v1244 => (rc h x1 10).bind fun _ => (F_X11_route x1 v1239 v1244 h).bind fun z1245 => (aI z1245.2 x0 (x3 + 1)).bind fun v1253 => (aI z1245.2 x0 (x3 + 2)).bind fun v1258 => (rc z1245.2 x2 11).bind fun _ => (F_X12_route x2 v1253 v1258 z1245.2).bind fun z1259 => if z1245.1 = z1259.1 then F_L_law_b18 n x0 x1 x2 (x3 + 6) z1259.2 else some (0, z1259.2, 0, 0) else if (v29 &&& 63) = 34 then (rc h x1 10).bind fun _ => (F_X11_all x1 h).bind fun z1268 => (rc z1268.2 x2 11).bind fun _ => (F_X12_all x2 z1268.2).bind fun z1272 => if z1268.1 = z1272.1 then F_L_law_b18 n x0 x1 x2 (x3 + 6) z1272.2 else some (0, z1272.2, 0, 0) else if (v29 &&& 63) = 35 then (aI h x0 (x3 + 1)).bind fun v1285 => (aI h x0 (x3 + 2)).bind fun v1290 => (rc h x1 10).bind fun _ => (F_X11_near x1 v1285 v1290 h).bind fun z1291 => (aI z1291.2 x0 (x3 + 1)).bind fun v1299 => (aI z1291.2 x0 (x3 + 2)).bind fun v1304 => (rc z1291.2 x2 11).bind fun _ => (F_X12_near x2 v1299 v1304 z1291.2).bind fun z1305 => if z1291.1 = z1305.1 then F_L_law_b18 n x0 x1 x2 (x3 + 6) z1305.2 else some (0, z1305.2, 0, 0) else if (v29 &&& 63) = 36 then (aI h x0 (x3 + 1)).bind fun v1318 => (aI h x0 (x3 + 2)).bind fun v1323 => (aI h x0 (x3 + 3)).bind fun v1328 => (rc h x1 10).bind fun _ => (F_X11_chance x1 v1318 v1323 v1328 h).bind fun z1329 => (aI z1329.2 x0 (x3 + 1)).bind fun v1337 => (aI z1329.2 x0 (x3 + 2)).bind fun v1342 => (aI z1329.2 x0 (x3 + 3)).bind fun v1347 => (rc z1329.2 x2 11).bind fun _ => (F_X12_chance x2 v1337 v1342 v1347 z1329.2).bind fun z1348 => if (lg_cmp z1329.1 z1348.1) = 0 then F_L_law_b18 n x0 x1 x2 (x3 + 6) z1348.2 else some (0, z1348.2, 0, 0) else if (v29 &&& 63) = 37 then (aI h x0 (x3 + 1)).bind fun v1362 => (rc h x1 10).bind fun _ => (F_X11_likeliest x1 v1362 h).bind fun z1363 => (aI z1363.2 x0 (x3 + 1)).bind fun v1371 => (rc z1363.2 x2 11).bind fun _ => (F_X12_likeliest x2 v1371 z1363.2).bind fun z1372 => if z1363.1 = z1372.1 then F_L_law_b18 n x0 x1 x2 (x3 + 6) z1372.2 else some (0, z1372.2, 0, 0) else if (v29 &&& 63) = 38 then (aI h x0 (x3 + 1)).bind fun v1385 => (aI h x0 (x3 + 2)).bind fun v1390 => (aI h x0 (x3 + 3)).bind fun v1395 => (rc h x1 10).bind fun _ => (F_X11_numbers x1 v1385 v1390 v1395 h).bind fun z1396 => (aI z1396.2 x0 (x3 + 1)).bind fun v1404 => (aI z1396.2 x0 (x3 + 2)).bind fun v1409 => (aI z1396.2 x0 (x3 + 3)).bind fun v1414 => (rc z1396.2 x2 11).bind fun _ => (F_X12_numbers x2 v1404 v1409 v1414 z1396.2).bind fun z1415 => if z1396.1 = z1415.1 then F_L_law_b18 n x0 x1 x2 (x3 + 6) z1415.2 else some (0, z1415.2, 0, 0) else if (v29 &&& 63) = 39 then (aI h x0 (x3 + 1)).bind fun v1428 => (aI h x0 (x3 + 2)).bind fun v1433 => (aI h x0 (x3 + 3)).bind fun v1438 => (aI h x0 (x3 + 4)).bind fun v1447 => (rc h x1 10).bind fun _ => (F_X11_write x1 v1428 v1433 ((v1438.toInt64 <<< (((32 : Int32)).toInt64 &&& 63)) ||| (v1447.toInt64 &&& 4294967295)) h).bind fun z1454 => (aI z1454.2 x0 (x3 + 1)).bind fun v1462 => (aI z1454.2 x0 (x3 + 2)).bind fun v1467 => (aI z1454.2 x0 (x3 + 3)).bind fun v1472 => (aI z1454.2 x0 (x3 + 4)).bind fun v1481 => (rc z1454.2 x2 11).bind fun _ => (F_X12_write x2 v1462 v1467 ((v1472.toInt64 <<< (((32 : Int32)).toInt64 &&& 63)) ||| (v1481.toInt64 &&& 4294967295)) z1454.2).bind fun z1488 => if (lg_cmp z1454.1 z1488.1) = 0 then F_L_law_b18 n x0 x1 x2 (x3 + 6) z1488.2 else some (0, z1488.2, 0, 0) else if (v29 &&& 63) = 40 then (aI h x0 (x3 + 1)).bind fun v1502 => (aI h x0 (x3 + 2)).bind fun v1507 => (rc h x1 10).bind fun _ => (F_X11_lists x1 v1502 v1507 h).bind fun z1508 => (aI z1508.2 x0 (x3 + 1)).bind fun v1516 => (aI z1508.2 x0 (x3 + 2)).bind fun v1521 => (rc z1508.2 x2 11).bind fun _ => (F_X12_lists x2 v1516 v1521 z1508.2).bind fun z1522 => if z1508.1 = z1522.1 then F_L_law_b18 n x0 x1 x2 (x3 + 6) z1522.2 else some (0, z1522.2, 0, 0) else if (v29 &&& 63) = 41 then (aI h x0 (x3 + 1)).bind fun v1535 => (rc h x1 10).bind fun _ => (F_X11_image x1 v1535 h).bind fun z1536 => (aI z1536.2 x0 (x3 + 1)).bind fun v1544 => (rc z1536.2 x2 11).bind fun _ => (F_X12_image x2 v1544 z1536.2).bind fun z1545 => if z1536.1 = z1545.1 then F_L_law_b18 n x0 x1 x2 (x3 + 6) z1545.2 else some (0, z1545.2, 0, 0) else if (v29 &&& 63) = 42 then (aI h x0 (x3 + 1)).bind fun v1558 => (rc h x1 10).bind fun _ => (F_X11_restore x1 v1558 h).bind fun z1559 => (aI z1559.2 x0 (x3 + 1)).bind fun v1567 => (rc z1559.2 x2 11).bind fun _ => (F_X12_restore x2 v1567 z1559.2).bind fun z1568 => if z1559.1 = z1568.1 then F_L_law_b18 n x0 x1 x2 (x3 + 6) z1568.2 else some (0, z1568.2, 0, 0) else if (v29 &&& 63) = 43 then (aI h x0 (x3 + 1)).bind fun v1581 => (rc h x1 10).bind fun _ => (F_X11_count x1 v1581 h).bind fun z1582 => (aI z1582.2 x0 (x3 + 1)).bind fun v1590 => (rc z1582.2 x2 11).bind fun _ => (F_X12_count x2 v1590 z1582.2).bind fun z1591 => if z1582.1 = z1591.1 then F_L_law_b18 n x0 x1 x2 (x3 + 6) z1591.2 else some (0, z1591.2, 0, 0) else F_L_law_b18 n x0 x1 x2 (x3 + 6) h
theorem R_L_law_b18 {Γ : xG} {l : Launch} {d : Nat} {Q : Option Value → xH → Prop} {r : Int32} {h' : xH} (hdp : 214 ≤ d) (hq : Q (some (.int r)) h') : ∀ (n : Nat) (x0 : Nat) (x1 : Nat) (x2 : Nat) (x3 : Int32) (h : xH) (mc ms : Nat), F_L_law_b18 n x0 x1 x2 x3 h = some (r, h', mc, ms) → Gd Γ l d m_L_law 18 [.ref x0, .ref x1, .ref x2, .int x3] [] h mc ms Q := by
  intro n
  induction n with
  | zero => intro x0 x1 x2 x3 h mc ms hF; cases hF
  | succ n ih =>
  intro x0 x1 x2 x3 h mc ms hF
  rw [F_L_law_b18] at hF
  refine g_iloadn d_L_law_18 rfl ?_
  refine g_aloadn d_L_law_19 rfl ?_
  replace hF := Option.bind_eq_some_iff.mp hF
  obtain ⟨v20, e20, hF⟩ := hF
  refine q_al d_L_law_20 e20 ?_
  refine g_bi (6) d_L_law_21 bi_6 ?_
  refine g_isub d_L_law_23 ?_
  refine g_icmp_gt 1605 d_L_law_24 rfl (fun c24 => ?_) (fun c24 => ?_)
  · replace hF := x_t hF c24
    refine g_ic (1) d_L_law_1605 ic_1 ?_
    obtain ⟨rfl, rfl, rfl, rfl⟩ := x_inj4 hF
    exact g_zret d_L_law_1606 rfl rfl hq
  · replace hF := x_f hF c24
    refine g_aloadn d_L_law_27 rfl ?_
    refine g_iloadn d_L_law_28 rfl ?_
    replace hF := Option.bind_eq_some_iff.mp hF
    obtain ⟨v29, e29, hF⟩ := hF
    refine q_aI d_L_law_29 e29 ?_
    refine g_bi (63) d_L_law_30 bi_63 ?_
    refine g_iand d_L_law_32 ?_
    rcases Classical.em ((v29 &&& 63) = 0) with c33_0 | c33_0
    · replace hF := x_t hF c33_0
      refine q_tabIn 224 d_L_law_33 c33_0 (by decide) (by decide) rfl rfl ?_
      refine g_aloadn d_L_law_224 rfl ?_
      refine g_aloadn d_L_law_225 rfl ?_
      refine g_iloadn d_L_law_226 rfl ?_
      refine g_ic (1) d_L_law_227 ic_1 ?_
      refine g_iadd d_L_law_228 ?_
      replace hF := Option.bind_eq_some_iff.mp hF
      obtain ⟨v229, e229, hF⟩ := hF
      refine q_aI d_L_law_229 e229 ?_
      refine g_aloadn d_L_law_230 rfl ?_
      refine g_iloadn d_L_law_231 rfl ?_
      refine g_ic (2) d_L_law_232 ic_2 ?_
      refine g_iadd d_L_law_233 ?_
      replace hF := Option.bind_eq_some_iff.mp hF
      obtain ⟨v234, e234, hF⟩ := hF
      refine q_aI d_L_law_234 e234 ?_
      refine g_aloadn d_L_law_235 rfl ?_
      refine g_iloadn d_L_law_236 rfl ?_
      refine g_ic (3) d_L_law_237 ic_3 ?_
      refine g_iadd d_L_law_238 ?_
      replace hF := Option.bind_eq_some_iff.mp hF
      obtain ⟨v239, e239, hF⟩ := hF
      refine q_aI d_L_law_239 e239 ?_
      refine g_aloadn d_L_law_240 rfl ?_
      refine g_iloadn d_L_law_241 rfl ?_
      refine g_ic (4) d_L_law_242 ic_4 ?_
      refine g_iadd d_L_law_243 ?_
      replace hF := Option.bind_eq_some_iff.mp hF
      obtain ⟨v244, e244, hF⟩ := hF
      refine q_aI d_L_law_244 e244 ?_
      refine g_aloadn d_L_law_245 rfl ?_
      refine g_iloadn d_L_law_246 rfl ?_
      refine g_ic (5) d_L_law_247 ic_5 ?_
      refine g_iadd d_L_law_248 ?_
      replace hF := Option.bind_eq_some_iff.mp hF
      obtain ⟨v249, e249, hF⟩ := hF
      refine q_aI d_L_law_249 e249 ?_
      replace hF := Option.bind_eq_some_iff.mp hF
      obtain ⟨_, g250, hF⟩ := hF
      replace hF := Option.bind_eq_some_iff.mp hF
      obtain ⟨⟨r250, h250⟩, e250, hF⟩ := hF
      try dsimp only at hF
      refine q_callV [.int v229, .int v234, .int v239, .int v244, .int v249] [] rfl d_L_law_250 v_L_13 (by omega) rfl (Nat.le_of_ble_eq_true rfl) (rc_rc g250 (by decide) rfl) (R_X11_feed _ _ _ _ _ _ _ (by omega) e250) ?_
      refine g_aloadn d_L_law_253 rfl ?_
      refine g_aloadn d_L_law_254 rfl ?_
      refine g_iloadn d_L_law_255 rfl ?_
      refine g_ic (1) d_L_law_256 ic_1 ?_
      refine g_iadd d_L_law_257 ?_
      replace hF := Option.bind_eq_some_iff.mp hF
      obtain ⟨v258, e258, hF⟩ := hF
      refine q_aI d_L_law_258 e258 ?_
      refine g_aloadn d_L_law_259 rfl ?_
      refine g_iloadn d_L_law_260 rfl ?_
      refine g_ic (2) d_L_law_261 ic_2 ?_
      refine g_iadd d_L_law_262 ?_
      replace hF := Option.bind_eq_some_iff.mp hF
      obtain ⟨v263, e263, hF⟩ := hF
      refine q_aI d_L_law_263 e263 ?_
      refine g_aloadn d_L_law_264 rfl ?_
      refine g_iloadn d_L_law_265 rfl ?_
      refine g_ic (3) d_L_law_266 ic_3 ?_
      refine g_iadd d_L_law_267 ?_
      replace hF := Option.bind_eq_some_iff.mp hF
      obtain ⟨v268, e268, hF⟩ := hF
      refine q_aI d_L_law_268 e268 ?_
      refine g_aloadn d_L_law_269 rfl ?_
      refine g_iloadn d_L_law_270 rfl ?_
      refine g_ic (4) d_L_law_271 ic_4 ?_
      refine g_iadd d_L_law_272 ?_
      replace hF := Option.bind_eq_some_iff.mp hF
      obtain ⟨v273, e273, hF⟩ := hF
      refine q_aI d_L_law_273 e273 ?_
      refine g_aloadn d_L_law_274 rfl ?_
      refine g_iloadn d_L_law_275 rfl ?_
      refine g_ic (5) d_L_law_276 ic_5 ?_
      refine g_iadd d_L_law_277 ?_
      replace hF := Option.bind_eq_some_iff.mp hF
      obtain ⟨v278, e278, hF⟩ := hF
      refine q_aI d_L_law_278 e278 ?_
      replace hF := Option.bind_eq_some_iff.mp hF
      obtain ⟨_, g279, hF⟩ := hF
      replace hF := Option.bind_eq_some_iff.mp hF
      obtain ⟨⟨r279, h279⟩, e279, hF⟩ := hF
      try dsimp only at hF
      refine q_callV [.int v258, .int v263, .int v268, .int v273, .int v278] [.int (r250)] rfl d_L_law_279 v_L_17 (by omega) rfl (Nat.le_of_ble_eq_true rfl) (rc_rc g279 (by decide) rfl) (R_X12_feed _ _ _ _ _ _ _ (by omega) e279) ?_
      refine g_icmp_eq 1599 d_L_law_282 rfl (fun c282 => ?_) (fun c282 => ?_)
      · replace hF := x_t hF c282
        refine q_iinc (6) [.ref x0, .ref x1, .ref x2, .int (x3 + 6)] d_L_law_1599 ic_6 rfl (by decide) rfl ?_
        refine g_goto 18 d_L_law_1602 rfl ?_
        exact q_to (xs_r (xs_r (xs_r (xs_r xs_n)))) (ih _ _ _ _ _ _ _ hF)
      · replace hF := x_f hF c282
        refine g_ic (0) d_L_law_285 ic_0 ?_
        obtain ⟨rfl, rfl, rfl, rfl⟩ := x_inj4 hF
        exact g_zret d_L_law_286 rfl rfl hq
    replace hF := x_f hF c33_0
    rcases Classical.em ((v29 &&& 63) = 1) with c33_1 | c33_1
    · replace hF := x_t hF c33_1
      refine q_tabIn 287 d_L_law_33 c33_1 (by decide) (by decide) rfl rfl ?_
      refine g_aloadn d_L_law_287 rfl ?_
      refine g_aloadn d_L_law_288 rfl ?_
      refine g_iloadn d_L_law_289 rfl ?_
      refine g_ic (1) d_L_law_290 ic_1 ?_
      refine g_iadd d_L_law_291 ?_
      replace hF := Option.bind_eq_some_iff.mp hF
      obtain ⟨v292, e292, hF⟩ := hF
      refine q_aI d_L_law_292 e292 ?_
      replace hF := Option.bind_eq_some_iff.mp hF
      obtain ⟨_, g293, hF⟩ := hF
      replace hF := Option.bind_eq_some_iff.mp hF
      obtain ⟨⟨r293, h293, mc293, ms293⟩, e293, hF⟩ := hF
      replace hF := x_map hF
      obtain ⟨c293, s293, rfl, rfl, hF⟩ := hF
      try dsimp only at hF
      refine q_callVa [.int v292] [] rfl d_L_law_293 v_L_18 (by omega) rfl (Nat.le_of_ble_eq_true rfl) (rc_rc g293 (by decide) rfl) (R_X11_valley _ _ _ (by omega) e293) ?_
      refine g_aloadn d_L_law_296 rfl ?_
      refine g_aloadn d_L_law_297 rfl ?_
      refine g_iloadn d_L_law_298 rfl ?_
      refine g_ic (1) d_L_law_299 ic_1 ?_
      refine g_iadd d_L_law_300 ?_
      replace hF := Option.bind_eq_some_iff.mp hF
      obtain ⟨v301, e301, hF⟩ := hF
      refine q_aI d_L_law_301 e301 ?_
      replace hF := Option.bind_eq_some_iff.mp hF
      obtain ⟨_, g302, hF⟩ := hF
      replace hF := Option.bind_eq_some_iff.mp hF
      obtain ⟨⟨r302, h302⟩, e302, hF⟩ := hF
      try dsimp only at hF
      refine q_callV [.int v301] [.int (r293)] rfl d_L_law_302 v_L_22 (by omega) rfl (Nat.le_of_ble_eq_true rfl) (rc_rc g302 (by decide) rfl) (R_X12_valley _ _ _ (by omega) e302) ?_
      refine g_icmp_eq 1599 d_L_law_305 rfl (fun c305 => ?_) (fun c305 => ?_)
      · replace hF := x_t hF c305
        refine q_iinc (6) [.ref x0, .ref x1, .ref x2, .int (x3 + 6)] d_L_law_1599 ic_6 rfl (by decide) rfl ?_
        refine g_goto 18 d_L_law_1602 rfl ?_
        exact q_to (xs_r (xs_r (xs_r (xs_r xs_n)))) (ih _ _ _ _ _ _ _ hF)
      · replace hF := x_f hF c305
        refine g_ic (0) d_L_law_308 ic_0 ?_
        obtain ⟨rfl, rfl, rfl, rfl⟩ := x_inj4 hF
        exact g_zret d_L_law_309 rfl rfl hq
    replace hF := x_f hF c33_1
    rcases Classical.em ((v29 &&& 63) = 2) with c33_2 | c33_2
    · replace hF := x_t hF c33_2
      refine q_tabIn 310 d_L_law_33 c33_2 (by decide) (by decide) rfl rfl ?_
      refine g_aloadn d_L_law_310 rfl ?_
      refine g_aloadn d_L_law_311 rfl ?_
      refine g_iloadn d_L_law_312 rfl ?_
      refine g_ic (1) d_L_law_313 ic_1 ?_
      refine g_iadd d_L_law_314 ?_
      replace hF := Option.bind_eq_some_iff.mp hF
      obtain ⟨v315, e315, hF⟩ := hF
      refine q_aI d_L_law_315 e315 ?_
      replace hF := Option.bind_eq_some_iff.mp hF
      obtain ⟨_, g316, hF⟩ := hF
      replace hF := Option.bind_eq_some_iff.mp hF
      obtain ⟨⟨r316, h316⟩, e316, hF⟩ := hF
      try dsimp only at hF
      refine q_callV [.int v315] [] rfl d_L_law_316 v_L_23 (by omega) rfl (Nat.le_of_ble_eq_true rfl) (rc_rc g316 (by decide) rfl) (R_X11_fault _ _ _ (by omega) e316) ?_
      refine g_aloadn d_L_law_319 rfl ?_
      refine g_aloadn d_L_law_320 rfl ?_
      refine g_iloadn d_L_law_321 rfl ?_
      refine g_ic (1) d_L_law_322 ic_1 ?_
      refine g_iadd d_L_law_323 ?_
      replace hF := Option.bind_eq_some_iff.mp hF
      obtain ⟨v324, e324, hF⟩ := hF
      refine q_aI d_L_law_324 e324 ?_
      replace hF := Option.bind_eq_some_iff.mp hF
      obtain ⟨_, g325, hF⟩ := hF
      replace hF := Option.bind_eq_some_iff.mp hF
      obtain ⟨⟨r325, h325⟩, e325, hF⟩ := hF
      try dsimp only at hF
      refine q_callV [.int v324] [.int (r316)] rfl d_L_law_325 v_L_26 (by omega) rfl (Nat.le_of_ble_eq_true rfl) (rc_rc g325 (by decide) rfl) (R_X12_fault _ _ _ (by omega) e325) ?_
      refine g_icmp_eq 1599 d_L_law_328 rfl (fun c328 => ?_) (fun c328 => ?_)
      · replace hF := x_t hF c328
        refine q_iinc (6) [.ref x0, .ref x1, .ref x2, .int (x3 + 6)] d_L_law_1599 ic_6 rfl (by decide) rfl ?_
        refine g_goto 18 d_L_law_1602 rfl ?_
        exact q_to (xs_r (xs_r (xs_r (xs_r xs_n)))) (ih _ _ _ _ _ _ _ hF)
      · replace hF := x_f hF c328
        refine g_ic (0) d_L_law_331 ic_0 ?_
        obtain ⟨rfl, rfl, rfl, rfl⟩ := x_inj4 hF
        exact g_zret d_L_law_332 rfl rfl hq
    replace hF := x_f hF c33_2
    rcases Classical.em ((v29 &&& 63) = 3) with c33_3 | c33_3
    · replace hF := x_t hF c33_3
      refine q_tabIn 333 d_L_law_33 c33_3 (by decide) (by decide) rfl rfl ?_
      refine g_aloadn d_L_law_333 rfl ?_
      refine g_aloadn d_L_law_334 rfl ?_
      refine g_iloadn d_L_law_335 rfl ?_
      refine g_ic (1) d_L_law_336 ic_1 ?_
      refine g_iadd d_L_law_337 ?_
      replace hF := Option.bind_eq_some_iff.mp hF
      obtain ⟨v338, e338, hF⟩ := hF
      refine q_aI d_L_law_338 e338 ?_
      refine g_aloadn d_L_law_339 rfl ?_
      refine g_iloadn d_L_law_340 rfl ?_
      refine g_ic (2) d_L_law_341 ic_2 ?_
      refine g_iadd d_L_law_342 ?_
      replace hF := Option.bind_eq_some_iff.mp hF
      obtain ⟨v343, e343, hF⟩ := hF
      refine q_aI d_L_law_343 e343 ?_
      replace hF := Option.bind_eq_some_iff.mp hF
      obtain ⟨_, g344, hF⟩ := hF
      replace hF := Option.bind_eq_some_iff.mp hF
      obtain ⟨⟨r344, h344⟩, e344, hF⟩ := hF
      try dsimp only at hF
      refine q_callV [.int v338, .int v343] [] rfl d_L_law_344 v_L_27 (by omega) rfl (Nat.le_of_ble_eq_true rfl) (rc_rc g344 (by decide) rfl) (R_X11_person _ _ _ _ (by omega) e344) ?_
      refine g_aloadn d_L_law_347 rfl ?_
      refine g_aloadn d_L_law_348 rfl ?_
      refine g_iloadn d_L_law_349 rfl ?_
      refine g_ic (1) d_L_law_350 ic_1 ?_
      refine g_iadd d_L_law_351 ?_
      replace hF := Option.bind_eq_some_iff.mp hF
      obtain ⟨v352, e352, hF⟩ := hF
      refine q_aI d_L_law_352 e352 ?_
      refine g_aloadn d_L_law_353 rfl ?_
      refine g_iloadn d_L_law_354 rfl ?_
      refine g_ic (2) d_L_law_355 ic_2 ?_
      refine g_iadd d_L_law_356 ?_
      replace hF := Option.bind_eq_some_iff.mp hF
      obtain ⟨v357, e357, hF⟩ := hF
      refine q_aI d_L_law_357 e357 ?_
      replace hF := Option.bind_eq_some_iff.mp hF
      obtain ⟨_, g358, hF⟩ := hF
      replace hF := Option.bind_eq_some_iff.mp hF
      obtain ⟨⟨r358, h358⟩, e358, hF⟩ := hF
      try dsimp only at hF
      refine q_callV [.int v352, .int v357] [.int (r344)] rfl d_L_law_358 v_L_31 (by omega) rfl (Nat.le_of_ble_eq_true rfl) (rc_rc g358 (by decide) rfl) (R_X12_person _ _ _ _ (by omega) e358) ?_
      refine g_icmp_eq 1599 d_L_law_361 rfl (fun c361 => ?_) (fun c361 => ?_)
      · replace hF := x_t hF c361
        refine q_iinc (6) [.ref x0, .ref x1, .ref x2, .int (x3 + 6)] d_L_law_1599 ic_6 rfl (by decide) rfl ?_
        refine g_goto 18 d_L_law_1602 rfl ?_
        exact q_to (xs_r (xs_r (xs_r (xs_r xs_n)))) (ih _ _ _ _ _ _ _ hF)
      · replace hF := x_f hF c361
        refine g_ic (0) d_L_law_364 ic_0 ?_
        obtain ⟨rfl, rfl, rfl, rfl⟩ := x_inj4 hF
        exact g_zret d_L_law_365 rfl rfl hq
    replace hF := x_f hF c33_3
    rcases Classical.em ((v29 &&& 63) = 4) with c33_4 | c33_4
    · replace hF := x_t hF c33_4
      refine q_tabIn 366 d_L_law_33 c33_4 (by decide) (by decide) rfl rfl ?_
      refine g_aloadn d_L_law_366 rfl ?_
      refine g_aloadn d_L_law_367 rfl ?_
      refine g_iloadn d_L_law_368 rfl ?_
      refine g_ic (1) d_L_law_369 ic_1 ?_
      refine g_iadd d_L_law_370 ?_
      replace hF := Option.bind_eq_some_iff.mp hF
      obtain ⟨v371, e371, hF⟩ := hF
      refine q_aI d_L_law_371 e371 ?_
      refine g_aloadn d_L_law_372 rfl ?_
      refine g_iloadn d_L_law_373 rfl ?_
      refine g_ic (2) d_L_law_374 ic_2 ?_
      refine g_iadd d_L_law_375 ?_
      replace hF := Option.bind_eq_some_iff.mp hF
      obtain ⟨v376, e376, hF⟩ := hF
      refine q_aI d_L_law_376 e376 ?_
      replace hF := Option.bind_eq_some_iff.mp hF
      obtain ⟨_, g377, hF⟩ := hF
      replace hF := Option.bind_eq_some_iff.mp hF
      obtain ⟨⟨r377, h377⟩, e377, hF⟩ := hF
      try dsimp only at hF
      refine q_callV [.int v371, .int v376] [] rfl d_L_law_377 v_L_32 (by omega) rfl (Nat.le_of_ble_eq_true rfl) (rc_rc g377 (by decide) rfl) (R_X11_sounds _ _ _ _ (by omega) e377) ?_
      refine g_aloadn d_L_law_380 rfl ?_
      refine g_aloadn d_L_law_381 rfl ?_
      refine g_iloadn d_L_law_382 rfl ?_
      refine g_ic (1) d_L_law_383 ic_1 ?_
      refine g_iadd d_L_law_384 ?_
      replace hF := Option.bind_eq_some_iff.mp hF
      obtain ⟨v385, e385, hF⟩ := hF
      refine q_aI d_L_law_385 e385 ?_
      refine g_aloadn d_L_law_386 rfl ?_
      refine g_iloadn d_L_law_387 rfl ?_
      refine g_ic (2) d_L_law_388 ic_2 ?_
      refine g_iadd d_L_law_389 ?_
      replace hF := Option.bind_eq_some_iff.mp hF
      obtain ⟨v390, e390, hF⟩ := hF
      refine q_aI d_L_law_390 e390 ?_
      replace hF := Option.bind_eq_some_iff.mp hF
      obtain ⟨_, g391, hF⟩ := hF
      replace hF := Option.bind_eq_some_iff.mp hF
      obtain ⟨⟨r391, h391⟩, e391, hF⟩ := hF
      try dsimp only at hF
      refine q_callV [.int v385, .int v390] [.int (r377)] rfl d_L_law_391 v_L_35 (by omega) rfl (Nat.le_of_ble_eq_true rfl) (rc_rc g391 (by decide) rfl) (R_X12_sounds _ _ _ _ (by omega) e391) ?_
      refine g_icmp_eq 1599 d_L_law_394 rfl (fun c394 => ?_) (fun c394 => ?_)
      · replace hF := x_t hF c394
        refine q_iinc (6) [.ref x0, .ref x1, .ref x2, .int (x3 + 6)] d_L_law_1599 ic_6 rfl (by decide) rfl ?_
        refine g_goto 18 d_L_law_1602 rfl ?_
        exact q_to (xs_r (xs_r (xs_r (xs_r xs_n)))) (ih _ _ _ _ _ _ _ hF)
      · replace hF := x_f hF c394
        refine g_ic (0) d_L_law_397 ic_0 ?_
        obtain ⟨rfl, rfl, rfl, rfl⟩ := x_inj4 hF
        exact g_zret d_L_law_398 rfl rfl hq
    replace hF := x_f hF c33_4
    rcases Classical.em ((v29 &&& 63) = 5) with c33_5 | c33_5
    · replace hF := x_t hF c33_5
      refine q_tabIn 399 d_L_law_33 c33_5 (by decide) (by decide) rfl rfl ?_
      refine g_aloadn d_L_law_399 rfl ?_
      refine g_aloadn d_L_law_400 rfl ?_
      refine g_iloadn d_L_law_401 rfl ?_
      refine g_ic (1) d_L_law_402 ic_1 ?_
      refine g_iadd d_L_law_403 ?_
      replace hF := Option.bind_eq_some_iff.mp hF
      obtain ⟨v404, e404, hF⟩ := hF
      refine q_aI d_L_law_404 e404 ?_
      refine g_aloadn d_L_law_405 rfl ?_
      refine g_iloadn d_L_law_406 rfl ?_
      refine g_ic (2) d_L_law_407 ic_2 ?_
      refine g_iadd d_L_law_408 ?_
      replace hF := Option.bind_eq_some_iff.mp hF
      obtain ⟨v409, e409, hF⟩ := hF
      refine q_aI d_L_law_409 e409 ?_
      replace hF := Option.bind_eq_some_iff.mp hF
      obtain ⟨_, g410, hF⟩ := hF
      replace hF := Option.bind_eq_some_iff.mp hF
      obtain ⟨⟨r410, h410⟩, e410, hF⟩ := hF
      try dsimp only at hF
      refine q_callV [.int v404, .int v409] [] rfl d_L_law_410 v_L_36 (by omega) rfl (Nat.le_of_ble_eq_true rfl) (rc_rc g410 (by decide) rfl) (R_X11_place _ _ _ _ (by omega) e410) ?_
      refine g_aloadn d_L_law_413 rfl ?_
      refine g_aloadn d_L_law_414 rfl ?_
      refine g_iloadn d_L_law_415 rfl ?_
      refine g_ic (1) d_L_law_416 ic_1 ?_
      refine g_iadd d_L_law_417 ?_
      replace hF := Option.bind_eq_some_iff.mp hF
      obtain ⟨v418, e418, hF⟩ := hF
      refine q_aI d_L_law_418 e418 ?_
      refine g_aloadn d_L_law_419 rfl ?_
      refine g_iloadn d_L_law_420 rfl ?_
      refine g_ic (2) d_L_law_421 ic_2 ?_
      refine g_iadd d_L_law_422 ?_
      replace hF := Option.bind_eq_some_iff.mp hF
      obtain ⟨v423, e423, hF⟩ := hF
      refine q_aI d_L_law_423 e423 ?_
      replace hF := Option.bind_eq_some_iff.mp hF
      obtain ⟨_, g424, hF⟩ := hF
      replace hF := Option.bind_eq_some_iff.mp hF
      obtain ⟨⟨r424, h424⟩, e424, hF⟩ := hF
      try dsimp only at hF
      refine q_callV [.int v418, .int v423] [.int (r410)] rfl d_L_law_424 v_L_39 (by omega) rfl (Nat.le_of_ble_eq_true rfl) (rc_rc g424 (by decide) rfl) (R_X12_place _ _ _ _ (by omega) e424) ?_
      refine g_icmp_eq 1599 d_L_law_427 rfl (fun c427 => ?_) (fun c427 => ?_)
      · replace hF := x_t hF c427
        refine q_iinc (6) [.ref x0, .ref x1, .ref x2, .int (x3 + 6)] d_L_law_1599 ic_6 rfl (by decide) rfl ?_
        refine g_goto 18 d_L_law_1602 rfl ?_
        exact q_to (xs_r (xs_r (xs_r (xs_r xs_n)))) (ih _ _ _ _ _ _ _ hF)
      · replace hF := x_f hF c427
        refine g_ic (0) d_L_law_430 ic_0 ?_
        obtain ⟨rfl, rfl, rfl, rfl⟩ := x_inj4 hF
        exact g_zret d_L_law_431 rfl rfl hq
    replace hF := x_f hF c33_5
    rcases Classical.em ((v29 &&& 63) = 6) with c33_6 | c33_6
    · replace hF := x_t hF c33_6
      refine q_tabIn 432 d_L_law_33 c33_6 (by decide) (by decide) rfl rfl ?_
      refine g_aloadn d_L_law_432 rfl ?_
      refine g_aloadn d_L_law_433 rfl ?_
      refine g_iloadn d_L_law_434 rfl ?_
      refine g_ic (1) d_L_law_435 ic_1 ?_
      refine g_iadd d_L_law_436 ?_
      replace hF := Option.bind_eq_some_iff.mp hF
      obtain ⟨v437, e437, hF⟩ := hF
      refine q_aI d_L_law_437 e437 ?_
      refine g_aloadn d_L_law_438 rfl ?_
      refine g_iloadn d_L_law_439 rfl ?_
      refine g_ic (2) d_L_law_440 ic_2 ?_
      refine g_iadd d_L_law_441 ?_
      replace hF := Option.bind_eq_some_iff.mp hF
      obtain ⟨v442, e442, hF⟩ := hF
      refine q_aI d_L_law_442 e442 ?_
      replace hF := Option.bind_eq_some_iff.mp hF
      obtain ⟨_, g443, hF⟩ := hF
      replace hF := Option.bind_eq_some_iff.mp hF
      obtain ⟨⟨r443, h443⟩, e443, hF⟩ := hF
      try dsimp only at hF
      refine q_callV [.int v437, .int v442] [] rfl d_L_law_443 v_L_40 (by omega) rfl (Nat.le_of_ble_eq_true rfl) (rc_rc g443 (by decide) rfl) (R_X11_note _ _ _ _ (by omega) e443) ?_
      refine g_aloadn d_L_law_446 rfl ?_
      refine g_aloadn d_L_law_447 rfl ?_
      refine g_iloadn d_L_law_448 rfl ?_
      refine g_ic (1) d_L_law_449 ic_1 ?_
      refine g_iadd d_L_law_450 ?_
      replace hF := Option.bind_eq_some_iff.mp hF
      obtain ⟨v451, e451, hF⟩ := hF
      refine q_aI d_L_law_451 e451 ?_
      refine g_aloadn d_L_law_452 rfl ?_
      refine g_iloadn d_L_law_453 rfl ?_
      refine g_ic (2) d_L_law_454 ic_2 ?_
      refine g_iadd d_L_law_455 ?_
      replace hF := Option.bind_eq_some_iff.mp hF
      obtain ⟨v456, e456, hF⟩ := hF
      refine q_aI d_L_law_456 e456 ?_
      replace hF := Option.bind_eq_some_iff.mp hF
      obtain ⟨_, g457, hF⟩ := hF
      replace hF := Option.bind_eq_some_iff.mp hF
      obtain ⟨⟨r457, h457⟩, e457, hF⟩ := hF
      try dsimp only at hF
      refine q_callV [.int v451, .int v456] [.int (r443)] rfl d_L_law_457 v_L_43 (by omega) rfl (Nat.le_of_ble_eq_true rfl) (rc_rc g457 (by decide) rfl) (R_X12_note _ _ _ _ (by omega) e457) ?_
      refine g_icmp_eq 1599 d_L_law_460 rfl (fun c460 => ?_) (fun c460 => ?_)
      · replace hF := x_t hF c460
        refine q_iinc (6) [.ref x0, .ref x1, .ref x2, .int (x3 + 6)] d_L_law_1599 ic_6 rfl (by decide) rfl ?_
        refine g_goto 18 d_L_law_1602 rfl ?_
        exact q_to (xs_r (xs_r (xs_r (xs_r xs_n)))) (ih _ _ _ _ _ _ _ hF)
      · replace hF := x_f hF c460
        refine g_ic (0) d_L_law_463 ic_0 ?_
        obtain ⟨rfl, rfl, rfl, rfl⟩ := x_inj4 hF
        exact g_zret d_L_law_464 rfl rfl hq
    replace hF := x_f hF c33_6
    rcases Classical.em ((v29 &&& 63) = 7) with c33_7 | c33_7
    · replace hF := x_t hF c33_7
      refine q_tabIn 465 d_L_law_33 c33_7 (by decide) (by decide) rfl rfl ?_
      refine g_aloadn d_L_law_465 rfl ?_
      refine g_aloadn d_L_law_466 rfl ?_
      refine g_iloadn d_L_law_467 rfl ?_
      refine g_ic (1) d_L_law_468 ic_1 ?_
      refine g_iadd d_L_law_469 ?_
      replace hF := Option.bind_eq_some_iff.mp hF
      obtain ⟨v470, e470, hF⟩ := hF
      refine q_aI d_L_law_470 e470 ?_
      refine g_aloadn d_L_law_471 rfl ?_
      refine g_iloadn d_L_law_472 rfl ?_
      refine g_ic (2) d_L_law_473 ic_2 ?_
      refine g_iadd d_L_law_474 ?_
      replace hF := Option.bind_eq_some_iff.mp hF
      obtain ⟨v475, e475, hF⟩ := hF
      refine q_aI d_L_law_475 e475 ?_
      replace hF := Option.bind_eq_some_iff.mp hF
      obtain ⟨_, g476, hF⟩ := hF
      replace hF := Option.bind_eq_some_iff.mp hF
      obtain ⟨⟨r476, h476⟩, e476, hF⟩ := hF
      try dsimp only at hF
      refine q_callV [.int v470, .int v475] [] rfl d_L_law_476 v_L_44 (by omega) rfl (Nat.le_of_ble_eq_true rfl) (rc_rc g476 (by decide) rfl) (R_X11_steps _ _ _ _ (by omega) e476) ?_
      refine g_aloadn d_L_law_479 rfl ?_
      refine g_aloadn d_L_law_480 rfl ?_
      refine g_iloadn d_L_law_481 rfl ?_
      refine g_ic (1) d_L_law_482 ic_1 ?_
      refine g_iadd d_L_law_483 ?_
      replace hF := Option.bind_eq_some_iff.mp hF
      obtain ⟨v484, e484, hF⟩ := hF
      refine q_aI d_L_law_484 e484 ?_
      refine g_aloadn d_L_law_485 rfl ?_
      refine g_iloadn d_L_law_486 rfl ?_
      refine g_ic (2) d_L_law_487 ic_2 ?_
      refine g_iadd d_L_law_488 ?_
      replace hF := Option.bind_eq_some_iff.mp hF
      obtain ⟨v489, e489, hF⟩ := hF
      refine q_aI d_L_law_489 e489 ?_
      replace hF := Option.bind_eq_some_iff.mp hF
      obtain ⟨_, g490, hF⟩ := hF
      replace hF := Option.bind_eq_some_iff.mp hF
      obtain ⟨⟨r490, h490⟩, e490, hF⟩ := hF
      try dsimp only at hF
      refine q_callV [.int v484, .int v489] [.int (r476)] rfl d_L_law_490 v_L_47 (by omega) rfl (Nat.le_of_ble_eq_true rfl) (rc_rc g490 (by decide) rfl) (R_X12_steps _ _ _ _ (by omega) e490) ?_
      refine g_icmp_eq 1599 d_L_law_493 rfl (fun c493 => ?_) (fun c493 => ?_)
      · replace hF := x_t hF c493
        refine q_iinc (6) [.ref x0, .ref x1, .ref x2, .int (x3 + 6)] d_L_law_1599 ic_6 rfl (by decide) rfl ?_
        refine g_goto 18 d_L_law_1602 rfl ?_
        exact q_to (xs_r (xs_r (xs_r (xs_r xs_n)))) (ih _ _ _ _ _ _ _ hF)
      · replace hF := x_f hF c493
        refine g_ic (0) d_L_law_496 ic_0 ?_
        obtain ⟨rfl, rfl, rfl, rfl⟩ := x_inj4 hF
        exact g_zret d_L_law_497 rfl rfl hq
    replace hF := x_f hF c33_7
    rcases Classical.em ((v29 &&& 63) = 8) with c33_8 | c33_8
    · replace hF := x_t hF c33_8
      refine q_tabIn 498 d_L_law_33 c33_8 (by decide) (by decide) rfl rfl ?_
      refine g_aloadn d_L_law_498 rfl ?_
      refine g_aloadn d_L_law_499 rfl ?_
      refine g_iloadn d_L_law_500 rfl ?_
      refine g_ic (1) d_L_law_501 ic_1 ?_
      refine g_iadd d_L_law_502 ?_
      replace hF := Option.bind_eq_some_iff.mp hF
      obtain ⟨v503, e503, hF⟩ := hF
      refine q_aI d_L_law_503 e503 ?_
      replace hF := Option.bind_eq_some_iff.mp hF
      obtain ⟨_, g504, hF⟩ := hF
      replace hF := Option.bind_eq_some_iff.mp hF
      obtain ⟨⟨r504, h504⟩, e504, hF⟩ := hF
      try dsimp only at hF
      refine q_callV [.int v503] [] rfl d_L_law_504 v_L_48 (by omega) rfl (Nat.le_of_ble_eq_true rfl) (rc_rc g504 (by decide) rfl) (R_X11_whole _ _ _ (by omega) e504) ?_
      refine g_aloadn d_L_law_507 rfl ?_
      refine g_aloadn d_L_law_508 rfl ?_
      refine g_iloadn d_L_law_509 rfl ?_
      refine g_ic (1) d_L_law_510 ic_1 ?_
      refine g_iadd d_L_law_511 ?_
      replace hF := Option.bind_eq_some_iff.mp hF
      obtain ⟨v512, e512, hF⟩ := hF
      refine q_aI d_L_law_512 e512 ?_
      replace hF := Option.bind_eq_some_iff.mp hF
      obtain ⟨_, g513, hF⟩ := hF
      replace hF := Option.bind_eq_some_iff.mp hF
      obtain ⟨⟨r513, h513⟩, e513, hF⟩ := hF
      try dsimp only at hF
      refine q_callV [.int v512] [.int (r504)] rfl d_L_law_513 v_L_51 (by omega) rfl (Nat.le_of_ble_eq_true rfl) (rc_rc g513 (by decide) rfl) (R_X12_whole _ _ _ (by omega) e513) ?_
      refine g_icmp_eq 1599 d_L_law_516 rfl (fun c516 => ?_) (fun c516 => ?_)
      · replace hF := x_t hF c516
        refine q_iinc (6) [.ref x0, .ref x1, .ref x2, .int (x3 + 6)] d_L_law_1599 ic_6 rfl (by decide) rfl ?_
        refine g_goto 18 d_L_law_1602 rfl ?_
        exact q_to (xs_r (xs_r (xs_r (xs_r xs_n)))) (ih _ _ _ _ _ _ _ hF)
      · replace hF := x_f hF c516
        refine g_ic (0) d_L_law_519 ic_0 ?_
        obtain ⟨rfl, rfl, rfl, rfl⟩ := x_inj4 hF
        exact g_zret d_L_law_520 rfl rfl hq
    replace hF := x_f hF c33_8
    rcases Classical.em ((v29 &&& 63) = 9) with c33_9 | c33_9
    · replace hF := x_t hF c33_9
      refine q_tabIn 521 d_L_law_33 c33_9 (by decide) (by decide) rfl rfl ?_
      refine g_aloadn d_L_law_521 rfl ?_
      refine g_aloadn d_L_law_522 rfl ?_
      refine g_iloadn d_L_law_523 rfl ?_
      refine g_ic (1) d_L_law_524 ic_1 ?_
      refine g_iadd d_L_law_525 ?_
      replace hF := Option.bind_eq_some_iff.mp hF
      obtain ⟨v526, e526, hF⟩ := hF
      refine q_aI d_L_law_526 e526 ?_
      replace hF := Option.bind_eq_some_iff.mp hF
      obtain ⟨_, g527, hF⟩ := hF
      replace hF := Option.bind_eq_some_iff.mp hF
      obtain ⟨⟨r527, h527⟩, e527, hF⟩ := hF
      try dsimp only at hF
      refine q_callV [.int v526] [] rfl d_L_law_527 v_L_52 (by omega) rfl (Nat.le_of_ble_eq_true rfl) (rc_rc g527 (by decide) rfl) (R_X11_owners _ _ _ (by omega) e527) ?_
      refine g_aloadn d_L_law_530 rfl ?_
      refine g_aloadn d_L_law_531 rfl ?_
      refine g_iloadn d_L_law_532 rfl ?_
      refine g_ic (1) d_L_law_533 ic_1 ?_
      refine g_iadd d_L_law_534 ?_
      replace hF := Option.bind_eq_some_iff.mp hF
      obtain ⟨v535, e535, hF⟩ := hF
      refine q_aI d_L_law_535 e535 ?_
      replace hF := Option.bind_eq_some_iff.mp hF
      obtain ⟨_, g536, hF⟩ := hF
      replace hF := Option.bind_eq_some_iff.mp hF
      obtain ⟨⟨r536, h536⟩, e536, hF⟩ := hF
      try dsimp only at hF
      refine q_callV [.int v535] [.int (r527)] rfl d_L_law_536 v_L_55 (by omega) rfl (Nat.le_of_ble_eq_true rfl) (rc_rc g536 (by decide) rfl) (R_X12_owners _ _ _ (by omega) e536) ?_
      refine g_icmp_eq 1599 d_L_law_539 rfl (fun c539 => ?_) (fun c539 => ?_)
      · replace hF := x_t hF c539
        refine q_iinc (6) [.ref x0, .ref x1, .ref x2, .int (x3 + 6)] d_L_law_1599 ic_6 rfl (by decide) rfl ?_
        refine g_goto 18 d_L_law_1602 rfl ?_
        exact q_to (xs_r (xs_r (xs_r (xs_r xs_n)))) (ih _ _ _ _ _ _ _ hF)
      · replace hF := x_f hF c539
        refine g_ic (0) d_L_law_542 ic_0 ?_
        obtain ⟨rfl, rfl, rfl, rfl⟩ := x_inj4 hF
        exact g_zret d_L_law_543 rfl rfl hq
    replace hF := x_f hF c33_9
    rcases Classical.em ((v29 &&& 63) = 10) with c33_10 | c33_10
    · replace hF := x_t hF c33_10
      refine q_tabIn 544 d_L_law_33 c33_10 (by decide) (by decide) rfl rfl ?_
      refine g_aloadn d_L_law_544 rfl ?_
      refine g_aloadn d_L_law_545 rfl ?_
      refine g_iloadn d_L_law_546 rfl ?_
      refine g_ic (1) d_L_law_547 ic_1 ?_
      refine g_iadd d_L_law_548 ?_
      replace hF := Option.bind_eq_some_iff.mp hF
      obtain ⟨v549, e549, hF⟩ := hF
      refine q_aI d_L_law_549 e549 ?_
      refine g_aloadn d_L_law_550 rfl ?_
      refine g_iloadn d_L_law_551 rfl ?_
      refine g_ic (2) d_L_law_552 ic_2 ?_
      refine g_iadd d_L_law_553 ?_
      replace hF := Option.bind_eq_some_iff.mp hF
      obtain ⟨v554, e554, hF⟩ := hF
      refine q_aI d_L_law_554 e554 ?_
      replace hF := Option.bind_eq_some_iff.mp hF
      obtain ⟨_, g555, hF⟩ := hF
      replace hF := Option.bind_eq_some_iff.mp hF
      obtain ⟨⟨r555, h555⟩, e555, hF⟩ := hF
      try dsimp only at hF
      refine q_callV [.int v549, .int v554] [] rfl d_L_law_555 v_L_56 (by omega) rfl (Nat.le_of_ble_eq_true rfl) (rc_rc g555 (by decide) rfl) (R_X11_go _ _ _ _ (by omega) e555) ?_
      refine g_aloadn d_L_law_558 rfl ?_
      refine g_aloadn d_L_law_559 rfl ?_
      refine g_iloadn d_L_law_560 rfl ?_
      refine g_ic (1) d_L_law_561 ic_1 ?_
      refine g_iadd d_L_law_562 ?_
      replace hF := Option.bind_eq_some_iff.mp hF
      obtain ⟨v563, e563, hF⟩ := hF
      refine q_aI d_L_law_563 e563 ?_
      refine g_aloadn d_L_law_564 rfl ?_
      refine g_iloadn d_L_law_565 rfl ?_
      refine g_ic (2) d_L_law_566 ic_2 ?_
      refine g_iadd d_L_law_567 ?_
      replace hF := Option.bind_eq_some_iff.mp hF
      obtain ⟨v568, e568, hF⟩ := hF
      refine q_aI d_L_law_568 e568 ?_
      replace hF := Option.bind_eq_some_iff.mp hF
      obtain ⟨_, g569, hF⟩ := hF
      replace hF := Option.bind_eq_some_iff.mp hF
      obtain ⟨⟨r569, h569⟩, e569, hF⟩ := hF
      try dsimp only at hF
      refine q_callV [.int v563, .int v568] [.int (r555)] rfl d_L_law_569 v_L_59 (by omega) rfl (Nat.le_of_ble_eq_true rfl) (rc_rc g569 (by decide) rfl) (R_X12_go _ _ _ _ (by omega) e569) ?_
      refine g_icmp_eq 1599 d_L_law_572 rfl (fun c572 => ?_) (fun c572 => ?_)
      · replace hF := x_t hF c572
        refine q_iinc (6) [.ref x0, .ref x1, .ref x2, .int (x3 + 6)] d_L_law_1599 ic_6 rfl (by decide) rfl ?_
        refine g_goto 18 d_L_law_1602 rfl ?_
        exact q_to (xs_r (xs_r (xs_r (xs_r xs_n)))) (ih _ _ _ _ _ _ _ hF)
      · replace hF := x_f hF c572
        refine g_ic (0) d_L_law_575 ic_0 ?_
        obtain ⟨rfl, rfl, rfl, rfl⟩ := x_inj4 hF
        exact g_zret d_L_law_576 rfl rfl hq
    replace hF := x_f hF c33_10
    rcases Classical.em ((v29 &&& 63) = 11) with c33_11 | c33_11
    · replace hF := x_t hF c33_11
      refine q_tabIn 577 d_L_law_33 c33_11 (by decide) (by decide) rfl rfl ?_
      refine g_aloadn d_L_law_577 rfl ?_
      refine g_aloadn d_L_law_578 rfl ?_
      refine g_iloadn d_L_law_579 rfl ?_
      refine g_ic (1) d_L_law_580 ic_1 ?_
      refine g_iadd d_L_law_581 ?_
      replace hF := Option.bind_eq_some_iff.mp hF
      obtain ⟨v582, e582, hF⟩ := hF
      refine q_aI d_L_law_582 e582 ?_
      replace hF := Option.bind_eq_some_iff.mp hF
      obtain ⟨_, g583, hF⟩ := hF
      replace hF := Option.bind_eq_some_iff.mp hF
      obtain ⟨⟨r583, h583⟩, e583, hF⟩ := hF
      try dsimp only at hF
      refine q_callV [.int v582] [] rfl d_L_law_583 v_L_60 (by omega) rfl (Nat.le_of_ble_eq_true rfl) (rc_rc g583 (by decide) rfl) (R_X11_days _ _ _ (by omega) e583) ?_
      refine g_aloadn d_L_law_586 rfl ?_
      refine g_aloadn d_L_law_587 rfl ?_
      refine g_iloadn d_L_law_588 rfl ?_
      refine g_ic (1) d_L_law_589 ic_1 ?_
      refine g_iadd d_L_law_590 ?_
      replace hF := Option.bind_eq_some_iff.mp hF
      obtain ⟨v591, e591, hF⟩ := hF
      refine q_aI d_L_law_591 e591 ?_
      replace hF := Option.bind_eq_some_iff.mp hF
      obtain ⟨_, g592, hF⟩ := hF
      replace hF := Option.bind_eq_some_iff.mp hF
      obtain ⟨⟨r592, h592⟩, e592, hF⟩ := hF
      try dsimp only at hF
      refine q_callV [.int v591] [.int (r583)] rfl d_L_law_592 v_L_63 (by omega) rfl (Nat.le_of_ble_eq_true rfl) (rc_rc g592 (by decide) rfl) (R_X12_days _ _ _ (by omega) e592) ?_
      refine g_icmp_eq 1599 d_L_law_595 rfl (fun c595 => ?_) (fun c595 => ?_)
      · replace hF := x_t hF c595
        refine q_iinc (6) [.ref x0, .ref x1, .ref x2, .int (x3 + 6)] d_L_law_1599 ic_6 rfl (by decide) rfl ?_
        refine g_goto 18 d_L_law_1602 rfl ?_
        exact q_to (xs_r (xs_r (xs_r (xs_r xs_n)))) (ih _ _ _ _ _ _ _ hF)
      · replace hF := x_f hF c595
        refine g_ic (0) d_L_law_598 ic_0 ?_
        obtain ⟨rfl, rfl, rfl, rfl⟩ := x_inj4 hF
        exact g_zret d_L_law_599 rfl rfl hq
    replace hF := x_f hF c33_11
    rcases Classical.em ((v29 &&& 63) = 12) with c33_12 | c33_12
    · replace hF := x_t hF c33_12
      refine q_tabIn 600 d_L_law_33 c33_12 (by decide) (by decide) rfl rfl ?_
      refine g_aloadn d_L_law_600 rfl ?_
      refine g_aloadn d_L_law_601 rfl ?_
      refine g_iloadn d_L_law_602 rfl ?_
      refine g_ic (1) d_L_law_603 ic_1 ?_
      refine g_iadd d_L_law_604 ?_
      replace hF := Option.bind_eq_some_iff.mp hF
      obtain ⟨v605, e605, hF⟩ := hF
      refine q_aI d_L_law_605 e605 ?_
      refine g_aloadn d_L_law_606 rfl ?_
      refine g_iloadn d_L_law_607 rfl ?_
      refine g_ic (2) d_L_law_608 ic_2 ?_
      refine g_iadd d_L_law_609 ?_
      replace hF := Option.bind_eq_some_iff.mp hF
      obtain ⟨v610, e610, hF⟩ := hF
      refine q_aI d_L_law_610 e610 ?_
      replace hF := Option.bind_eq_some_iff.mp hF
      obtain ⟨_, g611, hF⟩ := hF
      replace hF := Option.bind_eq_some_iff.mp hF
      obtain ⟨⟨r611, h611⟩, e611, hF⟩ := hF
      try dsimp only at hF
      refine q_callV [.int v605, .int v610] [] rfl d_L_law_611 v_L_64 (by omega) rfl (Nat.le_of_ble_eq_true rfl) (rc_rc g611 (by decide) rfl) (R_X11_ear _ _ _ _ (by omega) e611) ?_
      refine g_aloadn d_L_law_614 rfl ?_
      refine g_aloadn d_L_law_615 rfl ?_
      refine g_iloadn d_L_law_616 rfl ?_
      refine g_ic (1) d_L_law_617 ic_1 ?_
      refine g_iadd d_L_law_618 ?_
      replace hF := Option.bind_eq_some_iff.mp hF
      obtain ⟨v619, e619, hF⟩ := hF
      refine q_aI d_L_law_619 e619 ?_
      refine g_aloadn d_L_law_620 rfl ?_
      refine g_iloadn d_L_law_621 rfl ?_
      refine g_ic (2) d_L_law_622 ic_2 ?_
      refine g_iadd d_L_law_623 ?_
      replace hF := Option.bind_eq_some_iff.mp hF
      obtain ⟨v624, e624, hF⟩ := hF
      refine q_aI d_L_law_624 e624 ?_
      replace hF := Option.bind_eq_some_iff.mp hF
      obtain ⟨_, g625, hF⟩ := hF
      replace hF := Option.bind_eq_some_iff.mp hF
      obtain ⟨⟨r625, h625⟩, e625, hF⟩ := hF
      try dsimp only at hF
      refine q_callV [.int v619, .int v624] [.int (r611)] rfl d_L_law_625 v_L_67 (by omega) rfl (Nat.le_of_ble_eq_true rfl) (rc_rc g625 (by decide) rfl) (R_X12_ear _ _ _ _ (by omega) e625) ?_
      refine g_icmp_eq 1599 d_L_law_628 rfl (fun c628 => ?_) (fun c628 => ?_)
      · replace hF := x_t hF c628
        refine q_iinc (6) [.ref x0, .ref x1, .ref x2, .int (x3 + 6)] d_L_law_1599 ic_6 rfl (by decide) rfl ?_
        refine g_goto 18 d_L_law_1602 rfl ?_
        exact q_to (xs_r (xs_r (xs_r (xs_r xs_n)))) (ih _ _ _ _ _ _ _ hF)
      · replace hF := x_f hF c628
        refine g_ic (0) d_L_law_631 ic_0 ?_
        obtain ⟨rfl, rfl, rfl, rfl⟩ := x_inj4 hF
        exact g_zret d_L_law_632 rfl rfl hq
    replace hF := x_f hF c33_12
    rcases Classical.em ((v29 &&& 63) = 13) with c33_13 | c33_13
    · replace hF := x_t hF c33_13
      refine q_tabIn 633 d_L_law_33 c33_13 (by decide) (by decide) rfl rfl ?_
      refine g_aloadn d_L_law_633 rfl ?_
      refine g_aloadn d_L_law_634 rfl ?_
      refine g_iloadn d_L_law_635 rfl ?_
      refine g_ic (1) d_L_law_636 ic_1 ?_
      refine g_iadd d_L_law_637 ?_
      replace hF := Option.bind_eq_some_iff.mp hF
      obtain ⟨v638, e638, hF⟩ := hF
      refine q_aI d_L_law_638 e638 ?_
      refine g_aloadn d_L_law_639 rfl ?_
      refine g_iloadn d_L_law_640 rfl ?_
      refine g_ic (2) d_L_law_641 ic_2 ?_
      refine g_iadd d_L_law_642 ?_
      replace hF := Option.bind_eq_some_iff.mp hF
      obtain ⟨v643, e643, hF⟩ := hF
      refine q_aI d_L_law_643 e643 ?_
      replace hF := Option.bind_eq_some_iff.mp hF
      obtain ⟨_, g644, hF⟩ := hF
      replace hF := Option.bind_eq_some_iff.mp hF
      obtain ⟨⟨r644, h644⟩, e644, hF⟩ := hF
      try dsimp only at hF
      refine q_callV [.int v638, .int v643] [] rfl d_L_law_644 v_L_68 (by omega) rfl (Nat.le_of_ble_eq_true rfl) (rc_rc g644 (by decide) rfl) (R_X11_blank _ _ _ _ (by omega) e644) ?_
      refine g_aloadn d_L_law_647 rfl ?_
      refine g_aloadn d_L_law_648 rfl ?_
      refine g_iloadn d_L_law_649 rfl ?_
      refine g_ic (1) d_L_law_650 ic_1 ?_
      refine g_iadd d_L_law_651 ?_
      replace hF := Option.bind_eq_some_iff.mp hF
      obtain ⟨v652, e652, hF⟩ := hF
      refine q_aI d_L_law_652 e652 ?_
      refine g_aloadn d_L_law_653 rfl ?_
      refine g_iloadn d_L_law_654 rfl ?_
      refine g_ic (2) d_L_law_655 ic_2 ?_
      refine g_iadd d_L_law_656 ?_
      replace hF := Option.bind_eq_some_iff.mp hF
      obtain ⟨v657, e657, hF⟩ := hF
      refine q_aI d_L_law_657 e657 ?_
      replace hF := Option.bind_eq_some_iff.mp hF
      obtain ⟨_, g658, hF⟩ := hF
      replace hF := Option.bind_eq_some_iff.mp hF
      obtain ⟨⟨r658, h658⟩, e658, hF⟩ := hF
      try dsimp only at hF
      refine q_callV [.int v652, .int v657] [.int (r644)] rfl d_L_law_658 v_L_71 (by omega) rfl (Nat.le_of_ble_eq_true rfl) (rc_rc g658 (by decide) rfl) (R_X12_blank _ _ _ _ (by omega) e658) ?_
      refine g_icmp_eq 1599 d_L_law_661 rfl (fun c661 => ?_) (fun c661 => ?_)
      · replace hF := x_t hF c661
        refine q_iinc (6) [.ref x0, .ref x1, .ref x2, .int (x3 + 6)] d_L_law_1599 ic_6 rfl (by decide) rfl ?_
        refine g_goto 18 d_L_law_1602 rfl ?_
        exact q_to (xs_r (xs_r (xs_r (xs_r xs_n)))) (ih _ _ _ _ _ _ _ hF)
      · replace hF := x_f hF c661
        refine g_ic (0) d_L_law_664 ic_0 ?_
        obtain ⟨rfl, rfl, rfl, rfl⟩ := x_inj4 hF
        exact g_zret d_L_law_665 rfl rfl hq
    replace hF := x_f hF c33_13
    rcases Classical.em ((v29 &&& 63) = 14) with c33_14 | c33_14
    · replace hF := x_t hF c33_14
      refine q_tabIn 666 d_L_law_33 c33_14 (by decide) (by decide) rfl rfl ?_
      refine g_aloadn d_L_law_666 rfl ?_
      refine g_aloadn d_L_law_667 rfl ?_
      refine g_iloadn d_L_law_668 rfl ?_
      refine g_ic (1) d_L_law_669 ic_1 ?_
      refine g_iadd d_L_law_670 ?_
      replace hF := Option.bind_eq_some_iff.mp hF
      obtain ⟨v671, e671, hF⟩ := hF
      refine q_aI d_L_law_671 e671 ?_
      replace hF := Option.bind_eq_some_iff.mp hF
      obtain ⟨_, g672, hF⟩ := hF
      replace hF := Option.bind_eq_some_iff.mp hF
      obtain ⟨⟨r672, h672⟩, e672, hF⟩ := hF
      try dsimp only at hF
      refine q_callV [.int v671] [] rfl d_L_law_672 v_L_72 (by omega) rfl (Nat.le_of_ble_eq_true rfl) (rc_rc g672 (by decide) rfl) (R_X11_undo _ _ _ (by omega) e672) ?_
      refine g_aloadn d_L_law_675 rfl ?_
      refine g_aloadn d_L_law_676 rfl ?_
      refine g_iloadn d_L_law_677 rfl ?_
      refine g_ic (1) d_L_law_678 ic_1 ?_
      refine g_iadd d_L_law_679 ?_
      replace hF := Option.bind_eq_some_iff.mp hF
      obtain ⟨v680, e680, hF⟩ := hF
      refine q_aI d_L_law_680 e680 ?_
      replace hF := Option.bind_eq_some_iff.mp hF
      obtain ⟨_, g681, hF⟩ := hF
      replace hF := Option.bind_eq_some_iff.mp hF
      obtain ⟨⟨r681, h681⟩, e681, hF⟩ := hF
      try dsimp only at hF
      refine q_callV [.int v680] [.int (r672)] rfl d_L_law_681 v_L_75 (by omega) rfl (Nat.le_of_ble_eq_true rfl) (rc_rc g681 (by decide) rfl) (R_X12_undo _ _ _ (by omega) e681) ?_
      refine g_icmp_eq 1599 d_L_law_684 rfl (fun c684 => ?_) (fun c684 => ?_)
      · replace hF := x_t hF c684
        refine q_iinc (6) [.ref x0, .ref x1, .ref x2, .int (x3 + 6)] d_L_law_1599 ic_6 rfl (by decide) rfl ?_
        refine g_goto 18 d_L_law_1602 rfl ?_
        exact q_to (xs_r (xs_r (xs_r (xs_r xs_n)))) (ih _ _ _ _ _ _ _ hF)
      · replace hF := x_f hF c684
        refine g_ic (0) d_L_law_687 ic_0 ?_
        obtain ⟨rfl, rfl, rfl, rfl⟩ := x_inj4 hF
        exact g_zret d_L_law_688 rfl rfl hq
    replace hF := x_f hF c33_14
    rcases Classical.em ((v29 &&& 63) = 15) with c33_15 | c33_15
    · replace hF := x_t hF c33_15
      refine q_tabIn 689 d_L_law_33 c33_15 (by decide) (by decide) rfl rfl ?_
      refine g_aloadn d_L_law_689 rfl ?_
      refine g_aloadn d_L_law_690 rfl ?_
      refine g_iloadn d_L_law_691 rfl ?_
      refine g_ic (1) d_L_law_692 ic_1 ?_
      refine g_iadd d_L_law_693 ?_
      replace hF := Option.bind_eq_some_iff.mp hF
      obtain ⟨v694, e694, hF⟩ := hF
      refine q_aI d_L_law_694 e694 ?_
      refine g_aloadn d_L_law_695 rfl ?_
      refine g_iloadn d_L_law_696 rfl ?_
      refine g_ic (2) d_L_law_697 ic_2 ?_
      refine g_iadd d_L_law_698 ?_
      replace hF := Option.bind_eq_some_iff.mp hF
      obtain ⟨v699, e699, hF⟩ := hF
      refine q_aI d_L_law_699 e699 ?_
      replace hF := Option.bind_eq_some_iff.mp hF
      obtain ⟨_, g700, hF⟩ := hF
      replace hF := Option.bind_eq_some_iff.mp hF
      obtain ⟨⟨r700, h700⟩, e700, hF⟩ := hF
      try dsimp only at hF
      refine q_callV [.int v694, .int v699] [] rfl d_L_law_700 v_L_76 (by omega) rfl (Nat.le_of_ble_eq_true rfl) (rc_rc g700 (by decide) rfl) (R_X11_judge _ _ _ _ (by omega) e700) ?_
      refine g_aloadn d_L_law_703 rfl ?_
      refine g_aloadn d_L_law_704 rfl ?_
      refine g_iloadn d_L_law_705 rfl ?_
      refine g_ic (1) d_L_law_706 ic_1 ?_
      refine g_iadd d_L_law_707 ?_
      replace hF := Option.bind_eq_some_iff.mp hF
      obtain ⟨v708, e708, hF⟩ := hF
      refine q_aI d_L_law_708 e708 ?_
      refine g_aloadn d_L_law_709 rfl ?_
      refine g_iloadn d_L_law_710 rfl ?_
      refine g_ic (2) d_L_law_711 ic_2 ?_
      refine g_iadd d_L_law_712 ?_
      replace hF := Option.bind_eq_some_iff.mp hF
      obtain ⟨v713, e713, hF⟩ := hF
      refine q_aI d_L_law_713 e713 ?_
      replace hF := Option.bind_eq_some_iff.mp hF
      obtain ⟨_, g714, hF⟩ := hF
      replace hF := Option.bind_eq_some_iff.mp hF
      obtain ⟨⟨r714, h714⟩, e714, hF⟩ := hF
      try dsimp only at hF
      refine q_callV [.int v708, .int v713] [.int (r700)] rfl d_L_law_714 v_L_79 (by omega) rfl (Nat.le_of_ble_eq_true rfl) (rc_rc g714 (by decide) rfl) (R_X12_judge _ _ _ _ (by omega) e714) ?_
      refine g_icmp_eq 1599 d_L_law_717 rfl (fun c717 => ?_) (fun c717 => ?_)
      · replace hF := x_t hF c717
        refine q_iinc (6) [.ref x0, .ref x1, .ref x2, .int (x3 + 6)] d_L_law_1599 ic_6 rfl (by decide) rfl ?_
        refine g_goto 18 d_L_law_1602 rfl ?_
        exact q_to (xs_r (xs_r (xs_r (xs_r xs_n)))) (ih _ _ _ _ _ _ _ hF)
      · replace hF := x_f hF c717
        refine g_ic (0) d_L_law_720 ic_0 ?_
        obtain ⟨rfl, rfl, rfl, rfl⟩ := x_inj4 hF
        exact g_zret d_L_law_721 rfl rfl hq
    replace hF := x_f hF c33_15
    rcases Classical.em ((v29 &&& 63) = 16) with c33_16 | c33_16
    · replace hF := x_t hF c33_16
      refine q_tabIn 722 d_L_law_33 c33_16 (by decide) (by decide) rfl rfl ?_
      refine g_aloadn d_L_law_722 rfl ?_
      refine g_aloadn d_L_law_723 rfl ?_
      refine g_iloadn d_L_law_724 rfl ?_
      refine g_ic (1) d_L_law_725 ic_1 ?_
      refine g_iadd d_L_law_726 ?_
      replace hF := Option.bind_eq_some_iff.mp hF
      obtain ⟨v727, e727, hF⟩ := hF
      refine q_aI d_L_law_727 e727 ?_
      replace hF := Option.bind_eq_some_iff.mp hF
      obtain ⟨_, g728, hF⟩ := hF
      replace hF := Option.bind_eq_some_iff.mp hF
      obtain ⟨⟨r728, h728⟩, e728, hF⟩ := hF
      try dsimp only at hF
      refine q_callV [.int v727] [] rfl d_L_law_728 v_L_80 (by omega) rfl (Nat.le_of_ble_eq_true rfl) (rc_rc g728 (by decide) rfl) (R_X11_perform _ _ _ (by omega) e728) ?_
      refine g_aloadn d_L_law_731 rfl ?_
      refine g_aloadn d_L_law_732 rfl ?_
      refine g_iloadn d_L_law_733 rfl ?_
      refine g_ic (1) d_L_law_734 ic_1 ?_
      refine g_iadd d_L_law_735 ?_
      replace hF := Option.bind_eq_some_iff.mp hF
      obtain ⟨v736, e736, hF⟩ := hF
      refine q_aI d_L_law_736 e736 ?_
      replace hF := Option.bind_eq_some_iff.mp hF
      obtain ⟨_, g737, hF⟩ := hF
      replace hF := Option.bind_eq_some_iff.mp hF
      obtain ⟨⟨r737, h737⟩, e737, hF⟩ := hF
      try dsimp only at hF
      refine q_callV [.int v736] [.int (r728)] rfl d_L_law_737 v_L_83 (by omega) rfl (Nat.le_of_ble_eq_true rfl) (rc_rc g737 (by decide) rfl) (R_X12_perform _ _ _ (by omega) e737) ?_
      refine g_icmp_eq 1599 d_L_law_740 rfl (fun c740 => ?_) (fun c740 => ?_)
      · replace hF := x_t hF c740
        refine q_iinc (6) [.ref x0, .ref x1, .ref x2, .int (x3 + 6)] d_L_law_1599 ic_6 rfl (by decide) rfl ?_
        refine g_goto 18 d_L_law_1602 rfl ?_
        exact q_to (xs_r (xs_r (xs_r (xs_r xs_n)))) (ih _ _ _ _ _ _ _ hF)
      · replace hF := x_f hF c740
        refine g_ic (0) d_L_law_743 ic_0 ?_
        obtain ⟨rfl, rfl, rfl, rfl⟩ := x_inj4 hF
        exact g_zret d_L_law_744 rfl rfl hq
    replace hF := x_f hF c33_16
    rcases Classical.em ((v29 &&& 63) = 17) with c33_17 | c33_17
    · replace hF := x_t hF c33_17
      refine q_tabIn 745 d_L_law_33 c33_17 (by decide) (by decide) rfl rfl ?_
      refine g_aloadn d_L_law_745 rfl ?_
      refine g_aloadn d_L_law_746 rfl ?_
      refine g_iloadn d_L_law_747 rfl ?_
      refine g_ic (1) d_L_law_748 ic_1 ?_
      refine g_iadd d_L_law_749 ?_
      replace hF := Option.bind_eq_some_iff.mp hF
      obtain ⟨v750, e750, hF⟩ := hF
      refine q_aI d_L_law_750 e750 ?_
      refine g_aloadn d_L_law_751 rfl ?_
      refine g_iloadn d_L_law_752 rfl ?_
      refine g_ic (2) d_L_law_753 ic_2 ?_
      refine g_iadd d_L_law_754 ?_
      replace hF := Option.bind_eq_some_iff.mp hF
      obtain ⟨v755, e755, hF⟩ := hF
      refine q_aI d_L_law_755 e755 ?_
      replace hF := Option.bind_eq_some_iff.mp hF
      obtain ⟨_, g756, hF⟩ := hF
      replace hF := Option.bind_eq_some_iff.mp hF
      obtain ⟨⟨r756, h756⟩, e756, hF⟩ := hF
      try dsimp only at hF
      refine q_callV [.int v750, .int v755] [] rfl d_L_law_756 v_L_84 (by omega) rfl (Nat.le_of_ble_eq_true rfl) (rc_rc g756 (by decide) rfl) (R_X11_year _ _ _ _ (by omega) e756) ?_
      refine g_aloadn d_L_law_759 rfl ?_
      refine g_aloadn d_L_law_760 rfl ?_
      refine g_iloadn d_L_law_761 rfl ?_
      refine g_ic (1) d_L_law_762 ic_1 ?_
      refine g_iadd d_L_law_763 ?_
      replace hF := Option.bind_eq_some_iff.mp hF
      obtain ⟨v764, e764, hF⟩ := hF
      refine q_aI d_L_law_764 e764 ?_
      refine g_aloadn d_L_law_765 rfl ?_
      refine g_iloadn d_L_law_766 rfl ?_
      refine g_ic (2) d_L_law_767 ic_2 ?_
      refine g_iadd d_L_law_768 ?_
      replace hF := Option.bind_eq_some_iff.mp hF
      obtain ⟨v769, e769, hF⟩ := hF
      refine q_aI d_L_law_769 e769 ?_
      replace hF := Option.bind_eq_some_iff.mp hF
      obtain ⟨_, g770, hF⟩ := hF
      replace hF := Option.bind_eq_some_iff.mp hF
      obtain ⟨⟨r770, h770⟩, e770, hF⟩ := hF
      try dsimp only at hF
      refine q_callV [.int v764, .int v769] [.int (r756)] rfl d_L_law_770 v_L_87 (by omega) rfl (Nat.le_of_ble_eq_true rfl) (rc_rc g770 (by decide) rfl) (R_X12_year _ _ _ _ (by omega) e770) ?_
      refine g_icmp_eq 1599 d_L_law_773 rfl (fun c773 => ?_) (fun c773 => ?_)
      · replace hF := x_t hF c773
        refine q_iinc (6) [.ref x0, .ref x1, .ref x2, .int (x3 + 6)] d_L_law_1599 ic_6 rfl (by decide) rfl ?_
        refine g_goto 18 d_L_law_1602 rfl ?_
        exact q_to (xs_r (xs_r (xs_r (xs_r xs_n)))) (ih _ _ _ _ _ _ _ hF)
      · replace hF := x_f hF c773
        refine g_ic (0) d_L_law_776 ic_0 ?_
        obtain ⟨rfl, rfl, rfl, rfl⟩ := x_inj4 hF
        exact g_zret d_L_law_777 rfl rfl hq
    replace hF := x_f hF c33_17
    rcases Classical.em ((v29 &&& 63) = 18) with c33_18 | c33_18
    · replace hF := x_t hF c33_18
      refine q_tabIn 778 d_L_law_33 c33_18 (by decide) (by decide) rfl rfl ?_
      refine g_aloadn d_L_law_778 rfl ?_
      refine g_aloadn d_L_law_779 rfl ?_
      refine g_iloadn d_L_law_780 rfl ?_
      refine g_ic (1) d_L_law_781 ic_1 ?_
      refine g_iadd d_L_law_782 ?_
      replace hF := Option.bind_eq_some_iff.mp hF
      obtain ⟨v783, e783, hF⟩ := hF
      refine q_aI d_L_law_783 e783 ?_
      refine g_aloadn d_L_law_784 rfl ?_
      refine g_iloadn d_L_law_785 rfl ?_
      refine g_ic (2) d_L_law_786 ic_2 ?_
      refine g_iadd d_L_law_787 ?_
      replace hF := Option.bind_eq_some_iff.mp hF
      obtain ⟨v788, e788, hF⟩ := hF
      refine q_aI d_L_law_788 e788 ?_
      replace hF := Option.bind_eq_some_iff.mp hF
      obtain ⟨_, g789, hF⟩ := hF
      replace hF := Option.bind_eq_some_iff.mp hF
      obtain ⟨⟨r789, h789⟩, e789, hF⟩ := hF
      try dsimp only at hF
      refine q_callV [.int v783, .int v788] [] rfl d_L_law_789 v_L_88 (by omega) rfl (Nat.le_of_ble_eq_true rfl) (rc_rc g789 (by decide) rfl) (R_X11_blanks _ _ _ _ (by omega) e789) ?_
      refine g_aloadn d_L_law_792 rfl ?_
      refine g_aloadn d_L_law_793 rfl ?_
      refine g_iloadn d_L_law_794 rfl ?_
      refine g_ic (1) d_L_law_795 ic_1 ?_
      refine g_iadd d_L_law_796 ?_
      replace hF := Option.bind_eq_some_iff.mp hF
      obtain ⟨v797, e797, hF⟩ := hF
      refine q_aI d_L_law_797 e797 ?_
      refine g_aloadn d_L_law_798 rfl ?_
      refine g_iloadn d_L_law_799 rfl ?_
      refine g_ic (2) d_L_law_800 ic_2 ?_
      refine g_iadd d_L_law_801 ?_
      replace hF := Option.bind_eq_some_iff.mp hF
      obtain ⟨v802, e802, hF⟩ := hF
      refine q_aI d_L_law_802 e802 ?_
      replace hF := Option.bind_eq_some_iff.mp hF
      obtain ⟨_, g803, hF⟩ := hF
      replace hF := Option.bind_eq_some_iff.mp hF
      obtain ⟨⟨r803, h803⟩, e803, hF⟩ := hF
      try dsimp only at hF
      refine q_callV [.int v797, .int v802] [.int (r789)] rfl d_L_law_803 v_L_91 (by omega) rfl (Nat.le_of_ble_eq_true rfl) (rc_rc g803 (by decide) rfl) (R_X12_blanks _ _ _ _ (by omega) e803) ?_
      refine g_icmp_eq 1599 d_L_law_806 rfl (fun c806 => ?_) (fun c806 => ?_)
      · replace hF := x_t hF c806
        refine q_iinc (6) [.ref x0, .ref x1, .ref x2, .int (x3 + 6)] d_L_law_1599 ic_6 rfl (by decide) rfl ?_
        refine g_goto 18 d_L_law_1602 rfl ?_
        exact q_to (xs_r (xs_r (xs_r (xs_r xs_n)))) (ih _ _ _ _ _ _ _ hF)
      · replace hF := x_f hF c806
        refine g_ic (0) d_L_law_809 ic_0 ?_
        obtain ⟨rfl, rfl, rfl, rfl⟩ := x_inj4 hF
        exact g_zret d_L_law_810 rfl rfl hq
    replace hF := x_f hF c33_18
    rcases Classical.em ((v29 &&& 63) = 19) with c33_19 | c33_19
    · replace hF := x_t hF c33_19
      refine q_tabIn 811 d_L_law_33 c33_19 (by decide) (by decide) rfl rfl ?_
      refine g_aloadn d_L_law_811 rfl ?_
      refine g_aloadn d_L_law_812 rfl ?_
      refine g_iloadn d_L_law_813 rfl ?_
      refine g_ic (1) d_L_law_814 ic_1 ?_
      refine g_iadd d_L_law_815 ?_
      replace hF := Option.bind_eq_some_iff.mp hF
      obtain ⟨v816, e816, hF⟩ := hF
      refine q_aI d_L_law_816 e816 ?_
      refine g_aloadn d_L_law_817 rfl ?_
      refine g_iloadn d_L_law_818 rfl ?_
      refine g_ic (2) d_L_law_819 ic_2 ?_
      refine g_iadd d_L_law_820 ?_
      replace hF := Option.bind_eq_some_iff.mp hF
      obtain ⟨v821, e821, hF⟩ := hF
      refine q_aI d_L_law_821 e821 ?_
      replace hF := Option.bind_eq_some_iff.mp hF
      obtain ⟨_, g822, hF⟩ := hF
      replace hF := Option.bind_eq_some_iff.mp hF
      obtain ⟨⟨r822, h822⟩, e822, hF⟩ := hF
      try dsimp only at hF
      refine q_callV [.int v816, .int v821] [] rfl d_L_law_822 v_L_92 (by omega) rfl (Nat.le_of_ble_eq_true rfl) (rc_rc g822 (by decide) rfl) (R_X11_attempt _ _ _ _ (by omega) e822) ?_
      refine g_aloadn d_L_law_825 rfl ?_
      refine g_aloadn d_L_law_826 rfl ?_
      refine g_iloadn d_L_law_827 rfl ?_
      refine g_ic (1) d_L_law_828 ic_1 ?_
      refine g_iadd d_L_law_829 ?_
      replace hF := Option.bind_eq_some_iff.mp hF
      obtain ⟨v830, e830, hF⟩ := hF
      refine q_aI d_L_law_830 e830 ?_
      refine g_aloadn d_L_law_831 rfl ?_
      refine g_iloadn d_L_law_832 rfl ?_
      refine g_ic (2) d_L_law_833 ic_2 ?_
      refine g_iadd d_L_law_834 ?_
      replace hF := Option.bind_eq_some_iff.mp hF
      obtain ⟨v835, e835, hF⟩ := hF
      refine q_aI d_L_law_835 e835 ?_
      replace hF := Option.bind_eq_some_iff.mp hF
      obtain ⟨_, g836, hF⟩ := hF
      replace hF := Option.bind_eq_some_iff.mp hF
      obtain ⟨⟨r836, h836⟩, e836, hF⟩ := hF
      try dsimp only at hF
      refine q_callV [.int v830, .int v835] [.int (r822)] rfl d_L_law_836 v_L_95 (by omega) rfl (Nat.le_of_ble_eq_true rfl) (rc_rc g836 (by decide) rfl) (R_X12_attempt _ _ _ _ (by omega) e836) ?_
      refine g_icmp_eq 1599 d_L_law_839 rfl (fun c839 => ?_) (fun c839 => ?_)
      · replace hF := x_t hF c839
        refine q_iinc (6) [.ref x0, .ref x1, .ref x2, .int (x3 + 6)] d_L_law_1599 ic_6 rfl (by decide) rfl ?_
        refine g_goto 18 d_L_law_1602 rfl ?_
        exact q_to (xs_r (xs_r (xs_r (xs_r xs_n)))) (ih _ _ _ _ _ _ _ hF)
      · replace hF := x_f hF c839
        refine g_ic (0) d_L_law_842 ic_0 ?_
        obtain ⟨rfl, rfl, rfl, rfl⟩ := x_inj4 hF
        exact g_zret d_L_law_843 rfl rfl hq
    replace hF := x_f hF c33_19
    rcases Classical.em ((v29 &&& 63) = 20) with c33_20 | c33_20
    · replace hF := x_t hF c33_20
      refine q_tabIn 844 d_L_law_33 c33_20 (by decide) (by decide) rfl rfl ?_
      refine g_aloadn d_L_law_844 rfl ?_
      refine g_aloadn d_L_law_845 rfl ?_
      refine g_iloadn d_L_law_846 rfl ?_
      refine g_ic (1) d_L_law_847 ic_1 ?_
      refine g_iadd d_L_law_848 ?_
      replace hF := Option.bind_eq_some_iff.mp hF
      obtain ⟨v849, e849, hF⟩ := hF
      refine q_aI d_L_law_849 e849 ?_
      replace hF := Option.bind_eq_some_iff.mp hF
      obtain ⟨_, g850, hF⟩ := hF
      replace hF := Option.bind_eq_some_iff.mp hF
      obtain ⟨⟨r850, h850⟩, e850, hF⟩ := hF
      try dsimp only at hF
      refine q_callV [.int v849] [] rfl d_L_law_850 v_L_96 (by omega) rfl (Nat.le_of_ble_eq_true rfl) (rc_rc g850 (by decide) rfl) (R_X11_knowing _ _ _ (by omega) e850) ?_
      refine g_aloadn d_L_law_853 rfl ?_
      refine g_aloadn d_L_law_854 rfl ?_
      refine g_iloadn d_L_law_855 rfl ?_
      refine g_ic (1) d_L_law_856 ic_1 ?_
      refine g_iadd d_L_law_857 ?_
      replace hF := Option.bind_eq_some_iff.mp hF
      obtain ⟨v858, e858, hF⟩ := hF
      refine q_aI d_L_law_858 e858 ?_
      replace hF := Option.bind_eq_some_iff.mp hF
      obtain ⟨_, g859, hF⟩ := hF
      replace hF := Option.bind_eq_some_iff.mp hF
      obtain ⟨⟨r859, h859⟩, e859, hF⟩ := hF
      try dsimp only at hF
      refine q_callV [.int v858] [.int (r850)] rfl d_L_law_859 v_L_99 (by omega) rfl (Nat.le_of_ble_eq_true rfl) (rc_rc g859 (by decide) rfl) (R_X12_knowing _ _ _ (by omega) e859) ?_
      refine g_icmp_eq 1599 d_L_law_862 rfl (fun c862 => ?_) (fun c862 => ?_)
      · replace hF := x_t hF c862
        refine q_iinc (6) [.ref x0, .ref x1, .ref x2, .int (x3 + 6)] d_L_law_1599 ic_6 rfl (by decide) rfl ?_
        refine g_goto 18 d_L_law_1602 rfl ?_
        exact q_to (xs_r (xs_r (xs_r (xs_r xs_n)))) (ih _ _ _ _ _ _ _ hF)
      · replace hF := x_f hF c862
        refine g_ic (0) d_L_law_865 ic_0 ?_
        obtain ⟨rfl, rfl, rfl, rfl⟩ := x_inj4 hF
        exact g_zret d_L_law_866 rfl rfl hq
    replace hF := x_f hF c33_20
    rcases Classical.em ((v29 &&& 63) = 21) with c33_21 | c33_21
    · replace hF := x_t hF c33_21
      refine q_tabIn 867 d_L_law_33 c33_21 (by decide) (by decide) rfl rfl ?_
      refine g_aloadn d_L_law_867 rfl ?_
      refine g_aloadn d_L_law_868 rfl ?_
      refine g_iloadn d_L_law_869 rfl ?_
      refine g_ic (1) d_L_law_870 ic_1 ?_
      refine g_iadd d_L_law_871 ?_
      replace hF := Option.bind_eq_some_iff.mp hF
      obtain ⟨v872, e872, hF⟩ := hF
      refine q_aI d_L_law_872 e872 ?_
      replace hF := Option.bind_eq_some_iff.mp hF
      obtain ⟨_, g873, hF⟩ := hF
      replace hF := Option.bind_eq_some_iff.mp hF
      obtain ⟨⟨r873, h873⟩, e873, hF⟩ := hF
      try dsimp only at hF
      refine q_callV [.int v872] [] rfl d_L_law_873 v_L_100 (by omega) rfl (Nat.le_of_ble_eq_true rfl) (rc_rc g873 (by decide) rfl) (R_X11_begins _ _ _ (by omega) e873) ?_
      refine g_aloadn d_L_law_876 rfl ?_
      refine g_aloadn d_L_law_877 rfl ?_
      refine g_iloadn d_L_law_878 rfl ?_
      refine g_ic (1) d_L_law_879 ic_1 ?_
      refine g_iadd d_L_law_880 ?_
      replace hF := Option.bind_eq_some_iff.mp hF
      obtain ⟨v881, e881, hF⟩ := hF
      refine q_aI d_L_law_881 e881 ?_
      replace hF := Option.bind_eq_some_iff.mp hF
      obtain ⟨_, g882, hF⟩ := hF
      replace hF := Option.bind_eq_some_iff.mp hF
      obtain ⟨⟨r882, h882⟩, e882, hF⟩ := hF
      try dsimp only at hF
      refine q_callV [.int v881] [.int (r873)] rfl d_L_law_882 v_L_103 (by omega) rfl (Nat.le_of_ble_eq_true rfl) (rc_rc g882 (by decide) rfl) (R_X12_begins _ _ _ (by omega) e882) ?_
      refine g_icmp_eq 1599 d_L_law_885 rfl (fun c885 => ?_) (fun c885 => ?_)
      · replace hF := x_t hF c885
        refine q_iinc (6) [.ref x0, .ref x1, .ref x2, .int (x3 + 6)] d_L_law_1599 ic_6 rfl (by decide) rfl ?_
        refine g_goto 18 d_L_law_1602 rfl ?_
        exact q_to (xs_r (xs_r (xs_r (xs_r xs_n)))) (ih _ _ _ _ _ _ _ hF)
      · replace hF := x_f hF c885
        refine g_ic (0) d_L_law_888 ic_0 ?_
        obtain ⟨rfl, rfl, rfl, rfl⟩ := x_inj4 hF
        exact g_zret d_L_law_889 rfl rfl hq
    replace hF := x_f hF c33_21
    rcases Classical.em ((v29 &&& 63) = 22) with c33_22 | c33_22
    · replace hF := x_t hF c33_22
      refine q_tabIn 890 d_L_law_33 c33_22 (by decide) (by decide) rfl rfl ?_
      refine g_aloadn d_L_law_890 rfl ?_
      refine g_aloadn d_L_law_891 rfl ?_
      refine g_iloadn d_L_law_892 rfl ?_
      refine g_ic (1) d_L_law_893 ic_1 ?_
      refine g_iadd d_L_law_894 ?_
      replace hF := Option.bind_eq_some_iff.mp hF
      obtain ⟨v895, e895, hF⟩ := hF
      refine q_aI d_L_law_895 e895 ?_
      replace hF := Option.bind_eq_some_iff.mp hF
      obtain ⟨_, g896, hF⟩ := hF
      replace hF := Option.bind_eq_some_iff.mp hF
      obtain ⟨⟨r896, h896⟩, e896, hF⟩ := hF
      try dsimp only at hF
      refine q_callV [.int v895] [] rfl d_L_law_896 v_L_104 (by omega) rfl (Nat.le_of_ble_eq_true rfl) (rc_rc g896 (by decide) rfl) (R_X11_atOnce _ _ _ (by omega) e896) ?_
      refine g_aloadn d_L_law_899 rfl ?_
      refine g_aloadn d_L_law_900 rfl ?_
      refine g_iloadn d_L_law_901 rfl ?_
      refine g_ic (1) d_L_law_902 ic_1 ?_
      refine g_iadd d_L_law_903 ?_
      replace hF := Option.bind_eq_some_iff.mp hF
      obtain ⟨v904, e904, hF⟩ := hF
      refine q_aI d_L_law_904 e904 ?_
      replace hF := Option.bind_eq_some_iff.mp hF
      obtain ⟨_, g905, hF⟩ := hF
      replace hF := Option.bind_eq_some_iff.mp hF
      obtain ⟨⟨r905, h905⟩, e905, hF⟩ := hF
      try dsimp only at hF
      refine q_callV [.int v904] [.int (r896)] rfl d_L_law_905 v_L_107 (by omega) rfl (Nat.le_of_ble_eq_true rfl) (rc_rc g905 (by decide) rfl) (R_X12_atOnce _ _ _ (by omega) e905) ?_
      refine g_icmp_eq 1599 d_L_law_908 rfl (fun c908 => ?_) (fun c908 => ?_)
      · replace hF := x_t hF c908
        refine q_iinc (6) [.ref x0, .ref x1, .ref x2, .int (x3 + 6)] d_L_law_1599 ic_6 rfl (by decide) rfl ?_
        refine g_goto 18 d_L_law_1602 rfl ?_
        exact q_to (xs_r (xs_r (xs_r (xs_r xs_n)))) (ih _ _ _ _ _ _ _ hF)
      · replace hF := x_f hF c908
        refine g_ic (0) d_L_law_911 ic_0 ?_
        obtain ⟨rfl, rfl, rfl, rfl⟩ := x_inj4 hF
        exact g_zret d_L_law_912 rfl rfl hq
    replace hF := x_f hF c33_22
    rcases Classical.em ((v29 &&& 63) = 23) with c33_23 | c33_23
    · replace hF := x_t hF c33_23
      refine q_tabIn 913 d_L_law_33 c33_23 (by decide) (by decide) rfl rfl ?_
      refine g_aloadn d_L_law_913 rfl ?_
      refine g_aloadn d_L_law_914 rfl ?_
      refine g_iloadn d_L_law_915 rfl ?_
      refine g_ic (1) d_L_law_916 ic_1 ?_
      refine g_iadd d_L_law_917 ?_
      replace hF := Option.bind_eq_some_iff.mp hF
      obtain ⟨v918, e918, hF⟩ := hF
      refine q_aI d_L_law_918 e918 ?_
      refine g_aloadn d_L_law_919 rfl ?_
      refine g_iloadn d_L_law_920 rfl ?_
      refine g_ic (2) d_L_law_921 ic_2 ?_
      refine g_iadd d_L_law_922 ?_
      replace hF := Option.bind_eq_some_iff.mp hF
      obtain ⟨v923, e923, hF⟩ := hF
      refine q_aI d_L_law_923 e923 ?_
      refine g_aloadn d_L_law_924 rfl ?_
      refine g_iloadn d_L_law_925 rfl ?_
      refine g_ic (3) d_L_law_926 ic_3 ?_
      refine g_iadd d_L_law_927 ?_
      replace hF := Option.bind_eq_some_iff.mp hF
      obtain ⟨v928, e928, hF⟩ := hF
      refine q_aI d_L_law_928 e928 ?_
      replace hF := Option.bind_eq_some_iff.mp hF
      obtain ⟨_, g929, hF⟩ := hF
      replace hF := Option.bind_eq_some_iff.mp hF
      obtain ⟨⟨r929, h929⟩, e929, hF⟩ := hF
      try dsimp only at hF
      refine q_callV [.int v918, .int v923, .int v928] [] rfl d_L_law_929 v_L_108 (by omega) rfl (Nat.le_of_ble_eq_true rfl) (rc_rc g929 (by decide) rfl) (R_X11_choir _ _ _ _ _ (by omega) e929) ?_
      refine g_aloadn d_L_law_932 rfl ?_
      refine g_aloadn d_L_law_933 rfl ?_
      refine g_iloadn d_L_law_934 rfl ?_
      refine g_ic (1) d_L_law_935 ic_1 ?_
      refine g_iadd d_L_law_936 ?_
      replace hF := Option.bind_eq_some_iff.mp hF
      obtain ⟨v937, e937, hF⟩ := hF
      refine q_aI d_L_law_937 e937 ?_
      refine g_aloadn d_L_law_938 rfl ?_
      refine g_iloadn d_L_law_939 rfl ?_
      refine g_ic (2) d_L_law_940 ic_2 ?_
      refine g_iadd d_L_law_941 ?_
      replace hF := Option.bind_eq_some_iff.mp hF
      obtain ⟨v942, e942, hF⟩ := hF
      refine q_aI d_L_law_942 e942 ?_
      refine g_aloadn d_L_law_943 rfl ?_
      refine g_iloadn d_L_law_944 rfl ?_
      refine g_ic (3) d_L_law_945 ic_3 ?_
      refine g_iadd d_L_law_946 ?_
      replace hF := Option.bind_eq_some_iff.mp hF
      obtain ⟨v947, e947, hF⟩ := hF
      refine q_aI d_L_law_947 e947 ?_
      replace hF := Option.bind_eq_some_iff.mp hF
      obtain ⟨_, g948, hF⟩ := hF
      replace hF := Option.bind_eq_some_iff.mp hF
      obtain ⟨⟨r948, h948⟩, e948, hF⟩ := hF
      try dsimp only at hF
      refine q_callV [.int v937, .int v942, .int v947] [.int (r929)] rfl d_L_law_948 v_L_112 (by omega) rfl (Nat.le_of_ble_eq_true rfl) (rc_rc g948 (by decide) rfl) (R_X12_choir _ _ _ _ _ (by omega) e948) ?_
      refine g_icmp_eq 1599 d_L_law_951 rfl (fun c951 => ?_) (fun c951 => ?_)
      · replace hF := x_t hF c951
        refine q_iinc (6) [.ref x0, .ref x1, .ref x2, .int (x3 + 6)] d_L_law_1599 ic_6 rfl (by decide) rfl ?_
        refine g_goto 18 d_L_law_1602 rfl ?_
        exact q_to (xs_r (xs_r (xs_r (xs_r xs_n)))) (ih _ _ _ _ _ _ _ hF)
      · replace hF := x_f hF c951
        refine g_ic (0) d_L_law_954 ic_0 ?_
        obtain ⟨rfl, rfl, rfl, rfl⟩ := x_inj4 hF
        exact g_zret d_L_law_955 rfl rfl hq
    replace hF := x_f hF c33_23
    rcases Classical.em ((v29 &&& 63) = 24) with c33_24 | c33_24
    · replace hF := x_t hF c33_24
      refine q_tabIn 956 d_L_law_33 c33_24 (by decide) (by decide) rfl rfl ?_
      refine g_aloadn d_L_law_956 rfl ?_
      refine g_aloadn d_L_law_957 rfl ?_
      refine g_iloadn d_L_law_958 rfl ?_
      refine g_ic (1) d_L_law_959 ic_1 ?_
      refine g_iadd d_L_law_960 ?_
      replace hF := Option.bind_eq_some_iff.mp hF
      obtain ⟨v961, e961, hF⟩ := hF
      refine q_aI d_L_law_961 e961 ?_
      refine g_aloadn d_L_law_962 rfl ?_
      refine g_iloadn d_L_law_963 rfl ?_
      refine g_ic (2) d_L_law_964 ic_2 ?_
      refine g_iadd d_L_law_965 ?_
      replace hF := Option.bind_eq_some_iff.mp hF
      obtain ⟨v966, e966, hF⟩ := hF
      refine q_aI d_L_law_966 e966 ?_
      replace hF := Option.bind_eq_some_iff.mp hF
      obtain ⟨_, g967, hF⟩ := hF
      replace hF := Option.bind_eq_some_iff.mp hF
      obtain ⟨⟨r967, h967⟩, e967, hF⟩ := hF
      try dsimp only at hF
      refine q_callV [.int v961, .int v966] [] rfl d_L_law_967 v_L_113 (by omega) rfl (Nat.le_of_ble_eq_true rfl) (rc_rc g967 (by decide) rfl) (R_X11_row _ _ _ _ (by omega) e967) ?_
      refine g_aloadn d_L_law_970 rfl ?_
      refine g_aloadn d_L_law_971 rfl ?_
      refine g_iloadn d_L_law_972 rfl ?_
      refine g_ic (1) d_L_law_973 ic_1 ?_
      refine g_iadd d_L_law_974 ?_
      replace hF := Option.bind_eq_some_iff.mp hF
      obtain ⟨v975, e975, hF⟩ := hF
      refine q_aI d_L_law_975 e975 ?_
      refine g_aloadn d_L_law_976 rfl ?_
      refine g_iloadn d_L_law_977 rfl ?_
      refine g_ic (2) d_L_law_978 ic_2 ?_
      refine g_iadd d_L_law_979 ?_
      replace hF := Option.bind_eq_some_iff.mp hF
      obtain ⟨v980, e980, hF⟩ := hF
      refine q_aI d_L_law_980 e980 ?_
      replace hF := Option.bind_eq_some_iff.mp hF
      obtain ⟨_, g981, hF⟩ := hF
      replace hF := Option.bind_eq_some_iff.mp hF
      obtain ⟨⟨r981, h981⟩, e981, hF⟩ := hF
      try dsimp only at hF
      refine q_callV [.int v975, .int v980] [.int (r967)] rfl d_L_law_981 v_L_116 (by omega) rfl (Nat.le_of_ble_eq_true rfl) (rc_rc g981 (by decide) rfl) (R_X12_row _ _ _ _ (by omega) e981) ?_
      refine g_icmp_eq 1599 d_L_law_984 rfl (fun c984 => ?_) (fun c984 => ?_)
      · replace hF := x_t hF c984
        refine q_iinc (6) [.ref x0, .ref x1, .ref x2, .int (x3 + 6)] d_L_law_1599 ic_6 rfl (by decide) rfl ?_
        refine g_goto 18 d_L_law_1602 rfl ?_
        exact q_to (xs_r (xs_r (xs_r (xs_r xs_n)))) (ih _ _ _ _ _ _ _ hF)
      · replace hF := x_f hF c984
        refine g_ic (0) d_L_law_987 ic_0 ?_
        obtain ⟨rfl, rfl, rfl, rfl⟩ := x_inj4 hF
        exact g_zret d_L_law_988 rfl rfl hq
    replace hF := x_f hF c33_24
    rcases Classical.em ((v29 &&& 63) = 25) with c33_25 | c33_25
    · replace hF := x_t hF c33_25
      refine q_tabIn 989 d_L_law_33 c33_25 (by decide) (by decide) rfl rfl ?_
      refine g_aloadn d_L_law_989 rfl ?_
      refine g_aloadn d_L_law_990 rfl ?_
      refine g_iloadn d_L_law_991 rfl ?_
      refine g_ic (1) d_L_law_992 ic_1 ?_
      refine g_iadd d_L_law_993 ?_
      replace hF := Option.bind_eq_some_iff.mp hF
      obtain ⟨v994, e994, hF⟩ := hF
      refine q_aI d_L_law_994 e994 ?_
      replace hF := Option.bind_eq_some_iff.mp hF
      obtain ⟨_, g995, hF⟩ := hF
      replace hF := Option.bind_eq_some_iff.mp hF
      obtain ⟨⟨r995, h995⟩, e995, hF⟩ := hF
      try dsimp only at hF
      refine q_callV [.int v994] [] rfl d_L_law_995 v_L_117 (by omega) rfl (Nat.le_of_ble_eq_true rfl) (rc_rc g995 (by decide) rfl) (R_X11_rows _ _ _ (by omega) e995) ?_
      refine g_aloadn d_L_law_998 rfl ?_
      refine g_aloadn d_L_law_999 rfl ?_
      refine g_iloadn d_L_law_1000 rfl ?_
      refine g_ic (1) d_L_law_1001 ic_1 ?_
      refine g_iadd d_L_law_1002 ?_
      replace hF := Option.bind_eq_some_iff.mp hF
      obtain ⟨v1003, e1003, hF⟩ := hF
      refine q_aI d_L_law_1003 e1003 ?_
      replace hF := Option.bind_eq_some_iff.mp hF
      obtain ⟨_, g1004, hF⟩ := hF
      replace hF := Option.bind_eq_some_iff.mp hF
      obtain ⟨⟨r1004, h1004⟩, e1004, hF⟩ := hF
      try dsimp only at hF
      refine q_callV [.int v1003] [.int (r995)] rfl d_L_law_1004 v_L_120 (by omega) rfl (Nat.le_of_ble_eq_true rfl) (rc_rc g1004 (by decide) rfl) (R_X12_rows _ _ _ (by omega) e1004) ?_
      refine g_icmp_eq 1599 d_L_law_1007 rfl (fun c1007 => ?_) (fun c1007 => ?_)
      · replace hF := x_t hF c1007
        refine q_iinc (6) [.ref x0, .ref x1, .ref x2, .int (x3 + 6)] d_L_law_1599 ic_6 rfl (by decide) rfl ?_
        refine g_goto 18 d_L_law_1602 rfl ?_
        exact q_to (xs_r (xs_r (xs_r (xs_r xs_n)))) (ih _ _ _ _ _ _ _ hF)
      · replace hF := x_f hF c1007
        refine g_ic (0) d_L_law_1010 ic_0 ?_
        obtain ⟨rfl, rfl, rfl, rfl⟩ := x_inj4 hF
        exact g_zret d_L_law_1011 rfl rfl hq
    replace hF := x_f hF c33_25
    rcases Classical.em ((v29 &&& 63) = 26) with c33_26 | c33_26
    · replace hF := x_t hF c33_26
      refine q_tabIn 1012 d_L_law_33 c33_26 (by decide) (by decide) rfl rfl ?_
      refine g_aloadn d_L_law_1012 rfl ?_
      refine g_aloadn d_L_law_1013 rfl ?_
      refine g_iloadn d_L_law_1014 rfl ?_
      refine g_ic (1) d_L_law_1015 ic_1 ?_
      refine g_iadd d_L_law_1016 ?_
      replace hF := Option.bind_eq_some_iff.mp hF
      obtain ⟨v1017, e1017, hF⟩ := hF
      refine q_aI d_L_law_1017 e1017 ?_
      refine g_aloadn d_L_law_1018 rfl ?_
      refine g_iloadn d_L_law_1019 rfl ?_
      refine g_ic (2) d_L_law_1020 ic_2 ?_
      refine g_iadd d_L_law_1021 ?_
      replace hF := Option.bind_eq_some_iff.mp hF
      obtain ⟨v1022, e1022, hF⟩ := hF
      refine q_aI d_L_law_1022 e1022 ?_
      replace hF := Option.bind_eq_some_iff.mp hF
      obtain ⟨_, g1023, hF⟩ := hF
      replace hF := Option.bind_eq_some_iff.mp hF
      obtain ⟨⟨r1023, h1023⟩, e1023, hF⟩ := hF
      try dsimp only at hF
      refine q_callV [.int v1017, .int v1022] [] rfl d_L_law_1023 v_L_121 (by omega) rfl (Nat.le_of_ble_eq_true rfl) (rc_rc g1023 (by decide) rfl) (R_X11_pairs _ _ _ _ (by omega) e1023) ?_
      refine g_aloadn d_L_law_1026 rfl ?_
      refine g_aloadn d_L_law_1027 rfl ?_
      refine g_iloadn d_L_law_1028 rfl ?_
      refine g_ic (1) d_L_law_1029 ic_1 ?_
      refine g_iadd d_L_law_1030 ?_
      replace hF := Option.bind_eq_some_iff.mp hF
      obtain ⟨v1031, e1031, hF⟩ := hF
      refine q_aI d_L_law_1031 e1031 ?_
      refine g_aloadn d_L_law_1032 rfl ?_
      refine g_iloadn d_L_law_1033 rfl ?_
      refine g_ic (2) d_L_law_1034 ic_2 ?_
      refine g_iadd d_L_law_1035 ?_
      replace hF := Option.bind_eq_some_iff.mp hF
      obtain ⟨v1036, e1036, hF⟩ := hF
      refine q_aI d_L_law_1036 e1036 ?_
      replace hF := Option.bind_eq_some_iff.mp hF
      obtain ⟨_, g1037, hF⟩ := hF
      replace hF := Option.bind_eq_some_iff.mp hF
      obtain ⟨⟨r1037, h1037⟩, e1037, hF⟩ := hF
      try dsimp only at hF
      refine q_callV [.int v1031, .int v1036] [.int (r1023)] rfl d_L_law_1037 v_L_124 (by omega) rfl (Nat.le_of_ble_eq_true rfl) (rc_rc g1037 (by decide) rfl) (R_X12_pairs _ _ _ _ (by omega) e1037) ?_
      refine g_icmp_eq 1599 d_L_law_1040 rfl (fun c1040 => ?_) (fun c1040 => ?_)
      · replace hF := x_t hF c1040
        refine q_iinc (6) [.ref x0, .ref x1, .ref x2, .int (x3 + 6)] d_L_law_1599 ic_6 rfl (by decide) rfl ?_
        refine g_goto 18 d_L_law_1602 rfl ?_
        exact q_to (xs_r (xs_r (xs_r (xs_r xs_n)))) (ih _ _ _ _ _ _ _ hF)
      · replace hF := x_f hF c1040
        refine g_ic (0) d_L_law_1043 ic_0 ?_
        obtain ⟨rfl, rfl, rfl, rfl⟩ := x_inj4 hF
        exact g_zret d_L_law_1044 rfl rfl hq
    replace hF := x_f hF c33_26
    rcases Classical.em ((v29 &&& 63) = 27) with c33_27 | c33_27
    · replace hF := x_t hF c33_27
      refine q_tabIn 1045 d_L_law_33 c33_27 (by decide) (by decide) rfl rfl ?_
      refine g_aloadn d_L_law_1045 rfl ?_
      refine g_aloadn d_L_law_1046 rfl ?_
      refine g_iloadn d_L_law_1047 rfl ?_
      refine g_ic (1) d_L_law_1048 ic_1 ?_
      refine g_iadd d_L_law_1049 ?_
      replace hF := Option.bind_eq_some_iff.mp hF
      obtain ⟨v1050, e1050, hF⟩ := hF
      refine q_aI d_L_law_1050 e1050 ?_
      replace hF := Option.bind_eq_some_iff.mp hF
      obtain ⟨_, g1051, hF⟩ := hF
      replace hF := Option.bind_eq_some_iff.mp hF
      obtain ⟨⟨r1051, h1051⟩, e1051, hF⟩ := hF
      try dsimp only at hF
      refine q_callV [.int v1050] [] rfl d_L_law_1051 v_L_125 (by omega) rfl (Nat.le_of_ble_eq_true rfl) (rc_rc g1051 (by decide) rfl) (R_X11_longest _ _ _ (by omega) e1051) ?_
      refine g_aloadn d_L_law_1054 rfl ?_
      refine g_aloadn d_L_law_1055 rfl ?_
      refine g_iloadn d_L_law_1056 rfl ?_
      refine g_ic (1) d_L_law_1057 ic_1 ?_
      refine g_iadd d_L_law_1058 ?_
      replace hF := Option.bind_eq_some_iff.mp hF
      obtain ⟨v1059, e1059, hF⟩ := hF
      refine q_aI d_L_law_1059 e1059 ?_
      replace hF := Option.bind_eq_some_iff.mp hF
      obtain ⟨_, g1060, hF⟩ := hF
      replace hF := Option.bind_eq_some_iff.mp hF
      obtain ⟨⟨r1060, h1060⟩, e1060, hF⟩ := hF
      try dsimp only at hF
      refine q_callV [.int v1059] [.int (r1051)] rfl d_L_law_1060 v_L_128 (by omega) rfl (Nat.le_of_ble_eq_true rfl) (rc_rc g1060 (by decide) rfl) (R_X12_longest _ _ _ (by omega) e1060) ?_
      refine g_icmp_eq 1599 d_L_law_1063 rfl (fun c1063 => ?_) (fun c1063 => ?_)
      · replace hF := x_t hF c1063
        refine q_iinc (6) [.ref x0, .ref x1, .ref x2, .int (x3 + 6)] d_L_law_1599 ic_6 rfl (by decide) rfl ?_
        refine g_goto 18 d_L_law_1602 rfl ?_
        exact q_to (xs_r (xs_r (xs_r (xs_r xs_n)))) (ih _ _ _ _ _ _ _ hF)
      · replace hF := x_f hF c1063
        refine g_ic (0) d_L_law_1066 ic_0 ?_
        obtain ⟨rfl, rfl, rfl, rfl⟩ := x_inj4 hF
        exact g_zret d_L_law_1067 rfl rfl hq
    replace hF := x_f hF c33_27
    rcases Classical.em ((v29 &&& 63) = 28) with c33_28 | c33_28
    · replace hF := x_t hF c33_28
      refine q_tabIn 1068 d_L_law_33 c33_28 (by decide) (by decide) rfl rfl ?_
      refine g_aloadn d_L_law_1068 rfl ?_
      refine g_aloadn d_L_law_1069 rfl ?_
      refine g_iloadn d_L_law_1070 rfl ?_
      refine g_ic (1) d_L_law_1071 ic_1 ?_
      refine g_iadd d_L_law_1072 ?_
      replace hF := Option.bind_eq_some_iff.mp hF
      obtain ⟨v1073, e1073, hF⟩ := hF
      refine q_aI d_L_law_1073 e1073 ?_
      refine g_aloadn d_L_law_1074 rfl ?_
      refine g_iloadn d_L_law_1075 rfl ?_
      refine g_ic (2) d_L_law_1076 ic_2 ?_
      refine g_iadd d_L_law_1077 ?_
      replace hF := Option.bind_eq_some_iff.mp hF
      obtain ⟨v1078, e1078, hF⟩ := hF
      refine q_aI d_L_law_1078 e1078 ?_
      replace hF := Option.bind_eq_some_iff.mp hF
      obtain ⟨_, g1079, hF⟩ := hF
      replace hF := Option.bind_eq_some_iff.mp hF
      obtain ⟨⟨r1079, h1079⟩, e1079, hF⟩ := hF
      try dsimp only at hF
      refine q_callV [.int v1073, .int v1078] [] rfl d_L_law_1079 v_L_129 (by omega) rfl (Nat.le_of_ble_eq_true rfl) (rc_rc g1079 (by decide) rfl) (R_X11_longNote _ _ _ _ (by omega) e1079) ?_
      refine g_aloadn d_L_law_1082 rfl ?_
      refine g_aloadn d_L_law_1083 rfl ?_
      refine g_iloadn d_L_law_1084 rfl ?_
      refine g_ic (1) d_L_law_1085 ic_1 ?_
      refine g_iadd d_L_law_1086 ?_
      replace hF := Option.bind_eq_some_iff.mp hF
      obtain ⟨v1087, e1087, hF⟩ := hF
      refine q_aI d_L_law_1087 e1087 ?_
      refine g_aloadn d_L_law_1088 rfl ?_
      refine g_iloadn d_L_law_1089 rfl ?_
      refine g_ic (2) d_L_law_1090 ic_2 ?_
      refine g_iadd d_L_law_1091 ?_
      replace hF := Option.bind_eq_some_iff.mp hF
      obtain ⟨v1092, e1092, hF⟩ := hF
      refine q_aI d_L_law_1092 e1092 ?_
      replace hF := Option.bind_eq_some_iff.mp hF
      obtain ⟨_, g1093, hF⟩ := hF
      replace hF := Option.bind_eq_some_iff.mp hF
      obtain ⟨⟨r1093, h1093⟩, e1093, hF⟩ := hF
      try dsimp only at hF
      refine q_callV [.int v1087, .int v1092] [.int (r1079)] rfl d_L_law_1093 v_L_132 (by omega) rfl (Nat.le_of_ble_eq_true rfl) (rc_rc g1093 (by decide) rfl) (R_X12_longNote _ _ _ _ (by omega) e1093) ?_
      refine g_icmp_eq 1599 d_L_law_1096 rfl (fun c1096 => ?_) (fun c1096 => ?_)
      · replace hF := x_t hF c1096
        refine q_iinc (6) [.ref x0, .ref x1, .ref x2, .int (x3 + 6)] d_L_law_1599 ic_6 rfl (by decide) rfl ?_
        refine g_goto 18 d_L_law_1602 rfl ?_
        exact q_to (xs_r (xs_r (xs_r (xs_r xs_n)))) (ih _ _ _ _ _ _ _ hF)
      · replace hF := x_f hF c1096
        refine g_ic (0) d_L_law_1099 ic_0 ?_
        obtain ⟨rfl, rfl, rfl, rfl⟩ := x_inj4 hF
        exact g_zret d_L_law_1100 rfl rfl hq
    replace hF := x_f hF c33_28
    rcases Classical.em ((v29 &&& 63) = 29) with c33_29 | c33_29
    · replace hF := x_t hF c33_29
      refine q_tabIn 1101 d_L_law_33 c33_29 (by decide) (by decide) rfl rfl ?_
      refine g_aloadn d_L_law_1101 rfl ?_
      refine g_aloadn d_L_law_1102 rfl ?_
      refine g_iloadn d_L_law_1103 rfl ?_
      refine g_ic (1) d_L_law_1104 ic_1 ?_
      refine g_iadd d_L_law_1105 ?_
      replace hF := Option.bind_eq_some_iff.mp hF
      obtain ⟨v1106, e1106, hF⟩ := hF
      refine q_aI d_L_law_1106 e1106 ?_
      refine g_aloadn d_L_law_1107 rfl ?_
      refine g_iloadn d_L_law_1108 rfl ?_
      refine g_ic (2) d_L_law_1109 ic_2 ?_
      refine g_iadd d_L_law_1110 ?_
      replace hF := Option.bind_eq_some_iff.mp hF
      obtain ⟨v1111, e1111, hF⟩ := hF
      refine q_aI d_L_law_1111 e1111 ?_
      replace hF := Option.bind_eq_some_iff.mp hF
      obtain ⟨_, g1112, hF⟩ := hF
      replace hF := Option.bind_eq_some_iff.mp hF
      obtain ⟨⟨r1112, h1112, mc1112, ms1112⟩, e1112, hF⟩ := hF
      replace hF := x_map hF
      obtain ⟨c1112, s1112, rfl, rfl, hF⟩ := hF
      try dsimp only at hF
      refine q_callVa [.int v1106, .int v1111] [] rfl d_L_law_1112 v_L_133 (by omega) rfl (Nat.le_of_ble_eq_true rfl) (rc_rc g1112 (by decide) rfl) (R_X11_through _ _ _ _ (by omega) e1112) ?_
      refine g_aloadn d_L_law_1115 rfl ?_
      refine g_aloadn d_L_law_1116 rfl ?_
      refine g_iloadn d_L_law_1117 rfl ?_
      refine g_ic (1) d_L_law_1118 ic_1 ?_
      refine g_iadd d_L_law_1119 ?_
      replace hF := Option.bind_eq_some_iff.mp hF
      obtain ⟨v1120, e1120, hF⟩ := hF
      refine q_aI d_L_law_1120 e1120 ?_
      refine g_aloadn d_L_law_1121 rfl ?_
      refine g_iloadn d_L_law_1122 rfl ?_
      refine g_ic (2) d_L_law_1123 ic_2 ?_
      refine g_iadd d_L_law_1124 ?_
      replace hF := Option.bind_eq_some_iff.mp hF
      obtain ⟨v1125, e1125, hF⟩ := hF
      refine q_aI d_L_law_1125 e1125 ?_
      replace hF := Option.bind_eq_some_iff.mp hF
      obtain ⟨_, g1126, hF⟩ := hF
      replace hF := Option.bind_eq_some_iff.mp hF
      obtain ⟨⟨r1126, h1126⟩, e1126, hF⟩ := hF
      try dsimp only at hF
      refine q_callV [.int v1120, .int v1125] [.int (r1112)] rfl d_L_law_1126 v_L_136 (by omega) rfl (Nat.le_of_ble_eq_true rfl) (rc_rc g1126 (by decide) rfl) (R_X12_through _ _ _ _ (by omega) e1126) ?_
      refine g_icmp_eq 1599 d_L_law_1129 rfl (fun c1129 => ?_) (fun c1129 => ?_)
      · replace hF := x_t hF c1129
        refine q_iinc (6) [.ref x0, .ref x1, .ref x2, .int (x3 + 6)] d_L_law_1599 ic_6 rfl (by decide) rfl ?_
        refine g_goto 18 d_L_law_1602 rfl ?_
        exact q_to (xs_r (xs_r (xs_r (xs_r xs_n)))) (ih _ _ _ _ _ _ _ hF)
      · replace hF := x_f hF c1129
        refine g_ic (0) d_L_law_1132 ic_0 ?_
        obtain ⟨rfl, rfl, rfl, rfl⟩ := x_inj4 hF
        exact g_zret d_L_law_1133 rfl rfl hq
    replace hF := x_f hF c33_29
    rcases Classical.em ((v29 &&& 63) = 30) with c33_30 | c33_30
    · replace hF := x_t hF c33_30
      refine q_tabIn 1134 d_L_law_33 c33_30 (by decide) (by decide) rfl rfl ?_
      refine g_aloadn d_L_law_1134 rfl ?_
      refine g_aloadn d_L_law_1135 rfl ?_
      refine g_iloadn d_L_law_1136 rfl ?_
      refine g_ic (1) d_L_law_1137 ic_1 ?_
      refine g_iadd d_L_law_1138 ?_
      replace hF := Option.bind_eq_some_iff.mp hF
      obtain ⟨v1139, e1139, hF⟩ := hF
      refine q_aI d_L_law_1139 e1139 ?_
      refine g_aloadn d_L_law_1140 rfl ?_
      refine g_iloadn d_L_law_1141 rfl ?_
      refine g_ic (2) d_L_law_1142 ic_2 ?_
      refine g_iadd d_L_law_1143 ?_
      replace hF := Option.bind_eq_some_iff.mp hF
      obtain ⟨v1144, e1144, hF⟩ := hF
      refine q_aI d_L_law_1144 e1144 ?_
      refine g_aloadn d_L_law_1145 rfl ?_
      refine g_iloadn d_L_law_1146 rfl ?_
      refine g_ic (3) d_L_law_1147 ic_3 ?_
      refine g_iadd d_L_law_1148 ?_
      replace hF := Option.bind_eq_some_iff.mp hF
      obtain ⟨v1149, e1149, hF⟩ := hF
      refine q_aI d_L_law_1149 e1149 ?_
      replace hF := Option.bind_eq_some_iff.mp hF
      obtain ⟨_, g1150, hF⟩ := hF
      replace hF := Option.bind_eq_some_iff.mp hF
      obtain ⟨⟨r1150, h1150, mc1150, ms1150⟩, e1150, hF⟩ := hF
      replace hF := x_map hF
      obtain ⟨c1150, s1150, rfl, rfl, hF⟩ := hF
      try dsimp only at hF
      refine q_callVa [.int v1139, .int v1144, .int v1149] [] rfl d_L_law_1150 v_L_137 (by omega) rfl (Nat.le_of_ble_eq_true rfl) (rc_rc g1150 (by decide) rfl) (R_X11_throughNote _ _ _ _ _ (by omega) e1150) ?_
      refine g_aloadn d_L_law_1153 rfl ?_
      refine g_aloadn d_L_law_1154 rfl ?_
      refine g_iloadn d_L_law_1155 rfl ?_
      refine g_ic (1) d_L_law_1156 ic_1 ?_
      refine g_iadd d_L_law_1157 ?_
      replace hF := Option.bind_eq_some_iff.mp hF
      obtain ⟨v1158, e1158, hF⟩ := hF
      refine q_aI d_L_law_1158 e1158 ?_
      refine g_aloadn d_L_law_1159 rfl ?_
      refine g_iloadn d_L_law_1160 rfl ?_
      refine g_ic (2) d_L_law_1161 ic_2 ?_
      refine g_iadd d_L_law_1162 ?_
      replace hF := Option.bind_eq_some_iff.mp hF
      obtain ⟨v1163, e1163, hF⟩ := hF
      refine q_aI d_L_law_1163 e1163 ?_
      refine g_aloadn d_L_law_1164 rfl ?_
      refine g_iloadn d_L_law_1165 rfl ?_
      refine g_ic (3) d_L_law_1166 ic_3 ?_
      refine g_iadd d_L_law_1167 ?_
      replace hF := Option.bind_eq_some_iff.mp hF
      obtain ⟨v1168, e1168, hF⟩ := hF
      refine q_aI d_L_law_1168 e1168 ?_
      replace hF := Option.bind_eq_some_iff.mp hF
      obtain ⟨_, g1169, hF⟩ := hF
      replace hF := Option.bind_eq_some_iff.mp hF
      obtain ⟨⟨r1169, h1169⟩, e1169, hF⟩ := hF
      try dsimp only at hF
      refine q_callV [.int v1158, .int v1163, .int v1168] [.int (r1150)] rfl d_L_law_1169 v_L_140 (by omega) rfl (Nat.le_of_ble_eq_true rfl) (rc_rc g1169 (by decide) rfl) (R_X12_throughNote _ _ _ _ _ (by omega) e1169) ?_
      refine g_icmp_eq 1599 d_L_law_1172 rfl (fun c1172 => ?_) (fun c1172 => ?_)
      · replace hF := x_t hF c1172
        refine q_iinc (6) [.ref x0, .ref x1, .ref x2, .int (x3 + 6)] d_L_law_1599 ic_6 rfl (by decide) rfl ?_
        refine g_goto 18 d_L_law_1602 rfl ?_
        exact q_to (xs_r (xs_r (xs_r (xs_r xs_n)))) (ih _ _ _ _ _ _ _ hF)
      · replace hF := x_f hF c1172
        refine g_ic (0) d_L_law_1175 ic_0 ?_
        obtain ⟨rfl, rfl, rfl, rfl⟩ := x_inj4 hF
        exact g_zret d_L_law_1176 rfl rfl hq
    replace hF := x_f hF c33_30
    rcases Classical.em ((v29 &&& 63) = 31) with c33_31 | c33_31
    · replace hF := x_t hF c33_31
      refine q_tabIn 1177 d_L_law_33 c33_31 (by decide) (by decide) rfl rfl ?_
      refine g_aloadn d_L_law_1177 rfl ?_
      refine g_aloadn d_L_law_1178 rfl ?_
      refine g_iloadn d_L_law_1179 rfl ?_
      refine g_ic (1) d_L_law_1180 ic_1 ?_
      refine g_iadd d_L_law_1181 ?_
      replace hF := Option.bind_eq_some_iff.mp hF
      obtain ⟨v1182, e1182, hF⟩ := hF
      refine q_aI d_L_law_1182 e1182 ?_
      refine g_aloadn d_L_law_1183 rfl ?_
      refine g_iloadn d_L_law_1184 rfl ?_
      refine g_ic (2) d_L_law_1185 ic_2 ?_
      refine g_iadd d_L_law_1186 ?_
      replace hF := Option.bind_eq_some_iff.mp hF
      obtain ⟨v1187, e1187, hF⟩ := hF
      refine q_aI d_L_law_1187 e1187 ?_
      replace hF := Option.bind_eq_some_iff.mp hF
      obtain ⟨_, g1188, hF⟩ := hF
      replace hF := Option.bind_eq_some_iff.mp hF
      obtain ⟨⟨r1188, h1188⟩, e1188, hF⟩ := hF
      try dsimp only at hF
      refine q_callV [.int v1182, .int v1187] [] rfl d_L_law_1188 v_L_141 (by omega) rfl (Nat.le_of_ble_eq_true rfl) (rc_rc g1188 (by decide) rfl) (R_X11_tunes _ _ _ _ (by omega) e1188) ?_
      refine g_aloadn d_L_law_1191 rfl ?_
      refine g_aloadn d_L_law_1192 rfl ?_
      refine g_iloadn d_L_law_1193 rfl ?_
      refine g_ic (1) d_L_law_1194 ic_1 ?_
      refine g_iadd d_L_law_1195 ?_
      replace hF := Option.bind_eq_some_iff.mp hF
      obtain ⟨v1196, e1196, hF⟩ := hF
      refine q_aI d_L_law_1196 e1196 ?_
      refine g_aloadn d_L_law_1197 rfl ?_
      refine g_iloadn d_L_law_1198 rfl ?_
      refine g_ic (2) d_L_law_1199 ic_2 ?_
      refine g_iadd d_L_law_1200 ?_
      replace hF := Option.bind_eq_some_iff.mp hF
      obtain ⟨v1201, e1201, hF⟩ := hF
      refine q_aI d_L_law_1201 e1201 ?_
      replace hF := Option.bind_eq_some_iff.mp hF
      obtain ⟨_, g1202, hF⟩ := hF
      replace hF := Option.bind_eq_some_iff.mp hF
      obtain ⟨⟨r1202, h1202⟩, e1202, hF⟩ := hF
      try dsimp only at hF
      refine q_callV [.int v1196, .int v1201] [.long (r1188)] rfl d_L_law_1202 v_L_145 (by omega) rfl (Nat.le_of_ble_eq_true rfl) (rc_rc g1202 (by decide) rfl) (R_X12_tunes _ _ _ _ (by omega) e1202) ?_
      refine g_lcmp d_L_law_1205 ?_
      refine g_if_eq 1599 d_L_law_1206 rfl (fun c1206 => ?_) (fun c1206 => ?_)
      · replace hF := x_t hF c1206
        refine q_iinc (6) [.ref x0, .ref x1, .ref x2, .int (x3 + 6)] d_L_law_1599 ic_6 rfl (by decide) rfl ?_
        refine g_goto 18 d_L_law_1602 rfl ?_
        exact q_to (xs_r (xs_r (xs_r (xs_r xs_n)))) (ih _ _ _ _ _ _ _ hF)
      · replace hF := x_f hF c1206
        refine g_ic (0) d_L_law_1209 ic_0 ?_
        obtain ⟨rfl, rfl, rfl, rfl⟩ := x_inj4 hF
        exact g_zret d_L_law_1210 rfl rfl hq
    replace hF := x_f hF c33_31
    rcases Classical.em ((v29 &&& 63) = 32) with c33_32 | c33_32
    · replace hF := x_t hF c33_32
      refine q_tabIn 1211 d_L_law_33 c33_32 (by decide) (by decide) rfl rfl ?_
      refine g_aloadn d_L_law_1211 rfl ?_
      refine g_aloadn d_L_law_1212 rfl ?_
      refine g_iloadn d_L_law_1213 rfl ?_
      refine g_ic (1) d_L_law_1214 ic_1 ?_
      refine g_iadd d_L_law_1215 ?_
      replace hF := Option.bind_eq_some_iff.mp hF
      obtain ⟨v1216, e1216, hF⟩ := hF
      refine q_aI d_L_law_1216 e1216 ?_
      replace hF := Option.bind_eq_some_iff.mp hF
      obtain ⟨_, g1217, hF⟩ := hF
      replace hF := Option.bind_eq_some_iff.mp hF
      obtain ⟨⟨r1217, h1217⟩, e1217, hF⟩ := hF
      try dsimp only at hF
      refine q_callV [.int v1216] [] rfl d_L_law_1217 v_L_146 (by omega) rfl (Nat.le_of_ble_eq_true rfl) (rc_rc g1217 (by decide) rfl) (R_X11_finds _ _ _ (by omega) e1217) ?_
      refine g_aloadn d_L_law_1220 rfl ?_
      refine g_aloadn d_L_law_1221 rfl ?_
      refine g_iloadn d_L_law_1222 rfl ?_
      refine g_ic (1) d_L_law_1223 ic_1 ?_
      refine g_iadd d_L_law_1224 ?_
      replace hF := Option.bind_eq_some_iff.mp hF
      obtain ⟨v1225, e1225, hF⟩ := hF
      refine q_aI d_L_law_1225 e1225 ?_
      replace hF := Option.bind_eq_some_iff.mp hF
      obtain ⟨_, g1226, hF⟩ := hF
      replace hF := Option.bind_eq_some_iff.mp hF
      obtain ⟨⟨r1226, h1226⟩, e1226, hF⟩ := hF
      try dsimp only at hF
      refine q_callV [.int v1225] [.int (r1217)] rfl d_L_law_1226 v_L_149 (by omega) rfl (Nat.le_of_ble_eq_true rfl) (rc_rc g1226 (by decide) rfl) (R_X12_finds _ _ _ (by omega) e1226) ?_
      refine g_icmp_eq 1599 d_L_law_1229 rfl (fun c1229 => ?_) (fun c1229 => ?_)
      · replace hF := x_t hF c1229
        refine q_iinc (6) [.ref x0, .ref x1, .ref x2, .int (x3 + 6)] d_L_law_1599 ic_6 rfl (by decide) rfl ?_
        refine g_goto 18 d_L_law_1602 rfl ?_
        exact q_to (xs_r (xs_r (xs_r (xs_r xs_n)))) (ih _ _ _ _ _ _ _ hF)
      · replace hF := x_f hF c1229
        refine g_ic (0) d_L_law_1232 ic_0 ?_
        obtain ⟨rfl, rfl, rfl, rfl⟩ := x_inj4 hF
        exact g_zret d_L_law_1233 rfl rfl hq
    replace hF := x_f hF c33_32
    rcases Classical.em ((v29 &&& 63) = 33) with c33_33 | c33_33
    · replace hF := x_t hF c33_33
      refine q_tabIn 1234 d_L_law_33 c33_33 (by decide) (by decide) rfl rfl ?_
      refine g_aloadn d_L_law_1234 rfl ?_
      refine g_aloadn d_L_law_1235 rfl ?_
      refine g_iloadn d_L_law_1236 rfl ?_
      refine g_ic (1) d_L_law_1237 ic_1 ?_
      refine g_iadd d_L_law_1238 ?_
      replace hF := Option.bind_eq_some_iff.mp hF
      obtain ⟨v1239, e1239, hF⟩ := hF
      refine q_aI d_L_law_1239 e1239 ?_
      refine g_aloadn d_L_law_1240 rfl ?_
      refine g_iloadn d_L_law_1241 rfl ?_
      refine g_ic (2) d_L_law_1242 ic_2 ?_
      refine g_iadd d_L_law_1243 ?_
      replace hF := Option.bind_eq_some_iff.mp hF
      obtain ⟨v1244, e1244, hF⟩ := hF
      refine q_aI d_L_law_1244 e1244 ?_
      replace hF := Option.bind_eq_some_iff.mp hF
      obtain ⟨_, g1245, hF⟩ := hF
      replace hF := Option.bind_eq_some_iff.mp hF
      obtain ⟨⟨r1245, h1245⟩, e1245, hF⟩ := hF
      try dsimp only at hF
      refine q_callV [.int v1239, .int v1244] [] rfl d_L_law_1245 v_L_150 (by omega) rfl (Nat.le_of_ble_eq_true rfl) (rc_rc g1245 (by decide) rfl) (R_X11_route _ _ _ _ (by omega) e1245) ?_
      refine g_aloadn d_L_law_1248 rfl ?_
      refine g_aloadn d_L_law_1249 rfl ?_
      refine g_iloadn d_L_law_1250 rfl ?_
      refine g_ic (1) d_L_law_1251 ic_1 ?_
      refine g_iadd d_L_law_1252 ?_
      replace hF := Option.bind_eq_some_iff.mp hF
      obtain ⟨v1253, e1253, hF⟩ := hF
      refine q_aI d_L_law_1253 e1253 ?_
      refine g_aloadn d_L_law_1254 rfl ?_
      refine g_iloadn d_L_law_1255 rfl ?_
      refine g_ic (2) d_L_law_1256 ic_2 ?_
      refine g_iadd d_L_law_1257 ?_
      replace hF := Option.bind_eq_some_iff.mp hF
      obtain ⟨v1258, e1258, hF⟩ := hF
      refine q_aI d_L_law_1258 e1258 ?_
      replace hF := Option.bind_eq_some_iff.mp hF
      obtain ⟨_, g1259, hF⟩ := hF
      replace hF := Option.bind_eq_some_iff.mp hF
      obtain ⟨⟨r1259, h1259⟩, e1259, hF⟩ := hF
      try dsimp only at hF
      refine q_callV [.int v1253, .int v1258] [.int (r1245)] rfl d_L_law_1259 v_L_153 (by omega) rfl (Nat.le_of_ble_eq_true rfl) (rc_rc g1259 (by decide) rfl) (R_X12_route _ _ _ _ (by omega) e1259) ?_
      refine g_icmp_eq 1599 d_L_law_1262 rfl (fun c1262 => ?_) (fun c1262 => ?_)
      · replace hF := x_t hF c1262
        refine q_iinc (6) [.ref x0, .ref x1, .ref x2, .int (x3 + 6)] d_L_law_1599 ic_6 rfl (by decide) rfl ?_
        refine g_goto 18 d_L_law_1602 rfl ?_
        exact q_to (xs_r (xs_r (xs_r (xs_r xs_n)))) (ih _ _ _ _ _ _ _ hF)
      · replace hF := x_f hF c1262
        refine g_ic (0) d_L_law_1265 ic_0 ?_
        obtain ⟨rfl, rfl, rfl, rfl⟩ := x_inj4 hF
        exact g_zret d_L_law_1266 rfl rfl hq
    replace hF := x_f hF c33_33
    rcases Classical.em ((v29 &&& 63) = 34) with c33_34 | c33_34
    · replace hF := x_t hF c33_34
      refine q_tabIn 1267 d_L_law_33 c33_34 (by decide) (by decide) rfl rfl ?_
      refine g_aloadn d_L_law_1267 rfl ?_
      replace hF := Option.bind_eq_some_iff.mp hF
      obtain ⟨_, g1268, hF⟩ := hF
      replace hF := Option.bind_eq_some_iff.mp hF
      obtain ⟨⟨r1268, h1268⟩, e1268, hF⟩ := hF
      try dsimp only at hF
      refine q_callV [] [] rfl d_L_law_1268 v_L_154 (by omega) rfl (Nat.le_of_ble_eq_true rfl) (rc_rc g1268 (by decide) rfl) (R_X11_all _ _ (by omega) e1268) ?_
      refine g_aloadn d_L_law_1271 rfl ?_
      replace hF := Option.bind_eq_some_iff.mp hF
      obtain ⟨_, g1272, hF⟩ := hF
      replace hF := Option.bind_eq_some_iff.mp hF
      obtain ⟨⟨r1272, h1272⟩, e1272, hF⟩ := hF
      try dsimp only at hF
      refine q_callV [] [.int (r1268)] rfl d_L_law_1272 v_L_158 (by omega) rfl (Nat.le_of_ble_eq_true rfl) (rc_rc g1272 (by decide) rfl) (R_X12_all _ _ (by omega) e1272) ?_
      refine g_icmp_eq 1599 d_L_law_1275 rfl (fun c1275 => ?_) (fun c1275 => ?_)
      · replace hF := x_t hF c1275
        refine q_iinc (6) [.ref x0, .ref x1, .ref x2, .int (x3 + 6)] d_L_law_1599 ic_6 rfl (by decide) rfl ?_
        refine g_goto 18 d_L_law_1602 rfl ?_
        exact q_to (xs_r (xs_r (xs_r (xs_r xs_n)))) (ih _ _ _ _ _ _ _ hF)
      · replace hF := x_f hF c1275
        refine g_ic (0) d_L_law_1278 ic_0 ?_
        obtain ⟨rfl, rfl, rfl, rfl⟩ := x_inj4 hF
        exact g_zret d_L_law_1279 rfl rfl hq
    replace hF := x_f hF c33_34
    rcases Classical.em ((v29 &&& 63) = 35) with c33_35 | c33_35
    · replace hF := x_t hF c33_35
      refine q_tabIn 1280 d_L_law_33 c33_35 (by decide) (by decide) rfl rfl ?_
      refine g_aloadn d_L_law_1280 rfl ?_
      refine g_aloadn d_L_law_1281 rfl ?_
      refine g_iloadn d_L_law_1282 rfl ?_
      refine g_ic (1) d_L_law_1283 ic_1 ?_
      refine g_iadd d_L_law_1284 ?_
      replace hF := Option.bind_eq_some_iff.mp hF
      obtain ⟨v1285, e1285, hF⟩ := hF
      refine q_aI d_L_law_1285 e1285 ?_
      refine g_aloadn d_L_law_1286 rfl ?_
      refine g_iloadn d_L_law_1287 rfl ?_
      refine g_ic (2) d_L_law_1288 ic_2 ?_
      refine g_iadd d_L_law_1289 ?_
      replace hF := Option.bind_eq_some_iff.mp hF
      obtain ⟨v1290, e1290, hF⟩ := hF
      refine q_aI d_L_law_1290 e1290 ?_
      replace hF := Option.bind_eq_some_iff.mp hF
      obtain ⟨_, g1291, hF⟩ := hF
      replace hF := Option.bind_eq_some_iff.mp hF
      obtain ⟨⟨r1291, h1291⟩, e1291, hF⟩ := hF
      try dsimp only at hF
      refine q_callV [.int v1285, .int v1290] [] rfl d_L_law_1291 v_L_159 (by omega) rfl (Nat.le_of_ble_eq_true rfl) (rc_rc g1291 (by decide) rfl) (R_X11_near _ _ _ _ (by omega) e1291) ?_
      refine g_aloadn d_L_law_1294 rfl ?_
      refine g_aloadn d_L_law_1295 rfl ?_
      refine g_iloadn d_L_law_1296 rfl ?_
      refine g_ic (1) d_L_law_1297 ic_1 ?_
      refine g_iadd d_L_law_1298 ?_
      replace hF := Option.bind_eq_some_iff.mp hF
      obtain ⟨v1299, e1299, hF⟩ := hF
      refine q_aI d_L_law_1299 e1299 ?_
      refine g_aloadn d_L_law_1300 rfl ?_
      refine g_iloadn d_L_law_1301 rfl ?_
      refine g_ic (2) d_L_law_1302 ic_2 ?_
      refine g_iadd d_L_law_1303 ?_
      replace hF := Option.bind_eq_some_iff.mp hF
      obtain ⟨v1304, e1304, hF⟩ := hF
      refine q_aI d_L_law_1304 e1304 ?_
      replace hF := Option.bind_eq_some_iff.mp hF
      obtain ⟨_, g1305, hF⟩ := hF
      replace hF := Option.bind_eq_some_iff.mp hF
      obtain ⟨⟨r1305, h1305⟩, e1305, hF⟩ := hF
      try dsimp only at hF
      refine q_callV [.int v1299, .int v1304] [.int (r1291)] rfl d_L_law_1305 v_L_162 (by omega) rfl (Nat.le_of_ble_eq_true rfl) (rc_rc g1305 (by decide) rfl) (R_X12_near _ _ _ _ (by omega) e1305) ?_
      refine g_icmp_eq 1599 d_L_law_1308 rfl (fun c1308 => ?_) (fun c1308 => ?_)
      · replace hF := x_t hF c1308
        refine q_iinc (6) [.ref x0, .ref x1, .ref x2, .int (x3 + 6)] d_L_law_1599 ic_6 rfl (by decide) rfl ?_
        refine g_goto 18 d_L_law_1602 rfl ?_
        exact q_to (xs_r (xs_r (xs_r (xs_r xs_n)))) (ih _ _ _ _ _ _ _ hF)
      · replace hF := x_f hF c1308
        refine g_ic (0) d_L_law_1311 ic_0 ?_
        obtain ⟨rfl, rfl, rfl, rfl⟩ := x_inj4 hF
        exact g_zret d_L_law_1312 rfl rfl hq
    replace hF := x_f hF c33_35
    rcases Classical.em ((v29 &&& 63) = 36) with c33_36 | c33_36
    · replace hF := x_t hF c33_36
      refine q_tabIn 1313 d_L_law_33 c33_36 (by decide) (by decide) rfl rfl ?_
      refine g_aloadn d_L_law_1313 rfl ?_
      refine g_aloadn d_L_law_1314 rfl ?_
      refine g_iloadn d_L_law_1315 rfl ?_
      refine g_ic (1) d_L_law_1316 ic_1 ?_
      refine g_iadd d_L_law_1317 ?_
      replace hF := Option.bind_eq_some_iff.mp hF
      obtain ⟨v1318, e1318, hF⟩ := hF
      refine q_aI d_L_law_1318 e1318 ?_
      refine g_aloadn d_L_law_1319 rfl ?_
      refine g_iloadn d_L_law_1320 rfl ?_
      refine g_ic (2) d_L_law_1321 ic_2 ?_
      refine g_iadd d_L_law_1322 ?_
      replace hF := Option.bind_eq_some_iff.mp hF
      obtain ⟨v1323, e1323, hF⟩ := hF
      refine q_aI d_L_law_1323 e1323 ?_
      refine g_aloadn d_L_law_1324 rfl ?_
      refine g_iloadn d_L_law_1325 rfl ?_
      refine g_ic (3) d_L_law_1326 ic_3 ?_
      refine g_iadd d_L_law_1327 ?_
      replace hF := Option.bind_eq_some_iff.mp hF
      obtain ⟨v1328, e1328, hF⟩ := hF
      refine q_aI d_L_law_1328 e1328 ?_
      replace hF := Option.bind_eq_some_iff.mp hF
      obtain ⟨_, g1329, hF⟩ := hF
      replace hF := Option.bind_eq_some_iff.mp hF
      obtain ⟨⟨r1329, h1329⟩, e1329, hF⟩ := hF
      try dsimp only at hF
      refine q_callV [.int v1318, .int v1323, .int v1328] [] rfl d_L_law_1329 v_L_163 (by omega) rfl (Nat.le_of_ble_eq_true rfl) (rc_rc g1329 (by decide) rfl) (R_X11_chance _ _ _ _ _ (by omega) e1329) ?_
      refine g_aloadn d_L_law_1332 rfl ?_
      refine g_aloadn d_L_law_1333 rfl ?_
      refine g_iloadn d_L_law_1334 rfl ?_
      refine g_ic (1) d_L_law_1335 ic_1 ?_
      refine g_iadd d_L_law_1336 ?_
      replace hF := Option.bind_eq_some_iff.mp hF
      obtain ⟨v1337, e1337, hF⟩ := hF
      refine q_aI d_L_law_1337 e1337 ?_
      refine g_aloadn d_L_law_1338 rfl ?_
      refine g_iloadn d_L_law_1339 rfl ?_
      refine g_ic (2) d_L_law_1340 ic_2 ?_
      refine g_iadd d_L_law_1341 ?_
      replace hF := Option.bind_eq_some_iff.mp hF
      obtain ⟨v1342, e1342, hF⟩ := hF
      refine q_aI d_L_law_1342 e1342 ?_
      refine g_aloadn d_L_law_1343 rfl ?_
      refine g_iloadn d_L_law_1344 rfl ?_
      refine g_ic (3) d_L_law_1345 ic_3 ?_
      refine g_iadd d_L_law_1346 ?_
      replace hF := Option.bind_eq_some_iff.mp hF
      obtain ⟨v1347, e1347, hF⟩ := hF
      refine q_aI d_L_law_1347 e1347 ?_
      replace hF := Option.bind_eq_some_iff.mp hF
      obtain ⟨_, g1348, hF⟩ := hF
      replace hF := Option.bind_eq_some_iff.mp hF
      obtain ⟨⟨r1348, h1348⟩, e1348, hF⟩ := hF
      try dsimp only at hF
      refine q_callV [.int v1337, .int v1342, .int v1347] [.long (r1329)] rfl d_L_law_1348 v_L_167 (by omega) rfl (Nat.le_of_ble_eq_true rfl) (rc_rc g1348 (by decide) rfl) (R_X12_chance _ _ _ _ _ (by omega) e1348) ?_
      refine g_lcmp d_L_law_1351 ?_
      refine g_if_eq 1599 d_L_law_1352 rfl (fun c1352 => ?_) (fun c1352 => ?_)
      · replace hF := x_t hF c1352
        refine q_iinc (6) [.ref x0, .ref x1, .ref x2, .int (x3 + 6)] d_L_law_1599 ic_6 rfl (by decide) rfl ?_
        refine g_goto 18 d_L_law_1602 rfl ?_
        exact q_to (xs_r (xs_r (xs_r (xs_r xs_n)))) (ih _ _ _ _ _ _ _ hF)
      · replace hF := x_f hF c1352
        refine g_ic (0) d_L_law_1355 ic_0 ?_
        obtain ⟨rfl, rfl, rfl, rfl⟩ := x_inj4 hF
        exact g_zret d_L_law_1356 rfl rfl hq
    replace hF := x_f hF c33_36
    rcases Classical.em ((v29 &&& 63) = 37) with c33_37 | c33_37
    · replace hF := x_t hF c33_37
      refine q_tabIn 1357 d_L_law_33 c33_37 (by decide) (by decide) rfl rfl ?_
      refine g_aloadn d_L_law_1357 rfl ?_
      refine g_aloadn d_L_law_1358 rfl ?_
      refine g_iloadn d_L_law_1359 rfl ?_
      refine g_ic (1) d_L_law_1360 ic_1 ?_
      refine g_iadd d_L_law_1361 ?_
      replace hF := Option.bind_eq_some_iff.mp hF
      obtain ⟨v1362, e1362, hF⟩ := hF
      refine q_aI d_L_law_1362 e1362 ?_
      replace hF := Option.bind_eq_some_iff.mp hF
      obtain ⟨_, g1363, hF⟩ := hF
      replace hF := Option.bind_eq_some_iff.mp hF
      obtain ⟨⟨r1363, h1363⟩, e1363, hF⟩ := hF
      try dsimp only at hF
      refine q_callV [.int v1362] [] rfl d_L_law_1363 v_L_168 (by omega) rfl (Nat.le_of_ble_eq_true rfl) (rc_rc g1363 (by decide) rfl) (R_X11_likeliest _ _ _ (by omega) e1363) ?_
      refine g_aloadn d_L_law_1366 rfl ?_
      refine g_aloadn d_L_law_1367 rfl ?_
      refine g_iloadn d_L_law_1368 rfl ?_
      refine g_ic (1) d_L_law_1369 ic_1 ?_
      refine g_iadd d_L_law_1370 ?_
      replace hF := Option.bind_eq_some_iff.mp hF
      obtain ⟨v1371, e1371, hF⟩ := hF
      refine q_aI d_L_law_1371 e1371 ?_
      replace hF := Option.bind_eq_some_iff.mp hF
      obtain ⟨_, g1372, hF⟩ := hF
      replace hF := Option.bind_eq_some_iff.mp hF
      obtain ⟨⟨r1372, h1372⟩, e1372, hF⟩ := hF
      try dsimp only at hF
      refine q_callV [.int v1371] [.int (r1363)] rfl d_L_law_1372 v_L_171 (by omega) rfl (Nat.le_of_ble_eq_true rfl) (rc_rc g1372 (by decide) rfl) (R_X12_likeliest _ _ _ (by omega) e1372) ?_
      refine g_icmp_eq 1599 d_L_law_1375 rfl (fun c1375 => ?_) (fun c1375 => ?_)
      · replace hF := x_t hF c1375
        refine q_iinc (6) [.ref x0, .ref x1, .ref x2, .int (x3 + 6)] d_L_law_1599 ic_6 rfl (by decide) rfl ?_
        refine g_goto 18 d_L_law_1602 rfl ?_
        exact q_to (xs_r (xs_r (xs_r (xs_r xs_n)))) (ih _ _ _ _ _ _ _ hF)
      · replace hF := x_f hF c1375
        refine g_ic (0) d_L_law_1378 ic_0 ?_
        obtain ⟨rfl, rfl, rfl, rfl⟩ := x_inj4 hF
        exact g_zret d_L_law_1379 rfl rfl hq
    replace hF := x_f hF c33_37
    rcases Classical.em ((v29 &&& 63) = 38) with c33_38 | c33_38
    · replace hF := x_t hF c33_38
      refine q_tabIn 1380 d_L_law_33 c33_38 (by decide) (by decide) rfl rfl ?_
      refine g_aloadn d_L_law_1380 rfl ?_
      refine g_aloadn d_L_law_1381 rfl ?_
      refine g_iloadn d_L_law_1382 rfl ?_
      refine g_ic (1) d_L_law_1383 ic_1 ?_
      refine g_iadd d_L_law_1384 ?_
      replace hF := Option.bind_eq_some_iff.mp hF
      obtain ⟨v1385, e1385, hF⟩ := hF
      refine q_aI d_L_law_1385 e1385 ?_
      refine g_aloadn d_L_law_1386 rfl ?_
      refine g_iloadn d_L_law_1387 rfl ?_
      refine g_ic (2) d_L_law_1388 ic_2 ?_
      refine g_iadd d_L_law_1389 ?_
      replace hF := Option.bind_eq_some_iff.mp hF
      obtain ⟨v1390, e1390, hF⟩ := hF
      refine q_aI d_L_law_1390 e1390 ?_
      refine g_aloadn d_L_law_1391 rfl ?_
      refine g_iloadn d_L_law_1392 rfl ?_
      refine g_ic (3) d_L_law_1393 ic_3 ?_
      refine g_iadd d_L_law_1394 ?_
      replace hF := Option.bind_eq_some_iff.mp hF
      obtain ⟨v1395, e1395, hF⟩ := hF
      refine q_aI d_L_law_1395 e1395 ?_
      replace hF := Option.bind_eq_some_iff.mp hF
      obtain ⟨_, g1396, hF⟩ := hF
      replace hF := Option.bind_eq_some_iff.mp hF
      obtain ⟨⟨r1396, h1396⟩, e1396, hF⟩ := hF
      try dsimp only at hF
      refine q_callV [.int v1385, .int v1390, .int v1395] [] rfl d_L_law_1396 v_L_172 (by omega) rfl (Nat.le_of_ble_eq_true rfl) (rc_rc g1396 (by decide) rfl) (R_X11_numbers _ _ _ _ _ (by omega) e1396) ?_
      refine g_aloadn d_L_law_1399 rfl ?_
      refine g_aloadn d_L_law_1400 rfl ?_
      refine g_iloadn d_L_law_1401 rfl ?_
      refine g_ic (1) d_L_law_1402 ic_1 ?_
      refine g_iadd d_L_law_1403 ?_
      replace hF := Option.bind_eq_some_iff.mp hF
      obtain ⟨v1404, e1404, hF⟩ := hF
      refine q_aI d_L_law_1404 e1404 ?_
      refine g_aloadn d_L_law_1405 rfl ?_
      refine g_iloadn d_L_law_1406 rfl ?_
      refine g_ic (2) d_L_law_1407 ic_2 ?_
      refine g_iadd d_L_law_1408 ?_
      replace hF := Option.bind_eq_some_iff.mp hF
      obtain ⟨v1409, e1409, hF⟩ := hF
      refine q_aI d_L_law_1409 e1409 ?_
      refine g_aloadn d_L_law_1410 rfl ?_
      refine g_iloadn d_L_law_1411 rfl ?_
      refine g_ic (3) d_L_law_1412 ic_3 ?_
      refine g_iadd d_L_law_1413 ?_
      replace hF := Option.bind_eq_some_iff.mp hF
      obtain ⟨v1414, e1414, hF⟩ := hF
      refine q_aI d_L_law_1414 e1414 ?_
      replace hF := Option.bind_eq_some_iff.mp hF
      obtain ⟨_, g1415, hF⟩ := hF
      replace hF := Option.bind_eq_some_iff.mp hF
      obtain ⟨⟨r1415, h1415⟩, e1415, hF⟩ := hF
      try dsimp only at hF
      refine q_callV [.int v1404, .int v1409, .int v1414] [.int (r1396)] rfl d_L_law_1415 v_L_175 (by omega) rfl (Nat.le_of_ble_eq_true rfl) (rc_rc g1415 (by decide) rfl) (R_X12_numbers _ _ _ _ _ (by omega) e1415) ?_
      refine g_icmp_eq 1599 d_L_law_1418 rfl (fun c1418 => ?_) (fun c1418 => ?_)
      · replace hF := x_t hF c1418
        refine q_iinc (6) [.ref x0, .ref x1, .ref x2, .int (x3 + 6)] d_L_law_1599 ic_6 rfl (by decide) rfl ?_
        refine g_goto 18 d_L_law_1602 rfl ?_
        exact q_to (xs_r (xs_r (xs_r (xs_r xs_n)))) (ih _ _ _ _ _ _ _ hF)
      · replace hF := x_f hF c1418
        refine g_ic (0) d_L_law_1421 ic_0 ?_
        obtain ⟨rfl, rfl, rfl, rfl⟩ := x_inj4 hF
        exact g_zret d_L_law_1422 rfl rfl hq
    replace hF := x_f hF c33_38
    rcases Classical.em ((v29 &&& 63) = 39) with c33_39 | c33_39
    · replace hF := x_t hF c33_39
      refine q_tabIn 1423 d_L_law_33 c33_39 (by decide) (by decide) rfl rfl ?_
      refine g_aloadn d_L_law_1423 rfl ?_
      refine g_aloadn d_L_law_1424 rfl ?_
      refine g_iloadn d_L_law_1425 rfl ?_
      refine g_ic (1) d_L_law_1426 ic_1 ?_
      refine g_iadd d_L_law_1427 ?_
      replace hF := Option.bind_eq_some_iff.mp hF
      obtain ⟨v1428, e1428, hF⟩ := hF
      refine q_aI d_L_law_1428 e1428 ?_
      refine g_aloadn d_L_law_1429 rfl ?_
      refine g_iloadn d_L_law_1430 rfl ?_
      refine g_ic (2) d_L_law_1431 ic_2 ?_
      refine g_iadd d_L_law_1432 ?_
      replace hF := Option.bind_eq_some_iff.mp hF
      obtain ⟨v1433, e1433, hF⟩ := hF
      refine q_aI d_L_law_1433 e1433 ?_
      refine g_aloadn d_L_law_1434 rfl ?_
      refine g_iloadn d_L_law_1435 rfl ?_
      refine g_ic (3) d_L_law_1436 ic_3 ?_
      refine g_iadd d_L_law_1437 ?_
      replace hF := Option.bind_eq_some_iff.mp hF
      obtain ⟨v1438, e1438, hF⟩ := hF
      refine q_aI d_L_law_1438 e1438 ?_
      refine g_i2l d_L_law_1439 ?_
      refine g_bi (32) d_L_law_1440 bi_32 ?_
      refine g_lshl d_L_law_1442 ?_
      refine g_aloadn d_L_law_1443 rfl ?_
      refine g_iloadn d_L_law_1444 rfl ?_
      refine g_ic (4) d_L_law_1445 ic_4 ?_
      refine g_iadd d_L_law_1446 ?_
      replace hF := Option.bind_eq_some_iff.mp hF
      obtain ⟨v1447, e1447, hF⟩ := hF
      refine q_aI d_L_law_1447 e1447 ?_
      refine g_i2l d_L_law_1448 ?_
      refine g_ldc2 d_L_law_1449 k_L_176 ?_
      refine g_land d_L_law_1452 ?_
      refine g_lor d_L_law_1453 ?_
      replace hF := Option.bind_eq_some_iff.mp hF
      obtain ⟨_, g1454, hF⟩ := hF
      replace hF := Option.bind_eq_some_iff.mp hF
      obtain ⟨⟨r1454, h1454⟩, e1454, hF⟩ := hF
      try dsimp only at hF
      refine q_callV [.int v1428, .int v1433, .long ((v1438.toInt64 <<< (((32 : Int32)).toInt64 &&& 63)) ||| (v1447.toInt64 &&& 4294967295))] [] rfl d_L_law_1454 v_L_178 (by omega) rfl (Nat.le_of_ble_eq_true rfl) (rc_rc g1454 (by decide) rfl) (R_X11_write _ _ _ _ _ (by omega) e1454) ?_
      refine g_aloadn d_L_law_1457 rfl ?_
      refine g_aloadn d_L_law_1458 rfl ?_
      refine g_iloadn d_L_law_1459 rfl ?_
      refine g_ic (1) d_L_law_1460 ic_1 ?_
      refine g_iadd d_L_law_1461 ?_
      replace hF := Option.bind_eq_some_iff.mp hF
      obtain ⟨v1462, e1462, hF⟩ := hF
      refine q_aI d_L_law_1462 e1462 ?_
      refine g_aloadn d_L_law_1463 rfl ?_
      refine g_iloadn d_L_law_1464 rfl ?_
      refine g_ic (2) d_L_law_1465 ic_2 ?_
      refine g_iadd d_L_law_1466 ?_
      replace hF := Option.bind_eq_some_iff.mp hF
      obtain ⟨v1467, e1467, hF⟩ := hF
      refine q_aI d_L_law_1467 e1467 ?_
      refine g_aloadn d_L_law_1468 rfl ?_
      refine g_iloadn d_L_law_1469 rfl ?_
      refine g_ic (3) d_L_law_1470 ic_3 ?_
      refine g_iadd d_L_law_1471 ?_
      replace hF := Option.bind_eq_some_iff.mp hF
      obtain ⟨v1472, e1472, hF⟩ := hF
      refine q_aI d_L_law_1472 e1472 ?_
      refine g_i2l d_L_law_1473 ?_
      refine g_bi (32) d_L_law_1474 bi_32 ?_
      refine g_lshl d_L_law_1476 ?_
      refine g_aloadn d_L_law_1477 rfl ?_
      refine g_iloadn d_L_law_1478 rfl ?_
      refine g_ic (4) d_L_law_1479 ic_4 ?_
      refine g_iadd d_L_law_1480 ?_
      replace hF := Option.bind_eq_some_iff.mp hF
      obtain ⟨v1481, e1481, hF⟩ := hF
      refine q_aI d_L_law_1481 e1481 ?_
      refine g_i2l d_L_law_1482 ?_
      refine g_ldc2 d_L_law_1483 k_L_176 ?_
      refine g_land d_L_law_1486 ?_
      refine g_lor d_L_law_1487 ?_
      replace hF := Option.bind_eq_some_iff.mp hF
      obtain ⟨_, g1488, hF⟩ := hF
      replace hF := Option.bind_eq_some_iff.mp hF
      obtain ⟨⟨r1488, h1488⟩, e1488, hF⟩ := hF
      try dsimp only at hF
      refine q_callV [.int v1462, .int v1467, .long ((v1472.toInt64 <<< (((32 : Int32)).toInt64 &&& 63)) ||| (v1481.toInt64 &&& 4294967295))] [.long (r1454)] rfl d_L_law_1488 v_L_182 (by omega) rfl (Nat.le_of_ble_eq_true rfl) (rc_rc g1488 (by decide) rfl) (R_X12_write _ _ _ _ _ (by omega) e1488) ?_
      refine g_lcmp d_L_law_1491 ?_
      refine g_if_eq 1599 d_L_law_1492 rfl (fun c1492 => ?_) (fun c1492 => ?_)
      · replace hF := x_t hF c1492
        refine q_iinc (6) [.ref x0, .ref x1, .ref x2, .int (x3 + 6)] d_L_law_1599 ic_6 rfl (by decide) rfl ?_
        refine g_goto 18 d_L_law_1602 rfl ?_
        exact q_to (xs_r (xs_r (xs_r (xs_r xs_n)))) (ih _ _ _ _ _ _ _ hF)
      · replace hF := x_f hF c1492
        refine g_ic (0) d_L_law_1495 ic_0 ?_
        obtain ⟨rfl, rfl, rfl, rfl⟩ := x_inj4 hF
        exact g_zret d_L_law_1496 rfl rfl hq
    replace hF := x_f hF c33_39
    rcases Classical.em ((v29 &&& 63) = 40) with c33_40 | c33_40
    · replace hF := x_t hF c33_40
      refine q_tabIn 1497 d_L_law_33 c33_40 (by decide) (by decide) rfl rfl ?_
      refine g_aloadn d_L_law_1497 rfl ?_
      refine g_aloadn d_L_law_1498 rfl ?_
      refine g_iloadn d_L_law_1499 rfl ?_
      refine g_ic (1) d_L_law_1500 ic_1 ?_
      refine g_iadd d_L_law_1501 ?_
      replace hF := Option.bind_eq_some_iff.mp hF
      obtain ⟨v1502, e1502, hF⟩ := hF
      refine q_aI d_L_law_1502 e1502 ?_
      refine g_aloadn d_L_law_1503 rfl ?_
      refine g_iloadn d_L_law_1504 rfl ?_
      refine g_ic (2) d_L_law_1505 ic_2 ?_
      refine g_iadd d_L_law_1506 ?_
      replace hF := Option.bind_eq_some_iff.mp hF
      obtain ⟨v1507, e1507, hF⟩ := hF
      refine q_aI d_L_law_1507 e1507 ?_
      replace hF := Option.bind_eq_some_iff.mp hF
      obtain ⟨_, g1508, hF⟩ := hF
      replace hF := Option.bind_eq_some_iff.mp hF
      obtain ⟨⟨r1508, h1508⟩, e1508, hF⟩ := hF
      try dsimp only at hF
      refine q_callV [.int v1502, .int v1507] [] rfl d_L_law_1508 v_L_183 (by omega) rfl (Nat.le_of_ble_eq_true rfl) (rc_rc g1508 (by decide) rfl) (R_X11_lists _ _ _ _ (by omega) e1508) ?_
      refine g_aloadn d_L_law_1511 rfl ?_
      refine g_aloadn d_L_law_1512 rfl ?_
      refine g_iloadn d_L_law_1513 rfl ?_
      refine g_ic (1) d_L_law_1514 ic_1 ?_
      refine g_iadd d_L_law_1515 ?_
      replace hF := Option.bind_eq_some_iff.mp hF
      obtain ⟨v1516, e1516, hF⟩ := hF
      refine q_aI d_L_law_1516 e1516 ?_
      refine g_aloadn d_L_law_1517 rfl ?_
      refine g_iloadn d_L_law_1518 rfl ?_
      refine g_ic (2) d_L_law_1519 ic_2 ?_
      refine g_iadd d_L_law_1520 ?_
      replace hF := Option.bind_eq_some_iff.mp hF
      obtain ⟨v1521, e1521, hF⟩ := hF
      refine q_aI d_L_law_1521 e1521 ?_
      replace hF := Option.bind_eq_some_iff.mp hF
      obtain ⟨_, g1522, hF⟩ := hF
      replace hF := Option.bind_eq_some_iff.mp hF
      obtain ⟨⟨r1522, h1522⟩, e1522, hF⟩ := hF
      try dsimp only at hF
      refine q_callV [.int v1516, .int v1521] [.int (r1508)] rfl d_L_law_1522 v_L_186 (by omega) rfl (Nat.le_of_ble_eq_true rfl) (rc_rc g1522 (by decide) rfl) (R_X12_lists _ _ _ _ (by omega) e1522) ?_
      refine g_icmp_eq 1599 d_L_law_1525 rfl (fun c1525 => ?_) (fun c1525 => ?_)
      · replace hF := x_t hF c1525
        refine q_iinc (6) [.ref x0, .ref x1, .ref x2, .int (x3 + 6)] d_L_law_1599 ic_6 rfl (by decide) rfl ?_
        refine g_goto 18 d_L_law_1602 rfl ?_
        exact q_to (xs_r (xs_r (xs_r (xs_r xs_n)))) (ih _ _ _ _ _ _ _ hF)
      · replace hF := x_f hF c1525
        refine g_ic (0) d_L_law_1528 ic_0 ?_
        obtain ⟨rfl, rfl, rfl, rfl⟩ := x_inj4 hF
        exact g_zret d_L_law_1529 rfl rfl hq
    replace hF := x_f hF c33_40
    rcases Classical.em ((v29 &&& 63) = 41) with c33_41 | c33_41
    · replace hF := x_t hF c33_41
      refine q_tabIn 1530 d_L_law_33 c33_41 (by decide) (by decide) rfl rfl ?_
      refine g_aloadn d_L_law_1530 rfl ?_
      refine g_aloadn d_L_law_1531 rfl ?_
      refine g_iloadn d_L_law_1532 rfl ?_
      refine g_ic (1) d_L_law_1533 ic_1 ?_
      refine g_iadd d_L_law_1534 ?_
      replace hF := Option.bind_eq_some_iff.mp hF
      obtain ⟨v1535, e1535, hF⟩ := hF
      refine q_aI d_L_law_1535 e1535 ?_
      replace hF := Option.bind_eq_some_iff.mp hF
      obtain ⟨_, g1536, hF⟩ := hF
      replace hF := Option.bind_eq_some_iff.mp hF
      obtain ⟨⟨r1536, h1536⟩, e1536, hF⟩ := hF
      try dsimp only at hF
      refine q_callV [.int v1535] [] rfl d_L_law_1536 v_L_187 (by omega) rfl (Nat.le_of_ble_eq_true rfl) (rc_rc g1536 (by decide) rfl) (R_X11_image _ _ _ (by omega) e1536) ?_
      refine g_aloadn d_L_law_1539 rfl ?_
      refine g_aloadn d_L_law_1540 rfl ?_
      refine g_iloadn d_L_law_1541 rfl ?_
      refine g_ic (1) d_L_law_1542 ic_1 ?_
      refine g_iadd d_L_law_1543 ?_
      replace hF := Option.bind_eq_some_iff.mp hF
      obtain ⟨v1544, e1544, hF⟩ := hF
      refine q_aI d_L_law_1544 e1544 ?_
      replace hF := Option.bind_eq_some_iff.mp hF
      obtain ⟨_, g1545, hF⟩ := hF
      replace hF := Option.bind_eq_some_iff.mp hF
      obtain ⟨⟨r1545, h1545⟩, e1545, hF⟩ := hF
      try dsimp only at hF
      refine q_callV [.int v1544] [.int (r1536)] rfl d_L_law_1545 v_L_190 (by omega) rfl (Nat.le_of_ble_eq_true rfl) (rc_rc g1545 (by decide) rfl) (R_X12_image _ _ _ (by omega) e1545) ?_
      refine g_icmp_eq 1599 d_L_law_1548 rfl (fun c1548 => ?_) (fun c1548 => ?_)
      · replace hF := x_t hF c1548
        refine q_iinc (6) [.ref x0, .ref x1, .ref x2, .int (x3 + 6)] d_L_law_1599 ic_6 rfl (by decide) rfl ?_
        refine g_goto 18 d_L_law_1602 rfl ?_
        exact q_to (xs_r (xs_r (xs_r (xs_r xs_n)))) (ih _ _ _ _ _ _ _ hF)
      · replace hF := x_f hF c1548
        refine g_ic (0) d_L_law_1551 ic_0 ?_
        obtain ⟨rfl, rfl, rfl, rfl⟩ := x_inj4 hF
        exact g_zret d_L_law_1552 rfl rfl hq
    replace hF := x_f hF c33_41
    rcases Classical.em ((v29 &&& 63) = 42) with c33_42 | c33_42
    · replace hF := x_t hF c33_42
      refine q_tabIn 1553 d_L_law_33 c33_42 (by decide) (by decide) rfl rfl ?_
      refine g_aloadn d_L_law_1553 rfl ?_
      refine g_aloadn d_L_law_1554 rfl ?_
      refine g_iloadn d_L_law_1555 rfl ?_
      refine g_ic (1) d_L_law_1556 ic_1 ?_
      refine g_iadd d_L_law_1557 ?_
      replace hF := Option.bind_eq_some_iff.mp hF
      obtain ⟨v1558, e1558, hF⟩ := hF
      refine q_aI d_L_law_1558 e1558 ?_
      replace hF := Option.bind_eq_some_iff.mp hF
      obtain ⟨_, g1559, hF⟩ := hF
      replace hF := Option.bind_eq_some_iff.mp hF
      obtain ⟨⟨r1559, h1559⟩, e1559, hF⟩ := hF
      try dsimp only at hF
      refine q_callV [.int v1558] [] rfl d_L_law_1559 v_L_191 (by omega) rfl (Nat.le_of_ble_eq_true rfl) (rc_rc g1559 (by decide) rfl) (R_X11_restore _ _ _ (by omega) e1559) ?_
      refine g_aloadn d_L_law_1562 rfl ?_
      refine g_aloadn d_L_law_1563 rfl ?_
      refine g_iloadn d_L_law_1564 rfl ?_
      refine g_ic (1) d_L_law_1565 ic_1 ?_
      refine g_iadd d_L_law_1566 ?_
      replace hF := Option.bind_eq_some_iff.mp hF
      obtain ⟨v1567, e1567, hF⟩ := hF
      refine q_aI d_L_law_1567 e1567 ?_
      replace hF := Option.bind_eq_some_iff.mp hF
      obtain ⟨_, g1568, hF⟩ := hF
      replace hF := Option.bind_eq_some_iff.mp hF
      obtain ⟨⟨r1568, h1568⟩, e1568, hF⟩ := hF
      try dsimp only at hF
      refine q_callV [.int v1567] [.int (r1559)] rfl d_L_law_1568 v_L_194 (by omega) rfl (Nat.le_of_ble_eq_true rfl) (rc_rc g1568 (by decide) rfl) (R_X12_restore _ _ _ (by omega) e1568) ?_
      refine g_icmp_eq 1599 d_L_law_1571 rfl (fun c1571 => ?_) (fun c1571 => ?_)
      · replace hF := x_t hF c1571
        refine q_iinc (6) [.ref x0, .ref x1, .ref x2, .int (x3 + 6)] d_L_law_1599 ic_6 rfl (by decide) rfl ?_
        refine g_goto 18 d_L_law_1602 rfl ?_
        exact q_to (xs_r (xs_r (xs_r (xs_r xs_n)))) (ih _ _ _ _ _ _ _ hF)
      · replace hF := x_f hF c1571
        refine g_ic (0) d_L_law_1574 ic_0 ?_
        obtain ⟨rfl, rfl, rfl, rfl⟩ := x_inj4 hF
        exact g_zret d_L_law_1575 rfl rfl hq
    replace hF := x_f hF c33_42
    rcases Classical.em ((v29 &&& 63) = 43) with c33_43 | c33_43
    · replace hF := x_t hF c33_43
      refine q_tabIn 1576 d_L_law_33 c33_43 (by decide) (by decide) rfl rfl ?_
      refine g_aloadn d_L_law_1576 rfl ?_
      refine g_aloadn d_L_law_1577 rfl ?_
      refine g_iloadn d_L_law_1578 rfl ?_
      refine g_ic (1) d_L_law_1579 ic_1 ?_
      refine g_iadd d_L_law_1580 ?_
      replace hF := Option.bind_eq_some_iff.mp hF
      obtain ⟨v1581, e1581, hF⟩ := hF
      refine q_aI d_L_law_1581 e1581 ?_
      replace hF := Option.bind_eq_some_iff.mp hF
      obtain ⟨_, g1582, hF⟩ := hF
      replace hF := Option.bind_eq_some_iff.mp hF
      obtain ⟨⟨r1582, h1582⟩, e1582, hF⟩ := hF
      try dsimp only at hF
      refine q_callV [.int v1581] [] rfl d_L_law_1582 v_L_195 (by omega) rfl (Nat.le_of_ble_eq_true rfl) (rc_rc g1582 (by decide) rfl) (R_X11_count _ _ _ (by omega) e1582) ?_
      refine g_aloadn d_L_law_1585 rfl ?_
      refine g_aloadn d_L_law_1586 rfl ?_
      refine g_iloadn d_L_law_1587 rfl ?_
      refine g_ic (1) d_L_law_1588 ic_1 ?_
      refine g_iadd d_L_law_1589 ?_
      replace hF := Option.bind_eq_some_iff.mp hF
      obtain ⟨v1590, e1590, hF⟩ := hF
      refine q_aI d_L_law_1590 e1590 ?_
      replace hF := Option.bind_eq_some_iff.mp hF
      obtain ⟨_, g1591, hF⟩ := hF
      replace hF := Option.bind_eq_some_iff.mp hF
      obtain ⟨⟨r1591, h1591⟩, e1591, hF⟩ := hF
      try dsimp only at hF
      refine q_callV [.int v1590] [.int (r1582)] rfl d_L_law_1591 v_L_198 (by omega) rfl (Nat.le_of_ble_eq_true rfl) (rc_rc g1591 (by decide) rfl) (R_X12_count _ _ _ (by omega) e1591) ?_
      refine g_icmp_eq 1599 d_L_law_1594 rfl (fun c1594 => ?_) (fun c1594 => ?_)
      · replace hF := x_t hF c1594
        refine q_iinc (6) [.ref x0, .ref x1, .ref x2, .int (x3 + 6)] d_L_law_1599 ic_6 rfl (by decide) rfl ?_
        refine g_goto 18 d_L_law_1602 rfl ?_
        exact q_to (xs_r (xs_r (xs_r (xs_r xs_n)))) (ih _ _ _ _ _ _ _ hF)
      · replace hF := x_f hF c1594
        refine g_ic (0) d_L_law_1597 ic_0 ?_
        obtain ⟨rfl, rfl, rfl, rfl⟩ := x_inj4 hF
        exact g_zret d_L_law_1598 rfl rfl hq
    replace hF := x_f hF c33_43
    refine g_tabOut 1599 d_L_law_33 (by have a0 := sw_ne c33_0 (k := 0) (by decide); have a1 := sw_ne c33_1 (k := 1) (by decide); have a2 := sw_ne c33_2 (k := 2) (by decide); have a3 := sw_ne c33_3 (k := 3) (by decide); have a4 := sw_ne c33_4 (k := 4) (by decide); have a5 := sw_ne c33_5 (k := 5) (by decide); have a6 := sw_ne c33_6 (k := 6) (by decide); have a7 := sw_ne c33_7 (k := 7) (by decide); have a8 := sw_ne c33_8 (k := 8) (by decide); have a9 := sw_ne c33_9 (k := 9) (by decide); have a10 := sw_ne c33_10 (k := 10) (by decide); have a11 := sw_ne c33_11 (k := 11) (by decide); have a12 := sw_ne c33_12 (k := 12) (by decide); have a13 := sw_ne c33_13 (k := 13) (by decide); have a14 := sw_ne c33_14 (k := 14) (by decide); have a15 := sw_ne c33_15 (k := 15) (by decide); have a16 := sw_ne c33_16 (k := 16) (by decide); have a17 := sw_ne c33_17 (k := 17) (by decide); have a18 := sw_ne c33_18 (k := 18) (by decide); have a19 := sw_ne c33_19 (k := 19) (by decide); have a20 := sw_ne c33_20 (k := 20) (by decide); have a21 := sw_ne c33_21 (k := 21) (by decide); have a22 := sw_ne c33_22 (k := 22) (by decide); have a23 := sw_ne c33_23 (k := 23) (by decide); have a24 := sw_ne c33_24 (k := 24) (by decide); have a25 := sw_ne c33_25 (k := 25) (by decide); have a26 := sw_ne c33_26 (k := 26) (by decide); have a27 := sw_ne c33_27 (k := 27) (by decide); have a28 := sw_ne c33_28 (k := 28) (by decide); have a29 := sw_ne c33_29 (k := 29) (by decide); have a30 := sw_ne c33_30 (k := 30) (by decide); have a31 := sw_ne c33_31 (k := 31) (by decide); have a32 := sw_ne c33_32 (k := 32) (by decide); have a33 := sw_ne c33_33 (k := 33) (by decide); have a34 := sw_ne c33_34 (k := 34) (by decide); have a35 := sw_ne c33_35 (k := 35) (by decide); have a36 := sw_ne c33_36 (k := 36) (by decide); have a37 := sw_ne c33_37 (k := 37) (by decide); have a38 := sw_ne c33_38 (k := 38) (by decide); have a39 := sw_ne c33_39 (k := 39) (by decide); have a40 := sw_ne c33_40 (k := 40) (by decide); have a41 := sw_ne c33_41 (k := 41) (by decide); have a42 := sw_ne c33_42 (k := 42) (by decide); have a43 := sw_ne c33_43 (k := 43) (by decide); omega) rfl ?_
    refine q_iinc (6) [.ref x0, .ref x1, .ref x2, .int (x3 + 6)] d_L_law_1599 ic_6 rfl (by decide) rfl ?_
    refine g_goto 18 d_L_law_1602 rfl ?_
    exact q_to (xs_r (xs_r (xs_r (xs_r xs_n)))) (ih _ _ _ _ _ _ _ hF)
def F_L_law (x0 : Nat) (h : xH) : Option (Int32 × xH × Nat × Nat) := ((some (nO h 10 [.null, .null, .null, .null, .null, .null, .null, .null, .null, .null, .null, .null])).bind fun h0 => (F_X11_init ((h).1) h0).bind fun z4 => (((some (nO z4.2.1 11 [.int 0, .null, .null, .null, .null, .int 0, .int 0, .int 0, .int 0, .int 0, .int 0, .int 0, .int 0, .int 0, .int 0, .int 0, .null, .null, .null, .int 0, .int 0, .null, .null, .null, .null, .null, .int 0, .null, .null, .null, .int 0, .null, .null, .null, .null, .null, .null])).bind fun h8 => (F_X12_init ((z4.2.1).1) h8).bind fun z12 => (F_L_law_b18 FU x0 ((h).1) ((z4.2.1).1) 0 z12.2.1).map (ac _ z12.2.2.1 z12.2.2.2)).map (ac _ 1 37)).map (ac _ z4.2.2.1 z4.2.2.2)).map (ac _ 1 12)
theorem R_L_law {Γ : xG} {l : Launch} {d : Nat} {Q : Option Value → xH → Prop} {r : Int32} {h' : xH} {mc ms : Nat} (x0 : Nat) (h : xH) (hdp : 214 ≤ d) (hq : Q (some (.int r)) h') (hF : F_L_law x0 h = some (r, h', mc, ms)) : Gd Γ l d m_L_law 0 [.ref x0, xhole, xhole, xhole] [] h mc ms Q := by
  unfold F_L_law at hF
  replace hF := x_map hF
  obtain ⟨c0, s0, rfl, rfl, hF⟩ := hF
  refine q_new d_L_law_0 n_L_7 ?_
  replace hF := Option.bind_eq_some_iff.mp hF
  obtain ⟨h0, e0, hF⟩ := hF
  rw [Option.some.inj e0]
  refine g_dup d_L_law_3 rfl ?_
  replace hF := Option.bind_eq_some_iff.mp hF
  obtain ⟨⟨r4, h4, mc4, ms4⟩, e4, hF⟩ := hF
  replace hF := x_map hF
  obtain ⟨c4, s4, rfl, rfl, hF⟩ := hF
  try dsimp only at hF
  refine q_callIa [] [.ref ((h).1)] rfl d_L_law_4 i_L_9 (by omega) rfl (Nat.le_of_ble_eq_true rfl) (R_X11_init _ _ (by omega) e4) ?_
  refine q_astoren [.ref x0, .ref ((h).1), xhole, xhole] d_L_law_7 (by decide) rfl ?_
  replace hF := x_map hF
  obtain ⟨c8, s8, rfl, rfl, hF⟩ := hF
  refine q_new d_L_law_8 n_L_10 ?_
  replace hF := Option.bind_eq_some_iff.mp hF
  obtain ⟨h8, e8, hF⟩ := hF
  rw [Option.some.inj e8]
  refine g_dup d_L_law_11 rfl ?_
  replace hF := Option.bind_eq_some_iff.mp hF
  obtain ⟨⟨r12, h12, mc12, ms12⟩, e12, hF⟩ := hF
  replace hF := x_map hF
  obtain ⟨c12, s12, rfl, rfl, hF⟩ := hF
  try dsimp only at hF
  refine q_callIa [] [.ref ((h4).1)] rfl d_L_law_12 i_L_12 (by omega) rfl (Nat.le_of_ble_eq_true rfl) (R_X12_init _ _ (by omega) e12) ?_
  refine q_astoren [.ref x0, .ref ((h).1), .ref ((h4).1), xhole] d_L_law_15 (by decide) rfl ?_
  refine g_ic (0) d_L_law_16 ic_0 ?_
  refine q_istoren [.ref x0, .ref ((h).1), .ref ((h4).1), .int 0] d_L_law_17 (by decide) rfl ?_
  exact q_to (xs_r (xs_r (xs_r (xs_r xs_n)))) (R_L_law_b18 hdp hq FU _ _ _ _ _ _ _ hF)
