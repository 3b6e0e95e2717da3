theorem d_xw_law_16 : decode xw_law.2.1 16 = .ok (.iconst 0, 1) := by decide +kernel
theorem d_xw_law_17 : decode xw_law.2.1 17 = .ok (.istore_n 3, 1) := by decide +kernel
theorem d_xw_law_18 : decode xw_law.2.1 18 = .ok (.iload_n 3, 1) := by decide +kernel
theorem d_xw_law_19 : decode xw_law.2.1 19 = .ok (.aload_n 0, 1) := by decide +kernel
theorem d_xw_law_20 : decode xw_law.2.1 20 = .ok (.arraylength, 1) := by decide +kernel
theorem d_xw_law_21 : decode xw_law.2.1 21 = .ok (.bipush 6, 2) := by decide +kernel
theorem d_xw_law_23 : decode xw_law.2.1 23 = .ok (.isub, 1) := by decide +kernel
theorem d_xw_law_24 : decode xw_law.2.1 24 = .ok (.if_icmp .gt 1790, 3) := by decide +kernel
theorem d_xw_law_27 : decode xw_law.2.1 27 = .ok (.aload_n 0, 1) := by decide +kernel
theorem d_xw_law_28 : decode xw_law.2.1 28 = .ok (.iload_n 3, 1) := by decide +kernel
theorem d_xw_law_29 : decode xw_law.2.1 29 = .ok (.iaload, 1) := by decide +kernel
theorem d_xw_law_30 : decode xw_law.2.1 30 = .ok (.bipush 63, 2) := by decide +kernel
theorem d_xw_law_32 : decode xw_law.2.1 32 = .ok (.iand, 1) := by decide +kernel
theorem d_xw_law_33 : decode xw_law.2.1 33 = .ok (.tableswitch 1775 0 47 #[207, 250, 283, 326, 349, 382, 415, 438, 471, 494, 527, 586, 645, 694, 743, 786, 819, 862, 905, 948, 991, 1034, 1067, 1100, 1113, 1136, 1159, 1182, 1215, 1248, 1271, 1294, 1327, 1350, 1383, 1396, 1409, 1442, 1475, 1518, 1561, 1624, 1657, 1690, 1703, 1716, 1729, 1752], 207) := by decide +kernel
theorem d_xw_law_240 : decode xw_law.2.1 240 = .ok (.aload_n 1, 1) := by decide +kernel
theorem d_xw_law_241 : decode xw_law.2.1 241 = .ok (.aload_n 0, 1) := by decide +kernel
theorem d_xw_law_242 : decode xw_law.2.1 242 = .ok (.iload_n 3, 1) := by decide +kernel
theorem d_xw_law_243 : decode xw_law.2.1 243 = .ok (.iconst 1, 1) := by decide +kernel
theorem d_xw_law_244 : decode xw_law.2.1 244 = .ok (.iadd, 1) := by decide +kernel
theorem d_xw_law_245 : decode xw_law.2.1 245 = .ok (.iaload, 1) := by decide +kernel
theorem d_xw_law_246 : decode xw_law.2.1 246 = .ok (.aload_n 0, 1) := by decide +kernel
theorem d_xw_law_247 : decode xw_law.2.1 247 = .ok (.iload_n 3, 1) := by decide +kernel
theorem d_xw_law_248 : decode xw_law.2.1 248 = .ok (.iconst 2, 1) := by decide +kernel
theorem d_xw_law_249 : decode xw_law.2.1 249 = .ok (.iadd, 1) := by decide +kernel
theorem d_xw_law_250 : decode xw_law.2.1 250 = .ok (.iaload, 1) := by decide +kernel
theorem d_xw_law_251 : decode xw_law.2.1 251 = .ok (.aload_n 0, 1) := by decide +kernel
theorem d_xw_law_252 : decode xw_law.2.1 252 = .ok (.iload_n 3, 1) := by decide +kernel
theorem d_xw_law_253 : decode xw_law.2.1 253 = .ok (.iconst 3, 1) := by decide +kernel
theorem d_xw_law_254 : decode xw_law.2.1 254 = .ok (.iadd, 1) := by decide +kernel
theorem d_xw_law_255 : decode xw_law.2.1 255 = .ok (.iaload, 1) := by decide +kernel
theorem d_xw_law_256 : decode xw_law.2.1 256 = .ok (.invokevirtual 13, 3) := by decide +kernel
theorem d_xw_law_259 : decode xw_law.2.1 259 = .ok (.aload_n 2, 1) := by decide +kernel
theorem d_xw_law_260 : decode xw_law.2.1 260 = .ok (.aload_n 0, 1) := by decide +kernel
theorem d_xw_law_261 : decode xw_law.2.1 261 = .ok (.iload_n 3, 1) := by decide +kernel
theorem d_xw_law_262 : decode xw_law.2.1 262 = .ok (.iconst 1, 1) := by decide +kernel
theorem d_xw_law_263 : decode xw_law.2.1 263 = .ok (.iadd, 1) := by decide +kernel
theorem d_xw_law_264 : decode xw_law.2.1 264 = .ok (.iaload, 1) := by decide +kernel
theorem d_xw_law_265 : decode xw_law.2.1 265 = .ok (.aload_n 0, 1) := by decide +kernel
theorem d_xw_law_266 : decode xw_law.2.1 266 = .ok (.iload_n 3, 1) := by decide +kernel
theorem d_xw_law_267 : decode xw_law.2.1 267 = .ok (.iconst 2, 1) := by decide +kernel
theorem d_xw_law_268 : decode xw_law.2.1 268 = .ok (.iadd, 1) := by decide +kernel
theorem d_xw_law_269 : decode xw_law.2.1 269 = .ok (.iaload, 1) := by decide +kernel
theorem d_xw_law_270 : decode xw_law.2.1 270 = .ok (.aload_n 0, 1) := by decide +kernel
theorem d_xw_law_271 : decode xw_law.2.1 271 = .ok (.iload_n 3, 1) := by decide +kernel
theorem d_xw_law_272 : decode xw_law.2.1 272 = .ok (.iconst 3, 1) := by decide +kernel
theorem d_xw_law_273 : decode xw_law.2.1 273 = .ok (.iadd, 1) := by decide +kernel
theorem d_xw_law_274 : decode xw_law.2.1 274 = .ok (.iaload, 1) := by decide +kernel
theorem d_xw_law_275 : decode xw_law.2.1 275 = .ok (.invokevirtual 17, 3) := by decide +kernel
theorem d_xw_law_278 : decode xw_law.2.1 278 = .ok (.if_icmp .eq 1530, 3) := by decide +kernel
theorem d_xw_law_281 : decode xw_law.2.1 281 = .ok (.iconst 0, 1) := by decide +kernel
theorem d_xw_law_282 : decode xw_law.2.1 282 = .ok (.ireturn, 1) := by decide +kernel
theorem d_xw_law_283 : decode xw_law.2.1 283 = .ok (.aload_n 1, 1) := by decide +kernel
theorem d_xw_law_284 : decode xw_law.2.1 284 = .ok (.aload_n 0, 1) := by decide +kernel
theorem d_xw_law_285 : decode xw_law.2.1 285 = .ok (.iload_n 3, 1) := by decide +kernel
theorem d_xw_law_286 : decode xw_law.2.1 286 = .ok (.iconst 1, 1) := by decide +kernel
theorem d_xw_law_287 : decode xw_law.2.1 287 = .ok (.iadd, 1) := by decide +kernel
theorem d_xw_law_288 : decode xw_law.2.1 288 = .ok (.iaload, 1) := by decide +kernel
theorem d_xw_law_289 : decode xw_law.2.1 289 = .ok (.aload_n 0, 1) := by decide +kernel
theorem d_xw_law_290 : decode xw_law.2.1 290 = .ok (.iload_n 3, 1) := by decide +kernel
theorem d_xw_law_291 : decode xw_law.2.1 291 = .ok (.iconst 2, 1) := by decide +kernel
theorem d_xw_law_292 : decode xw_law.2.1 292 = .ok (.iadd, 1) := by decide +kernel
theorem d_xw_law_293 : decode xw_law.2.1 293 = .ok (.iaload, 1) := by decide +kernel
theorem d_xw_law_294 : decode xw_law.2.1 294 = .ok (.invokevirtual 18, 3) := by decide +kernel
theorem d_xw_law_297 : decode xw_law.2.1 297 = .ok (.aload_n 2, 1) := by decide +kernel
theorem d_xw_law_298 : decode xw_law.2.1 298 = .ok (.aload_n 0, 1) := by decide +kernel
theorem d_xw_law_299 : decode xw_law.2.1 299 = .ok (.iload_n 3, 1) := by decide +kernel
theorem d_xw_law_300 : decode xw_law.2.1 300 = .ok (.iconst 1, 1) := by decide +kernel
theorem d_xw_law_301 : decode xw_law.2.1 301 = .ok (.iadd, 1) := by decide +kernel
theorem d_xw_law_302 : decode xw_law.2.1 302 = .ok (.iaload, 1) := by decide +kernel
theorem d_xw_law_303 : decode xw_law.2.1 303 = .ok (.aload_n 0, 1) := by decide +kernel
theorem d_xw_law_304 : decode xw_law.2.1 304 = .ok (.iload_n 3, 1) := by decide +kernel
theorem d_xw_law_305 : decode xw_law.2.1 305 = .ok (.iconst 2, 1) := by decide +kernel
theorem d_xw_law_306 : decode xw_law.2.1 306 = .ok (.iadd, 1) := by decide +kernel
theorem d_xw_law_307 : decode xw_law.2.1 307 = .ok (.iaload, 1) := by decide +kernel
theorem d_xw_law_308 : decode xw_law.2.1 308 = .ok (.invokevirtual 22, 3) := by decide +kernel
theorem d_xw_law_311 : decode xw_law.2.1 311 = .ok (.if_icmp .eq 1497, 3) := by decide +kernel
theorem d_xw_law_314 : decode xw_law.2.1 314 = .ok (.iconst 0, 1) := by decide +kernel
theorem d_xw_law_315 : decode xw_law.2.1 315 = .ok (.ireturn, 1) := by decide +kernel
theorem d_xw_law_316 : decode xw_law.2.1 316 = .ok (.aload_n 1, 1) := by decide +kernel
theorem d_xw_law_317 : decode xw_law.2.1 317 = .ok (.aload_n 0, 1) := by decide +kernel
theorem d_xw_law_318 : decode xw_law.2.1 318 = .ok (.iload_n 3, 1) := by decide +kernel
theorem d_xw_law_319 : decode xw_law.2.1 319 = .ok (.iconst 1, 1) := by decide +kernel
theorem d_xw_law_320 : decode xw_law.2.1 320 = .ok (.iadd, 1) := by decide +kernel
theorem d_xw_law_321 : decode xw_law.2.1 321 = .ok (.iaload, 1) := by decide +kernel
theorem d_xw_law_322 : decode xw_law.2.1 322 = .ok (.aload_n 0, 1) := by decide +kernel
theorem d_xw_law_323 : decode xw_law.2.1 323 = .ok (.iload_n 3, 1) := by decide +kernel
theorem d_xw_law_324 : decode xw_law.2.1 324 = .ok (.iconst 2, 1) := by decide +kernel
theorem d_xw_law_325 : decode xw_law.2.1 325 = .ok (.iadd, 1) := by decide +kernel
theorem d_xw_law_326 : decode xw_law.2.1 326 = .ok (.iaload, 1) := by decide +kernel
theorem d_xw_law_327 : decode xw_law.2.1 327 = .ok (.aload_n 0, 1) := by decide +kernel
theorem d_xw_law_328 : decode xw_law.2.1 328 = .ok (.iload_n 3, 1) := by decide +kernel
theorem d_xw_law_329 : decode xw_law.2.1 329 = .ok (.iconst 3, 1) := by decide +kernel
theorem d_xw_law_330 : decode xw_law.2.1 330 = .ok (.iadd, 1) := by decide +kernel
theorem d_xw_law_331 : decode xw_law.2.1 331 = .ok (.iaload, 1) := by decide +kernel
theorem d_xw_law_332 : decode xw_law.2.1 332 = .ok (.invokevirtual 23, 3) := by decide +kernel
theorem d_xw_law_335 : decode xw_law.2.1 335 = .ok (.aload_n 2, 1) := by decide +kernel
theorem d_xw_law_336 : decode xw_law.2.1 336 = .ok (.aload_n 0, 1) := by decide +kernel
theorem d_xw_law_337 : decode xw_law.2.1 337 = .ok (.iload_n 3, 1) := by decide +kernel
theorem d_xw_law_338 : decode xw_law.2.1 338 = .ok (.iconst 1, 1) := by decide +kernel
theorem d_xw_law_339 : decode xw_law.2.1 339 = .ok (.iadd, 1) := by decide +kernel
theorem d_xw_law_340 : decode xw_law.2.1 340 = .ok (.iaload, 1) := by decide +kernel
theorem d_xw_law_341 : decode xw_law.2.1 341 = .ok (.aload_n 0, 1) := by decide +kernel
theorem d_xw_law_342 : decode xw_law.2.1 342 = .ok (.iload_n 3, 1) := by decide +kernel
theorem d_xw_law_343 : decode xw_law.2.1 343 = .ok (.iconst 2, 1) := by decide +kernel
theorem d_xw_law_344 : decode xw_law.2.1 344 = .ok (.iadd, 1) := by decide +kernel
theorem d_xw_law_345 : decode xw_law.2.1 345 = .ok (.iaload, 1) := by decide +kernel
theorem d_xw_law_346 : decode xw_law.2.1 346 = .ok (.aload_n 0, 1) := by decide +kernel
theorem d_xw_law_347 : decode xw_law.2.1 347 = .ok (.iload_n 3, 1) := by decide +kernel
theorem d_xw_law_348 : decode xw_law.2.1 348 = .ok (.iconst 3, 1) := by decide +kernel
theorem d_xw_law_349 : decode xw_law.2.1 349 = .ok (.iadd, 1) := by decide +kernel
theorem d_xw_law_350 : decode xw_law.2.1 350 = .ok (.iaload, 1) := by decide +kernel
theorem d_xw_law_351 : decode xw_law.2.1 351 = .ok (.invokevirtual 26, 3) := by decide +kernel
theorem d_xw_law_354 : decode xw_law.2.1 354 = .ok (.if_icmp .eq 1454, 3) := by decide +kernel
theorem d_xw_law_357 : decode xw_law.2.1 357 = .ok (.iconst 0, 1) := by decide +kernel
theorem d_xw_law_358 : decode xw_law.2.1 358 = .ok (.ireturn, 1) := by decide +kernel
theorem d_xw_law_359 : decode xw_law.2.1 359 = .ok (.aload_n 1, 1) := by decide +kernel
theorem d_xw_law_360 : decode xw_law.2.1 360 = .ok (.aload_n 0, 1) := by decide +kernel
theorem d_xw_law_361 : decode xw_law.2.1 361 = .ok (.iload_n 3, 1) := by decide +kernel
theorem d_xw_law_362 : decode xw_law.2.1 362 = .ok (.iconst 1, 1) := by decide +kernel
theorem d_xw_law_363 : decode xw_law.2.1 363 = .ok (.iadd, 1) := by decide +kernel
theorem d_xw_law_364 : decode xw_law.2.1 364 = .ok (.iaload, 1) := by decide +kernel
theorem d_xw_law_365 : decode xw_law.2.1 365 = .ok (.invokevirtual 27, 3) := by decide +kernel
theorem d_xw_law_368 : decode xw_law.2.1 368 = .ok (.aload_n 2, 1) := by decide +kernel
theorem d_xw_law_369 : decode xw_law.2.1 369 = .ok (.aload_n 0, 1) := by decide +kernel
theorem d_xw_law_370 : decode xw_law.2.1 370 = .ok (.iload_n 3, 1) := by decide +kernel
theorem d_xw_law_371 : decode xw_law.2.1 371 = .ok (.iconst 1, 1) := by decide +kernel
theorem d_xw_law_372 : decode xw_law.2.1 372 = .ok (.iadd, 1) := by decide +kernel
theorem d_xw_law_373 : decode xw_law.2.1 373 = .ok (.iaload, 1) := by decide +kernel
theorem d_xw_law_374 : decode xw_law.2.1 374 = .ok (.invokevirtual 31, 3) := by decide +kernel
theorem d_xw_law_377 : decode xw_law.2.1 377 = .ok (.if_icmp .eq 1431, 3) := by decide +kernel
theorem d_xw_law_380 : decode xw_law.2.1 380 = .ok (.iconst 0, 1) := by decide +kernel
theorem d_xw_law_381 : decode xw_law.2.1 381 = .ok (.ireturn, 1) := by decide +kernel
theorem d_xw_law_382 : decode xw_law.2.1 382 = .ok (.aload_n 1, 1) := by decide +kernel
theorem d_xw_law_383 : decode xw_law.2.1 383 = .ok (.aload_n 0, 1) := by decide +kernel
theorem d_xw_law_384 : decode xw_law.2.1 384 = .ok (.iload_n 3, 1) := by decide +kernel
theorem d_xw_law_385 : decode xw_law.2.1 385 = .ok (.iconst 1, 1) := by decide +kernel
theorem d_xw_law_386 : decode xw_law.2.1 386 = .ok (.iadd, 1) := by decide +kernel
theorem d_xw_law_387 : decode xw_law.2.1 387 = .ok (.iaload, 1) := by decide +kernel
theorem d_xw_law_388 : decode xw_law.2.1 388 = .ok (.aload_n 0, 1) := by decide +kernel
theorem d_xw_law_389 : decode xw_law.2.1 389 = .ok (.iload_n 3, 1) := by decide +kernel
theorem d_xw_law_390 : decode xw_law.2.1 390 = .ok (.iconst 2, 1) := by decide +kernel
theorem d_xw_law_391 : decode xw_law.2.1 391 = .ok (.iadd, 1) := by decide +kernel
theorem d_xw_law_392 : decode xw_law.2.1 392 = .ok (.iaload, 1) := by decide +kernel
theorem d_xw_law_393 : decode xw_law.2.1 393 = .ok (.invokevirtual 32, 3) := by decide +kernel
theorem d_xw_law_396 : decode xw_law.2.1 396 = .ok (.aload_n 2, 1) := by decide +kernel
theorem d_xw_law_397 : decode xw_law.2.1 397 = .ok (.aload_n 0, 1) := by decide +kernel
theorem d_xw_law_398 : decode xw_law.2.1 398 = .ok (.iload_n 3, 1) := by decide +kernel
theorem d_xw_law_399 : decode xw_law.2.1 399 = .ok (.iconst 1, 1) := by decide +kernel
theorem d_xw_law_400 : decode xw_law.2.1 400 = .ok (.iadd, 1) := by decide +kernel
theorem d_xw_law_401 : decode xw_law.2.1 401 = .ok (.iaload, 1) := by decide +kernel
theorem d_xw_law_402 : decode xw_law.2.1 402 = .ok (.aload_n 0, 1) := by decide +kernel
theorem d_xw_law_403 : decode xw_law.2.1 403 = .ok (.iload_n 3, 1) := by decide +kernel
theorem d_xw_law_404 : decode xw_law.2.1 404 = .ok (.iconst 2, 1) := by decide +kernel
theorem d_xw_law_405 : decode xw_law.2.1 405 = .ok (.iadd, 1) := by decide +kernel
theorem d_xw_law_406 : decode xw_law.2.1 406 = .ok (.iaload, 1) := by decide +kernel
theorem d_xw_law_407 : decode xw_law.2.1 407 = .ok (.invokevirtual 35, 3) := by decide +kernel
theorem d_xw_law_410 : decode xw_law.2.1 410 = .ok (.if_icmp .eq 1398, 3) := by decide +kernel
theorem d_xw_law_413 : decode xw_law.2.1 413 = .ok (.iconst 0, 1) := by decide +kernel
theorem d_xw_law_414 : decode xw_law.2.1 414 = .ok (.ireturn, 1) := by decide +kernel
theorem d_xw_law_415 : decode xw_law.2.1 415 = .ok (.aload_n 1, 1) := by decide +kernel
theorem d_xw_law_416 : decode xw_law.2.1 416 = .ok (.aload_n 0, 1) := by decide +kernel
theorem d_xw_law_417 : decode xw_law.2.1 417 = .ok (.iload_n 3, 1) := by decide +kernel
theorem d_xw_law_418 : decode xw_law.2.1 418 = .ok (.iconst 1, 1) := by decide +kernel
theorem d_xw_law_419 : decode xw_law.2.1 419 = .ok (.iadd, 1) := by decide +kernel
theorem d_xw_law_420 : decode xw_law.2.1 420 = .ok (.iaload, 1) := by decide +kernel
theorem d_xw_law_421 : decode xw_law.2.1 421 = .ok (.aload_n 0, 1) := by decide +kernel
theorem d_xw_law_422 : decode xw_law.2.1 422 = .ok (.iload_n 3, 1) := by decide +kernel
theorem d_xw_law_423 : decode xw_law.2.1 423 = .ok (.iconst 2, 1) := by decide +kernel
theorem d_xw_law_424 : decode xw_law.2.1 424 = .ok (.iadd, 1) := by decide +kernel
theorem d_xw_law_425 : decode xw_law.2.1 425 = .ok (.iaload, 1) := by decide +kernel
theorem d_xw_law_426 : decode xw_law.2.1 426 = .ok (.invokevirtual 36, 3) := by decide +kernel
theorem d_xw_law_429 : decode xw_law.2.1 429 = .ok (.aload_n 2, 1) := by decide +kernel
theorem d_xw_law_430 : decode xw_law.2.1 430 = .ok (.aload_n 0, 1) := by decide +kernel
theorem d_xw_law_431 : decode xw_law.2.1 431 = .ok (.iload_n 3, 1) := by decide +kernel
theorem d_xw_law_432 : decode xw_law.2.1 432 = .ok (.iconst 1, 1) := by decide +kernel
theorem d_xw_law_433 : decode xw_law.2.1 433 = .ok (.iadd, 1) := by decide +kernel
theorem d_xw_law_434 : decode xw_law.2.1 434 = .ok (.iaload, 1) := by decide +kernel
theorem d_xw_law_435 : decode xw_law.2.1 435 = .ok (.aload_n 0, 1) := by decide +kernel
theorem d_xw_law_436 : decode xw_law.2.1 436 = .ok (.iload_n 3, 1) := by decide +kernel
theorem d_xw_law_437 : decode xw_law.2.1 437 = .ok (.iconst 2, 1) := by decide +kernel
theorem d_xw_law_438 : decode xw_law.2.1 438 = .ok (.iadd, 1) := by decide +kernel
theorem d_xw_law_439 : decode xw_law.2.1 439 = .ok (.iaload, 1) := by decide +kernel
theorem d_xw_law_440 : decode xw_law.2.1 440 = .ok (.invokevirtual 39, 3) := by decide +kernel
theorem d_xw_law_443 : decode xw_law.2.1 443 = .ok (.if_icmp .eq 1365, 3) := by decide +kernel
theorem d_xw_law_446 : decode xw_law.2.1 446 = .ok (.iconst 0, 1) := by decide +kernel
theorem d_xw_law_447 : decode xw_law.2.1 447 = .ok (.ireturn, 1) := by decide +kernel
theorem d_xw_law_448 : decode xw_law.2.1 448 = .ok (.aload_n 1, 1) := by decide +kernel
theorem d_xw_law_449 : decode xw_law.2.1 449 = .ok (.aload_n 0, 1) := by decide +kernel
theorem d_xw_law_450 : decode xw_law.2.1 450 = .ok (.iload_n 3, 1) := by decide +kernel
theorem d_xw_law_451 : decode xw_law.2.1 451 = .ok (.iconst 1, 1) := by decide +kernel
theorem d_xw_law_452 : decode xw_law.2.1 452 = .ok (.iadd, 1) := by decide +kernel
theorem d_xw_law_453 : decode xw_law.2.1 453 = .ok (.iaload, 1) := by decide +kernel
theorem d_xw_law_454 : decode xw_law.2.1 454 = .ok (.invokevirtual 40, 3) := by decide +kernel
theorem d_xw_law_457 : decode xw_law.2.1 457 = .ok (.aload_n 2, 1) := by decide +kernel
theorem d_xw_law_458 : decode xw_law.2.1 458 = .ok (.aload_n 0, 1) := by decide +kernel
theorem d_xw_law_459 : decode xw_law.2.1 459 = .ok (.iload_n 3, 1) := by decide +kernel
theorem d_xw_law_460 : decode xw_law.2.1 460 = .ok (.iconst 1, 1) := by decide +kernel
theorem d_xw_law_461 : decode xw_law.2.1 461 = .ok (.iadd, 1) := by decide +kernel
theorem d_xw_law_462 : decode xw_law.2.1 462 = .ok (.iaload, 1) := by decide +kernel
theorem d_xw_law_463 : decode xw_law.2.1 463 = .ok (.invokevirtual 43, 3) := by decide +kernel
theorem d_xw_law_466 : decode xw_law.2.1 466 = .ok (.if_icmp .eq 1342, 3) := by decide +kernel
theorem d_xw_law_469 : decode xw_law.2.1 469 = .ok (.iconst 0, 1) := by decide +kernel
theorem d_xw_law_470 : decode xw_law.2.1 470 = .ok (.ireturn, 1) := by decide +kernel
theorem d_xw_law_471 : decode xw_law.2.1 471 = .ok (.aload_n 1, 1) := by decide +kernel
theorem d_xw_law_472 : decode xw_law.2.1 472 = .ok (.aload_n 0, 1) := by decide +kernel
theorem d_xw_law_473 : decode xw_law.2.1 473 = .ok (.iload_n 3, 1) := by decide +kernel
theorem d_xw_law_474 : decode xw_law.2.1 474 = .ok (.iconst 1, 1) := by decide +kernel
theorem d_xw_law_475 : decode xw_law.2.1 475 = .ok (.iadd, 1) := by decide +kernel
theorem d_xw_law_476 : decode xw_law.2.1 476 = .ok (.iaload, 1) := by decide +kernel
theorem d_xw_law_477 : decode xw_law.2.1 477 = .ok (.aload_n 0, 1) := by decide +kernel
theorem d_xw_law_478 : decode xw_law.2.1 478 = .ok (.iload_n 3, 1) := by decide +kernel
theorem d_xw_law_479 : decode xw_law.2.1 479 = .ok (.iconst 2, 1) := by decide +kernel
theorem d_xw_law_480 : decode xw_law.2.1 480 = .ok (.iadd, 1) := by decide +kernel
theorem d_xw_law_481 : decode xw_law.2.1 481 = .ok (.iaload, 1) := by decide +kernel
theorem d_xw_law_482 : decode xw_law.2.1 482 = .ok (.invokevirtual 44, 3) := by decide +kernel
theorem d_xw_law_485 : decode xw_law.2.1 485 = .ok (.aload_n 2, 1) := by decide +kernel
theorem d_xw_law_486 : decode xw_law.2.1 486 = .ok (.aload_n 0, 1) := by decide +kernel
theorem d_xw_law_487 : decode xw_law.2.1 487 = .ok (.iload_n 3, 1) := by decide +kernel
theorem d_xw_law_488 : decode xw_law.2.1 488 = .ok (.iconst 1, 1) := by decide +kernel
theorem d_xw_law_489 : decode xw_law.2.1 489 = .ok (.iadd, 1) := by decide +kernel
theorem d_xw_law_490 : decode xw_law.2.1 490 = .ok (.iaload, 1) := by decide +kernel
theorem d_xw_law_491 : decode xw_law.2.1 491 = .ok (.aload_n 0, 1) := by decide +kernel
theorem d_xw_law_492 : decode xw_law.2.1 492 = .ok (.iload_n 3, 1) := by decide +kernel
theorem d_xw_law_493 : decode xw_law.2.1 493 = .ok (.iconst 2, 1) := by decide +kernel
theorem d_xw_law_494 : decode xw_law.2.1 494 = .ok (.iadd, 1) := by decide +kernel
theorem d_xw_law_495 : decode xw_law.2.1 495 = .ok (.iaload, 1) := by decide +kernel
theorem d_xw_law_496 : decode xw_law.2.1 496 = .ok (.invokevirtual 47, 3) := by decide +kernel
theorem d_xw_law_499 : decode xw_law.2.1 499 = .ok (.if_icmp .eq 1309, 3) := by decide +kernel
theorem d_xw_law_502 : decode xw_law.2.1 502 = .ok (.iconst 0, 1) := by decide +kernel
theorem d_xw_law_503 : decode xw_law.2.1 503 = .ok (.ireturn, 1) := by decide +kernel
theorem d_xw_law_504 : decode xw_law.2.1 504 = .ok (.aload_n 1, 1) := by decide +kernel
theorem d_xw_law_505 : decode xw_law.2.1 505 = .ok (.aload_n 0, 1) := by decide +kernel
theorem d_xw_law_506 : decode xw_law.2.1 506 = .ok (.iload_n 3, 1) := by decide +kernel
theorem d_xw_law_507 : decode xw_law.2.1 507 = .ok (.iconst 1, 1) := by decide +kernel
theorem d_xw_law_508 : decode xw_law.2.1 508 = .ok (.iadd, 1) := by decide +kernel
theorem d_xw_law_509 : decode xw_law.2.1 509 = .ok (.iaload, 1) := by decide +kernel
theorem d_xw_law_510 : decode xw_law.2.1 510 = .ok (.invokevirtual 48, 3) := by decide +kernel
theorem d_xw_law_513 : decode xw_law.2.1 513 = .ok (.aload_n 2, 1) := by decide +kernel
theorem d_xw_law_514 : decode xw_law.2.1 514 = .ok (.aload_n 0, 1) := by decide +kernel
theorem d_xw_law_515 : decode xw_law.2.1 515 = .ok (.iload_n 3, 1) := by decide +kernel
theorem d_xw_law_516 : decode xw_law.2.1 516 = .ok (.iconst 1, 1) := by decide +kernel
theorem d_xw_law_517 : decode xw_law.2.1 517 = .ok (.iadd, 1) := by decide +kernel
theorem d_xw_law_518 : decode xw_law.2.1 518 = .ok (.iaload, 1) := by decide +kernel
theorem d_xw_law_519 : decode xw_law.2.1 519 = .ok (.invokevirtual 51, 3) := by decide +kernel
theorem d_xw_law_522 : decode xw_law.2.1 522 = .ok (.if_icmp .eq 1286, 3) := by decide +kernel
theorem d_xw_law_525 : decode xw_law.2.1 525 = .ok (.iconst 0, 1) := by decide +kernel
theorem d_xw_law_526 : decode xw_law.2.1 526 = .ok (.ireturn, 1) := by decide +kernel
theorem d_xw_law_527 : decode xw_law.2.1 527 = .ok (.aload_n 1, 1) := by decide +kernel
theorem d_xw_law_528 : decode xw_law.2.1 528 = .ok (.aload_n 0, 1) := by decide +kernel
theorem d_xw_law_529 : decode xw_law.2.1 529 = .ok (.iload_n 3, 1) := by decide +kernel
theorem d_xw_law_530 : decode xw_law.2.1 530 = .ok (.iconst 1, 1) := by decide +kernel
theorem d_xw_law_531 : decode xw_law.2.1 531 = .ok (.iadd, 1) := by decide +kernel
theorem d_xw_law_532 : decode xw_law.2.1 532 = .ok (.iaload, 1) := by decide +kernel
theorem d_xw_law_533 : decode xw_law.2.1 533 = .ok (.aload_n 0, 1) := by decide +kernel
theorem d_xw_law_534 : decode xw_law.2.1 534 = .ok (.iload_n 3, 1) := by decide +kernel
theorem d_xw_law_535 : decode xw_law.2.1 535 = .ok (.iconst 2, 1) := by decide +kernel
theorem d_xw_law_536 : decode xw_law.2.1 536 = .ok (.iadd, 1) := by decide +kernel
theorem d_xw_law_537 : decode xw_law.2.1 537 = .ok (.iaload, 1) := by decide +kernel
theorem d_xw_law_538 : decode xw_law.2.1 538 = .ok (.invokevirtual 52, 3) := by decide +kernel
theorem d_xw_law_541 : decode xw_law.2.1 541 = .ok (.aload_n 2, 1) := by decide +kernel
theorem d_xw_law_542 : decode xw_law.2.1 542 = .ok (.aload_n 0, 1) := by decide +kernel
theorem d_xw_law_543 : decode xw_law.2.1 543 = .ok (.iload_n 3, 1) := by decide +kernel
theorem d_xw_law_544 : decode xw_law.2.1 544 = .ok (.iconst 1, 1) := by decide +kernel
theorem d_xw_law_545 : decode xw_law.2.1 545 = .ok (.iadd, 1) := by decide +kernel
theorem d_xw_law_546 : decode xw_law.2.1 546 = .ok (.iaload, 1) := by decide +kernel
theorem d_xw_law_547 : decode xw_law.2.1 547 = .ok (.aload_n 0, 1) := by decide +kernel
theorem d_xw_law_548 : decode xw_law.2.1 548 = .ok (.iload_n 3, 1) := by decide +kernel
theorem d_xw_law_549 : decode xw_law.2.1 549 = .ok (.iconst 2, 1) := by decide +kernel
theorem d_xw_law_550 : decode xw_law.2.1 550 = .ok (.iadd, 1) := by decide +kernel
theorem d_xw_law_551 : decode xw_law.2.1 551 = .ok (.iaload, 1) := by decide +kernel
theorem d_xw_law_552 : decode xw_law.2.1 552 = .ok (.invokevirtual 55, 3) := by decide +kernel
theorem d_xw_law_555 : decode xw_law.2.1 555 = .ok (.if_icmp .eq 1253, 3) := by decide +kernel
theorem d_xw_law_558 : decode xw_law.2.1 558 = .ok (.iconst 0, 1) := by decide +kernel
theorem d_xw_law_559 : decode xw_law.2.1 559 = .ok (.ireturn, 1) := by decide +kernel
theorem d_xw_law_560 : decode xw_law.2.1 560 = .ok (.aload_n 1, 1) := by decide +kernel
theorem d_xw_law_561 : decode xw_law.2.1 561 = .ok (.aload_n 0, 1) := by decide +kernel
theorem d_xw_law_562 : decode xw_law.2.1 562 = .ok (.iload_n 3, 1) := by decide +kernel
theorem d_xw_law_563 : decode xw_law.2.1 563 = .ok (.iconst 1, 1) := by decide +kernel
theorem d_xw_law_564 : decode xw_law.2.1 564 = .ok (.iadd, 1) := by decide +kernel
theorem d_xw_law_565 : decode xw_law.2.1 565 = .ok (.iaload, 1) := by decide +kernel
theorem d_xw_law_566 : decode xw_law.2.1 566 = .ok (.aload_n 0, 1) := by decide +kernel
theorem d_xw_law_567 : decode xw_law.2.1 567 = .ok (.iload_n 3, 1) := by decide +kernel
theorem d_xw_law_568 : decode xw_law.2.1 568 = .ok (.iconst 2, 1) := by decide +kernel
theorem d_xw_law_569 : decode xw_law.2.1 569 = .ok (.iadd, 1) := by decide +kernel
theorem d_xw_law_570 : decode xw_law.2.1 570 = .ok (.iaload, 1) := by decide +kernel
theorem d_xw_law_571 : decode xw_law.2.1 571 = .ok (.ifCond .eq 7, 3) := by decide +kernel
theorem d_xw_law_574 : decode xw_law.2.1 574 = .ok (.iconst 1, 1) := by decide +kernel
theorem d_xw_law_575 : decode xw_law.2.1 575 = .ok (.goto 4, 3) := by decide +kernel
theorem d_xw_law_578 : decode xw_law.2.1 578 = .ok (.iconst 0, 1) := by decide +kernel
theorem d_xw_law_579 : decode xw_law.2.1 579 = .ok (.aload_n 0, 1) := by decide +kernel
theorem d_xw_law_580 : decode xw_law.2.1 580 = .ok (.iload_n 3, 1) := by decide +kernel
theorem d_xw_law_581 : decode xw_law.2.1 581 = .ok (.iconst 3, 1) := by decide +kernel
theorem d_xw_law_582 : decode xw_law.2.1 582 = .ok (.iadd, 1) := by decide +kernel
theorem d_xw_law_583 : decode xw_law.2.1 583 = .ok (.iaload, 1) := by decide +kernel
theorem d_xw_law_584 : decode xw_law.2.1 584 = .ok (.invokevirtual 56, 3) := by decide +kernel
theorem d_xw_law_587 : decode xw_law.2.1 587 = .ok (.aload_n 2, 1) := by decide +kernel
theorem d_xw_law_588 : decode xw_law.2.1 588 = .ok (.aload_n 0, 1) := by decide +kernel
theorem d_xw_law_589 : decode xw_law.2.1 589 = .ok (.iload_n 3, 1) := by decide +kernel
theorem d_xw_law_590 : decode xw_law.2.1 590 = .ok (.iconst 1, 1) := by decide +kernel
theorem d_xw_law_591 : decode xw_law.2.1 591 = .ok (.iadd, 1) := by decide +kernel
theorem d_xw_law_592 : decode xw_law.2.1 592 = .ok (.iaload, 1) := by decide +kernel
theorem d_xw_law_593 : decode xw_law.2.1 593 = .ok (.aload_n 0, 1) := by decide +kernel
theorem d_xw_law_594 : decode xw_law.2.1 594 = .ok (.iload_n 3, 1) := by decide +kernel
theorem d_xw_law_595 : decode xw_law.2.1 595 = .ok (.iconst 2, 1) := by decide +kernel
theorem d_xw_law_596 : decode xw_law.2.1 596 = .ok (.iadd, 1) := by decide +kernel
theorem d_xw_law_597 : decode xw_law.2.1 597 = .ok (.iaload, 1) := by decide +kernel
theorem d_xw_law_598 : decode xw_law.2.1 598 = .ok (.ifCond .eq 7, 3) := by decide +kernel
theorem d_xw_law_601 : decode xw_law.2.1 601 = .ok (.iconst 1, 1) := by decide +kernel
theorem d_xw_law_602 : decode xw_law.2.1 602 = .ok (.goto 4, 3) := by decide +kernel
theorem d_xw_law_605 : decode xw_law.2.1 605 = .ok (.iconst 0, 1) := by decide +kernel
theorem d_xw_law_606 : decode xw_law.2.1 606 = .ok (.aload_n 0, 1) := by decide +kernel
theorem d_xw_law_607 : decode xw_law.2.1 607 = .ok (.iload_n 3, 1) := by decide +kernel
theorem d_xw_law_608 : decode xw_law.2.1 608 = .ok (.iconst 3, 1) := by decide +kernel
theorem d_xw_law_609 : decode xw_law.2.1 609 = .ok (.iadd, 1) := by decide +kernel
theorem d_xw_law_610 : decode xw_law.2.1 610 = .ok (.iaload, 1) := by decide +kernel
theorem d_xw_law_611 : decode xw_law.2.1 611 = .ok (.invokevirtual 60, 3) := by decide +kernel
theorem d_xw_law_614 : decode xw_law.2.1 614 = .ok (.if_icmp .eq 1194, 3) := by decide +kernel
theorem d_xw_law_617 : decode xw_law.2.1 617 = .ok (.iconst 0, 1) := by decide +kernel
theorem d_xw_law_618 : decode xw_law.2.1 618 = .ok (.ireturn, 1) := by decide +kernel
theorem d_xw_law_619 : decode xw_law.2.1 619 = .ok (.aload_n 1, 1) := by decide +kernel
theorem d_xw_law_620 : decode xw_law.2.1 620 = .ok (.aload_n 0, 1) := by decide +kernel
theorem d_xw_law_621 : decode xw_law.2.1 621 = .ok (.iload_n 3, 1) := by decide +kernel
theorem d_xw_law_622 : decode xw_law.2.1 622 = .ok (.iconst 1, 1) := by decide +kernel
theorem d_xw_law_623 : decode xw_law.2.1 623 = .ok (.iadd, 1) := by decide +kernel
theorem d_xw_law_624 : decode xw_law.2.1 624 = .ok (.iaload, 1) := by decide +kernel
theorem d_xw_law_625 : decode xw_law.2.1 625 = .ok (.aload_n 0, 1) := by decide +kernel
theorem d_xw_law_626 : decode xw_law.2.1 626 = .ok (.iload_n 3, 1) := by decide +kernel
theorem d_xw_law_627 : decode xw_law.2.1 627 = .ok (.iconst 2, 1) := by decide +kernel
theorem d_xw_law_628 : decode xw_law.2.1 628 = .ok (.iadd, 1) := by decide +kernel
theorem d_xw_law_629 : decode xw_law.2.1 629 = .ok (.iaload, 1) := by decide +kernel
theorem d_xw_law_630 : decode xw_law.2.1 630 = .ok (.ifCond .eq 7, 3) := by decide +kernel
theorem d_xw_law_633 : decode xw_law.2.1 633 = .ok (.iconst 1, 1) := by decide +kernel
theorem d_xw_law_634 : decode xw_law.2.1 634 = .ok (.goto 4, 3) := by decide +kernel
theorem d_xw_law_637 : decode xw_law.2.1 637 = .ok (.iconst 0, 1) := by decide +kernel
theorem d_xw_law_638 : decode xw_law.2.1 638 = .ok (.aload_n 0, 1) := by decide +kernel
theorem d_xw_law_639 : decode xw_law.2.1 639 = .ok (.iload_n 3, 1) := by decide +kernel
theorem d_xw_law_640 : decode xw_law.2.1 640 = .ok (.iconst 3, 1) := by decide +kernel
theorem d_xw_law_641 : decode xw_law.2.1 641 = .ok (.iadd, 1) := by decide +kernel
theorem d_xw_law_642 : decode xw_law.2.1 642 = .ok (.iaload, 1) := by decide +kernel
theorem d_xw_law_643 : decode xw_law.2.1 643 = .ok (.invokevirtual 61, 3) := by decide +kernel
theorem d_xw_law_646 : decode xw_law.2.1 646 = .ok (.aload_n 2, 1) := by decide +kernel
theorem d_xw_law_647 : decode xw_law.2.1 647 = .ok (.aload_n 0, 1) := by decide +kernel
theorem d_xw_law_648 : decode xw_law.2.1 648 = .ok (.iload_n 3, 1) := by decide +kernel
theorem d_xw_law_649 : decode xw_law.2.1 649 = .ok (.iconst 1, 1) := by decide +kernel
theorem d_xw_law_650 : decode xw_law.2.1 650 = .ok (.iadd, 1) := by decide +kernel
theorem d_xw_law_651 : decode xw_law.2.1 651 = .ok (.iaload, 1) := by decide +kernel
theorem d_xw_law_652 : decode xw_law.2.1 652 = .ok (.aload_n 0, 1) := by decide +kernel
theorem d_xw_law_653 : decode xw_law.2.1 653 = .ok (.iload_n 3, 1) := by decide +kernel
theorem d_xw_law_654 : decode xw_law.2.1 654 = .ok (.iconst 2, 1) := by decide +kernel
theorem d_xw_law_655 : decode xw_law.2.1 655 = .ok (.iadd, 1) := by decide +kernel
theorem d_xw_law_656 : decode xw_law.2.1 656 = .ok (.iaload, 1) := by decide +kernel
theorem d_xw_law_657 : decode xw_law.2.1 657 = .ok (.ifCond .eq 7, 3) := by decide +kernel
theorem d_xw_law_660 : decode xw_law.2.1 660 = .ok (.iconst 1, 1) := by decide +kernel
theorem d_xw_law_661 : decode xw_law.2.1 661 = .ok (.goto 4, 3) := by decide +kernel
theorem d_xw_law_664 : decode xw_law.2.1 664 = .ok (.iconst 0, 1) := by decide +kernel
theorem d_xw_law_665 : decode xw_law.2.1 665 = .ok (.aload_n 0, 1) := by decide +kernel
theorem d_xw_law_666 : decode xw_law.2.1 666 = .ok (.iload_n 3, 1) := by decide +kernel
theorem d_xw_law_667 : decode xw_law.2.1 667 = .ok (.iconst 3, 1) := by decide +kernel
theorem d_xw_law_668 : decode xw_law.2.1 668 = .ok (.iadd, 1) := by decide +kernel
theorem d_xw_law_669 : decode xw_law.2.1 669 = .ok (.iaload, 1) := by decide +kernel
theorem d_xw_law_670 : decode xw_law.2.1 670 = .ok (.invokevirtual 64, 3) := by decide +kernel
theorem d_xw_law_673 : decode xw_law.2.1 673 = .ok (.if_icmp .eq 1135, 3) := by decide +kernel
theorem d_xw_law_676 : decode xw_law.2.1 676 = .ok (.iconst 0, 1) := by decide +kernel
theorem d_xw_law_677 : decode xw_law.2.1 677 = .ok (.ireturn, 1) := by decide +kernel
theorem d_xw_law_678 : decode xw_law.2.1 678 = .ok (.aload_n 1, 1) := by decide +kernel
theorem d_xw_law_679 : decode xw_law.2.1 679 = .ok (.aload_n 0, 1) := by decide +kernel
theorem d_xw_law_680 : decode xw_law.2.1 680 = .ok (.iload_n 3, 1) := by decide +kernel
theorem d_xw_law_681 : decode xw_law.2.1 681 = .ok (.iconst 1, 1) := by decide +kernel
theorem d_xw_law_682 : decode xw_law.2.1 682 = .ok (.iadd, 1) := by decide +kernel
theorem d_xw_law_683 : decode xw_law.2.1 683 = .ok (.iaload, 1) := by decide +kernel
theorem d_xw_law_684 : decode xw_law.2.1 684 = .ok (.aload_n 0, 1) := by decide +kernel
theorem d_xw_law_685 : decode xw_law.2.1 685 = .ok (.iload_n 3, 1) := by decide +kernel
theorem d_xw_law_686 : decode xw_law.2.1 686 = .ok (.iconst 2, 1) := by decide +kernel
theorem d_xw_law_687 : decode xw_law.2.1 687 = .ok (.iadd, 1) := by decide +kernel
theorem d_xw_law_688 : decode xw_law.2.1 688 = .ok (.iaload, 1) := by decide +kernel
theorem d_xw_law_689 : decode xw_law.2.1 689 = .ok (.ifCond .eq 7, 3) := by decide +kernel
theorem d_xw_law_692 : decode xw_law.2.1 692 = .ok (.iconst 1, 1) := by decide +kernel
theorem d_xw_law_693 : decode xw_law.2.1 693 = .ok (.goto 4, 3) := by decide +kernel
theorem d_xw_law_696 : decode xw_law.2.1 696 = .ok (.iconst 0, 1) := by decide +kernel
theorem d_xw_law_697 : decode xw_law.2.1 697 = .ok (.invokevirtual 65, 3) := by decide +kernel
theorem d_xw_law_700 : decode xw_law.2.1 700 = .ok (.aload_n 2, 1) := by decide +kernel
theorem d_xw_law_701 : decode xw_law.2.1 701 = .ok (.aload_n 0, 1) := by decide +kernel
theorem d_xw_law_702 : decode xw_law.2.1 702 = .ok (.iload_n 3, 1) := by decide +kernel
theorem d_xw_law_703 : decode xw_law.2.1 703 = .ok (.iconst 1, 1) := by decide +kernel
theorem d_xw_law_704 : decode xw_law.2.1 704 = .ok (.iadd, 1) := by decide +kernel
theorem d_xw_law_705 : decode xw_law.2.1 705 = .ok (.iaload, 1) := by decide +kernel
theorem d_xw_law_706 : decode xw_law.2.1 706 = .ok (.aload_n 0, 1) := by decide +kernel
theorem d_xw_law_707 : decode xw_law.2.1 707 = .ok (.iload_n 3, 1) := by decide +kernel
theorem d_xw_law_708 : decode xw_law.2.1 708 = .ok (.iconst 2, 1) := by decide +kernel
theorem d_xw_law_709 : decode xw_law.2.1 709 = .ok (.iadd, 1) := by decide +kernel
theorem d_xw_law_710 : decode xw_law.2.1 710 = .ok (.iaload, 1) := by decide +kernel
theorem d_xw_law_711 : decode xw_law.2.1 711 = .ok (.ifCond .eq 7, 3) := by decide +kernel
theorem d_xw_law_714 : decode xw_law.2.1 714 = .ok (.iconst 1, 1) := by decide +kernel
theorem d_xw_law_715 : decode xw_law.2.1 715 = .ok (.goto 4, 3) := by decide +kernel
theorem d_xw_law_718 : decode xw_law.2.1 718 = .ok (.iconst 0, 1) := by decide +kernel
theorem d_xw_law_719 : decode xw_law.2.1 719 = .ok (.invokevirtual 69, 3) := by decide +kernel
theorem d_xw_law_722 : decode xw_law.2.1 722 = .ok (.if_icmp .eq 1086, 3) := by decide +kernel
theorem d_xw_law_725 : decode xw_law.2.1 725 = .ok (.iconst 0, 1) := by decide +kernel
theorem d_xw_law_726 : decode xw_law.2.1 726 = .ok (.ireturn, 1) := by decide +kernel
theorem d_xw_law_727 : decode xw_law.2.1 727 = .ok (.aload_n 1, 1) := by decide +kernel
theorem d_xw_law_728 : decode xw_law.2.1 728 = .ok (.aload_n 0, 1) := by decide +kernel
theorem d_xw_law_729 : decode xw_law.2.1 729 = .ok (.iload_n 3, 1) := by decide +kernel
theorem d_xw_law_730 : decode xw_law.2.1 730 = .ok (.iconst 1, 1) := by decide +kernel
theorem d_xw_law_731 : decode xw_law.2.1 731 = .ok (.iadd, 1) := by decide +kernel
theorem d_xw_law_732 : decode xw_law.2.1 732 = .ok (.iaload, 1) := by decide +kernel
theorem d_xw_law_733 : decode xw_law.2.1 733 = .ok (.aload_n 0, 1) := by decide +kernel
theorem d_xw_law_734 : decode xw_law.2.1 734 = .ok (.iload_n 3, 1) := by decide +kernel
theorem d_xw_law_735 : decode xw_law.2.1 735 = .ok (.iconst 2, 1) := by decide +kernel
theorem d_xw_law_736 : decode xw_law.2.1 736 = .ok (.iadd, 1) := by decide +kernel
theorem d_xw_law_737 : decode xw_law.2.1 737 = .ok (.iaload, 1) := by decide +kernel
theorem d_xw_law_738 : decode xw_law.2.1 738 = .ok (.ifCond .eq 7, 3) := by decide +kernel
theorem d_xw_law_741 : decode xw_law.2.1 741 = .ok (.iconst 1, 1) := by decide +kernel
theorem d_xw_law_742 : decode xw_law.2.1 742 = .ok (.goto 4, 3) := by decide +kernel
theorem d_xw_law_745 : decode xw_law.2.1 745 = .ok (.iconst 0, 1) := by decide +kernel
theorem d_xw_law_746 : decode xw_law.2.1 746 = .ok (.invokevirtual 70, 3) := by decide +kernel
theorem d_xw_law_749 : decode xw_law.2.1 749 = .ok (.aload_n 2, 1) := by decide +kernel
theorem d_xw_law_750 : decode xw_law.2.1 750 = .ok (.aload_n 0, 1) := by decide +kernel
theorem d_xw_law_751 : decode xw_law.2.1 751 = .ok (.iload_n 3, 1) := by decide +kernel
theorem d_xw_law_752 : decode xw_law.2.1 752 = .ok (.iconst 1, 1) := by decide +kernel
theorem d_xw_law_753 : decode xw_law.2.1 753 = .ok (.iadd, 1) := by decide +kernel
theorem d_xw_law_754 : decode xw_law.2.1 754 = .ok (.iaload, 1) := by decide +kernel
theorem d_xw_law_755 : decode xw_law.2.1 755 = .ok (.aload_n 0, 1) := by decide +kernel
theorem d_xw_law_756 : decode xw_law.2.1 756 = .ok (.iload_n 3, 1) := by decide +kernel
theorem d_xw_law_757 : decode xw_law.2.1 757 = .ok (.iconst 2, 1) := by decide +kernel
theorem d_xw_law_758 : decode xw_law.2.1 758 = .ok (.iadd, 1) := by decide +kernel
theorem d_xw_law_759 : decode xw_law.2.1 759 = .ok (.iaload, 1) := by decide +kernel
theorem d_xw_law_760 : decode xw_law.2.1 760 = .ok (.ifCond .eq 7, 3) := by decide +kernel
theorem d_xw_law_763 : decode xw_law.2.1 763 = .ok (.iconst 1, 1) := by decide +kernel
theorem d_xw_law_764 : decode xw_law.2.1 764 = .ok (.goto 4, 3) := by decide +kernel
theorem d_xw_law_767 : decode xw_law.2.1 767 = .ok (.iconst 0, 1) := by decide +kernel
theorem d_xw_law_768 : decode xw_law.2.1 768 = .ok (.invokevirtual 73, 3) := by decide +kernel
theorem d_xw_law_771 : decode xw_law.2.1 771 = .ok (.if_icmp .eq 1037, 3) := by decide +kernel
theorem d_xw_law_774 : decode xw_law.2.1 774 = .ok (.iconst 0, 1) := by decide +kernel
theorem d_xw_law_775 : decode xw_law.2.1 775 = .ok (.ireturn, 1) := by decide +kernel
theorem d_xw_law_776 : decode xw_law.2.1 776 = .ok (.aload_n 1, 1) := by decide +kernel
theorem d_xw_law_777 : decode xw_law.2.1 777 = .ok (.aload_n 0, 1) := by decide +kernel
theorem d_xw_law_778 : decode xw_law.2.1 778 = .ok (.iload_n 3, 1) := by decide +kernel
theorem d_xw_law_779 : decode xw_law.2.1 779 = .ok (.iconst 1, 1) := by decide +kernel
theorem d_xw_law_780 : decode xw_law.2.1 780 = .ok (.iadd, 1) := by decide +kernel
theorem d_xw_law_781 : decode xw_law.2.1 781 = .ok (.iaload, 1) := by decide +kernel
theorem d_xw_law_782 : decode xw_law.2.1 782 = .ok (.aload_n 0, 1) := by decide +kernel
theorem d_xw_law_783 : decode xw_law.2.1 783 = .ok (.iload_n 3, 1) := by decide +kernel
theorem d_xw_law_784 : decode xw_law.2.1 784 = .ok (.iconst 2, 1) := by decide +kernel
theorem d_xw_law_785 : decode xw_law.2.1 785 = .ok (.iadd, 1) := by decide +kernel
theorem d_xw_law_786 : decode xw_law.2.1 786 = .ok (.iaload, 1) := by decide +kernel
theorem d_xw_law_787 : decode xw_law.2.1 787 = .ok (.aload_n 0, 1) := by decide +kernel
theorem d_xw_law_788 : decode xw_law.2.1 788 = .ok (.iload_n 3, 1) := by decide +kernel
theorem d_xw_law_789 : decode xw_law.2.1 789 = .ok (.iconst 3, 1) := by decide +kernel
theorem d_xw_law_790 : decode xw_law.2.1 790 = .ok (.iadd, 1) := by decide +kernel
theorem d_xw_law_791 : decode xw_law.2.1 791 = .ok (.iaload, 1) := by decide +kernel
theorem d_xw_law_792 : decode xw_law.2.1 792 = .ok (.invokevirtual 74, 3) := by decide +kernel
theorem d_xw_law_795 : decode xw_law.2.1 795 = .ok (.aload_n 2, 1) := by decide +kernel
theorem d_xw_law_796 : decode xw_law.2.1 796 = .ok (.aload_n 0, 1) := by decide +kernel
theorem d_xw_law_797 : decode xw_law.2.1 797 = .ok (.iload_n 3, 1) := by decide +kernel
theorem d_xw_law_798 : decode xw_law.2.1 798 = .ok (.iconst 1, 1) := by decide +kernel
theorem d_xw_law_799 : decode xw_law.2.1 799 = .ok (.iadd, 1) := by decide +kernel
theorem d_xw_law_800 : decode xw_law.2.1 800 = .ok (.iaload, 1) := by decide +kernel
theorem d_xw_law_801 : decode xw_law.2.1 801 = .ok (.aload_n 0, 1) := by decide +kernel
theorem d_xw_law_802 : decode xw_law.2.1 802 = .ok (.iload_n 3, 1) := by decide +kernel
theorem d_xw_law_803 : decode xw_law.2.1 803 = .ok (.iconst 2, 1) := by decide +kernel
theorem d_xw_law_804 : decode xw_law.2.1 804 = .ok (.iadd, 1) := by decide +kernel
theorem d_xw_law_805 : decode xw_law.2.1 805 = .ok (.iaload, 1) := by decide +kernel
theorem d_xw_law_806 : decode xw_law.2.1 806 = .ok (.aload_n 0, 1) := by decide +kernel
theorem d_xw_law_807 : decode xw_law.2.1 807 = .ok (.iload_n 3, 1) := by decide +kernel
theorem d_xw_law_808 : decode xw_law.2.1 808 = .ok (.iconst 3, 1) := by decide +kernel
theorem d_xw_law_809 : decode xw_law.2.1 809 = .ok (.iadd, 1) := by decide +kernel
theorem d_xw_law_810 : decode xw_law.2.1 810 = .ok (.iaload, 1) := by decide +kernel
theorem d_xw_law_811 : decode xw_law.2.1 811 = .ok (.invokevirtual 77, 3) := by decide +kernel
theorem d_xw_law_814 : decode xw_law.2.1 814 = .ok (.if_icmp .eq 994, 3) := by decide +kernel
theorem d_xw_law_817 : decode xw_law.2.1 817 = .ok (.iconst 0, 1) := by decide +kernel
theorem d_xw_law_818 : decode xw_law.2.1 818 = .ok (.ireturn, 1) := by decide +kernel
theorem d_xw_law_819 : decode xw_law.2.1 819 = .ok (.aload_n 1, 1) := by decide +kernel
theorem d_xw_law_820 : decode xw_law.2.1 820 = .ok (.aload_n 0, 1) := by decide +kernel
theorem d_xw_law_821 : decode xw_law.2.1 821 = .ok (.iload_n 3, 1) := by decide +kernel
theorem d_xw_law_822 : decode xw_law.2.1 822 = .ok (.iconst 1, 1) := by decide +kernel
theorem d_xw_law_823 : decode xw_law.2.1 823 = .ok (.iadd, 1) := by decide +kernel
theorem d_xw_law_824 : decode xw_law.2.1 824 = .ok (.iaload, 1) := by decide +kernel
theorem d_xw_law_825 : decode xw_law.2.1 825 = .ok (.aload_n 0, 1) := by decide +kernel
theorem d_xw_law_826 : decode xw_law.2.1 826 = .ok (.iload_n 3, 1) := by decide +kernel
theorem d_xw_law_827 : decode xw_law.2.1 827 = .ok (.iconst 2, 1) := by decide +kernel
theorem d_xw_law_828 : decode xw_law.2.1 828 = .ok (.iadd, 1) := by decide +kernel
theorem d_xw_law_829 : decode xw_law.2.1 829 = .ok (.iaload, 1) := by decide +kernel
theorem d_xw_law_830 : decode xw_law.2.1 830 = .ok (.invokevirtual 78, 3) := by decide +kernel
theorem d_xw_law_833 : decode xw_law.2.1 833 = .ok (.aload_n 2, 1) := by decide +kernel
theorem d_xw_law_834 : decode xw_law.2.1 834 = .ok (.aload_n 0, 1) := by decide +kernel
theorem d_xw_law_835 : decode xw_law.2.1 835 = .ok (.iload_n 3, 1) := by decide +kernel
theorem d_xw_law_836 : decode xw_law.2.1 836 = .ok (.iconst 1, 1) := by decide +kernel
theorem d_xw_law_837 : decode xw_law.2.1 837 = .ok (.iadd, 1) := by decide +kernel
theorem d_xw_law_838 : decode xw_law.2.1 838 = .ok (.iaload, 1) := by decide +kernel
theorem d_xw_law_839 : decode xw_law.2.1 839 = .ok (.aload_n 0, 1) := by decide +kernel
theorem d_xw_law_840 : decode xw_law.2.1 840 = .ok (.iload_n 3, 1) := by decide +kernel
theorem d_xw_law_841 : decode xw_law.2.1 841 = .ok (.iconst 2, 1) := by decide +kernel
theorem d_xw_law_842 : decode xw_law.2.1 842 = .ok (.iadd, 1) := by decide +kernel
theorem d_xw_law_843 : decode xw_law.2.1 843 = .ok (.iaload, 1) := by decide +kernel
theorem d_xw_law_844 : decode xw_law.2.1 844 = .ok (.invokevirtual 81, 3) := by decide +kernel
theorem d_xw_law_847 : decode xw_law.2.1 847 = .ok (.if_icmp .eq 961, 3) := by decide +kernel
theorem d_xw_law_850 : decode xw_law.2.1 850 = .ok (.iconst 0, 1) := by decide +kernel
theorem d_xw_law_851 : decode xw_law.2.1 851 = .ok (.ireturn, 1) := by decide +kernel
theorem d_xw_law_852 : decode xw_law.2.1 852 = .ok (.aload_n 1, 1) := by decide +kernel
theorem d_xw_law_853 : decode xw_law.2.1 853 = .ok (.aload_n 0, 1) := by decide +kernel
theorem d_xw_law_854 : decode xw_law.2.1 854 = .ok (.iload_n 3, 1) := by decide +kernel
theorem d_xw_law_855 : decode xw_law.2.1 855 = .ok (.iconst 1, 1) := by decide +kernel
theorem d_xw_law_856 : decode xw_law.2.1 856 = .ok (.iadd, 1) := by decide +kernel
theorem d_xw_law_857 : decode xw_law.2.1 857 = .ok (.iaload, 1) := by decide +kernel
theorem d_xw_law_858 : decode xw_law.2.1 858 = .ok (.aload_n 0, 1) := by decide +kernel
theorem d_xw_law_859 : decode xw_law.2.1 859 = .ok (.iload_n 3, 1) := by decide +kernel
theorem d_xw_law_860 : decode xw_law.2.1 860 = .ok (.iconst 2, 1) := by decide +kernel
theorem d_xw_law_861 : decode xw_law.2.1 861 = .ok (.iadd, 1) := by decide +kernel
theorem d_xw_law_862 : decode xw_law.2.1 862 = .ok (.iaload, 1) := by decide +kernel
theorem d_xw_law_863 : decode xw_law.2.1 863 = .ok (.aload_n 0, 1) := by decide +kernel
theorem d_xw_law_864 : decode xw_law.2.1 864 = .ok (.iload_n 3, 1) := by decide +kernel
theorem d_xw_law_865 : decode xw_law.2.1 865 = .ok (.iconst 3, 1) := by decide +kernel
theorem d_xw_law_866 : decode xw_law.2.1 866 = .ok (.iadd, 1) := by decide +kernel
theorem d_xw_law_867 : decode xw_law.2.1 867 = .ok (.iaload, 1) := by decide +kernel
theorem d_xw_law_868 : decode xw_law.2.1 868 = .ok (.invokevirtual 82, 3) := by decide +kernel
theorem d_xw_law_871 : decode xw_law.2.1 871 = .ok (.aload_n 2, 1) := by decide +kernel
theorem d_xw_law_872 : decode xw_law.2.1 872 = .ok (.aload_n 0, 1) := by decide +kernel
theorem d_xw_law_873 : decode xw_law.2.1 873 = .ok (.iload_n 3, 1) := by decide +kernel
theorem d_xw_law_874 : decode xw_law.2.1 874 = .ok (.iconst 1, 1) := by decide +kernel
theorem d_xw_law_875 : decode xw_law.2.1 875 = .ok (.iadd, 1) := by decide +kernel
theorem d_xw_law_876 : decode xw_law.2.1 876 = .ok (.iaload, 1) := by decide +kernel
theorem d_xw_law_877 : decode xw_law.2.1 877 = .ok (.aload_n 0, 1) := by decide +kernel
theorem d_xw_law_878 : decode xw_law.2.1 878 = .ok (.iload_n 3, 1) := by decide +kernel
theorem d_xw_law_879 : decode xw_law.2.1 879 = .ok (.iconst 2, 1) := by decide +kernel
theorem d_xw_law_880 : decode xw_law.2.1 880 = .ok (.iadd, 1) := by decide +kernel
theorem d_xw_law_881 : decode xw_law.2.1 881 = .ok (.iaload, 1) := by decide +kernel
theorem d_xw_law_882 : decode xw_law.2.1 882 = .ok (.aload_n 0, 1) := by decide +kernel
theorem d_xw_law_883 : decode xw_law.2.1 883 = .ok (.iload_n 3, 1) := by decide +kernel
theorem d_xw_law_884 : decode xw_law.2.1 884 = .ok (.iconst 3, 1) := by decide +kernel
theorem d_xw_law_885 : decode xw_law.2.1 885 = .ok (.iadd, 1) := by decide +kernel
theorem d_xw_law_886 : decode xw_law.2.1 886 = .ok (.iaload, 1) := by decide +kernel
theorem d_xw_law_887 : decode xw_law.2.1 887 = .ok (.invokevirtual 85, 3) := by decide +kernel
theorem d_xw_law_890 : decode xw_law.2.1 890 = .ok (.if_icmp .eq 918, 3) := by decide +kernel
theorem d_xw_law_893 : decode xw_law.2.1 893 = .ok (.iconst 0, 1) := by decide +kernel
theorem d_xw_law_894 : decode xw_law.2.1 894 = .ok (.ireturn, 1) := by decide +kernel
theorem d_xw_law_895 : decode xw_law.2.1 895 = .ok (.aload_n 1, 1) := by decide +kernel
theorem d_xw_law_896 : decode xw_law.2.1 896 = .ok (.aload_n 0, 1) := by decide +kernel
theorem d_xw_law_897 : decode xw_law.2.1 897 = .ok (.iload_n 3, 1) := by decide +kernel
theorem d_xw_law_898 : decode xw_law.2.1 898 = .ok (.iconst 1, 1) := by decide +kernel
theorem d_xw_law_899 : decode xw_law.2.1 899 = .ok (.iadd, 1) := by decide +kernel
theorem d_xw_law_900 : decode xw_law.2.1 900 = .ok (.iaload, 1) := by decide +kernel
theorem d_xw_law_901 : decode xw_law.2.1 901 = .ok (.aload_n 0, 1) := by decide +kernel
theorem d_xw_law_902 : decode xw_law.2.1 902 = .ok (.iload_n 3, 1) := by decide +kernel
theorem d_xw_law_903 : decode xw_law.2.1 903 = .ok (.iconst 2, 1) := by decide +kernel
theorem d_xw_law_904 : decode xw_law.2.1 904 = .ok (.iadd, 1) := by decide +kernel
theorem d_xw_law_905 : decode xw_law.2.1 905 = .ok (.iaload, 1) := by decide +kernel
theorem d_xw_law_906 : decode xw_law.2.1 906 = .ok (.aload_n 0, 1) := by decide +kernel
theorem d_xw_law_907 : decode xw_law.2.1 907 = .ok (.iload_n 3, 1) := by decide +kernel
theorem d_xw_law_908 : decode xw_law.2.1 908 = .ok (.iconst 3, 1) := by decide +kernel
theorem d_xw_law_909 : decode xw_law.2.1 909 = .ok (.iadd, 1) := by decide +kernel
theorem d_xw_law_910 : decode xw_law.2.1 910 = .ok (.iaload, 1) := by decide +kernel
theorem d_xw_law_911 : decode xw_law.2.1 911 = .ok (.invokevirtual 86, 3) := by decide +kernel
theorem d_xw_law_914 : decode xw_law.2.1 914 = .ok (.aload_n 2, 1) := by decide +kernel
theorem d_xw_law_915 : decode xw_law.2.1 915 = .ok (.aload_n 0, 1) := by decide +kernel
theorem d_xw_law_916 : decode xw_law.2.1 916 = .ok (.iload_n 3, 1) := by decide +kernel
theorem d_xw_law_917 : decode xw_law.2.1 917 = .ok (.iconst 1, 1) := by decide +kernel
theorem d_xw_law_918 : decode xw_law.2.1 918 = .ok (.iadd, 1) := by decide +kernel
theorem d_xw_law_919 : decode xw_law.2.1 919 = .ok (.iaload, 1) := by decide +kernel
theorem d_xw_law_920 : decode xw_law.2.1 920 = .ok (.aload_n 0, 1) := by decide +kernel
theorem d_xw_law_921 : decode xw_law.2.1 921 = .ok (.iload_n 3, 1) := by decide +kernel
theorem d_xw_law_922 : decode xw_law.2.1 922 = .ok (.iconst 2, 1) := by decide +kernel
theorem d_xw_law_923 : decode xw_law.2.1 923 = .ok (.iadd, 1) := by decide +kernel
theorem d_xw_law_924 : decode xw_law.2.1 924 = .ok (.iaload, 1) := by decide +kernel
theorem d_xw_law_925 : decode xw_law.2.1 925 = .ok (.aload_n 0, 1) := by decide +kernel
theorem d_xw_law_926 : decode xw_law.2.1 926 = .ok (.iload_n 3, 1) := by decide +kernel
theorem d_xw_law_927 : decode xw_law.2.1 927 = .ok (.iconst 3, 1) := by decide +kernel
theorem d_xw_law_928 : decode xw_law.2.1 928 = .ok (.iadd, 1) := by decide +kernel
theorem d_xw_law_929 : decode xw_law.2.1 929 = .ok (.iaload, 1) := by decide +kernel
theorem d_xw_law_930 : decode xw_law.2.1 930 = .ok (.invokevirtual 89, 3) := by decide +kernel
theorem d_xw_law_933 : decode xw_law.2.1 933 = .ok (.if_icmp .eq 875, 3) := by decide +kernel
theorem d_xw_law_936 : decode xw_law.2.1 936 = .ok (.iconst 0, 1) := by decide +kernel
theorem d_xw_law_937 : decode xw_law.2.1 937 = .ok (.ireturn, 1) := by decide +kernel
theorem d_xw_law_938 : decode xw_law.2.1 938 = .ok (.aload_n 1, 1) := by decide +kernel
theorem d_xw_law_939 : decode xw_law.2.1 939 = .ok (.aload_n 0, 1) := by decide +kernel
theorem d_xw_law_940 : decode xw_law.2.1 940 = .ok (.iload_n 3, 1) := by decide +kernel
theorem d_xw_law_941 : decode xw_law.2.1 941 = .ok (.iconst 1, 1) := by decide +kernel
theorem d_xw_law_942 : decode xw_law.2.1 942 = .ok (.iadd, 1) := by decide +kernel
theorem d_xw_law_943 : decode xw_law.2.1 943 = .ok (.iaload, 1) := by decide +kernel
theorem d_xw_law_944 : decode xw_law.2.1 944 = .ok (.aload_n 0, 1) := by decide +kernel
theorem d_xw_law_945 : decode xw_law.2.1 945 = .ok (.iload_n 3, 1) := by decide +kernel
theorem d_xw_law_946 : decode xw_law.2.1 946 = .ok (.iconst 2, 1) := by decide +kernel
theorem d_xw_law_947 : decode xw_law.2.1 947 = .ok (.iadd, 1) := by decide +kernel
theorem d_xw_law_948 : decode xw_law.2.1 948 = .ok (.iaload, 1) := by decide +kernel
theorem d_xw_law_949 : decode xw_law.2.1 949 = .ok (.aload_n 0, 1) := by decide +kernel
theorem d_xw_law_950 : decode xw_law.2.1 950 = .ok (.iload_n 3, 1) := by decide +kernel
theorem d_xw_law_951 : decode xw_law.2.1 951 = .ok (.iconst 3, 1) := by decide +kernel
theorem d_xw_law_952 : decode xw_law.2.1 952 = .ok (.iadd, 1) := by decide +kernel
theorem d_xw_law_953 : decode xw_law.2.1 953 = .ok (.iaload, 1) := by decide +kernel
theorem d_xw_law_954 : decode xw_law.2.1 954 = .ok (.invokevirtual 90, 3) := by decide +kernel
theorem d_xw_law_957 : decode xw_law.2.1 957 = .ok (.aload_n 2, 1) := by decide +kernel
theorem d_xw_law_958 : decode xw_law.2.1 958 = .ok (.aload_n 0, 1) := by decide +kernel
theorem d_xw_law_959 : decode xw_law.2.1 959 = .ok (.iload_n 3, 1) := by decide +kernel
theorem d_xw_law_960 : decode xw_law.2.1 960 = .ok (.iconst 1, 1) := by decide +kernel
theorem d_xw_law_961 : decode xw_law.2.1 961 = .ok (.iadd, 1) := by decide +kernel
theorem d_xw_law_962 : decode xw_law.2.1 962 = .ok (.iaload, 1) := by decide +kernel
theorem d_xw_law_963 : decode xw_law.2.1 963 = .ok (.aload_n 0, 1) := by decide +kernel
theorem d_xw_law_964 : decode xw_law.2.1 964 = .ok (.iload_n 3, 1) := by decide +kernel
theorem d_xw_law_965 : decode xw_law.2.1 965 = .ok (.iconst 2, 1) := by decide +kernel
theorem d_xw_law_966 : decode xw_law.2.1 966 = .ok (.iadd, 1) := by decide +kernel
theorem d_xw_law_967 : decode xw_law.2.1 967 = .ok (.iaload, 1) := by decide +kernel
theorem d_xw_law_968 : decode xw_law.2.1 968 = .ok (.aload_n 0, 1) := by decide +kernel
theorem d_xw_law_969 : decode xw_law.2.1 969 = .ok (.iload_n 3, 1) := by decide +kernel
theorem d_xw_law_970 : decode xw_law.2.1 970 = .ok (.iconst 3, 1) := by decide +kernel
theorem d_xw_law_971 : decode xw_law.2.1 971 = .ok (.iadd, 1) := by decide +kernel
theorem d_xw_law_972 : decode xw_law.2.1 972 = .ok (.iaload, 1) := by decide +kernel
theorem d_xw_law_973 : decode xw_law.2.1 973 = .ok (.invokevirtual 93, 3) := by decide +kernel
theorem d_xw_law_976 : decode xw_law.2.1 976 = .ok (.if_icmp .eq 832, 3) := by decide +kernel
theorem d_xw_law_979 : decode xw_law.2.1 979 = .ok (.iconst 0, 1) := by decide +kernel
theorem d_xw_law_980 : decode xw_law.2.1 980 = .ok (.ireturn, 1) := by decide +kernel
theorem d_xw_law_981 : decode xw_law.2.1 981 = .ok (.aload_n 1, 1) := by decide +kernel
theorem d_xw_law_982 : decode xw_law.2.1 982 = .ok (.aload_n 0, 1) := by decide +kernel
theorem d_xw_law_983 : decode xw_law.2.1 983 = .ok (.iload_n 3, 1) := by decide +kernel
theorem d_xw_law_984 : decode xw_law.2.1 984 = .ok (.iconst 1, 1) := by decide +kernel
theorem d_xw_law_985 : decode xw_law.2.1 985 = .ok (.iadd, 1) := by decide +kernel
theorem d_xw_law_986 : decode xw_law.2.1 986 = .ok (.iaload, 1) := by decide +kernel
theorem d_xw_law_987 : decode xw_law.2.1 987 = .ok (.aload_n 0, 1) := by decide +kernel
theorem d_xw_law_988 : decode xw_law.2.1 988 = .ok (.iload_n 3, 1) := by decide +kernel
theorem d_xw_law_989 : decode xw_law.2.1 989 = .ok (.iconst 2, 1) := by decide +kernel
theorem d_xw_law_990 : decode xw_law.2.1 990 = .ok (.iadd, 1) := by decide +kernel
theorem d_xw_law_991 : decode xw_law.2.1 991 = .ok (.iaload, 1) := by decide +kernel
theorem d_xw_law_992 : decode xw_law.2.1 992 = .ok (.aload_n 0, 1) := by decide +kernel
theorem d_xw_law_993 : decode xw_law.2.1 993 = .ok (.iload_n 3, 1) := by decide +kernel
theorem d_xw_law_994 : decode xw_law.2.1 994 = .ok (.iconst 3, 1) := by decide +kernel
theorem d_xw_law_995 : decode xw_law.2.1 995 = .ok (.iadd, 1) := by decide +kernel
theorem d_xw_law_996 : decode xw_law.2.1 996 = .ok (.iaload, 1) := by decide +kernel
theorem d_xw_law_997 : decode xw_law.2.1 997 = .ok (.invokevirtual 94, 3) := by decide +kernel
theorem d_xw_law_1000 : decode xw_law.2.1 1000 = .ok (.aload_n 2, 1) := by decide +kernel
theorem d_xw_law_1001 : decode xw_law.2.1 1001 = .ok (.aload_n 0, 1) := by decide +kernel
theorem d_xw_law_1002 : decode xw_law.2.1 1002 = .ok (.iload_n 3, 1) := by decide +kernel
theorem d_xw_law_1003 : decode xw_law.2.1 1003 = .ok (.iconst 1, 1) := by decide +kernel
theorem d_xw_law_1004 : decode xw_law.2.1 1004 = .ok (.iadd, 1) := by decide +kernel
theorem d_xw_law_1005 : decode xw_law.2.1 1005 = .ok (.iaload, 1) := by decide +kernel
theorem d_xw_law_1006 : decode xw_law.2.1 1006 = .ok (.aload_n 0, 1) := by decide +kernel
theorem d_xw_law_1007 : decode xw_law.2.1 1007 = .ok (.iload_n 3, 1) := by decide +kernel
theorem d_xw_law_1008 : decode xw_law.2.1 1008 = .ok (.iconst 2, 1) := by decide +kernel
theorem d_xw_law_1009 : decode xw_law.2.1 1009 = .ok (.iadd, 1) := by decide +kernel
theorem d_xw_law_1010 : decode xw_law.2.1 1010 = .ok (.iaload, 1) := by decide +kernel
theorem d_xw_law_1011 : decode xw_law.2.1 1011 = .ok (.aload_n 0, 1) := by decide +kernel
theorem d_xw_law_1012 : decode xw_law.2.1 1012 = .ok (.iload_n 3, 1) := by decide +kernel
theorem d_xw_law_1013 : decode xw_law.2.1 1013 = .ok (.iconst 3, 1) := by decide +kernel
theorem d_xw_law_1014 : decode xw_law.2.1 1014 = .ok (.iadd, 1) := by decide +kernel
theorem d_xw_law_1015 : decode xw_law.2.1 1015 = .ok (.iaload, 1) := by decide +kernel
theorem d_xw_law_1016 : decode xw_law.2.1 1016 = .ok (.invokevirtual 97, 3) := by decide +kernel
theorem d_xw_law_1019 : decode xw_law.2.1 1019 = .ok (.if_icmp .eq 789, 3) := by decide +kernel
theorem d_xw_law_1022 : decode xw_law.2.1 1022 = .ok (.iconst 0, 1) := by decide +kernel
theorem d_xw_law_1023 : decode xw_law.2.1 1023 = .ok (.ireturn, 1) := by decide +kernel
theorem d_xw_law_1024 : decode xw_law.2.1 1024 = .ok (.aload_n 1, 1) := by decide +kernel
theorem d_xw_law_1025 : decode xw_law.2.1 1025 = .ok (.aload_n 0, 1) := by decide +kernel
theorem d_xw_law_1026 : decode xw_law.2.1 1026 = .ok (.iload_n 3, 1) := by decide +kernel
theorem d_xw_law_1027 : decode xw_law.2.1 1027 = .ok (.iconst 1, 1) := by decide +kernel
theorem d_xw_law_1028 : decode xw_law.2.1 1028 = .ok (.iadd, 1) := by decide +kernel
theorem d_xw_law_1029 : decode xw_law.2.1 1029 = .ok (.iaload, 1) := by decide +kernel
theorem d_xw_law_1030 : decode xw_law.2.1 1030 = .ok (.aload_n 0, 1) := by decide +kernel
theorem d_xw_law_1031 : decode xw_law.2.1 1031 = .ok (.iload_n 3, 1) := by decide +kernel
theorem d_xw_law_1032 : decode xw_law.2.1 1032 = .ok (.iconst 2, 1) := by decide +kernel
theorem d_xw_law_1033 : decode xw_law.2.1 1033 = .ok (.iadd, 1) := by decide +kernel
theorem d_xw_law_1034 : decode xw_law.2.1 1034 = .ok (.iaload, 1) := by decide +kernel
theorem d_xw_law_1035 : decode xw_law.2.1 1035 = .ok (.aload_n 0, 1) := by decide +kernel
theorem d_xw_law_1036 : decode xw_law.2.1 1036 = .ok (.iload_n 3, 1) := by decide +kernel
theorem d_xw_law_1037 : decode xw_law.2.1 1037 = .ok (.iconst 3, 1) := by decide +kernel
theorem d_xw_law_1038 : decode xw_law.2.1 1038 = .ok (.iadd, 1) := by decide +kernel
theorem d_xw_law_1039 : decode xw_law.2.1 1039 = .ok (.iaload, 1) := by decide +kernel
theorem d_xw_law_1040 : decode xw_law.2.1 1040 = .ok (.invokevirtual 98, 3) := by decide +kernel
theorem d_xw_law_1043 : decode xw_law.2.1 1043 = .ok (.aload_n 2, 1) := by decide +kernel
theorem d_xw_law_1044 : decode xw_law.2.1 1044 = .ok (.aload_n 0, 1) := by decide +kernel
theorem d_xw_law_1045 : decode xw_law.2.1 1045 = .ok (.iload_n 3, 1) := by decide +kernel
theorem d_xw_law_1046 : decode xw_law.2.1 1046 = .ok (.iconst 1, 1) := by decide +kernel
theorem d_xw_law_1047 : decode xw_law.2.1 1047 = .ok (.iadd, 1) := by decide +kernel
theorem d_xw_law_1048 : decode xw_law.2.1 1048 = .ok (.iaload, 1) := by decide +kernel
theorem d_xw_law_1049 : decode xw_law.2.1 1049 = .ok (.aload_n 0, 1) := by decide +kernel
theorem d_xw_law_1050 : decode xw_law.2.1 1050 = .ok (.iload_n 3, 1) := by decide +kernel
theorem d_xw_law_1051 : decode xw_law.2.1 1051 = .ok (.iconst 2, 1) := by decide +kernel
theorem d_xw_law_1052 : decode xw_law.2.1 1052 = .ok (.iadd, 1) := by decide +kernel
theorem d_xw_law_1053 : decode xw_law.2.1 1053 = .ok (.iaload, 1) := by decide +kernel
theorem d_xw_law_1054 : decode xw_law.2.1 1054 = .ok (.aload_n 0, 1) := by decide +kernel
theorem d_xw_law_1055 : decode xw_law.2.1 1055 = .ok (.iload_n 3, 1) := by decide +kernel
theorem d_xw_law_1056 : decode xw_law.2.1 1056 = .ok (.iconst 3, 1) := by decide +kernel
theorem d_xw_law_1057 : decode xw_law.2.1 1057 = .ok (.iadd, 1) := by decide +kernel
theorem d_xw_law_1058 : decode xw_law.2.1 1058 = .ok (.iaload, 1) := by decide +kernel
theorem d_xw_law_1059 : decode xw_law.2.1 1059 = .ok (.invokevirtual 101, 3) := by decide +kernel
theorem d_xw_law_1062 : decode xw_law.2.1 1062 = .ok (.if_icmp .eq 746, 3) := by decide +kernel
theorem d_xw_law_1065 : decode xw_law.2.1 1065 = .ok (.iconst 0, 1) := by decide +kernel
theorem d_xw_law_1066 : decode xw_law.2.1 1066 = .ok (.ireturn, 1) := by decide +kernel
theorem d_xw_law_1067 : decode xw_law.2.1 1067 = .ok (.aload_n 1, 1) := by decide +kernel
theorem d_xw_law_1068 : decode xw_law.2.1 1068 = .ok (.aload_n 0, 1) := by decide +kernel
theorem d_xw_law_1069 : decode xw_law.2.1 1069 = .ok (.iload_n 3, 1) := by decide +kernel
theorem d_xw_law_1070 : decode xw_law.2.1 1070 = .ok (.iconst 1, 1) := by decide +kernel
theorem d_xw_law_1071 : decode xw_law.2.1 1071 = .ok (.iadd, 1) := by decide +kernel
theorem d_xw_law_1072 : decode xw_law.2.1 1072 = .ok (.iaload, 1) := by decide +kernel
theorem d_xw_law_1073 : decode xw_law.2.1 1073 = .ok (.aload_n 0, 1) := by decide +kernel
theorem d_xw_law_1074 : decode xw_law.2.1 1074 = .ok (.iload_n 3, 1) := by decide +kernel
theorem d_xw_law_1075 : decode xw_law.2.1 1075 = .ok (.iconst 2, 1) := by decide +kernel
theorem d_xw_law_1076 : decode xw_law.2.1 1076 = .ok (.iadd, 1) := by decide +kernel
theorem d_xw_law_1077 : decode xw_law.2.1 1077 = .ok (.iaload, 1) := by decide +kernel
theorem d_xw_law_1078 : decode xw_law.2.1 1078 = .ok (.invokevirtual 102, 3) := by decide +kernel
theorem d_xw_law_1081 : decode xw_law.2.1 1081 = .ok (.aload_n 2, 1) := by decide +kernel
theorem d_xw_law_1082 : decode xw_law.2.1 1082 = .ok (.aload_n 0, 1) := by decide +kernel
theorem d_xw_law_1083 : decode xw_law.2.1 1083 = .ok (.iload_n 3, 1) := by decide +kernel
theorem d_xw_law_1084 : decode xw_law.2.1 1084 = .ok (.iconst 1, 1) := by decide +kernel
theorem d_xw_law_1085 : decode xw_law.2.1 1085 = .ok (.iadd, 1) := by decide +kernel
theorem d_xw_law_1086 : decode xw_law.2.1 1086 = .ok (.iaload, 1) := by decide +kernel
theorem d_xw_law_1087 : decode xw_law.2.1 1087 = .ok (.aload_n 0, 1) := by decide +kernel
theorem d_xw_law_1088 : decode xw_law.2.1 1088 = .ok (.iload_n 3, 1) := by decide +kernel
theorem d_xw_law_1089 : decode xw_law.2.1 1089 = .ok (.iconst 2, 1) := by decide +kernel
theorem d_xw_law_1090 : decode xw_law.2.1 1090 = .ok (.iadd, 1) := by decide +kernel
theorem d_xw_law_1091 : decode xw_law.2.1 1091 = .ok (.iaload, 1) := by decide +kernel
theorem d_xw_law_1092 : decode xw_law.2.1 1092 = .ok (.invokevirtual 105, 3) := by decide +kernel
theorem d_xw_law_1095 : decode xw_law.2.1 1095 = .ok (.if_icmp .eq 713, 3) := by decide +kernel
theorem d_xw_law_1098 : decode xw_law.2.1 1098 = .ok (.iconst 0, 1) := by decide +kernel
theorem d_xw_law_1099 : decode xw_law.2.1 1099 = .ok (.ireturn, 1) := by decide +kernel
theorem d_xw_law_1100 : decode xw_law.2.1 1100 = .ok (.aload_n 1, 1) := by decide +kernel
theorem d_xw_law_1101 : decode xw_law.2.1 1101 = .ok (.aload_n 0, 1) := by decide +kernel
theorem d_xw_law_1102 : decode xw_law.2.1 1102 = .ok (.iload_n 3, 1) := by decide +kernel
theorem d_xw_law_1103 : decode xw_law.2.1 1103 = .ok (.iconst 1, 1) := by decide +kernel
theorem d_xw_law_1104 : decode xw_law.2.1 1104 = .ok (.iadd, 1) := by decide +kernel
theorem d_xw_law_1105 : decode xw_law.2.1 1105 = .ok (.iaload, 1) := by decide +kernel
theorem d_xw_law_1106 : decode xw_law.2.1 1106 = .ok (.aload_n 0, 1) := by decide +kernel
theorem d_xw_law_1107 : decode xw_law.2.1 1107 = .ok (.iload_n 3, 1) := by decide +kernel
theorem d_xw_law_1108 : decode xw_law.2.1 1108 = .ok (.iconst 2, 1) := by decide +kernel
theorem d_xw_law_1109 : decode xw_law.2.1 1109 = .ok (.iadd, 1) := by decide +kernel
theorem d_xw_law_1110 : decode xw_law.2.1 1110 = .ok (.iaload, 1) := by decide +kernel
theorem d_xw_law_1111 : decode xw_law.2.1 1111 = .ok (.invokevirtual 106, 3) := by decide +kernel
theorem d_xw_law_1114 : decode xw_law.2.1 1114 = .ok (.aload_n 2, 1) := by decide +kernel
theorem d_xw_law_1115 : decode xw_law.2.1 1115 = .ok (.aload_n 0, 1) := by decide +kernel
theorem d_xw_law_1116 : decode xw_law.2.1 1116 = .ok (.iload_n 3, 1) := by decide +kernel
theorem d_xw_law_1117 : decode xw_law.2.1 1117 = .ok (.iconst 1, 1) := by decide +kernel
theorem d_xw_law_1118 : decode xw_law.2.1 1118 = .ok (.iadd, 1) := by decide +kernel
theorem d_xw_law_1119 : decode xw_law.2.1 1119 = .ok (.iaload, 1) := by decide +kernel
theorem d_xw_law_1120 : decode xw_law.2.1 1120 = .ok (.aload_n 0, 1) := by decide +kernel
theorem d_xw_law_1121 : decode xw_law.2.1 1121 = .ok (.iload_n 3, 1) := by decide +kernel
theorem d_xw_law_1122 : decode xw_law.2.1 1122 = .ok (.iconst 2, 1) := by decide +kernel
theorem d_xw_law_1123 : decode xw_law.2.1 1123 = .ok (.iadd, 1) := by decide +kernel
theorem d_xw_law_1124 : decode xw_law.2.1 1124 = .ok (.iaload, 1) := by decide +kernel
theorem d_xw_law_1125 : decode xw_law.2.1 1125 = .ok (.invokevirtual 109, 3) := by decide +kernel
theorem d_xw_law_1128 : decode xw_law.2.1 1128 = .ok (.if_icmp .eq 680, 3) := by decide +kernel
theorem d_xw_law_1131 : decode xw_law.2.1 1131 = .ok (.iconst 0, 1) := by decide +kernel
theorem d_xw_law_1132 : decode xw_law.2.1 1132 = .ok (.ireturn, 1) := by decide +kernel
theorem d_xw_law_1133 : decode xw_law.2.1 1133 = .ok (.aload_n 1, 1) := by decide +kernel
theorem d_xw_law_1134 : decode xw_law.2.1 1134 = .ok (.invokevirtual 110, 3) := by decide +kernel
theorem d_xw_law_1137 : decode xw_law.2.1 1137 = .ok (.aload_n 2, 1) := by decide +kernel
theorem d_xw_law_1138 : decode xw_law.2.1 1138 = .ok (.invokevirtual 114, 3) := by decide +kernel
theorem d_xw_law_1141 : decode xw_law.2.1 1141 = .ok (.if_icmp .eq 667, 3) := by decide +kernel
theorem d_xw_law_1144 : decode xw_law.2.1 1144 = .ok (.iconst 0, 1) := by decide +kernel
theorem d_xw_law_1145 : decode xw_law.2.1 1145 = .ok (.ireturn, 1) := by decide +kernel
theorem d_xw_law_1146 : decode xw_law.2.1 1146 = .ok (.aload_n 1, 1) := by decide +kernel
theorem d_xw_law_1147 : decode xw_law.2.1 1147 = .ok (.aload_n 0, 1) := by decide +kernel
theorem d_xw_law_1148 : decode xw_law.2.1 1148 = .ok (.iload_n 3, 1) := by decide +kernel
theorem d_xw_law_1149 : decode xw_law.2.1 1149 = .ok (.iconst 1, 1) := by decide +kernel
theorem d_xw_law_1150 : decode xw_law.2.1 1150 = .ok (.iadd, 1) := by decide +kernel
theorem d_xw_law_1151 : decode xw_law.2.1 1151 = .ok (.iaload, 1) := by decide +kernel
theorem d_xw_law_1152 : decode xw_law.2.1 1152 = .ok (.invokevirtual 115, 3) := by decide +kernel
theorem d_xw_law_1155 : decode xw_law.2.1 1155 = .ok (.aload_n 2, 1) := by decide +kernel
theorem d_xw_law_1156 : decode xw_law.2.1 1156 = .ok (.aload_n 0, 1) := by decide +kernel
theorem d_xw_law_1157 : decode xw_law.2.1 1157 = .ok (.iload_n 3, 1) := by decide +kernel
theorem d_xw_law_1158 : decode xw_law.2.1 1158 = .ok (.iconst 1, 1) := by decide +kernel
theorem d_xw_law_1159 : decode xw_law.2.1 1159 = .ok (.iadd, 1) := by decide +kernel
theorem d_xw_law_1160 : decode xw_law.2.1 1160 = .ok (.iaload, 1) := by decide +kernel
theorem d_xw_law_1161 : decode xw_law.2.1 1161 = .ok (.invokevirtual 118, 3) := by decide +kernel
theorem d_xw_law_1164 : decode xw_law.2.1 1164 = .ok (.if_icmp .eq 644, 3) := by decide +kernel
theorem d_xw_law_1167 : decode xw_law.2.1 1167 = .ok (.iconst 0, 1) := by decide +kernel
theorem d_xw_law_1168 : decode xw_law.2.1 1168 = .ok (.ireturn, 1) := by decide +kernel
theorem d_xw_law_1169 : decode xw_law.2.1 1169 = .ok (.aload_n 1, 1) := by decide +kernel
theorem d_xw_law_1170 : decode xw_law.2.1 1170 = .ok (.aload_n 0, 1) := by decide +kernel
theorem d_xw_law_1171 : decode xw_law.2.1 1171 = .ok (.iload_n 3, 1) := by decide +kernel
theorem d_xw_law_1172 : decode xw_law.2.1 1172 = .ok (.iconst 1, 1) := by decide +kernel
theorem d_xw_law_1173 : decode xw_law.2.1 1173 = .ok (.iadd, 1) := by decide +kernel
theorem d_xw_law_1174 : decode xw_law.2.1 1174 = .ok (.iaload, 1) := by decide +kernel
theorem d_xw_law_1175 : decode xw_law.2.1 1175 = .ok (.invokevirtual 119, 3) := by decide +kernel
theorem d_xw_law_1178 : decode xw_law.2.1 1178 = .ok (.aload_n 2, 1) := by decide +kernel
theorem d_xw_law_1179 : decode xw_law.2.1 1179 = .ok (.aload_n 0, 1) := by decide +kernel
theorem d_xw_law_1180 : decode xw_law.2.1 1180 = .ok (.iload_n 3, 1) := by decide +kernel
theorem d_xw_law_1181 : decode xw_law.2.1 1181 = .ok (.iconst 1, 1) := by decide +kernel
theorem d_xw_law_1182 : decode xw_law.2.1 1182 = .ok (.iadd, 1) := by decide +kernel
theorem d_xw_law_1183 : decode xw_law.2.1 1183 = .ok (.iaload, 1) := by decide +kernel
theorem d_xw_law_1184 : decode xw_law.2.1 1184 = .ok (.invokevirtual 122, 3) := by decide +kernel
theorem d_xw_law_1187 : decode xw_law.2.1 1187 = .ok (.if_icmp .eq 621, 3) := by decide +kernel
theorem d_xw_law_1190 : decode xw_law.2.1 1190 = .ok (.iconst 0, 1) := by decide +kernel
theorem d_xw_law_1191 : decode xw_law.2.1 1191 = .ok (.ireturn, 1) := by decide +kernel
theorem d_xw_law_1192 : decode xw_law.2.1 1192 = .ok (.aload_n 1, 1) := by decide +kernel
theorem d_xw_law_1193 : decode xw_law.2.1 1193 = .ok (.aload_n 0, 1) := by decide +kernel
theorem d_xw_law_1194 : decode xw_law.2.1 1194 = .ok (.iload_n 3, 1) := by decide +kernel
theorem d_xw_law_1195 : decode xw_law.2.1 1195 = .ok (.iconst 1, 1) := by decide +kernel
theorem d_xw_law_1196 : decode xw_law.2.1 1196 = .ok (.iadd, 1) := by decide +kernel
theorem d_xw_law_1197 : decode xw_law.2.1 1197 = .ok (.iaload, 1) := by decide +kernel
theorem d_xw_law_1198 : decode xw_law.2.1 1198 = .ok (.invokevirtual 123, 3) := by decide +kernel
theorem d_xw_law_1201 : decode xw_law.2.1 1201 = .ok (.aload_n 2, 1) := by decide +kernel
theorem d_xw_law_1202 : decode xw_law.2.1 1202 = .ok (.aload_n 0, 1) := by decide +kernel
theorem d_xw_law_1203 : decode xw_law.2.1 1203 = .ok (.iload_n 3, 1) := by decide +kernel
theorem d_xw_law_1204 : decode xw_law.2.1 1204 = .ok (.iconst 1, 1) := by decide +kernel
theorem d_xw_law_1205 : decode xw_law.2.1 1205 = .ok (.iadd, 1) := by decide +kernel
theorem d_xw_law_1206 : decode xw_law.2.1 1206 = .ok (.iaload, 1) := by decide +kernel
theorem d_xw_law_1207 : decode xw_law.2.1 1207 = .ok (.invokevirtual 126, 3) := by decide +kernel
theorem d_xw_law_1210 : decode xw_law.2.1 1210 = .ok (.if_icmp .eq 598, 3) := by decide +kernel
theorem d_xw_law_1213 : decode xw_law.2.1 1213 = .ok (.iconst 0, 1) := by decide +kernel
theorem d_xw_law_1214 : decode xw_law.2.1 1214 = .ok (.ireturn, 1) := by decide +kernel
theorem d_xw_law_1215 : decode xw_law.2.1 1215 = .ok (.aload_n 1, 1) := by decide +kernel
theorem d_xw_law_1216 : decode xw_law.2.1 1216 = .ok (.aload_n 0, 1) := by decide +kernel
theorem d_xw_law_1217 : decode xw_law.2.1 1217 = .ok (.iload_n 3, 1) := by decide +kernel
theorem d_xw_law_1218 : decode xw_law.2.1 1218 = .ok (.iconst 1, 1) := by decide +kernel
theorem d_xw_law_1219 : decode xw_law.2.1 1219 = .ok (.iadd, 1) := by decide +kernel
theorem d_xw_law_1220 : decode xw_law.2.1 1220 = .ok (.iaload, 1) := by decide +kernel
theorem d_xw_law_1221 : decode xw_law.2.1 1221 = .ok (.aload_n 0, 1) := by decide +kernel
theorem d_xw_law_1222 : decode xw_law.2.1 1222 = .ok (.iload_n 3, 1) := by decide +kernel
theorem d_xw_law_1223 : decode xw_law.2.1 1223 = .ok (.iconst 2, 1) := by decide +kernel
theorem d_xw_law_1224 : decode xw_law.2.1 1224 = .ok (.iadd, 1) := by decide +kernel
theorem d_xw_law_1225 : decode xw_law.2.1 1225 = .ok (.iaload, 1) := by decide +kernel
theorem d_xw_law_1226 : decode xw_law.2.1 1226 = .ok (.invokevirtual 127, 3) := by decide +kernel
theorem d_xw_law_1229 : decode xw_law.2.1 1229 = .ok (.aload_n 2, 1) := by decide +kernel
theorem d_xw_law_1230 : decode xw_law.2.1 1230 = .ok (.aload_n 0, 1) := by decide +kernel
theorem d_xw_law_1231 : decode xw_law.2.1 1231 = .ok (.iload_n 3, 1) := by decide +kernel
theorem d_xw_law_1232 : decode xw_law.2.1 1232 = .ok (.iconst 1, 1) := by decide +kernel
theorem d_xw_law_1233 : decode xw_law.2.1 1233 = .ok (.iadd, 1) := by decide +kernel
theorem d_xw_law_1234 : decode xw_law.2.1 1234 = .ok (.iaload, 1) := by decide +kernel
theorem d_xw_law_1235 : decode xw_law.2.1 1235 = .ok (.aload_n 0, 1) := by decide +kernel
theorem d_xw_law_1236 : decode xw_law.2.1 1236 = .ok (.iload_n 3, 1) := by decide +kernel
theorem d_xw_law_1237 : decode xw_law.2.1 1237 = .ok (.iconst 2, 1) := by decide +kernel
theorem d_xw_law_1238 : decode xw_law.2.1 1238 = .ok (.iadd, 1) := by decide +kernel
theorem d_xw_law_1239 : decode xw_law.2.1 1239 = .ok (.iaload, 1) := by decide +kernel
theorem d_xw_law_1240 : decode xw_law.2.1 1240 = .ok (.invokevirtual 130, 3) := by decide +kernel
theorem d_xw_law_1243 : decode xw_law.2.1 1243 = .ok (.if_icmp .eq 565, 3) := by decide +kernel
theorem d_xw_law_1246 : decode xw_law.2.1 1246 = .ok (.iconst 0, 1) := by decide +kernel
theorem d_xw_law_1247 : decode xw_law.2.1 1247 = .ok (.ireturn, 1) := by decide +kernel
theorem d_xw_law_1248 : decode xw_law.2.1 1248 = .ok (.aload_n 1, 1) := by decide +kernel
theorem d_xw_law_1249 : decode xw_law.2.1 1249 = .ok (.aload_n 0, 1) := by decide +kernel
theorem d_xw_law_1250 : decode xw_law.2.1 1250 = .ok (.iload_n 3, 1) := by decide +kernel
theorem d_xw_law_1251 : decode xw_law.2.1 1251 = .ok (.iconst 1, 1) := by decide +kernel
theorem d_xw_law_1252 : decode xw_law.2.1 1252 = .ok (.iadd, 1) := by decide +kernel
theorem d_xw_law_1253 : decode xw_law.2.1 1253 = .ok (.iaload, 1) := by decide +kernel
theorem d_xw_law_1254 : decode xw_law.2.1 1254 = .ok (.aload_n 0, 1) := by decide +kernel
theorem d_xw_law_1255 : decode xw_law.2.1 1255 = .ok (.iload_n 3, 1) := by decide +kernel
theorem d_xw_law_1256 : decode xw_law.2.1 1256 = .ok (.iconst 2, 1) := by decide +kernel
theorem d_xw_law_1257 : decode xw_law.2.1 1257 = .ok (.iadd, 1) := by decide +kernel
theorem d_xw_law_1258 : decode xw_law.2.1 1258 = .ok (.iaload, 1) := by decide +kernel
theorem d_xw_law_1259 : decode xw_law.2.1 1259 = .ok (.invokevirtual 131, 3) := by decide +kernel
theorem d_xw_law_1262 : decode xw_law.2.1 1262 = .ok (.aload_n 2, 1) := by decide +kernel
theorem d_xw_law_1263 : decode xw_law.2.1 1263 = .ok (.aload_n 0, 1) := by decide +kernel
theorem d_xw_law_1264 : decode xw_law.2.1 1264 = .ok (.iload_n 3, 1) := by decide +kernel
theorem d_xw_law_1265 : decode xw_law.2.1 1265 = .ok (.iconst 1, 1) := by decide +kernel
theorem d_xw_law_1266 : decode xw_law.2.1 1266 = .ok (.iadd, 1) := by decide +kernel
theorem d_xw_law_1267 : decode xw_law.2.1 1267 = .ok (.iaload, 1) := by decide +kernel
theorem d_xw_law_1268 : decode xw_law.2.1 1268 = .ok (.aload_n 0, 1) := by decide +kernel
theorem d_xw_law_1269 : decode xw_law.2.1 1269 = .ok (.iload_n 3, 1) := by decide +kernel
theorem d_xw_law_1270 : decode xw_law.2.1 1270 = .ok (.iconst 2, 1) := by decide +kernel
theorem d_xw_law_1271 : decode xw_law.2.1 1271 = .ok (.iadd, 1) := by decide +kernel
theorem d_xw_law_1272 : decode xw_law.2.1 1272 = .ok (.iaload, 1) := by decide +kernel
theorem d_xw_law_1273 : decode xw_law.2.1 1273 = .ok (.invokevirtual 134, 3) := by decide +kernel
theorem d_xw_law_1276 : decode xw_law.2.1 1276 = .ok (.if_icmp .eq 532, 3) := by decide +kernel
theorem d_xw_law_1279 : decode xw_law.2.1 1279 = .ok (.iconst 0, 1) := by decide +kernel
theorem d_xw_law_1280 : decode xw_law.2.1 1280 = .ok (.ireturn, 1) := by decide +kernel
theorem d_xw_law_1281 : decode xw_law.2.1 1281 = .ok (.aload_n 1, 1) := by decide +kernel
theorem d_xw_law_1282 : decode xw_law.2.1 1282 = .ok (.aload_n 0, 1) := by decide +kernel
theorem d_xw_law_1283 : decode xw_law.2.1 1283 = .ok (.iload_n 3, 1) := by decide +kernel
theorem d_xw_law_1284 : decode xw_law.2.1 1284 = .ok (.iconst 1, 1) := by decide +kernel
theorem d_xw_law_1285 : decode xw_law.2.1 1285 = .ok (.iadd, 1) := by decide +kernel
theorem d_xw_law_1286 : decode xw_law.2.1 1286 = .ok (.iaload, 1) := by decide +kernel
theorem d_xw_law_1287 : decode xw_law.2.1 1287 = .ok (.invokevirtual 135, 3) := by decide +kernel
theorem d_xw_law_1290 : decode xw_law.2.1 1290 = .ok (.aload_n 2, 1) := by decide +kernel
theorem d_xw_law_1291 : decode xw_law.2.1 1291 = .ok (.aload_n 0, 1) := by decide +kernel
theorem d_xw_law_1292 : decode xw_law.2.1 1292 = .ok (.iload_n 3, 1) := by decide +kernel
theorem d_xw_law_1293 : decode xw_law.2.1 1293 = .ok (.iconst 1, 1) := by decide +kernel
theorem d_xw_law_1294 : decode xw_law.2.1 1294 = .ok (.iadd, 1) := by decide +kernel
theorem d_xw_law_1295 : decode xw_law.2.1 1295 = .ok (.iaload, 1) := by decide +kernel
theorem d_xw_law_1296 : decode xw_law.2.1 1296 = .ok (.invokevirtual 138, 3) := by decide +kernel
theorem d_xw_law_1299 : decode xw_law.2.1 1299 = .ok (.if_icmp .eq 509, 3) := by decide +kernel
theorem d_xw_law_1302 : decode xw_law.2.1 1302 = .ok (.iconst 0, 1) := by decide +kernel
theorem d_xw_law_1303 : decode xw_law.2.1 1303 = .ok (.ireturn, 1) := by decide +kernel
theorem d_xw_law_1304 : decode xw_law.2.1 1304 = .ok (.aload_n 1, 1) := by decide +kernel
theorem d_xw_law_1305 : decode xw_law.2.1 1305 = .ok (.aload_n 0, 1) := by decide +kernel
theorem d_xw_law_1306 : decode xw_law.2.1 1306 = .ok (.iload_n 3, 1) := by decide +kernel
theorem d_xw_law_1307 : decode xw_law.2.1 1307 = .ok (.iconst 1, 1) := by decide +kernel
theorem d_xw_law_1308 : decode xw_law.2.1 1308 = .ok (.iadd, 1) := by decide +kernel
theorem d_xw_law_1309 : decode xw_law.2.1 1309 = .ok (.iaload, 1) := by decide +kernel
theorem d_xw_law_1310 : decode xw_law.2.1 1310 = .ok (.invokevirtual 139, 3) := by decide +kernel
theorem d_xw_law_1313 : decode xw_law.2.1 1313 = .ok (.aload_n 2, 1) := by decide +kernel
theorem d_xw_law_1314 : decode xw_law.2.1 1314 = .ok (.aload_n 0, 1) := by decide +kernel
theorem d_xw_law_1315 : decode xw_law.2.1 1315 = .ok (.iload_n 3, 1) := by decide +kernel
theorem d_xw_law_1316 : decode xw_law.2.1 1316 = .ok (.iconst 1, 1) := by decide +kernel
theorem d_xw_law_1317 : decode xw_law.2.1 1317 = .ok (.iadd, 1) := by decide +kernel
theorem d_xw_law_1318 : decode xw_law.2.1 1318 = .ok (.iaload, 1) := by decide +kernel
theorem d_xw_law_1319 : decode xw_law.2.1 1319 = .ok (.invokevirtual 142, 3) := by decide +kernel
theorem d_xw_law_1322 : decode xw_law.2.1 1322 = .ok (.if_icmp .eq 486, 3) := by decide +kernel
theorem d_xw_law_1325 : decode xw_law.2.1 1325 = .ok (.iconst 0, 1) := by decide +kernel
theorem d_xw_law_1326 : decode xw_law.2.1 1326 = .ok (.ireturn, 1) := by decide +kernel
theorem d_xw_law_1327 : decode xw_law.2.1 1327 = .ok (.aload_n 1, 1) := by decide +kernel
theorem d_xw_law_1328 : decode xw_law.2.1 1328 = .ok (.aload_n 0, 1) := by decide +kernel
theorem d_xw_law_1329 : decode xw_law.2.1 1329 = .ok (.iload_n 3, 1) := by decide +kernel
theorem d_xw_law_1330 : decode xw_law.2.1 1330 = .ok (.iconst 1, 1) := by decide +kernel
theorem d_xw_law_1331 : decode xw_law.2.1 1331 = .ok (.iadd, 1) := by decide +kernel
theorem d_xw_law_1332 : decode xw_law.2.1 1332 = .ok (.iaload, 1) := by decide +kernel
theorem d_xw_law_1333 : decode xw_law.2.1 1333 = .ok (.aload_n 0, 1) := by decide +kernel
theorem d_xw_law_1334 : decode xw_law.2.1 1334 = .ok (.iload_n 3, 1) := by decide +kernel
theorem d_xw_law_1335 : decode xw_law.2.1 1335 = .ok (.iconst 2, 1) := by decide +kernel
theorem d_xw_law_1336 : decode xw_law.2.1 1336 = .ok (.iadd, 1) := by decide +kernel
theorem d_xw_law_1337 : decode xw_law.2.1 1337 = .ok (.iaload, 1) := by decide +kernel
theorem d_xw_law_1338 : decode xw_law.2.1 1338 = .ok (.invokevirtual 143, 3) := by decide +kernel
theorem d_xw_law_1341 : decode xw_law.2.1 1341 = .ok (.aload_n 2, 1) := by decide +kernel
theorem d_xw_law_1342 : decode xw_law.2.1 1342 = .ok (.aload_n 0, 1) := by decide +kernel
theorem d_xw_law_1343 : decode xw_law.2.1 1343 = .ok (.iload_n 3, 1) := by decide +kernel
theorem d_xw_law_1344 : decode xw_law.2.1 1344 = .ok (.iconst 1, 1) := by decide +kernel
theorem d_xw_law_1345 : decode xw_law.2.1 1345 = .ok (.iadd, 1) := by decide +kernel
theorem d_xw_law_1346 : decode xw_law.2.1 1346 = .ok (.iaload, 1) := by decide +kernel
theorem d_xw_law_1347 : decode xw_law.2.1 1347 = .ok (.aload_n 0, 1) := by decide +kernel
theorem d_xw_law_1348 : decode xw_law.2.1 1348 = .ok (.iload_n 3, 1) := by decide +kernel
theorem d_xw_law_1349 : decode xw_law.2.1 1349 = .ok (.iconst 2, 1) := by decide +kernel
theorem d_xw_law_1350 : decode xw_law.2.1 1350 = .ok (.iadd, 1) := by decide +kernel
theorem d_xw_law_1351 : decode xw_law.2.1 1351 = .ok (.iaload, 1) := by decide +kernel
theorem d_xw_law_1352 : decode xw_law.2.1 1352 = .ok (.invokevirtual 146, 3) := by decide +kernel
theorem d_xw_law_1355 : decode xw_law.2.1 1355 = .ok (.if_icmp .eq 453, 3) := by decide +kernel
theorem d_xw_law_1358 : decode xw_law.2.1 1358 = .ok (.iconst 0, 1) := by decide +kernel
theorem d_xw_law_1359 : decode xw_law.2.1 1359 = .ok (.ireturn, 1) := by decide +kernel
theorem d_xw_law_1360 : decode xw_law.2.1 1360 = .ok (.aload_n 1, 1) := by decide +kernel
theorem d_xw_law_1361 : decode xw_law.2.1 1361 = .ok (.aload_n 0, 1) := by decide +kernel
theorem d_xw_law_1362 : decode xw_law.2.1 1362 = .ok (.iload_n 3, 1) := by decide +kernel
theorem d_xw_law_1363 : decode xw_law.2.1 1363 = .ok (.iconst 1, 1) := by decide +kernel
theorem d_xw_law_1364 : decode xw_law.2.1 1364 = .ok (.iadd, 1) := by decide +kernel
theorem d_xw_law_1365 : decode xw_law.2.1 1365 = .ok (.iaload, 1) := by decide +kernel
theorem d_xw_law_1366 : decode xw_law.2.1 1366 = .ok (.invokevirtual 147, 3) := by decide +kernel
theorem d_xw_law_1369 : decode xw_law.2.1 1369 = .ok (.aload_n 2, 1) := by decide +kernel
theorem d_xw_law_1370 : decode xw_law.2.1 1370 = .ok (.aload_n 0, 1) := by decide +kernel
theorem d_xw_law_1371 : decode xw_law.2.1 1371 = .ok (.iload_n 3, 1) := by decide +kernel
theorem d_xw_law_1372 : decode xw_law.2.1 1372 = .ok (.iconst 1, 1) := by decide +kernel
theorem d_xw_law_1373 : decode xw_law.2.1 1373 = .ok (.iadd, 1) := by decide +kernel
theorem d_xw_law_1374 : decode xw_law.2.1 1374 = .ok (.iaload, 1) := by decide +kernel
theorem d_xw_law_1375 : decode xw_law.2.1 1375 = .ok (.invokevirtual 150, 3) := by decide +kernel
theorem d_xw_law_1378 : decode xw_law.2.1 1378 = .ok (.if_icmp .eq 430, 3) := by decide +kernel
theorem d_xw_law_1381 : decode xw_law.2.1 1381 = .ok (.iconst 0, 1) := by decide +kernel
theorem d_xw_law_1382 : decode xw_law.2.1 1382 = .ok (.ireturn, 1) := by decide +kernel
theorem d_xw_law_1383 : decode xw_law.2.1 1383 = .ok (.aload_n 1, 1) := by decide +kernel
theorem d_xw_law_1384 : decode xw_law.2.1 1384 = .ok (.aload_n 0, 1) := by decide +kernel
theorem d_xw_law_1385 : decode xw_law.2.1 1385 = .ok (.iload_n 3, 1) := by decide +kernel
theorem d_xw_law_1386 : decode xw_law.2.1 1386 = .ok (.iconst 1, 1) := by decide +kernel
theorem d_xw_law_1387 : decode xw_law.2.1 1387 = .ok (.iadd, 1) := by decide +kernel
theorem d_xw_law_1388 : decode xw_law.2.1 1388 = .ok (.iaload, 1) := by decide +kernel
theorem d_xw_law_1389 : decode xw_law.2.1 1389 = .ok (.aload_n 0, 1) := by decide +kernel
theorem d_xw_law_1390 : decode xw_law.2.1 1390 = .ok (.iload_n 3, 1) := by decide +kernel
theorem d_xw_law_1391 : decode xw_law.2.1 1391 = .ok (.iconst 2, 1) := by decide +kernel
theorem d_xw_law_1392 : decode xw_law.2.1 1392 = .ok (.iadd, 1) := by decide +kernel
theorem d_xw_law_1393 : decode xw_law.2.1 1393 = .ok (.iaload, 1) := by decide +kernel
theorem d_xw_law_1394 : decode xw_law.2.1 1394 = .ok (.invokevirtual 151, 3) := by decide +kernel
theorem d_xw_law_1397 : decode xw_law.2.1 1397 = .ok (.aload_n 2, 1) := by decide +kernel
theorem d_xw_law_1398 : decode xw_law.2.1 1398 = .ok (.aload_n 0, 1) := by decide +kernel
theorem d_xw_law_1399 : decode xw_law.2.1 1399 = .ok (.iload_n 3, 1) := by decide +kernel
theorem d_xw_law_1400 : decode xw_law.2.1 1400 = .ok (.iconst 1, 1) := by decide +kernel
theorem d_xw_law_1401 : decode xw_law.2.1 1401 = .ok (.iadd, 1) := by decide +kernel
theorem d_xw_law_1402 : decode xw_law.2.1 1402 = .ok (.iaload, 1) := by decide +kernel
theorem d_xw_law_1403 : decode xw_law.2.1 1403 = .ok (.aload_n 0, 1) := by decide +kernel
theorem d_xw_law_1404 : decode xw_law.2.1 1404 = .ok (.iload_n 3, 1) := by decide +kernel
theorem d_xw_law_1405 : decode xw_law.2.1 1405 = .ok (.iconst 2, 1) := by decide +kernel
theorem d_xw_law_1406 : decode xw_law.2.1 1406 = .ok (.iadd, 1) := by decide +kernel
theorem d_xw_law_1407 : decode xw_law.2.1 1407 = .ok (.iaload, 1) := by decide +kernel
theorem d_xw_law_1408 : decode xw_law.2.1 1408 = .ok (.invokevirtual 154, 3) := by decide +kernel
theorem d_xw_law_1411 : decode xw_law.2.1 1411 = .ok (.if_icmp .eq 397, 3) := by decide +kernel
theorem d_xw_law_1414 : decode xw_law.2.1 1414 = .ok (.iconst 0, 1) := by decide +kernel
theorem d_xw_law_1415 : decode xw_law.2.1 1415 = .ok (.ireturn, 1) := by decide +kernel
theorem d_xw_law_1416 : decode xw_law.2.1 1416 = .ok (.aload_n 1, 1) := by decide +kernel
theorem d_xw_law_1417 : decode xw_law.2.1 1417 = .ok (.invokevirtual 155, 3) := by decide +kernel
theorem d_xw_law_1420 : decode xw_law.2.1 1420 = .ok (.aload_n 2, 1) := by decide +kernel
theorem d_xw_law_1421 : decode xw_law.2.1 1421 = .ok (.invokevirtual 158, 3) := by decide +kernel
theorem d_xw_law_1424 : decode xw_law.2.1 1424 = .ok (.if_icmp .eq 384, 3) := by decide +kernel
theorem d_xw_law_1427 : decode xw_law.2.1 1427 = .ok (.iconst 0, 1) := by decide +kernel
theorem d_xw_law_1428 : decode xw_law.2.1 1428 = .ok (.ireturn, 1) := by decide +kernel
theorem d_xw_law_1429 : decode xw_law.2.1 1429 = .ok (.aload_n 1, 1) := by decide +kernel
theorem d_xw_law_1430 : decode xw_law.2.1 1430 = .ok (.invokevirtual 159, 3) := by decide +kernel
theorem d_xw_law_1433 : decode xw_law.2.1 1433 = .ok (.aload_n 2, 1) := by decide +kernel
theorem d_xw_law_1434 : decode xw_law.2.1 1434 = .ok (.invokevirtual 162, 3) := by decide +kernel
theorem d_xw_law_1437 : decode xw_law.2.1 1437 = .ok (.if_icmp .eq 371, 3) := by decide +kernel
theorem d_xw_law_1440 : decode xw_law.2.1 1440 = .ok (.iconst 0, 1) := by decide +kernel
theorem d_xw_law_1441 : decode xw_law.2.1 1441 = .ok (.ireturn, 1) := by decide +kernel
theorem d_xw_law_1442 : decode xw_law.2.1 1442 = .ok (.aload_n 1, 1) := by decide +kernel
theorem d_xw_law_1443 : decode xw_law.2.1 1443 = .ok (.aload_n 0, 1) := by decide +kernel
theorem d_xw_law_1444 : decode xw_law.2.1 1444 = .ok (.iload_n 3, 1) := by decide +kernel
theorem d_xw_law_1445 : decode xw_law.2.1 1445 = .ok (.iconst 1, 1) := by decide +kernel
theorem d_xw_law_1446 : decode xw_law.2.1 1446 = .ok (.iadd, 1) := by decide +kernel
theorem d_xw_law_1447 : decode xw_law.2.1 1447 = .ok (.iaload, 1) := by decide +kernel
theorem d_xw_law_1448 : decode xw_law.2.1 1448 = .ok (.aload_n 0, 1) := by decide +kernel
theorem d_xw_law_1449 : decode xw_law.2.1 1449 = .ok (.iload_n 3, 1) := by decide +kernel
theorem d_xw_law_1450 : decode xw_law.2.1 1450 = .ok (.iconst 2, 1) := by decide +kernel
theorem d_xw_law_1451 : decode xw_law.2.1 1451 = .ok (.iadd, 1) := by decide +kernel
theorem d_xw_law_1452 : decode xw_law.2.1 1452 = .ok (.iaload, 1) := by decide +kernel
theorem d_xw_law_1453 : decode xw_law.2.1 1453 = .ok (.invokevirtual 163, 3) := by decide +kernel
theorem d_xw_law_1456 : decode xw_law.2.1 1456 = .ok (.aload_n 2, 1) := by decide +kernel
theorem d_xw_law_1457 : decode xw_law.2.1 1457 = .ok (.aload_n 0, 1) := by decide +kernel
theorem d_xw_law_1458 : decode xw_law.2.1 1458 = .ok (.iload_n 3, 1) := by decide +kernel
theorem d_xw_law_1459 : decode xw_law.2.1 1459 = .ok (.iconst 1, 1) := by decide +kernel
theorem d_xw_law_1460 : decode xw_law.2.1 1460 = .ok (.iadd, 1) := by decide +kernel
theorem d_xw_law_1461 : decode xw_law.2.1 1461 = .ok (.iaload, 1) := by decide +kernel
theorem d_xw_law_1462 : decode xw_law.2.1 1462 = .ok (.aload_n 0, 1) := by decide +kernel
theorem d_xw_law_1463 : decode xw_law.2.1 1463 = .ok (.iload_n 3, 1) := by decide +kernel
theorem d_xw_law_1464 : decode xw_law.2.1 1464 = .ok (.iconst 2, 1) := by decide +kernel
theorem d_xw_law_1465 : decode xw_law.2.1 1465 = .ok (.iadd, 1) := by decide +kernel
theorem d_xw_law_1466 : decode xw_law.2.1 1466 = .ok (.iaload, 1) := by decide +kernel
theorem d_xw_law_1467 : decode xw_law.2.1 1467 = .ok (.invokevirtual 166, 3) := by decide +kernel
theorem d_xw_law_1470 : decode xw_law.2.1 1470 = .ok (.if_icmp .eq 338, 3) := by decide +kernel
theorem d_xw_law_1473 : decode xw_law.2.1 1473 = .ok (.iconst 0, 1) := by decide +kernel
theorem d_xw_law_1474 : decode xw_law.2.1 1474 = .ok (.ireturn, 1) := by decide +kernel
theorem d_xw_law_1475 : decode xw_law.2.1 1475 = .ok (.aload_n 1, 1) := by decide +kernel
theorem d_xw_law_1476 : decode xw_law.2.1 1476 = .ok (.aload_n 0, 1) := by decide +kernel
theorem d_xw_law_1477 : decode xw_law.2.1 1477 = .ok (.iload_n 3, 1) := by decide +kernel
theorem d_xw_law_1478 : decode xw_law.2.1 1478 = .ok (.iconst 1, 1) := by decide +kernel
theorem d_xw_law_1479 : decode xw_law.2.1 1479 = .ok (.iadd, 1) := by decide +kernel
theorem d_xw_law_1480 : decode xw_law.2.1 1480 = .ok (.iaload, 1) := by decide +kernel
theorem d_xw_law_1481 : decode xw_law.2.1 1481 = .ok (.aload_n 0, 1) := by decide +kernel
theorem d_xw_law_1482 : decode xw_law.2.1 1482 = .ok (.iload_n 3, 1) := by decide +kernel
theorem d_xw_law_1483 : decode xw_law.2.1 1483 = .ok (.iconst 2, 1) := by decide +kernel
theorem d_xw_law_1484 : decode xw_law.2.1 1484 = .ok (.iadd, 1) := by decide +kernel
theorem d_xw_law_1485 : decode xw_law.2.1 1485 = .ok (.iaload, 1) := by decide +kernel
theorem d_xw_law_1486 : decode xw_law.2.1 1486 = .ok (.invokevirtual 167, 3) := by decide +kernel
theorem d_xw_law_1489 : decode xw_law.2.1 1489 = .ok (.aload_n 2, 1) := by decide +kernel
theorem d_xw_law_1490 : decode xw_law.2.1 1490 = .ok (.aload_n 0, 1) := by decide +kernel
theorem d_xw_law_1491 : decode xw_law.2.1 1491 = .ok (.iload_n 3, 1) := by decide +kernel
theorem d_xw_law_1492 : decode xw_law.2.1 1492 = .ok (.iconst 1, 1) := by decide +kernel
theorem d_xw_law_1493 : decode xw_law.2.1 1493 = .ok (.iadd, 1) := by decide +kernel
theorem d_xw_law_1494 : decode xw_law.2.1 1494 = .ok (.iaload, 1) := by decide +kernel
theorem d_xw_law_1495 : decode xw_law.2.1 1495 = .ok (.aload_n 0, 1) := by decide +kernel
theorem d_xw_law_1496 : decode xw_law.2.1 1496 = .ok (.iload_n 3, 1) := by decide +kernel
theorem d_xw_law_1497 : decode xw_law.2.1 1497 = .ok (.iconst 2, 1) := by decide +kernel
theorem d_xw_law_1498 : decode xw_law.2.1 1498 = .ok (.iadd, 1) := by decide +kernel
theorem d_xw_law_1499 : decode xw_law.2.1 1499 = .ok (.iaload, 1) := by decide +kernel
theorem d_xw_law_1500 : decode xw_law.2.1 1500 = .ok (.invokevirtual 170, 3) := by decide +kernel
theorem d_xw_law_1503 : decode xw_law.2.1 1503 = .ok (.if_icmp .eq 305, 3) := by decide +kernel
theorem d_xw_law_1506 : decode xw_law.2.1 1506 = .ok (.iconst 0, 1) := by decide +kernel
theorem d_xw_law_1507 : decode xw_law.2.1 1507 = .ok (.ireturn, 1) := by decide +kernel
theorem d_xw_law_1508 : decode xw_law.2.1 1508 = .ok (.aload_n 1, 1) := by decide +kernel
theorem d_xw_law_1509 : decode xw_law.2.1 1509 = .ok (.aload_n 0, 1) := by decide +kernel
theorem d_xw_law_1510 : decode xw_law.2.1 1510 = .ok (.iload_n 3, 1) := by decide +kernel
theorem d_xw_law_1511 : decode xw_law.2.1 1511 = .ok (.iconst 1, 1) := by decide +kernel
theorem d_xw_law_1512 : decode xw_law.2.1 1512 = .ok (.iadd, 1) := by decide +kernel
theorem d_xw_law_1513 : decode xw_law.2.1 1513 = .ok (.iaload, 1) := by decide +kernel
theorem d_xw_law_1514 : decode xw_law.2.1 1514 = .ok (.aload_n 0, 1) := by decide +kernel
theorem d_xw_law_1515 : decode xw_law.2.1 1515 = .ok (.iload_n 3, 1) := by decide +kernel
theorem d_xw_law_1516 : decode xw_law.2.1 1516 = .ok (.iconst 2, 1) := by decide +kernel
theorem d_xw_law_1517 : decode xw_law.2.1 1517 = .ok (.iadd, 1) := by decide +kernel
theorem d_xw_law_1518 : decode xw_law.2.1 1518 = .ok (.iaload, 1) := by decide +kernel
theorem d_xw_law_1519 : decode xw_law.2.1 1519 = .ok (.aload_n 0, 1) := by decide +kernel
theorem d_xw_law_1520 : decode xw_law.2.1 1520 = .ok (.iload_n 3, 1) := by decide +kernel
theorem d_xw_law_1521 : decode xw_law.2.1 1521 = .ok (.iconst 3, 1) := by decide +kernel
theorem d_xw_law_1522 : decode xw_law.2.1 1522 = .ok (.iadd, 1) := by decide +kernel
theorem d_xw_law_1523 : decode xw_law.2.1 1523 = .ok (.iaload, 1) := by decide +kernel
theorem d_xw_law_1524 : decode xw_law.2.1 1524 = .ok (.invokevirtual 171, 3) := by decide +kernel
theorem d_xw_law_1527 : decode xw_law.2.1 1527 = .ok (.aload_n 2, 1) := by decide +kernel
theorem d_xw_law_1528 : decode xw_law.2.1 1528 = .ok (.aload_n 0, 1) := by decide +kernel
theorem d_xw_law_1529 : decode xw_law.2.1 1529 = .ok (.iload_n 3, 1) := by decide +kernel
theorem d_xw_law_1530 : decode xw_law.2.1 1530 = .ok (.iconst 1, 1) := by decide +kernel
theorem d_xw_law_1531 : decode xw_law.2.1 1531 = .ok (.iadd, 1) := by decide +kernel
theorem d_xw_law_1532 : decode xw_law.2.1 1532 = .ok (.iaload, 1) := by decide +kernel
theorem d_xw_law_1533 : decode xw_law.2.1 1533 = .ok (.aload_n 0, 1) := by decide +kernel
theorem d_xw_law_1534 : decode xw_law.2.1 1534 = .ok (.iload_n 3, 1) := by decide +kernel
theorem d_xw_law_1535 : decode xw_law.2.1 1535 = .ok (.iconst 2, 1) := by decide +kernel
theorem d_xw_law_1536 : decode xw_law.2.1 1536 = .ok (.iadd, 1) := by decide +kernel
theorem d_xw_law_1537 : decode xw_law.2.1 1537 = .ok (.iaload, 1) := by decide +kernel
theorem d_xw_law_1538 : decode xw_law.2.1 1538 = .ok (.aload_n 0, 1) := by decide +kernel
theorem d_xw_law_1539 : decode xw_law.2.1 1539 = .ok (.iload_n 3, 1) := by decide +kernel
theorem d_xw_law_1540 : decode xw_law.2.1 1540 = .ok (.iconst 3, 1) := by decide +kernel
theorem d_xw_law_1541 : decode xw_law.2.1 1541 = .ok (.iadd, 1) := by decide +kernel
theorem d_xw_law_1542 : decode xw_law.2.1 1542 = .ok (.iaload, 1) := by decide +kernel
theorem d_xw_law_1543 : decode xw_law.2.1 1543 = .ok (.invokevirtual 174, 3) := by decide +kernel
theorem d_xw_law_1546 : decode xw_law.2.1 1546 = .ok (.if_icmp .eq 262, 3) := by decide +kernel
theorem d_xw_law_1549 : decode xw_law.2.1 1549 = .ok (.iconst 0, 1) := by decide +kernel
theorem d_xw_law_1550 : decode xw_law.2.1 1550 = .ok (.ireturn, 1) := by decide +kernel
theorem d_xw_law_1551 : decode xw_law.2.1 1551 = .ok (.aload_n 1, 1) := by decide +kernel
theorem d_xw_law_1552 : decode xw_law.2.1 1552 = .ok (.aload_n 0, 1) := by decide +kernel
theorem d_xw_law_1553 : decode xw_law.2.1 1553 = .ok (.iload_n 3, 1) := by decide +kernel
theorem d_xw_law_1554 : decode xw_law.2.1 1554 = .ok (.iconst 1, 1) := by decide +kernel
theorem d_xw_law_1555 : decode xw_law.2.1 1555 = .ok (.iadd, 1) := by decide +kernel
theorem d_xw_law_1556 : decode xw_law.2.1 1556 = .ok (.iaload, 1) := by decide +kernel
theorem d_xw_law_1557 : decode xw_law.2.1 1557 = .ok (.aload_n 0, 1) := by decide +kernel
theorem d_xw_law_1558 : decode xw_law.2.1 1558 = .ok (.iload_n 3, 1) := by decide +kernel
theorem d_xw_law_1559 : decode xw_law.2.1 1559 = .ok (.iconst 2, 1) := by decide +kernel
theorem d_xw_law_1560 : decode xw_law.2.1 1560 = .ok (.iadd, 1) := by decide +kernel
theorem d_xw_law_1561 : decode xw_law.2.1 1561 = .ok (.iaload, 1) := by decide +kernel
theorem d_xw_law_1562 : decode xw_law.2.1 1562 = .ok (.aload_n 0, 1) := by decide +kernel
theorem d_xw_law_1563 : decode xw_law.2.1 1563 = .ok (.iload_n 3, 1) := by decide +kernel
theorem d_xw_law_1564 : decode xw_law.2.1 1564 = .ok (.iconst 3, 1) := by decide +kernel
theorem d_xw_law_1565 : decode xw_law.2.1 1565 = .ok (.iadd, 1) := by decide +kernel
theorem d_xw_law_1566 : decode xw_law.2.1 1566 = .ok (.iaload, 1) := by decide +kernel
theorem d_xw_law_1567 : decode xw_law.2.1 1567 = .ok (.invokevirtual 175, 3) := by decide +kernel
theorem d_xw_law_1570 : decode xw_law.2.1 1570 = .ok (.aload_n 2, 1) := by decide +kernel
theorem d_xw_law_1571 : decode xw_law.2.1 1571 = .ok (.aload_n 0, 1) := by decide +kernel
theorem d_xw_law_1572 : decode xw_law.2.1 1572 = .ok (.iload_n 3, 1) := by decide +kernel
theorem d_xw_law_1573 : decode xw_law.2.1 1573 = .ok (.iconst 1, 1) := by decide +kernel
theorem d_xw_law_1574 : decode xw_law.2.1 1574 = .ok (.iadd, 1) := by decide +kernel
theorem d_xw_law_1575 : decode xw_law.2.1 1575 = .ok (.iaload, 1) := by decide +kernel
theorem d_xw_law_1576 : decode xw_law.2.1 1576 = .ok (.aload_n 0, 1) := by decide +kernel
theorem d_xw_law_1577 : decode xw_law.2.1 1577 = .ok (.iload_n 3, 1) := by decide +kernel
theorem d_xw_law_1578 : decode xw_law.2.1 1578 = .ok (.iconst 2, 1) := by decide +kernel
theorem d_xw_law_1579 : decode xw_law.2.1 1579 = .ok (.iadd, 1) := by decide +kernel
theorem d_xw_law_1580 : decode xw_law.2.1 1580 = .ok (.iaload, 1) := by decide +kernel
theorem d_xw_law_1581 : decode xw_law.2.1 1581 = .ok (.aload_n 0, 1) := by decide +kernel
theorem d_xw_law_1582 : decode xw_law.2.1 1582 = .ok (.iload_n 3, 1) := by decide +kernel
theorem d_xw_law_1583 : decode xw_law.2.1 1583 = .ok (.iconst 3, 1) := by decide +kernel
theorem d_xw_law_1584 : decode xw_law.2.1 1584 = .ok (.iadd, 1) := by decide +kernel
theorem d_xw_law_1585 : decode xw_law.2.1 1585 = .ok (.iaload, 1) := by decide +kernel
theorem d_xw_law_1586 : decode xw_law.2.1 1586 = .ok (.invokevirtual 178, 3) := by decide +kernel
theorem d_xw_law_1589 : decode xw_law.2.1 1589 = .ok (.if_icmp .eq 219, 3) := by decide +kernel
theorem d_xw_law_1592 : decode xw_law.2.1 1592 = .ok (.iconst 0, 1) := by decide +kernel
theorem d_xw_law_1593 : decode xw_law.2.1 1593 = .ok (.ireturn, 1) := by decide +kernel
theorem d_xw_law_1594 : decode xw_law.2.1 1594 = .ok (.aload_n 1, 1) := by decide +kernel
theorem d_xw_law_1595 : decode xw_law.2.1 1595 = .ok (.aload_n 0, 1) := by decide +kernel
theorem d_xw_law_1596 : decode xw_law.2.1 1596 = .ok (.iload_n 3, 1) := by decide +kernel
theorem d_xw_law_1597 : decode xw_law.2.1 1597 = .ok (.iconst 1, 1) := by decide +kernel
theorem d_xw_law_1598 : decode xw_law.2.1 1598 = .ok (.iadd, 1) := by decide +kernel
theorem d_xw_law_1599 : decode xw_law.2.1 1599 = .ok (.iaload, 1) := by decide +kernel
theorem d_xw_law_1600 : decode xw_law.2.1 1600 = .ok (.aload_n 0, 1) := by decide +kernel
theorem d_xw_law_1601 : decode xw_law.2.1 1601 = .ok (.iload_n 3, 1) := by decide +kernel
theorem d_xw_law_1602 : decode xw_law.2.1 1602 = .ok (.iconst 2, 1) := by decide +kernel
theorem d_xw_law_1603 : decode xw_law.2.1 1603 = .ok (.iadd, 1) := by decide +kernel
theorem d_xw_law_1604 : decode xw_law.2.1 1604 = .ok (.iaload, 1) := by decide +kernel
theorem d_xw_law_1605 : decode xw_law.2.1 1605 = .ok (.aload_n 0, 1) := by decide +kernel
theorem d_xw_law_1606 : decode xw_law.2.1 1606 = .ok (.iload_n 3, 1) := by decide +kernel
theorem d_xw_law_1607 : decode xw_law.2.1 1607 = .ok (.iconst 3, 1) := by decide +kernel
theorem d_xw_law_1608 : decode xw_law.2.1 1608 = .ok (.iadd, 1) := by decide +kernel
theorem d_xw_law_1609 : decode xw_law.2.1 1609 = .ok (.iaload, 1) := by decide +kernel
theorem d_xw_law_1610 : decode xw_law.2.1 1610 = .ok (.aload_n 0, 1) := by decide +kernel
theorem d_xw_law_1611 : decode xw_law.2.1 1611 = .ok (.iload_n 3, 1) := by decide +kernel
theorem d_xw_law_1612 : decode xw_law.2.1 1612 = .ok (.iconst 4, 1) := by decide +kernel
theorem d_xw_law_1613 : decode xw_law.2.1 1613 = .ok (.iadd, 1) := by decide +kernel
theorem d_xw_law_1614 : decode xw_law.2.1 1614 = .ok (.iaload, 1) := by decide +kernel
theorem d_xw_law_1615 : decode xw_law.2.1 1615 = .ok (.aload_n 0, 1) := by decide +kernel
theorem d_xw_law_1616 : decode xw_law.2.1 1616 = .ok (.iload_n 3, 1) := by decide +kernel
theorem d_xw_law_1617 : decode xw_law.2.1 1617 = .ok (.iconst 5, 1) := by decide +kernel
theorem d_xw_law_1618 : decode xw_law.2.1 1618 = .ok (.iadd, 1) := by decide +kernel
theorem d_xw_law_1619 : decode xw_law.2.1 1619 = .ok (.iaload, 1) := by decide +kernel
theorem d_xw_law_1620 : decode xw_law.2.1 1620 = .ok (.invokevirtual 179, 3) := by decide +kernel
theorem d_xw_law_1623 : decode xw_law.2.1 1623 = .ok (.aload_n 2, 1) := by decide +kernel
theorem d_xw_law_1624 : decode xw_law.2.1 1624 = .ok (.aload_n 0, 1) := by decide +kernel
theorem d_xw_law_1625 : decode xw_law.2.1 1625 = .ok (.iload_n 3, 1) := by decide +kernel
theorem d_xw_law_1626 : decode xw_law.2.1 1626 = .ok (.iconst 1, 1) := by decide +kernel
theorem d_xw_law_1627 : decode xw_law.2.1 1627 = .ok (.iadd, 1) := by decide +kernel
theorem d_xw_law_1628 : decode xw_law.2.1 1628 = .ok (.iaload, 1) := by decide +kernel
theorem d_xw_law_1629 : decode xw_law.2.1 1629 = .ok (.aload_n 0, 1) := by decide +kernel
theorem d_xw_law_1630 : decode xw_law.2.1 1630 = .ok (.iload_n 3, 1) := by decide +kernel
theorem d_xw_law_1631 : decode xw_law.2.1 1631 = .ok (.iconst 2, 1) := by decide +kernel
theorem d_xw_law_1632 : decode xw_law.2.1 1632 = .ok (.iadd, 1) := by decide +kernel
theorem d_xw_law_1633 : decode xw_law.2.1 1633 = .ok (.iaload, 1) := by decide +kernel
theorem d_xw_law_1634 : decode xw_law.2.1 1634 = .ok (.aload_n 0, 1) := by decide +kernel
theorem d_xw_law_1635 : decode xw_law.2.1 1635 = .ok (.iload_n 3, 1) := by decide +kernel
theorem d_xw_law_1636 : decode xw_law.2.1 1636 = .ok (.iconst 3, 1) := by decide +kernel
theorem d_xw_law_1637 : decode xw_law.2.1 1637 = .ok (.iadd, 1) := by decide +kernel
theorem d_xw_law_1638 : decode xw_law.2.1 1638 = .ok (.iaload, 1) := by decide +kernel
theorem d_xw_law_1639 : decode xw_law.2.1 1639 = .ok (.aload_n 0, 1) := by decide +kernel
theorem d_xw_law_1640 : decode xw_law.2.1 1640 = .ok (.iload_n 3, 1) := by decide +kernel
theorem d_xw_law_1641 : decode xw_law.2.1 1641 = .ok (.iconst 4, 1) := by decide +kernel
theorem d_xw_law_1642 : decode xw_law.2.1 1642 = .ok (.iadd, 1) := by decide +kernel
theorem d_xw_law_1643 : decode xw_law.2.1 1643 = .ok (.iaload, 1) := by decide +kernel
theorem d_xw_law_1644 : decode xw_law.2.1 1644 = .ok (.aload_n 0, 1) := by decide +kernel
theorem d_xw_law_1645 : decode xw_law.2.1 1645 = .ok (.iload_n 3, 1) := by decide +kernel
theorem d_xw_law_1646 : decode xw_law.2.1 1646 = .ok (.iconst 5, 1) := by decide +kernel
theorem d_xw_law_1647 : decode xw_law.2.1 1647 = .ok (.iadd, 1) := by decide +kernel
theorem d_xw_law_1648 : decode xw_law.2.1 1648 = .ok (.iaload, 1) := by decide +kernel
theorem d_xw_law_1649 : decode xw_law.2.1 1649 = .ok (.invokevirtual 183, 3) := by decide +kernel
theorem d_xw_law_1652 : decode xw_law.2.1 1652 = .ok (.if_icmp .eq 156, 3) := by decide +kernel
theorem d_xw_law_1655 : decode xw_law.2.1 1655 = .ok (.iconst 0, 1) := by decide +kernel
theorem d_xw_law_1656 : decode xw_law.2.1 1656 = .ok (.ireturn, 1) := by decide +kernel
theorem d_xw_law_1657 : decode xw_law.2.1 1657 = .ok (.aload_n 1, 1) := by decide +kernel
theorem d_xw_law_1658 : decode xw_law.2.1 1658 = .ok (.aload_n 0, 1) := by decide +kernel
theorem d_xw_law_1659 : decode xw_law.2.1 1659 = .ok (.iload_n 3, 1) := by decide +kernel
theorem d_xw_law_1660 : decode xw_law.2.1 1660 = .ok (.iconst 1, 1) := by decide +kernel
theorem d_xw_law_1661 : decode xw_law.2.1 1661 = .ok (.iadd, 1) := by decide +kernel
theorem d_xw_law_1662 : decode xw_law.2.1 1662 = .ok (.iaload, 1) := by decide +kernel
theorem d_xw_law_1663 : decode xw_law.2.1 1663 = .ok (.aload_n 0, 1) := by decide +kernel
theorem d_xw_law_1664 : decode xw_law.2.1 1664 = .ok (.iload_n 3, 1) := by decide +kernel
theorem d_xw_law_1665 : decode xw_law.2.1 1665 = .ok (.iconst 2, 1) := by decide +kernel
theorem d_xw_law_1666 : decode xw_law.2.1 1666 = .ok (.iadd, 1) := by decide +kernel
theorem d_xw_law_1667 : decode xw_law.2.1 1667 = .ok (.iaload, 1) := by decide +kernel
theorem d_xw_law_1668 : decode xw_law.2.1 1668 = .ok (.invokevirtual 184, 3) := by decide +kernel
theorem d_xw_law_1671 : decode xw_law.2.1 1671 = .ok (.aload_n 2, 1) := by decide +kernel
theorem d_xw_law_1672 : decode xw_law.2.1 1672 = .ok (.aload_n 0, 1) := by decide +kernel
theorem d_xw_law_1673 : decode xw_law.2.1 1673 = .ok (.iload_n 3, 1) := by decide +kernel
theorem d_xw_law_1674 : decode xw_law.2.1 1674 = .ok (.iconst 1, 1) := by decide +kernel
theorem d_xw_law_1675 : decode xw_law.2.1 1675 = .ok (.iadd, 1) := by decide +kernel
theorem d_xw_law_1676 : decode xw_law.2.1 1676 = .ok (.iaload, 1) := by decide +kernel
theorem d_xw_law_1677 : decode xw_law.2.1 1677 = .ok (.aload_n 0, 1) := by decide +kernel
theorem d_xw_law_1678 : decode xw_law.2.1 1678 = .ok (.iload_n 3, 1) := by decide +kernel
theorem d_xw_law_1679 : decode xw_law.2.1 1679 = .ok (.iconst 2, 1) := by decide +kernel
theorem d_xw_law_1680 : decode xw_law.2.1 1680 = .ok (.iadd, 1) := by decide +kernel
theorem d_xw_law_1681 : decode xw_law.2.1 1681 = .ok (.iaload, 1) := by decide +kernel
theorem d_xw_law_1682 : decode xw_law.2.1 1682 = .ok (.invokevirtual 187, 3) := by decide +kernel
theorem d_xw_law_1685 : decode xw_law.2.1 1685 = .ok (.if_icmp .eq 123, 3) := by decide +kernel
theorem d_xw_law_1688 : decode xw_law.2.1 1688 = .ok (.iconst 0, 1) := by decide +kernel
theorem d_xw_law_1689 : decode xw_law.2.1 1689 = .ok (.ireturn, 1) := by decide +kernel
theorem d_xw_law_1690 : decode xw_law.2.1 1690 = .ok (.aload_n 1, 1) := by decide +kernel
theorem d_xw_law_1691 : decode xw_law.2.1 1691 = .ok (.aload_n 0, 1) := by decide +kernel
theorem d_xw_law_1692 : decode xw_law.2.1 1692 = .ok (.iload_n 3, 1) := by decide +kernel
theorem d_xw_law_1693 : decode xw_law.2.1 1693 = .ok (.iconst 1, 1) := by decide +kernel
theorem d_xw_law_1694 : decode xw_law.2.1 1694 = .ok (.iadd, 1) := by decide +kernel
theorem d_xw_law_1695 : decode xw_law.2.1 1695 = .ok (.iaload, 1) := by decide +kernel
theorem d_xw_law_1696 : decode xw_law.2.1 1696 = .ok (.aload_n 0, 1) := by decide +kernel
theorem d_xw_law_1697 : decode xw_law.2.1 1697 = .ok (.iload_n 3, 1) := by decide +kernel
theorem d_xw_law_1698 : decode xw_law.2.1 1698 = .ok (.iconst 2, 1) := by decide +kernel
theorem d_xw_law_1699 : decode xw_law.2.1 1699 = .ok (.iadd, 1) := by decide +kernel
theorem d_xw_law_1700 : decode xw_law.2.1 1700 = .ok (.iaload, 1) := by decide +kernel
theorem d_xw_law_1701 : decode xw_law.2.1 1701 = .ok (.invokevirtual 188, 3) := by decide +kernel
theorem d_xw_law_1704 : decode xw_law.2.1 1704 = .ok (.aload_n 2, 1) := by decide +kernel
theorem d_xw_law_1705 : decode xw_law.2.1 1705 = .ok (.aload_n 0, 1) := by decide +kernel
theorem d_xw_law_1706 : decode xw_law.2.1 1706 = .ok (.iload_n 3, 1) := by decide +kernel
theorem d_xw_law_1707 : decode xw_law.2.1 1707 = .ok (.iconst 1, 1) := by decide +kernel
theorem d_xw_law_1708 : decode xw_law.2.1 1708 = .ok (.iadd, 1) := by decide +kernel
theorem d_xw_law_1709 : decode xw_law.2.1 1709 = .ok (.iaload, 1) := by decide +kernel
theorem d_xw_law_1710 : decode xw_law.2.1 1710 = .ok (.aload_n 0, 1) := by decide +kernel
theorem d_xw_law_1711 : decode xw_law.2.1 1711 = .ok (.iload_n 3, 1) := by decide +kernel
theorem d_xw_law_1712 : decode xw_law.2.1 1712 = .ok (.iconst 2, 1) := by decide +kernel
theorem d_xw_law_1713 : decode xw_law.2.1 1713 = .ok (.iadd, 1) := by decide +kernel
theorem d_xw_law_1714 : decode xw_law.2.1 1714 = .ok (.iaload, 1) := by decide +kernel
theorem d_xw_law_1715 : decode xw_law.2.1 1715 = .ok (.invokevirtual 191, 3) := by decide +kernel
theorem d_xw_law_1718 : decode xw_law.2.1 1718 = .ok (.if_icmp .eq 90, 3) := by decide +kernel
theorem d_xw_law_1721 : decode xw_law.2.1 1721 = .ok (.iconst 0, 1) := by decide +kernel
theorem d_xw_law_1722 : decode xw_law.2.1 1722 = .ok (.ireturn, 1) := by decide +kernel
theorem d_xw_law_1723 : decode xw_law.2.1 1723 = .ok (.aload_n 1, 1) := by decide +kernel
theorem d_xw_law_1724 : decode xw_law.2.1 1724 = .ok (.invokevirtual 192, 3) := by decide +kernel
theorem d_xw_law_1727 : decode xw_law.2.1 1727 = .ok (.aload_n 2, 1) := by decide +kernel
theorem d_xw_law_1728 : decode xw_law.2.1 1728 = .ok (.invokevirtual 195, 3) := by decide +kernel
theorem d_xw_law_1731 : decode xw_law.2.1 1731 = .ok (.if_icmp .eq 77, 3) := by decide +kernel
theorem d_xw_law_1734 : decode xw_law.2.1 1734 = .ok (.iconst 0, 1) := by decide +kernel
theorem d_xw_law_1735 : decode xw_law.2.1 1735 = .ok (.ireturn, 1) := by decide +kernel
theorem d_xw_law_1736 : decode xw_law.2.1 1736 = .ok (.aload_n 1, 1) := by decide +kernel
theorem d_xw_law_1737 : decode xw_law.2.1 1737 = .ok (.invokevirtual 196, 3) := by decide +kernel
theorem d_xw_law_1740 : decode xw_law.2.1 1740 = .ok (.aload_n 2, 1) := by decide +kernel
theorem d_xw_law_1741 : decode xw_law.2.1 1741 = .ok (.invokevirtual 199, 3) := by decide +kernel
theorem d_xw_law_1744 : decode xw_law.2.1 1744 = .ok (.if_icmp .eq 64, 3) := by decide +kernel
theorem d_xw_law_1747 : decode xw_law.2.1 1747 = .ok (.iconst 0, 1) := by decide +kernel
theorem d_xw_law_1748 : decode xw_law.2.1 1748 = .ok (.ireturn, 1) := by decide +kernel
theorem d_xw_law_1749 : decode xw_law.2.1 1749 = .ok (.aload_n 1, 1) := by decide +kernel
theorem d_xw_law_1750 : decode xw_law.2.1 1750 = .ok (.invokevirtual 200, 3) := by decide +kernel
theorem d_xw_law_1753 : decode xw_law.2.1 1753 = .ok (.aload_n 2, 1) := by decide +kernel
theorem d_xw_law_1754 : decode xw_law.2.1 1754 = .ok (.invokevirtual 203, 3) := by decide +kernel
theorem d_xw_law_1757 : decode xw_law.2.1 1757 = .ok (.if_icmp .eq 51, 3) := by decide +kernel
theorem d_xw_law_1760 : decode xw_law.2.1 1760 = .ok (.iconst 0, 1) := by decide +kernel
theorem d_xw_law_1761 : decode xw_law.2.1 1761 = .ok (.ireturn, 1) := by decide +kernel
theorem d_xw_law_1762 : decode xw_law.2.1 1762 = .ok (.aload_n 1, 1) := by decide +kernel
theorem d_xw_law_1763 : decode xw_law.2.1 1763 = .ok (.aload_n 0, 1) := by decide +kernel
theorem d_xw_law_1764 : decode xw_law.2.1 1764 = .ok (.iload_n 3, 1) := by decide +kernel
theorem d_xw_law_1765 : decode xw_law.2.1 1765 = .ok (.iconst 1, 1) := by decide +kernel
theorem d_xw_law_1766 : decode xw_law.2.1 1766 = .ok (.iadd, 1) := by decide +kernel
theorem d_xw_law_1767 : decode xw_law.2.1 1767 = .ok (.iaload, 1) := by decide +kernel
theorem d_xw_law_1768 : decode xw_law.2.1 1768 = .ok (.invokevirtual 204, 3) := by decide +kernel
theorem d_xw_law_1771 : decode xw_law.2.1 1771 = .ok (.aload_n 2, 1) := by decide +kernel
theorem d_xw_law_1772 : decode xw_law.2.1 1772 = .ok (.aload_n 0, 1) := by decide +kernel
theorem d_xw_law_1773 : decode xw_law.2.1 1773 = .ok (.iload_n 3, 1) := by decide +kernel
theorem d_xw_law_1774 : decode xw_law.2.1 1774 = .ok (.iconst 1, 1) := by decide +kernel
theorem d_xw_law_1775 : decode xw_law.2.1 1775 = .ok (.iadd, 1) := by decide +kernel
theorem d_xw_law_1776 : decode xw_law.2.1 1776 = .ok (.iaload, 1) := by decide +kernel
theorem d_xw_law_1777 : decode xw_law.2.1 1777 = .ok (.invokevirtual 207, 3) := by decide +kernel
theorem d_xw_law_1780 : decode xw_law.2.1 1780 = .ok (.if_icmp .eq 28, 3) := by decide +kernel
theorem d_xw_law_1783 : decode xw_law.2.1 1783 = .ok (.iconst 0, 1) := by decide +kernel
theorem d_xw_law_1784 : decode xw_law.2.1 1784 = .ok (.ireturn, 1) := by decide +kernel
theorem d_xw_law_1785 : decode xw_law.2.1 1785 = .ok (.aload_n 1, 1) := by decide +kernel
theorem d_xw_law_1786 : decode xw_law.2.1 1786 = .ok (.aload_n 0, 1) := by decide +kernel
theorem d_xw_law_1787 : decode xw_law.2.1 1787 = .ok (.iload_n 3, 1) := by decide +kernel
theorem d_xw_law_1788 : decode xw_law.2.1 1788 = .ok (.iconst 1, 1) := by decide +kernel
theorem d_xw_law_1789 : decode xw_law.2.1 1789 = .ok (.iadd, 1) := by decide +kernel
theorem d_xw_law_1790 : decode xw_law.2.1 1790 = .ok (.iaload, 1) := by decide +kernel
theorem d_xw_law_1791 : decode xw_law.2.1 1791 = .ok (.invokevirtual 208, 3) := by decide +kernel
theorem d_xw_law_1794 : decode xw_law.2.1 1794 = .ok (.aload_n 2, 1) := by decide +kernel
theorem d_xw_law_1795 : decode xw_law.2.1 1795 = .ok (.aload_n 0, 1) := by decide +kernel
theorem d_xw_law_1796 : decode xw_law.2.1 1796 = .ok (.iload_n 3, 1) := by decide +kernel
theorem d_xw_law_1797 : decode xw_law.2.1 1797 = .ok (.iconst 1, 1) := by decide +kernel
theorem d_xw_law_1798 : decode xw_law.2.1 1798 = .ok (.iadd, 1) := by decide +kernel
theorem d_xw_law_1799 : decode xw_law.2.1 1799 = .ok (.iaload, 1) := by decide +kernel
theorem d_xw_law_1800 : decode xw_law.2.1 1800 = .ok (.invokevirtual 211, 3) := by decide +kernel
theorem d_xw_law_1803 : decode xw_law.2.1 1803 = .ok (.if_icmp .eq 5, 3) := by decide +kernel
theorem d_xw_law_1806 : decode xw_law.2.1 1806 = .ok (.iconst 0, 1) := by decide +kernel
theorem d_xw_law_1807 : decode xw_law.2.1 1807 = .ok (.ireturn, 1) := by decide +kernel
theorem d_xw_law_1808 : decode xw_law.2.1 1808 = .ok (.iinc 3 6, 3) := by decide +kernel
theorem d_xw_law_1811 : decode xw_law.2.1 1811 = .ok (.goto (-1793), 3) := by decide +kernel
theorem d_xw_law_1814 : decode xw_law.2.1 1814 = .ok (.iconst 1, 1) := by decide +kernel
theorem d_xw_law_1815 : decode xw_law.2.1 1815 = .ok (.ireturn, 1) := by decide +kernel
