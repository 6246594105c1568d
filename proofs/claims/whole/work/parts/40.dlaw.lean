theorem d_Law_0 : decode code 0 = .ok (.new 7, 3) := by decide +kernel
theorem d_Law_3 : decode code 3 = .ok (.dup, 1) := by decide +kernel
theorem d_Law_4 : decode code 4 = .ok (.invokespecial 9, 3) := by decide +kernel
theorem d_Law_7 : decode code 7 = .ok (.astore_n 1, 1) := by decide +kernel
theorem d_Law_8 : decode code 8 = .ok (.new 10, 3) := by decide +kernel
theorem d_Law_11 : decode code 11 = .ok (.dup, 1) := by decide +kernel
theorem d_Law_12 : decode code 12 = .ok (.invokespecial 12, 3) := by decide +kernel
theorem d_Law_15 : decode code 15 = .ok (.astore_n 2, 1) := by decide +kernel
theorem d_Law_16 : decode code 16 = .ok (.iconst 0, 1) := by decide +kernel
theorem d_Law_17 : decode code 17 = .ok (.istore_n 3, 1) := by decide +kernel
theorem d_Law_18 : decode code 18 = .ok (.iload_n 3, 1) := by decide +kernel
theorem d_Law_19 : decode code 19 = .ok (.aload_n 0, 1) := by decide +kernel
theorem d_Law_20 : decode code 20 = .ok (.arraylength, 1) := by decide +kernel
theorem d_Law_21 : decode code 21 = .ok (.bipush 7, 2) := by decide +kernel
theorem d_Law_23 : decode code 23 = .ok (.isub, 1) := by decide +kernel
theorem d_Law_24 : decode code 24 = .ok (.if_icmp .gt 1445, 3) := by decide +kernel
theorem d_Law_27 : decode code 27 = .ok (.aload_n 0, 1) := by decide +kernel
theorem d_Law_28 : decode code 28 = .ok (.iload_n 3, 1) := by decide +kernel
theorem d_Law_29 : decode code 29 = .ok (.iaload, 1) := by decide +kernel
theorem d_Law_30 : decode code 30 = .ok (.bipush 63, 2) := by decide +kernel
theorem d_Law_32 : decode code 32 = .ok (.iand, 1) := by decide +kernel
theorem d_Law_33 : decode code 33 = .ok (.tableswitch 1430 0 35 #[159, 192, 215, 238, 291, 314, 337, 390, 423, 476, 551, 584, 627, 660, 693, 707, 740, 753, 806, 839, 862, 905, 928, 961, 994, 1057, 1090, 1133, 1176, 1219, 1262, 1295, 1348, 1371, 1384, 1417], 159) := by decide +kernel
theorem d_Law_192 : decode code 192 = .ok (.aload_n 1, 1) := by decide +kernel
theorem d_Law_193 : decode code 193 = .ok (.aload_n 0, 1) := by decide +kernel
theorem d_Law_194 : decode code 194 = .ok (.iload_n 3, 1) := by decide +kernel
theorem d_Law_195 : decode code 195 = .ok (.iconst 1, 1) := by decide +kernel
theorem d_Law_196 : decode code 196 = .ok (.iadd, 1) := by decide +kernel
theorem d_Law_197 : decode code 197 = .ok (.iaload, 1) := by decide +kernel
theorem d_Law_198 : decode code 198 = .ok (.aload_n 0, 1) := by decide +kernel
theorem d_Law_199 : decode code 199 = .ok (.iload_n 3, 1) := by decide +kernel
theorem d_Law_200 : decode code 200 = .ok (.iconst 2, 1) := by decide +kernel
theorem d_Law_201 : decode code 201 = .ok (.iadd, 1) := by decide +kernel
theorem d_Law_202 : decode code 202 = .ok (.iaload, 1) := by decide +kernel
theorem d_Law_203 : decode code 203 = .ok (.invokevirtual 13, 3) := by decide +kernel
theorem d_Law_206 : decode code 206 = .ok (.aload_n 2, 1) := by decide +kernel
theorem d_Law_207 : decode code 207 = .ok (.aload_n 0, 1) := by decide +kernel
theorem d_Law_208 : decode code 208 = .ok (.iload_n 3, 1) := by decide +kernel
theorem d_Law_209 : decode code 209 = .ok (.iconst 1, 1) := by decide +kernel
theorem d_Law_210 : decode code 210 = .ok (.iadd, 1) := by decide +kernel
theorem d_Law_211 : decode code 211 = .ok (.iaload, 1) := by decide +kernel
theorem d_Law_212 : decode code 212 = .ok (.aload_n 0, 1) := by decide +kernel
theorem d_Law_213 : decode code 213 = .ok (.iload_n 3, 1) := by decide +kernel
theorem d_Law_214 : decode code 214 = .ok (.iconst 2, 1) := by decide +kernel
theorem d_Law_215 : decode code 215 = .ok (.iadd, 1) := by decide +kernel
theorem d_Law_216 : decode code 216 = .ok (.iaload, 1) := by decide +kernel
theorem d_Law_217 : decode code 217 = .ok (.invokevirtual 17, 3) := by decide +kernel
theorem d_Law_220 : decode code 220 = .ok (.if_icmp .eq 1243, 3) := by decide +kernel
theorem d_Law_223 : decode code 223 = .ok (.iconst 0, 1) := by decide +kernel
theorem d_Law_224 : decode code 224 = .ok (.ireturn, 1) := by decide +kernel
theorem d_Law_225 : decode code 225 = .ok (.aload_n 1, 1) := by decide +kernel
theorem d_Law_226 : decode code 226 = .ok (.aload_n 0, 1) := by decide +kernel
theorem d_Law_227 : decode code 227 = .ok (.iload_n 3, 1) := by decide +kernel
theorem d_Law_228 : decode code 228 = .ok (.iconst 1, 1) := by decide +kernel
theorem d_Law_229 : decode code 229 = .ok (.iadd, 1) := by decide +kernel
theorem d_Law_230 : decode code 230 = .ok (.iaload, 1) := by decide +kernel
theorem d_Law_231 : decode code 231 = .ok (.invokevirtual 18, 3) := by decide +kernel
theorem d_Law_234 : decode code 234 = .ok (.aload_n 2, 1) := by decide +kernel
theorem d_Law_235 : decode code 235 = .ok (.aload_n 0, 1) := by decide +kernel
theorem d_Law_236 : decode code 236 = .ok (.iload_n 3, 1) := by decide +kernel
theorem d_Law_237 : decode code 237 = .ok (.iconst 1, 1) := by decide +kernel
theorem d_Law_238 : decode code 238 = .ok (.iadd, 1) := by decide +kernel
theorem d_Law_239 : decode code 239 = .ok (.iaload, 1) := by decide +kernel
theorem d_Law_240 : decode code 240 = .ok (.invokevirtual 22, 3) := by decide +kernel
theorem d_Law_243 : decode code 243 = .ok (.if_icmp .eq 1220, 3) := by decide +kernel
theorem d_Law_246 : decode code 246 = .ok (.iconst 0, 1) := by decide +kernel
theorem d_Law_247 : decode code 247 = .ok (.ireturn, 1) := by decide +kernel
theorem d_Law_248 : decode code 248 = .ok (.aload_n 1, 1) := by decide +kernel
theorem d_Law_249 : decode code 249 = .ok (.aload_n 0, 1) := by decide +kernel
theorem d_Law_250 : decode code 250 = .ok (.iload_n 3, 1) := by decide +kernel
theorem d_Law_251 : decode code 251 = .ok (.iconst 1, 1) := by decide +kernel
theorem d_Law_252 : decode code 252 = .ok (.iadd, 1) := by decide +kernel
theorem d_Law_253 : decode code 253 = .ok (.iaload, 1) := by decide +kernel
theorem d_Law_254 : decode code 254 = .ok (.invokevirtual 23, 3) := by decide +kernel
theorem d_Law_257 : decode code 257 = .ok (.aload_n 2, 1) := by decide +kernel
theorem d_Law_258 : decode code 258 = .ok (.aload_n 0, 1) := by decide +kernel
theorem d_Law_259 : decode code 259 = .ok (.iload_n 3, 1) := by decide +kernel
theorem d_Law_260 : decode code 260 = .ok (.iconst 1, 1) := by decide +kernel
theorem d_Law_261 : decode code 261 = .ok (.iadd, 1) := by decide +kernel
theorem d_Law_262 : decode code 262 = .ok (.iaload, 1) := by decide +kernel
theorem d_Law_263 : decode code 263 = .ok (.invokevirtual 26, 3) := by decide +kernel
theorem d_Law_266 : decode code 266 = .ok (.if_icmp .eq 1197, 3) := by decide +kernel
theorem d_Law_269 : decode code 269 = .ok (.iconst 0, 1) := by decide +kernel
theorem d_Law_270 : decode code 270 = .ok (.ireturn, 1) := by decide +kernel
theorem d_Law_271 : decode code 271 = .ok (.aload_n 1, 1) := by decide +kernel
theorem d_Law_272 : decode code 272 = .ok (.aload_n 0, 1) := by decide +kernel
theorem d_Law_273 : decode code 273 = .ok (.iload_n 3, 1) := by decide +kernel
theorem d_Law_274 : decode code 274 = .ok (.iconst 1, 1) := by decide +kernel
theorem d_Law_275 : decode code 275 = .ok (.iadd, 1) := by decide +kernel
theorem d_Law_276 : decode code 276 = .ok (.iaload, 1) := by decide +kernel
theorem d_Law_277 : decode code 277 = .ok (.aload_n 0, 1) := by decide +kernel
theorem d_Law_278 : decode code 278 = .ok (.iload_n 3, 1) := by decide +kernel
theorem d_Law_279 : decode code 279 = .ok (.iconst 2, 1) := by decide +kernel
theorem d_Law_280 : decode code 280 = .ok (.iadd, 1) := by decide +kernel
theorem d_Law_281 : decode code 281 = .ok (.iaload, 1) := by decide +kernel
theorem d_Law_282 : decode code 282 = .ok (.aload_n 0, 1) := by decide +kernel
theorem d_Law_283 : decode code 283 = .ok (.iload_n 3, 1) := by decide +kernel
theorem d_Law_284 : decode code 284 = .ok (.iconst 3, 1) := by decide +kernel
theorem d_Law_285 : decode code 285 = .ok (.iadd, 1) := by decide +kernel
theorem d_Law_286 : decode code 286 = .ok (.iaload, 1) := by decide +kernel
theorem d_Law_287 : decode code 287 = .ok (.aload_n 0, 1) := by decide +kernel
theorem d_Law_288 : decode code 288 = .ok (.iload_n 3, 1) := by decide +kernel
theorem d_Law_289 : decode code 289 = .ok (.iconst 4, 1) := by decide +kernel
theorem d_Law_290 : decode code 290 = .ok (.iadd, 1) := by decide +kernel
theorem d_Law_291 : decode code 291 = .ok (.iaload, 1) := by decide +kernel
theorem d_Law_292 : decode code 292 = .ok (.invokevirtual 27, 3) := by decide +kernel
theorem d_Law_295 : decode code 295 = .ok (.aload_n 2, 1) := by decide +kernel
theorem d_Law_296 : decode code 296 = .ok (.aload_n 0, 1) := by decide +kernel
theorem d_Law_297 : decode code 297 = .ok (.iload_n 3, 1) := by decide +kernel
theorem d_Law_298 : decode code 298 = .ok (.iconst 1, 1) := by decide +kernel
theorem d_Law_299 : decode code 299 = .ok (.iadd, 1) := by decide +kernel
theorem d_Law_300 : decode code 300 = .ok (.iaload, 1) := by decide +kernel
theorem d_Law_301 : decode code 301 = .ok (.aload_n 0, 1) := by decide +kernel
theorem d_Law_302 : decode code 302 = .ok (.iload_n 3, 1) := by decide +kernel
theorem d_Law_303 : decode code 303 = .ok (.iconst 2, 1) := by decide +kernel
theorem d_Law_304 : decode code 304 = .ok (.iadd, 1) := by decide +kernel
theorem d_Law_305 : decode code 305 = .ok (.iaload, 1) := by decide +kernel
theorem d_Law_306 : decode code 306 = .ok (.aload_n 0, 1) := by decide +kernel
theorem d_Law_307 : decode code 307 = .ok (.iload_n 3, 1) := by decide +kernel
theorem d_Law_308 : decode code 308 = .ok (.iconst 3, 1) := by decide +kernel
theorem d_Law_309 : decode code 309 = .ok (.iadd, 1) := by decide +kernel
theorem d_Law_310 : decode code 310 = .ok (.iaload, 1) := by decide +kernel
theorem d_Law_311 : decode code 311 = .ok (.aload_n 0, 1) := by decide +kernel
theorem d_Law_312 : decode code 312 = .ok (.iload_n 3, 1) := by decide +kernel
theorem d_Law_313 : decode code 313 = .ok (.iconst 4, 1) := by decide +kernel
theorem d_Law_314 : decode code 314 = .ok (.iadd, 1) := by decide +kernel
theorem d_Law_315 : decode code 315 = .ok (.iaload, 1) := by decide +kernel
theorem d_Law_316 : decode code 316 = .ok (.invokevirtual 31, 3) := by decide +kernel
theorem d_Law_319 : decode code 319 = .ok (.if_icmp .eq 1144, 3) := by decide +kernel
theorem d_Law_322 : decode code 322 = .ok (.iconst 0, 1) := by decide +kernel
theorem d_Law_323 : decode code 323 = .ok (.ireturn, 1) := by decide +kernel
theorem d_Law_324 : decode code 324 = .ok (.aload_n 1, 1) := by decide +kernel
theorem d_Law_325 : decode code 325 = .ok (.aload_n 0, 1) := by decide +kernel
theorem d_Law_326 : decode code 326 = .ok (.iload_n 3, 1) := by decide +kernel
theorem d_Law_327 : decode code 327 = .ok (.iconst 1, 1) := by decide +kernel
theorem d_Law_328 : decode code 328 = .ok (.iadd, 1) := by decide +kernel
theorem d_Law_329 : decode code 329 = .ok (.iaload, 1) := by decide +kernel
theorem d_Law_330 : decode code 330 = .ok (.invokevirtual 32, 3) := by decide +kernel
theorem d_Law_333 : decode code 333 = .ok (.aload_n 2, 1) := by decide +kernel
theorem d_Law_334 : decode code 334 = .ok (.aload_n 0, 1) := by decide +kernel
theorem d_Law_335 : decode code 335 = .ok (.iload_n 3, 1) := by decide +kernel
theorem d_Law_336 : decode code 336 = .ok (.iconst 1, 1) := by decide +kernel
theorem d_Law_337 : decode code 337 = .ok (.iadd, 1) := by decide +kernel
theorem d_Law_338 : decode code 338 = .ok (.iaload, 1) := by decide +kernel
theorem d_Law_339 : decode code 339 = .ok (.invokevirtual 35, 3) := by decide +kernel
theorem d_Law_342 : decode code 342 = .ok (.if_icmp .eq 1121, 3) := by decide +kernel
theorem d_Law_345 : decode code 345 = .ok (.iconst 0, 1) := by decide +kernel
theorem d_Law_346 : decode code 346 = .ok (.ireturn, 1) := by decide +kernel
theorem d_Law_347 : decode code 347 = .ok (.aload_n 1, 1) := by decide +kernel
theorem d_Law_348 : decode code 348 = .ok (.aload_n 0, 1) := by decide +kernel
theorem d_Law_349 : decode code 349 = .ok (.iload_n 3, 1) := by decide +kernel
theorem d_Law_350 : decode code 350 = .ok (.iconst 1, 1) := by decide +kernel
theorem d_Law_351 : decode code 351 = .ok (.iadd, 1) := by decide +kernel
theorem d_Law_352 : decode code 352 = .ok (.iaload, 1) := by decide +kernel
theorem d_Law_353 : decode code 353 = .ok (.invokevirtual 36, 3) := by decide +kernel
theorem d_Law_356 : decode code 356 = .ok (.aload_n 2, 1) := by decide +kernel
theorem d_Law_357 : decode code 357 = .ok (.aload_n 0, 1) := by decide +kernel
theorem d_Law_358 : decode code 358 = .ok (.iload_n 3, 1) := by decide +kernel
theorem d_Law_359 : decode code 359 = .ok (.iconst 1, 1) := by decide +kernel
theorem d_Law_360 : decode code 360 = .ok (.iadd, 1) := by decide +kernel
theorem d_Law_361 : decode code 361 = .ok (.iaload, 1) := by decide +kernel
theorem d_Law_362 : decode code 362 = .ok (.invokevirtual 39, 3) := by decide +kernel
theorem d_Law_365 : decode code 365 = .ok (.if_icmp .eq 1098, 3) := by decide +kernel
theorem d_Law_368 : decode code 368 = .ok (.iconst 0, 1) := by decide +kernel
theorem d_Law_369 : decode code 369 = .ok (.ireturn, 1) := by decide +kernel
theorem d_Law_370 : decode code 370 = .ok (.aload_n 1, 1) := by decide +kernel
theorem d_Law_371 : decode code 371 = .ok (.aload_n 0, 1) := by decide +kernel
theorem d_Law_372 : decode code 372 = .ok (.iload_n 3, 1) := by decide +kernel
theorem d_Law_373 : decode code 373 = .ok (.iconst 1, 1) := by decide +kernel
theorem d_Law_374 : decode code 374 = .ok (.iadd, 1) := by decide +kernel
theorem d_Law_375 : decode code 375 = .ok (.iaload, 1) := by decide +kernel
theorem d_Law_376 : decode code 376 = .ok (.aload_n 0, 1) := by decide +kernel
theorem d_Law_377 : decode code 377 = .ok (.iload_n 3, 1) := by decide +kernel
theorem d_Law_378 : decode code 378 = .ok (.iconst 2, 1) := by decide +kernel
theorem d_Law_379 : decode code 379 = .ok (.iadd, 1) := by decide +kernel
theorem d_Law_380 : decode code 380 = .ok (.iaload, 1) := by decide +kernel
theorem d_Law_381 : decode code 381 = .ok (.aload_n 0, 1) := by decide +kernel
theorem d_Law_382 : decode code 382 = .ok (.iload_n 3, 1) := by decide +kernel
theorem d_Law_383 : decode code 383 = .ok (.iconst 3, 1) := by decide +kernel
theorem d_Law_384 : decode code 384 = .ok (.iadd, 1) := by decide +kernel
theorem d_Law_385 : decode code 385 = .ok (.iaload, 1) := by decide +kernel
theorem d_Law_386 : decode code 386 = .ok (.aload_n 0, 1) := by decide +kernel
theorem d_Law_387 : decode code 387 = .ok (.iload_n 3, 1) := by decide +kernel
theorem d_Law_388 : decode code 388 = .ok (.iconst 4, 1) := by decide +kernel
theorem d_Law_389 : decode code 389 = .ok (.iadd, 1) := by decide +kernel
theorem d_Law_390 : decode code 390 = .ok (.iaload, 1) := by decide +kernel
theorem d_Law_391 : decode code 391 = .ok (.invokevirtual 40, 3) := by decide +kernel
theorem d_Law_394 : decode code 394 = .ok (.aload_n 2, 1) := by decide +kernel
theorem d_Law_395 : decode code 395 = .ok (.aload_n 0, 1) := by decide +kernel
theorem d_Law_396 : decode code 396 = .ok (.iload_n 3, 1) := by decide +kernel
theorem d_Law_397 : decode code 397 = .ok (.iconst 1, 1) := by decide +kernel
theorem d_Law_398 : decode code 398 = .ok (.iadd, 1) := by decide +kernel
theorem d_Law_399 : decode code 399 = .ok (.iaload, 1) := by decide +kernel
theorem d_Law_400 : decode code 400 = .ok (.aload_n 0, 1) := by decide +kernel
theorem d_Law_401 : decode code 401 = .ok (.iload_n 3, 1) := by decide +kernel
theorem d_Law_402 : decode code 402 = .ok (.iconst 2, 1) := by decide +kernel
theorem d_Law_403 : decode code 403 = .ok (.iadd, 1) := by decide +kernel
theorem d_Law_404 : decode code 404 = .ok (.iaload, 1) := by decide +kernel
theorem d_Law_405 : decode code 405 = .ok (.aload_n 0, 1) := by decide +kernel
theorem d_Law_406 : decode code 406 = .ok (.iload_n 3, 1) := by decide +kernel
theorem d_Law_407 : decode code 407 = .ok (.iconst 3, 1) := by decide +kernel
theorem d_Law_408 : decode code 408 = .ok (.iadd, 1) := by decide +kernel
theorem d_Law_409 : decode code 409 = .ok (.iaload, 1) := by decide +kernel
theorem d_Law_410 : decode code 410 = .ok (.aload_n 0, 1) := by decide +kernel
theorem d_Law_411 : decode code 411 = .ok (.iload_n 3, 1) := by decide +kernel
theorem d_Law_412 : decode code 412 = .ok (.iconst 4, 1) := by decide +kernel
theorem d_Law_413 : decode code 413 = .ok (.iadd, 1) := by decide +kernel
theorem d_Law_414 : decode code 414 = .ok (.iaload, 1) := by decide +kernel
theorem d_Law_415 : decode code 415 = .ok (.invokevirtual 44, 3) := by decide +kernel
theorem d_Law_418 : decode code 418 = .ok (.if_icmp .eq 1045, 3) := by decide +kernel
theorem d_Law_421 : decode code 421 = .ok (.iconst 0, 1) := by decide +kernel
theorem d_Law_422 : decode code 422 = .ok (.ireturn, 1) := by decide +kernel
theorem d_Law_423 : decode code 423 = .ok (.aload_n 1, 1) := by decide +kernel
theorem d_Law_424 : decode code 424 = .ok (.aload_n 0, 1) := by decide +kernel
theorem d_Law_425 : decode code 425 = .ok (.iload_n 3, 1) := by decide +kernel
theorem d_Law_426 : decode code 426 = .ok (.iconst 1, 1) := by decide +kernel
theorem d_Law_427 : decode code 427 = .ok (.iadd, 1) := by decide +kernel
theorem d_Law_428 : decode code 428 = .ok (.iaload, 1) := by decide +kernel
theorem d_Law_429 : decode code 429 = .ok (.aload_n 0, 1) := by decide +kernel
theorem d_Law_430 : decode code 430 = .ok (.iload_n 3, 1) := by decide +kernel
theorem d_Law_431 : decode code 431 = .ok (.iconst 2, 1) := by decide +kernel
theorem d_Law_432 : decode code 432 = .ok (.iadd, 1) := by decide +kernel
theorem d_Law_433 : decode code 433 = .ok (.iaload, 1) := by decide +kernel
theorem d_Law_434 : decode code 434 = .ok (.invokevirtual 45, 3) := by decide +kernel
theorem d_Law_437 : decode code 437 = .ok (.aload_n 2, 1) := by decide +kernel
theorem d_Law_438 : decode code 438 = .ok (.aload_n 0, 1) := by decide +kernel
theorem d_Law_439 : decode code 439 = .ok (.iload_n 3, 1) := by decide +kernel
theorem d_Law_440 : decode code 440 = .ok (.iconst 1, 1) := by decide +kernel
theorem d_Law_441 : decode code 441 = .ok (.iadd, 1) := by decide +kernel
theorem d_Law_442 : decode code 442 = .ok (.iaload, 1) := by decide +kernel
theorem d_Law_443 : decode code 443 = .ok (.aload_n 0, 1) := by decide +kernel
theorem d_Law_444 : decode code 444 = .ok (.iload_n 3, 1) := by decide +kernel
theorem d_Law_445 : decode code 445 = .ok (.iconst 2, 1) := by decide +kernel
theorem d_Law_446 : decode code 446 = .ok (.iadd, 1) := by decide +kernel
theorem d_Law_447 : decode code 447 = .ok (.iaload, 1) := by decide +kernel
theorem d_Law_448 : decode code 448 = .ok (.invokevirtual 49, 3) := by decide +kernel
theorem d_Law_451 : decode code 451 = .ok (.if_icmp .eq 1012, 3) := by decide +kernel
theorem d_Law_454 : decode code 454 = .ok (.iconst 0, 1) := by decide +kernel
theorem d_Law_455 : decode code 455 = .ok (.ireturn, 1) := by decide +kernel
theorem d_Law_456 : decode code 456 = .ok (.aload_n 1, 1) := by decide +kernel
theorem d_Law_457 : decode code 457 = .ok (.aload_n 0, 1) := by decide +kernel
theorem d_Law_458 : decode code 458 = .ok (.iload_n 3, 1) := by decide +kernel
theorem d_Law_459 : decode code 459 = .ok (.iconst 1, 1) := by decide +kernel
theorem d_Law_460 : decode code 460 = .ok (.iadd, 1) := by decide +kernel
theorem d_Law_461 : decode code 461 = .ok (.iaload, 1) := by decide +kernel
theorem d_Law_462 : decode code 462 = .ok (.aload_n 0, 1) := by decide +kernel
theorem d_Law_463 : decode code 463 = .ok (.iload_n 3, 1) := by decide +kernel
theorem d_Law_464 : decode code 464 = .ok (.iconst 2, 1) := by decide +kernel
theorem d_Law_465 : decode code 465 = .ok (.iadd, 1) := by decide +kernel
theorem d_Law_466 : decode code 466 = .ok (.iaload, 1) := by decide +kernel
theorem d_Law_467 : decode code 467 = .ok (.aload_n 0, 1) := by decide +kernel
theorem d_Law_468 : decode code 468 = .ok (.iload_n 3, 1) := by decide +kernel
theorem d_Law_469 : decode code 469 = .ok (.iconst 3, 1) := by decide +kernel
theorem d_Law_470 : decode code 470 = .ok (.iadd, 1) := by decide +kernel
theorem d_Law_471 : decode code 471 = .ok (.iaload, 1) := by decide +kernel
theorem d_Law_472 : decode code 472 = .ok (.aload_n 0, 1) := by decide +kernel
theorem d_Law_473 : decode code 473 = .ok (.iload_n 3, 1) := by decide +kernel
theorem d_Law_474 : decode code 474 = .ok (.iconst 4, 1) := by decide +kernel
theorem d_Law_475 : decode code 475 = .ok (.iadd, 1) := by decide +kernel
theorem d_Law_476 : decode code 476 = .ok (.iaload, 1) := by decide +kernel
theorem d_Law_477 : decode code 477 = .ok (.invokevirtual 50, 3) := by decide +kernel
theorem d_Law_480 : decode code 480 = .ok (.aload_n 2, 1) := by decide +kernel
theorem d_Law_481 : decode code 481 = .ok (.aload_n 0, 1) := by decide +kernel
theorem d_Law_482 : decode code 482 = .ok (.iload_n 3, 1) := by decide +kernel
theorem d_Law_483 : decode code 483 = .ok (.iconst 1, 1) := by decide +kernel
theorem d_Law_484 : decode code 484 = .ok (.iadd, 1) := by decide +kernel
theorem d_Law_485 : decode code 485 = .ok (.iaload, 1) := by decide +kernel
theorem d_Law_486 : decode code 486 = .ok (.aload_n 0, 1) := by decide +kernel
theorem d_Law_487 : decode code 487 = .ok (.iload_n 3, 1) := by decide +kernel
theorem d_Law_488 : decode code 488 = .ok (.iconst 2, 1) := by decide +kernel
theorem d_Law_489 : decode code 489 = .ok (.iadd, 1) := by decide +kernel
theorem d_Law_490 : decode code 490 = .ok (.iaload, 1) := by decide +kernel
theorem d_Law_491 : decode code 491 = .ok (.aload_n 0, 1) := by decide +kernel
theorem d_Law_492 : decode code 492 = .ok (.iload_n 3, 1) := by decide +kernel
theorem d_Law_493 : decode code 493 = .ok (.iconst 3, 1) := by decide +kernel
theorem d_Law_494 : decode code 494 = .ok (.iadd, 1) := by decide +kernel
theorem d_Law_495 : decode code 495 = .ok (.iaload, 1) := by decide +kernel
theorem d_Law_496 : decode code 496 = .ok (.aload_n 0, 1) := by decide +kernel
theorem d_Law_497 : decode code 497 = .ok (.iload_n 3, 1) := by decide +kernel
theorem d_Law_498 : decode code 498 = .ok (.iconst 4, 1) := by decide +kernel
theorem d_Law_499 : decode code 499 = .ok (.iadd, 1) := by decide +kernel
theorem d_Law_500 : decode code 500 = .ok (.iaload, 1) := by decide +kernel
theorem d_Law_501 : decode code 501 = .ok (.invokevirtual 53, 3) := by decide +kernel
theorem d_Law_504 : decode code 504 = .ok (.if_icmp .eq 959, 3) := by decide +kernel
theorem d_Law_507 : decode code 507 = .ok (.iconst 0, 1) := by decide +kernel
theorem d_Law_508 : decode code 508 = .ok (.ireturn, 1) := by decide +kernel
theorem d_Law_509 : decode code 509 = .ok (.aload_n 1, 1) := by decide +kernel
theorem d_Law_510 : decode code 510 = .ok (.aload_n 0, 1) := by decide +kernel
theorem d_Law_511 : decode code 511 = .ok (.iload_n 3, 1) := by decide +kernel
theorem d_Law_512 : decode code 512 = .ok (.iconst 1, 1) := by decide +kernel
theorem d_Law_513 : decode code 513 = .ok (.iadd, 1) := by decide +kernel
theorem d_Law_514 : decode code 514 = .ok (.iaload, 1) := by decide +kernel
theorem d_Law_515 : decode code 515 = .ok (.aload_n 0, 1) := by decide +kernel
theorem d_Law_516 : decode code 516 = .ok (.iload_n 3, 1) := by decide +kernel
theorem d_Law_517 : decode code 517 = .ok (.iconst 2, 1) := by decide +kernel
theorem d_Law_518 : decode code 518 = .ok (.iadd, 1) := by decide +kernel
theorem d_Law_519 : decode code 519 = .ok (.iaload, 1) := by decide +kernel
theorem d_Law_520 : decode code 520 = .ok (.aload_n 0, 1) := by decide +kernel
theorem d_Law_521 : decode code 521 = .ok (.iload_n 3, 1) := by decide +kernel
theorem d_Law_522 : decode code 522 = .ok (.iconst 3, 1) := by decide +kernel
theorem d_Law_523 : decode code 523 = .ok (.iadd, 1) := by decide +kernel
theorem d_Law_524 : decode code 524 = .ok (.iaload, 1) := by decide +kernel
theorem d_Law_525 : decode code 525 = .ok (.aload_n 0, 1) := by decide +kernel
theorem d_Law_526 : decode code 526 = .ok (.iload_n 3, 1) := by decide +kernel
theorem d_Law_527 : decode code 527 = .ok (.iconst 4, 1) := by decide +kernel
theorem d_Law_528 : decode code 528 = .ok (.iadd, 1) := by decide +kernel
theorem d_Law_529 : decode code 529 = .ok (.iaload, 1) := by decide +kernel
theorem d_Law_530 : decode code 530 = .ok (.aload_n 0, 1) := by decide +kernel
theorem d_Law_531 : decode code 531 = .ok (.iload_n 3, 1) := by decide +kernel
theorem d_Law_532 : decode code 532 = .ok (.iconst 5, 1) := by decide +kernel
theorem d_Law_533 : decode code 533 = .ok (.iadd, 1) := by decide +kernel
theorem d_Law_534 : decode code 534 = .ok (.iaload, 1) := by decide +kernel
theorem d_Law_535 : decode code 535 = .ok (.aload_n 0, 1) := by decide +kernel
theorem d_Law_536 : decode code 536 = .ok (.iload_n 3, 1) := by decide +kernel
theorem d_Law_537 : decode code 537 = .ok (.bipush 6, 2) := by decide +kernel
theorem d_Law_539 : decode code 539 = .ok (.iadd, 1) := by decide +kernel
theorem d_Law_540 : decode code 540 = .ok (.iaload, 1) := by decide +kernel
theorem d_Law_541 : decode code 541 = .ok (.invokevirtual 54, 3) := by decide +kernel
theorem d_Law_544 : decode code 544 = .ok (.aload_n 2, 1) := by decide +kernel
theorem d_Law_545 : decode code 545 = .ok (.aload_n 0, 1) := by decide +kernel
theorem d_Law_546 : decode code 546 = .ok (.iload_n 3, 1) := by decide +kernel
theorem d_Law_547 : decode code 547 = .ok (.iconst 1, 1) := by decide +kernel
theorem d_Law_548 : decode code 548 = .ok (.iadd, 1) := by decide +kernel
theorem d_Law_549 : decode code 549 = .ok (.iaload, 1) := by decide +kernel
theorem d_Law_550 : decode code 550 = .ok (.aload_n 0, 1) := by decide +kernel
theorem d_Law_551 : decode code 551 = .ok (.iload_n 3, 1) := by decide +kernel
theorem d_Law_552 : decode code 552 = .ok (.iconst 2, 1) := by decide +kernel
theorem d_Law_553 : decode code 553 = .ok (.iadd, 1) := by decide +kernel
theorem d_Law_554 : decode code 554 = .ok (.iaload, 1) := by decide +kernel
theorem d_Law_555 : decode code 555 = .ok (.aload_n 0, 1) := by decide +kernel
theorem d_Law_556 : decode code 556 = .ok (.iload_n 3, 1) := by decide +kernel
theorem d_Law_557 : decode code 557 = .ok (.iconst 3, 1) := by decide +kernel
theorem d_Law_558 : decode code 558 = .ok (.iadd, 1) := by decide +kernel
theorem d_Law_559 : decode code 559 = .ok (.iaload, 1) := by decide +kernel
theorem d_Law_560 : decode code 560 = .ok (.aload_n 0, 1) := by decide +kernel
theorem d_Law_561 : decode code 561 = .ok (.iload_n 3, 1) := by decide +kernel
theorem d_Law_562 : decode code 562 = .ok (.iconst 4, 1) := by decide +kernel
theorem d_Law_563 : decode code 563 = .ok (.iadd, 1) := by decide +kernel
theorem d_Law_564 : decode code 564 = .ok (.iaload, 1) := by decide +kernel
theorem d_Law_565 : decode code 565 = .ok (.aload_n 0, 1) := by decide +kernel
theorem d_Law_566 : decode code 566 = .ok (.iload_n 3, 1) := by decide +kernel
theorem d_Law_567 : decode code 567 = .ok (.iconst 5, 1) := by decide +kernel
theorem d_Law_568 : decode code 568 = .ok (.iadd, 1) := by decide +kernel
theorem d_Law_569 : decode code 569 = .ok (.iaload, 1) := by decide +kernel
theorem d_Law_570 : decode code 570 = .ok (.aload_n 0, 1) := by decide +kernel
theorem d_Law_571 : decode code 571 = .ok (.iload_n 3, 1) := by decide +kernel
theorem d_Law_572 : decode code 572 = .ok (.bipush 6, 2) := by decide +kernel
theorem d_Law_574 : decode code 574 = .ok (.iadd, 1) := by decide +kernel
theorem d_Law_575 : decode code 575 = .ok (.iaload, 1) := by decide +kernel
theorem d_Law_576 : decode code 576 = .ok (.invokevirtual 58, 3) := by decide +kernel
theorem d_Law_579 : decode code 579 = .ok (.if_icmp .eq 884, 3) := by decide +kernel
theorem d_Law_582 : decode code 582 = .ok (.iconst 0, 1) := by decide +kernel
theorem d_Law_583 : decode code 583 = .ok (.ireturn, 1) := by decide +kernel
theorem d_Law_584 : decode code 584 = .ok (.aload_n 1, 1) := by decide +kernel
theorem d_Law_585 : decode code 585 = .ok (.aload_n 0, 1) := by decide +kernel
theorem d_Law_586 : decode code 586 = .ok (.iload_n 3, 1) := by decide +kernel
theorem d_Law_587 : decode code 587 = .ok (.iconst 1, 1) := by decide +kernel
theorem d_Law_588 : decode code 588 = .ok (.iadd, 1) := by decide +kernel
theorem d_Law_589 : decode code 589 = .ok (.iaload, 1) := by decide +kernel
theorem d_Law_590 : decode code 590 = .ok (.aload_n 0, 1) := by decide +kernel
theorem d_Law_591 : decode code 591 = .ok (.iload_n 3, 1) := by decide +kernel
theorem d_Law_592 : decode code 592 = .ok (.iconst 2, 1) := by decide +kernel
theorem d_Law_593 : decode code 593 = .ok (.iadd, 1) := by decide +kernel
theorem d_Law_594 : decode code 594 = .ok (.iaload, 1) := by decide +kernel
theorem d_Law_595 : decode code 595 = .ok (.invokevirtual 59, 3) := by decide +kernel
theorem d_Law_598 : decode code 598 = .ok (.aload_n 2, 1) := by decide +kernel
theorem d_Law_599 : decode code 599 = .ok (.aload_n 0, 1) := by decide +kernel
theorem d_Law_600 : decode code 600 = .ok (.iload_n 3, 1) := by decide +kernel
theorem d_Law_601 : decode code 601 = .ok (.iconst 1, 1) := by decide +kernel
theorem d_Law_602 : decode code 602 = .ok (.iadd, 1) := by decide +kernel
theorem d_Law_603 : decode code 603 = .ok (.iaload, 1) := by decide +kernel
theorem d_Law_604 : decode code 604 = .ok (.aload_n 0, 1) := by decide +kernel
theorem d_Law_605 : decode code 605 = .ok (.iload_n 3, 1) := by decide +kernel
theorem d_Law_606 : decode code 606 = .ok (.iconst 2, 1) := by decide +kernel
theorem d_Law_607 : decode code 607 = .ok (.iadd, 1) := by decide +kernel
theorem d_Law_608 : decode code 608 = .ok (.iaload, 1) := by decide +kernel
theorem d_Law_609 : decode code 609 = .ok (.invokevirtual 62, 3) := by decide +kernel
theorem d_Law_612 : decode code 612 = .ok (.if_icmp .eq 851, 3) := by decide +kernel
theorem d_Law_615 : decode code 615 = .ok (.iconst 0, 1) := by decide +kernel
theorem d_Law_616 : decode code 616 = .ok (.ireturn, 1) := by decide +kernel
theorem d_Law_617 : decode code 617 = .ok (.aload_n 1, 1) := by decide +kernel
theorem d_Law_618 : decode code 618 = .ok (.aload_n 0, 1) := by decide +kernel
theorem d_Law_619 : decode code 619 = .ok (.iload_n 3, 1) := by decide +kernel
theorem d_Law_620 : decode code 620 = .ok (.iconst 1, 1) := by decide +kernel
theorem d_Law_621 : decode code 621 = .ok (.iadd, 1) := by decide +kernel
theorem d_Law_622 : decode code 622 = .ok (.iaload, 1) := by decide +kernel
theorem d_Law_623 : decode code 623 = .ok (.aload_n 0, 1) := by decide +kernel
theorem d_Law_624 : decode code 624 = .ok (.iload_n 3, 1) := by decide +kernel
theorem d_Law_625 : decode code 625 = .ok (.iconst 2, 1) := by decide +kernel
theorem d_Law_626 : decode code 626 = .ok (.iadd, 1) := by decide +kernel
theorem d_Law_627 : decode code 627 = .ok (.iaload, 1) := by decide +kernel
theorem d_Law_628 : decode code 628 = .ok (.aload_n 0, 1) := by decide +kernel
theorem d_Law_629 : decode code 629 = .ok (.iload_n 3, 1) := by decide +kernel
theorem d_Law_630 : decode code 630 = .ok (.iconst 3, 1) := by decide +kernel
theorem d_Law_631 : decode code 631 = .ok (.iadd, 1) := by decide +kernel
theorem d_Law_632 : decode code 632 = .ok (.iaload, 1) := by decide +kernel
theorem d_Law_633 : decode code 633 = .ok (.invokevirtual 63, 3) := by decide +kernel
theorem d_Law_636 : decode code 636 = .ok (.aload_n 2, 1) := by decide +kernel
theorem d_Law_637 : decode code 637 = .ok (.aload_n 0, 1) := by decide +kernel
theorem d_Law_638 : decode code 638 = .ok (.iload_n 3, 1) := by decide +kernel
theorem d_Law_639 : decode code 639 = .ok (.iconst 1, 1) := by decide +kernel
theorem d_Law_640 : decode code 640 = .ok (.iadd, 1) := by decide +kernel
theorem d_Law_641 : decode code 641 = .ok (.iaload, 1) := by decide +kernel
theorem d_Law_642 : decode code 642 = .ok (.aload_n 0, 1) := by decide +kernel
theorem d_Law_643 : decode code 643 = .ok (.iload_n 3, 1) := by decide +kernel
theorem d_Law_644 : decode code 644 = .ok (.iconst 2, 1) := by decide +kernel
theorem d_Law_645 : decode code 645 = .ok (.iadd, 1) := by decide +kernel
theorem d_Law_646 : decode code 646 = .ok (.iaload, 1) := by decide +kernel
theorem d_Law_647 : decode code 647 = .ok (.aload_n 0, 1) := by decide +kernel
theorem d_Law_648 : decode code 648 = .ok (.iload_n 3, 1) := by decide +kernel
theorem d_Law_649 : decode code 649 = .ok (.iconst 3, 1) := by decide +kernel
theorem d_Law_650 : decode code 650 = .ok (.iadd, 1) := by decide +kernel
theorem d_Law_651 : decode code 651 = .ok (.iaload, 1) := by decide +kernel
theorem d_Law_652 : decode code 652 = .ok (.invokevirtual 67, 3) := by decide +kernel
theorem d_Law_655 : decode code 655 = .ok (.if_icmp .eq 808, 3) := by decide +kernel
theorem d_Law_658 : decode code 658 = .ok (.iconst 0, 1) := by decide +kernel
theorem d_Law_659 : decode code 659 = .ok (.ireturn, 1) := by decide +kernel
theorem d_Law_660 : decode code 660 = .ok (.aload_n 1, 1) := by decide +kernel
theorem d_Law_661 : decode code 661 = .ok (.aload_n 0, 1) := by decide +kernel
theorem d_Law_662 : decode code 662 = .ok (.iload_n 3, 1) := by decide +kernel
theorem d_Law_663 : decode code 663 = .ok (.iconst 1, 1) := by decide +kernel
theorem d_Law_664 : decode code 664 = .ok (.iadd, 1) := by decide +kernel
theorem d_Law_665 : decode code 665 = .ok (.iaload, 1) := by decide +kernel
theorem d_Law_666 : decode code 666 = .ok (.aload_n 0, 1) := by decide +kernel
theorem d_Law_667 : decode code 667 = .ok (.iload_n 3, 1) := by decide +kernel
theorem d_Law_668 : decode code 668 = .ok (.iconst 2, 1) := by decide +kernel
theorem d_Law_669 : decode code 669 = .ok (.iadd, 1) := by decide +kernel
theorem d_Law_670 : decode code 670 = .ok (.iaload, 1) := by decide +kernel
theorem d_Law_671 : decode code 671 = .ok (.invokevirtual 68, 3) := by decide +kernel
theorem d_Law_674 : decode code 674 = .ok (.aload_n 2, 1) := by decide +kernel
theorem d_Law_675 : decode code 675 = .ok (.aload_n 0, 1) := by decide +kernel
theorem d_Law_676 : decode code 676 = .ok (.iload_n 3, 1) := by decide +kernel
theorem d_Law_677 : decode code 677 = .ok (.iconst 1, 1) := by decide +kernel
theorem d_Law_678 : decode code 678 = .ok (.iadd, 1) := by decide +kernel
theorem d_Law_679 : decode code 679 = .ok (.iaload, 1) := by decide +kernel
theorem d_Law_680 : decode code 680 = .ok (.aload_n 0, 1) := by decide +kernel
theorem d_Law_681 : decode code 681 = .ok (.iload_n 3, 1) := by decide +kernel
theorem d_Law_682 : decode code 682 = .ok (.iconst 2, 1) := by decide +kernel
theorem d_Law_683 : decode code 683 = .ok (.iadd, 1) := by decide +kernel
theorem d_Law_684 : decode code 684 = .ok (.iaload, 1) := by decide +kernel
theorem d_Law_685 : decode code 685 = .ok (.invokevirtual 71, 3) := by decide +kernel
theorem d_Law_688 : decode code 688 = .ok (.if_icmp .eq 775, 3) := by decide +kernel
theorem d_Law_691 : decode code 691 = .ok (.iconst 0, 1) := by decide +kernel
theorem d_Law_692 : decode code 692 = .ok (.ireturn, 1) := by decide +kernel
theorem d_Law_693 : decode code 693 = .ok (.aload_n 1, 1) := by decide +kernel
theorem d_Law_694 : decode code 694 = .ok (.aload_n 0, 1) := by decide +kernel
theorem d_Law_695 : decode code 695 = .ok (.iload_n 3, 1) := by decide +kernel
theorem d_Law_696 : decode code 696 = .ok (.iconst 1, 1) := by decide +kernel
theorem d_Law_697 : decode code 697 = .ok (.iadd, 1) := by decide +kernel
theorem d_Law_698 : decode code 698 = .ok (.iaload, 1) := by decide +kernel
theorem d_Law_699 : decode code 699 = .ok (.aload_n 0, 1) := by decide +kernel
theorem d_Law_700 : decode code 700 = .ok (.iload_n 3, 1) := by decide +kernel
theorem d_Law_701 : decode code 701 = .ok (.iconst 2, 1) := by decide +kernel
theorem d_Law_702 : decode code 702 = .ok (.iadd, 1) := by decide +kernel
theorem d_Law_703 : decode code 703 = .ok (.iaload, 1) := by decide +kernel
theorem d_Law_704 : decode code 704 = .ok (.invokevirtual 72, 3) := by decide +kernel
theorem d_Law_707 : decode code 707 = .ok (.aload_n 2, 1) := by decide +kernel
theorem d_Law_708 : decode code 708 = .ok (.aload_n 0, 1) := by decide +kernel
theorem d_Law_709 : decode code 709 = .ok (.iload_n 3, 1) := by decide +kernel
theorem d_Law_710 : decode code 710 = .ok (.iconst 1, 1) := by decide +kernel
theorem d_Law_711 : decode code 711 = .ok (.iadd, 1) := by decide +kernel
theorem d_Law_712 : decode code 712 = .ok (.iaload, 1) := by decide +kernel
theorem d_Law_713 : decode code 713 = .ok (.aload_n 0, 1) := by decide +kernel
theorem d_Law_714 : decode code 714 = .ok (.iload_n 3, 1) := by decide +kernel
theorem d_Law_715 : decode code 715 = .ok (.iconst 2, 1) := by decide +kernel
theorem d_Law_716 : decode code 716 = .ok (.iadd, 1) := by decide +kernel
theorem d_Law_717 : decode code 717 = .ok (.iaload, 1) := by decide +kernel
theorem d_Law_718 : decode code 718 = .ok (.invokevirtual 75, 3) := by decide +kernel
theorem d_Law_721 : decode code 721 = .ok (.if_icmp .eq 742, 3) := by decide +kernel
theorem d_Law_724 : decode code 724 = .ok (.iconst 0, 1) := by decide +kernel
theorem d_Law_725 : decode code 725 = .ok (.ireturn, 1) := by decide +kernel
theorem d_Law_726 : decode code 726 = .ok (.aload_n 1, 1) := by decide +kernel
theorem d_Law_727 : decode code 727 = .ok (.invokevirtual 76, 3) := by decide +kernel
theorem d_Law_730 : decode code 730 = .ok (.aload_n 2, 1) := by decide +kernel
theorem d_Law_731 : decode code 731 = .ok (.invokevirtual 80, 3) := by decide +kernel
theorem d_Law_734 : decode code 734 = .ok (.lcmp, 1) := by decide +kernel
theorem d_Law_735 : decode code 735 = .ok (.ifCond .eq 728, 3) := by decide +kernel
theorem d_Law_738 : decode code 738 = .ok (.iconst 0, 1) := by decide +kernel
theorem d_Law_739 : decode code 739 = .ok (.ireturn, 1) := by decide +kernel
theorem d_Law_740 : decode code 740 = .ok (.aload_n 1, 1) := by decide +kernel
theorem d_Law_741 : decode code 741 = .ok (.aload_n 0, 1) := by decide +kernel
theorem d_Law_742 : decode code 742 = .ok (.iload_n 3, 1) := by decide +kernel
theorem d_Law_743 : decode code 743 = .ok (.iconst 1, 1) := by decide +kernel
theorem d_Law_744 : decode code 744 = .ok (.iadd, 1) := by decide +kernel
theorem d_Law_745 : decode code 745 = .ok (.iaload, 1) := by decide +kernel
theorem d_Law_746 : decode code 746 = .ok (.aload_n 0, 1) := by decide +kernel
theorem d_Law_747 : decode code 747 = .ok (.iload_n 3, 1) := by decide +kernel
theorem d_Law_748 : decode code 748 = .ok (.iconst 2, 1) := by decide +kernel
theorem d_Law_749 : decode code 749 = .ok (.iadd, 1) := by decide +kernel
theorem d_Law_750 : decode code 750 = .ok (.iaload, 1) := by decide +kernel
theorem d_Law_751 : decode code 751 = .ok (.invokevirtual 81, 3) := by decide +kernel
theorem d_Law_754 : decode code 754 = .ok (.aload_n 2, 1) := by decide +kernel
theorem d_Law_755 : decode code 755 = .ok (.aload_n 0, 1) := by decide +kernel
theorem d_Law_756 : decode code 756 = .ok (.iload_n 3, 1) := by decide +kernel
theorem d_Law_757 : decode code 757 = .ok (.iconst 1, 1) := by decide +kernel
theorem d_Law_758 : decode code 758 = .ok (.iadd, 1) := by decide +kernel
theorem d_Law_759 : decode code 759 = .ok (.iaload, 1) := by decide +kernel
theorem d_Law_760 : decode code 760 = .ok (.aload_n 0, 1) := by decide +kernel
theorem d_Law_761 : decode code 761 = .ok (.iload_n 3, 1) := by decide +kernel
theorem d_Law_762 : decode code 762 = .ok (.iconst 2, 1) := by decide +kernel
theorem d_Law_763 : decode code 763 = .ok (.iadd, 1) := by decide +kernel
theorem d_Law_764 : decode code 764 = .ok (.iaload, 1) := by decide +kernel
theorem d_Law_765 : decode code 765 = .ok (.invokevirtual 84, 3) := by decide +kernel
theorem d_Law_768 : decode code 768 = .ok (.if_icmp .eq 695, 3) := by decide +kernel
theorem d_Law_771 : decode code 771 = .ok (.iconst 0, 1) := by decide +kernel
theorem d_Law_772 : decode code 772 = .ok (.ireturn, 1) := by decide +kernel
theorem d_Law_773 : decode code 773 = .ok (.aload_n 1, 1) := by decide +kernel
theorem d_Law_774 : decode code 774 = .ok (.invokevirtual 85, 3) := by decide +kernel
theorem d_Law_777 : decode code 777 = .ok (.aload_n 2, 1) := by decide +kernel
theorem d_Law_778 : decode code 778 = .ok (.invokevirtual 89, 3) := by decide +kernel
theorem d_Law_781 : decode code 781 = .ok (.if_icmp .eq 682, 3) := by decide +kernel
theorem d_Law_784 : decode code 784 = .ok (.iconst 0, 1) := by decide +kernel
theorem d_Law_785 : decode code 785 = .ok (.ireturn, 1) := by decide +kernel
theorem d_Law_786 : decode code 786 = .ok (.aload_n 1, 1) := by decide +kernel
theorem d_Law_787 : decode code 787 = .ok (.aload_n 0, 1) := by decide +kernel
theorem d_Law_788 : decode code 788 = .ok (.iload_n 3, 1) := by decide +kernel
theorem d_Law_789 : decode code 789 = .ok (.iconst 1, 1) := by decide +kernel
theorem d_Law_790 : decode code 790 = .ok (.iadd, 1) := by decide +kernel
theorem d_Law_791 : decode code 791 = .ok (.iaload, 1) := by decide +kernel
theorem d_Law_792 : decode code 792 = .ok (.aload_n 0, 1) := by decide +kernel
theorem d_Law_793 : decode code 793 = .ok (.iload_n 3, 1) := by decide +kernel
theorem d_Law_794 : decode code 794 = .ok (.iconst 2, 1) := by decide +kernel
theorem d_Law_795 : decode code 795 = .ok (.iadd, 1) := by decide +kernel
theorem d_Law_796 : decode code 796 = .ok (.iaload, 1) := by decide +kernel
theorem d_Law_797 : decode code 797 = .ok (.aload_n 0, 1) := by decide +kernel
theorem d_Law_798 : decode code 798 = .ok (.iload_n 3, 1) := by decide +kernel
theorem d_Law_799 : decode code 799 = .ok (.iconst 3, 1) := by decide +kernel
theorem d_Law_800 : decode code 800 = .ok (.iadd, 1) := by decide +kernel
theorem d_Law_801 : decode code 801 = .ok (.iaload, 1) := by decide +kernel
theorem d_Law_802 : decode code 802 = .ok (.aload_n 0, 1) := by decide +kernel
theorem d_Law_803 : decode code 803 = .ok (.iload_n 3, 1) := by decide +kernel
theorem d_Law_804 : decode code 804 = .ok (.iconst 4, 1) := by decide +kernel
theorem d_Law_805 : decode code 805 = .ok (.iadd, 1) := by decide +kernel
theorem d_Law_806 : decode code 806 = .ok (.iaload, 1) := by decide +kernel
theorem d_Law_807 : decode code 807 = .ok (.invokevirtual 90, 3) := by decide +kernel
theorem d_Law_810 : decode code 810 = .ok (.aload_n 2, 1) := by decide +kernel
theorem d_Law_811 : decode code 811 = .ok (.aload_n 0, 1) := by decide +kernel
theorem d_Law_812 : decode code 812 = .ok (.iload_n 3, 1) := by decide +kernel
theorem d_Law_813 : decode code 813 = .ok (.iconst 1, 1) := by decide +kernel
theorem d_Law_814 : decode code 814 = .ok (.iadd, 1) := by decide +kernel
theorem d_Law_815 : decode code 815 = .ok (.iaload, 1) := by decide +kernel
