theorem f0_0 : fr 0 0 = some (.new 0, 3, [], []) := by decide +kernel
theorem f0_3 : fr 0 3 = some (.dup, 1, [], []) := by decide +kernel
theorem f0_4 : fr 0 4 = some (.invokespecial 1, 3, [], []) := by decide +kernel
theorem f0_7 : fr 0 7 = some (.astore 1, 1, [], []) := by decide +kernel
theorem f0_8 : fr 0 8 = some (.new 11, 3, [], []) := by decide +kernel
theorem f0_11 : fr 0 11 = some (.dup, 1, [], []) := by decide +kernel
theorem f0_12 : fr 0 12 = some (.invokespecial 146, 3, [], []) := by decide +kernel
theorem f0_15 : fr 0 15 = some (.astore 2, 1, [], []) := by decide +kernel
theorem f0_16 : fr 0 16 = some (.iconst 0, 1, [], []) := by decide +kernel
theorem f0_17 : fr 0 17 = some (.istore 3, 1, [], []) := by decide +kernel
theorem f0_18 : fr 0 18 = some (.iload 3, 1, [], []) := by decide +kernel
theorem f0_19 : fr 0 19 = some (.aload 0, 1, [], []) := by decide +kernel
theorem f0_20 : fr 0 20 = some (.arraylength, 1, [], []) := by decide +kernel
theorem f0_21 : fr 0 21 = some (.iconst 6, 2, [], []) := by decide +kernel
theorem f0_23 : fr 0 23 = some (.isub, 1, [], []) := by decide +kernel
theorem f0_24 : fr 0 24 = some (.if_icmp .gt 1658, 3, [], [0, 1, 2, 3]) := by decide +kernel
theorem f0_27 : fr 0 27 = some (.aload 0, 1, [], []) := by decide +kernel
theorem f0_28 : fr 0 28 = some (.iload 3, 1, [], []) := by decide +kernel
theorem f0_29 : fr 0 29 = some (.iaload, 1, [], []) := by decide +kernel
theorem f0_30 : fr 0 30 = some (.iconst 63, 2, [], []) := by decide +kernel
theorem f0_32 : fr 0 32 = some (.iand, 1, [], []) := by decide +kernel
theorem f0_33 : fr 0 33 = some (.lookupswitch 1652 #[(0, 204), (1, 247), (2, 280), (3, 313), (4, 356), (5, 409), (6, 442), (7, 465), (8, 498), (9, 511), (10, 554), (11, 597), (12, 640), (13, 673), (14, 716), (15, 749), (16, 792), (17, 845), (18, 898), (19, 931), (20, 974), (21, 1027), (22, 1070), (23, 1113), (24, 1156), (25, 1179), (26, 1202), (27, 1235), (28, 1248), (29, 1261), (30, 1284), (31, 1327), (32, 1350), (33, 1383), (34, 1426), (35, 1499), (36, 1533), (37, 1596), (38, 1629)], 171, [], []) := by decide +kernel
theorem f0_204 : fr 0 204 = some (.aload 1, 1, [], []) := by decide +kernel
theorem f0_205 : fr 0 205 = some (.aload 0, 1, [], []) := by decide +kernel
theorem f0_206 : fr 0 206 = some (.iload 3, 1, [], []) := by decide +kernel
theorem f0_207 : fr 0 207 = some (.iconst 1, 1, [], []) := by decide +kernel
theorem f0_208 : fr 0 208 = some (.iadd, 1, [], []) := by decide +kernel
theorem f0_209 : fr 0 209 = some (.iaload, 1, [], []) := by decide +kernel
theorem f0_210 : fr 0 210 = some (.aload 0, 1, [], []) := by decide +kernel
theorem f0_211 : fr 0 211 = some (.iload 3, 1, [], []) := by decide +kernel
theorem f0_212 : fr 0 212 = some (.iconst 2, 1, [], []) := by decide +kernel
theorem f0_213 : fr 0 213 = some (.iadd, 1, [], []) := by decide +kernel
theorem f0_214 : fr 0 214 = some (.iaload, 1, [], []) := by decide +kernel
theorem f0_215 : fr 0 215 = some (.aload 0, 1, [], []) := by decide +kernel
theorem f0_216 : fr 0 216 = some (.iload 3, 1, [], []) := by decide +kernel
theorem f0_217 : fr 0 217 = some (.iconst 3, 1, [], []) := by decide +kernel
theorem f0_218 : fr 0 218 = some (.iadd, 1, [], []) := by decide +kernel
theorem f0_219 : fr 0 219 = some (.iaload, 1, [], []) := by decide +kernel
theorem f0_220 : fr 0 220 = some (.invokevirtual 9, 3, [], []) := by decide +kernel
theorem f0_223 : fr 0 223 = some (.aload 2, 1, [], []) := by decide +kernel
theorem f0_224 : fr 0 224 = some (.aload 0, 1, [], []) := by decide +kernel
theorem f0_225 : fr 0 225 = some (.iload 3, 1, [], []) := by decide +kernel
theorem f0_226 : fr 0 226 = some (.iconst 1, 1, [], []) := by decide +kernel
theorem f0_227 : fr 0 227 = some (.iadd, 1, [], []) := by decide +kernel
theorem f0_228 : fr 0 228 = some (.iaload, 1, [], []) := by decide +kernel
theorem f0_229 : fr 0 229 = some (.aload 0, 1, [], []) := by decide +kernel
theorem f0_230 : fr 0 230 = some (.iload 3, 1, [], []) := by decide +kernel
theorem f0_231 : fr 0 231 = some (.iconst 2, 1, [], []) := by decide +kernel
theorem f0_232 : fr 0 232 = some (.iadd, 1, [], []) := by decide +kernel
theorem f0_233 : fr 0 233 = some (.iaload, 1, [], []) := by decide +kernel
theorem f0_234 : fr 0 234 = some (.aload 0, 1, [], []) := by decide +kernel
theorem f0_235 : fr 0 235 = some (.iload 3, 1, [], []) := by decide +kernel
theorem f0_236 : fr 0 236 = some (.iconst 3, 1, [], []) := by decide +kernel
theorem f0_237 : fr 0 237 = some (.iadd, 1, [], []) := by decide +kernel
theorem f0_238 : fr 0 238 = some (.iaload, 1, [], []) := by decide +kernel
theorem f0_239 : fr 0 239 = some (.invokevirtual 147, 3, [], []) := by decide +kernel
theorem f0_242 : fr 0 242 = some (.if_icmp .eq 1652, 3, [0, 1, 2, 3], []) := by decide +kernel
theorem f0_245 : fr 0 245 = some (.iconst 0, 1, [], []) := by decide +kernel
theorem f0_246 : fr 0 246 = some (.ireturn, 1, [], []) := by decide +kernel
theorem f0_247 : fr 0 247 = some (.aload 1, 1, [], []) := by decide +kernel
theorem f0_248 : fr 0 248 = some (.aload 0, 1, [], []) := by decide +kernel
theorem f0_249 : fr 0 249 = some (.iload 3, 1, [], []) := by decide +kernel
theorem f0_250 : fr 0 250 = some (.iconst 1, 1, [], []) := by decide +kernel
theorem f0_251 : fr 0 251 = some (.iadd, 1, [], []) := by decide +kernel
theorem f0_252 : fr 0 252 = some (.iaload, 1, [], []) := by decide +kernel
theorem f0_253 : fr 0 253 = some (.aload 0, 1, [], []) := by decide +kernel
theorem f0_254 : fr 0 254 = some (.iload 3, 1, [], []) := by decide +kernel
theorem f0_255 : fr 0 255 = some (.iconst 2, 1, [], []) := by decide +kernel
theorem f0_256 : fr 0 256 = some (.iadd, 1, [], []) := by decide +kernel
theorem f0_257 : fr 0 257 = some (.iaload, 1, [], []) := by decide +kernel
theorem f0_258 : fr 0 258 = some (.invokevirtual 14, 3, [], []) := by decide +kernel
theorem f0_261 : fr 0 261 = some (.aload 2, 1, [], []) := by decide +kernel
theorem f0_262 : fr 0 262 = some (.aload 0, 1, [], []) := by decide +kernel
theorem f0_263 : fr 0 263 = some (.iload 3, 1, [], []) := by decide +kernel
theorem f0_264 : fr 0 264 = some (.iconst 1, 1, [], []) := by decide +kernel
theorem f0_265 : fr 0 265 = some (.iadd, 1, [], []) := by decide +kernel
theorem f0_266 : fr 0 266 = some (.iaload, 1, [], []) := by decide +kernel
theorem f0_267 : fr 0 267 = some (.aload 0, 1, [], []) := by decide +kernel
theorem f0_268 : fr 0 268 = some (.iload 3, 1, [], []) := by decide +kernel
theorem f0_269 : fr 0 269 = some (.iconst 2, 1, [], []) := by decide +kernel
theorem f0_270 : fr 0 270 = some (.iadd, 1, [], []) := by decide +kernel
theorem f0_271 : fr 0 271 = some (.iaload, 1, [], []) := by decide +kernel
theorem f0_272 : fr 0 272 = some (.invokevirtual 149, 3, [], []) := by decide +kernel
theorem f0_275 : fr 0 275 = some (.if_icmp .eq 1652, 3, [0, 1, 2, 3], []) := by decide +kernel
theorem f0_278 : fr 0 278 = some (.iconst 0, 1, [], []) := by decide +kernel
theorem f0_279 : fr 0 279 = some (.ireturn, 1, [], []) := by decide +kernel
theorem f0_280 : fr 0 280 = some (.aload 1, 1, [], []) := by decide +kernel
theorem f0_281 : fr 0 281 = some (.aload 0, 1, [], []) := by decide +kernel
theorem f0_282 : fr 0 282 = some (.iload 3, 1, [], []) := by decide +kernel
theorem f0_283 : fr 0 283 = some (.iconst 1, 1, [], []) := by decide +kernel
theorem f0_284 : fr 0 284 = some (.iadd, 1, [], []) := by decide +kernel
theorem f0_285 : fr 0 285 = some (.iaload, 1, [], []) := by decide +kernel
theorem f0_286 : fr 0 286 = some (.aload 0, 1, [], []) := by decide +kernel
theorem f0_287 : fr 0 287 = some (.iload 3, 1, [], []) := by decide +kernel
theorem f0_288 : fr 0 288 = some (.iconst 2, 1, [], []) := by decide +kernel
theorem f0_289 : fr 0 289 = some (.iadd, 1, [], []) := by decide +kernel
theorem f0_290 : fr 0 290 = some (.iaload, 1, [], []) := by decide +kernel
theorem f0_291 : fr 0 291 = some (.invokevirtual 17, 3, [], []) := by decide +kernel
theorem f0_294 : fr 0 294 = some (.aload 2, 1, [], []) := by decide +kernel
theorem f0_295 : fr 0 295 = some (.aload 0, 1, [], []) := by decide +kernel
theorem f0_296 : fr 0 296 = some (.iload 3, 1, [], []) := by decide +kernel
theorem f0_297 : fr 0 297 = some (.iconst 1, 1, [], []) := by decide +kernel
theorem f0_298 : fr 0 298 = some (.iadd, 1, [], []) := by decide +kernel
theorem f0_299 : fr 0 299 = some (.iaload, 1, [], []) := by decide +kernel
theorem f0_300 : fr 0 300 = some (.aload 0, 1, [], []) := by decide +kernel
theorem f0_301 : fr 0 301 = some (.iload 3, 1, [], []) := by decide +kernel
theorem f0_302 : fr 0 302 = some (.iconst 2, 1, [], []) := by decide +kernel
theorem f0_303 : fr 0 303 = some (.iadd, 1, [], []) := by decide +kernel
theorem f0_304 : fr 0 304 = some (.iaload, 1, [], []) := by decide +kernel
theorem f0_305 : fr 0 305 = some (.invokevirtual 153, 3, [], []) := by decide +kernel
theorem f0_308 : fr 0 308 = some (.if_icmp .eq 1652, 3, [0, 1, 2, 3], []) := by decide +kernel
theorem f0_311 : fr 0 311 = some (.iconst 0, 1, [], []) := by decide +kernel
theorem f0_312 : fr 0 312 = some (.ireturn, 1, [], []) := by decide +kernel
theorem f0_313 : fr 0 313 = some (.aload 1, 1, [], []) := by decide +kernel
theorem f0_314 : fr 0 314 = some (.aload 0, 1, [], []) := by decide +kernel
theorem f0_315 : fr 0 315 = some (.iload 3, 1, [], []) := by decide +kernel
theorem f0_316 : fr 0 316 = some (.iconst 1, 1, [], []) := by decide +kernel
theorem f0_317 : fr 0 317 = some (.iadd, 1, [], []) := by decide +kernel
theorem f0_318 : fr 0 318 = some (.iaload, 1, [], []) := by decide +kernel
theorem f0_319 : fr 0 319 = some (.aload 0, 1, [], []) := by decide +kernel
theorem f0_320 : fr 0 320 = some (.iload 3, 1, [], []) := by decide +kernel
theorem f0_321 : fr 0 321 = some (.iconst 2, 1, [], []) := by decide +kernel
theorem f0_322 : fr 0 322 = some (.iadd, 1, [], []) := by decide +kernel
theorem f0_323 : fr 0 323 = some (.iaload, 1, [], []) := by decide +kernel
theorem f0_324 : fr 0 324 = some (.aload 0, 1, [], []) := by decide +kernel
theorem f0_325 : fr 0 325 = some (.iload 3, 1, [], []) := by decide +kernel
theorem f0_326 : fr 0 326 = some (.iconst 3, 1, [], []) := by decide +kernel
theorem f0_327 : fr 0 327 = some (.iadd, 1, [], []) := by decide +kernel
theorem f0_328 : fr 0 328 = some (.iaload, 1, [], []) := by decide +kernel
theorem f0_329 : fr 0 329 = some (.invokevirtual 24, 3, [], []) := by decide +kernel
theorem f0_332 : fr 0 332 = some (.aload 2, 1, [], []) := by decide +kernel
theorem f0_333 : fr 0 333 = some (.aload 0, 1, [], []) := by decide +kernel
theorem f0_334 : fr 0 334 = some (.iload 3, 1, [], []) := by decide +kernel
theorem f0_335 : fr 0 335 = some (.iconst 1, 1, [], []) := by decide +kernel
theorem f0_336 : fr 0 336 = some (.iadd, 1, [], []) := by decide +kernel
theorem f0_337 : fr 0 337 = some (.iaload, 1, [], []) := by decide +kernel
theorem f0_338 : fr 0 338 = some (.aload 0, 1, [], []) := by decide +kernel
theorem f0_339 : fr 0 339 = some (.iload 3, 1, [], []) := by decide +kernel
theorem f0_340 : fr 0 340 = some (.iconst 2, 1, [], []) := by decide +kernel
theorem f0_341 : fr 0 341 = some (.iadd, 1, [], []) := by decide +kernel
theorem f0_342 : fr 0 342 = some (.iaload, 1, [], []) := by decide +kernel
theorem f0_343 : fr 0 343 = some (.aload 0, 1, [], []) := by decide +kernel
theorem f0_344 : fr 0 344 = some (.iload 3, 1, [], []) := by decide +kernel
theorem f0_345 : fr 0 345 = some (.iconst 3, 1, [], []) := by decide +kernel
theorem f0_346 : fr 0 346 = some (.iadd, 1, [], []) := by decide +kernel
theorem f0_347 : fr 0 347 = some (.iaload, 1, [], []) := by decide +kernel
theorem f0_348 : fr 0 348 = some (.invokevirtual 158, 3, [], []) := by decide +kernel
theorem f0_351 : fr 0 351 = some (.if_icmp .eq 1652, 3, [0, 1, 2, 3], []) := by decide +kernel
theorem f0_354 : fr 0 354 = some (.iconst 0, 1, [], []) := by decide +kernel
theorem f0_355 : fr 0 355 = some (.ireturn, 1, [], []) := by decide +kernel
theorem f0_356 : fr 0 356 = some (.aload 1, 1, [], []) := by decide +kernel
theorem f0_357 : fr 0 357 = some (.aload 0, 1, [], []) := by decide +kernel
theorem f0_358 : fr 0 358 = some (.iload 3, 1, [], []) := by decide +kernel
theorem f0_359 : fr 0 359 = some (.iconst 1, 1, [], []) := by decide +kernel
theorem f0_360 : fr 0 360 = some (.iadd, 1, [], []) := by decide +kernel
theorem f0_361 : fr 0 361 = some (.iaload, 1, [], []) := by decide +kernel
theorem f0_362 : fr 0 362 = some (.aload 0, 1, [], []) := by decide +kernel
theorem f0_363 : fr 0 363 = some (.iload 3, 1, [], []) := by decide +kernel
theorem f0_364 : fr 0 364 = some (.iconst 2, 1, [], []) := by decide +kernel
theorem f0_365 : fr 0 365 = some (.iadd, 1, [], []) := by decide +kernel
theorem f0_366 : fr 0 366 = some (.iaload, 1, [], []) := by decide +kernel
theorem f0_367 : fr 0 367 = some (.aload 0, 1, [], []) := by decide +kernel
theorem f0_368 : fr 0 368 = some (.iload 3, 1, [], []) := by decide +kernel
theorem f0_369 : fr 0 369 = some (.iconst 3, 1, [], []) := by decide +kernel
theorem f0_370 : fr 0 370 = some (.iadd, 1, [], []) := by decide +kernel
theorem f0_371 : fr 0 371 = some (.iaload, 1, [], []) := by decide +kernel
theorem f0_372 : fr 0 372 = some (.aload 0, 1, [], []) := by decide +kernel
theorem f0_373 : fr 0 373 = some (.iload 3, 1, [], []) := by decide +kernel
theorem f0_374 : fr 0 374 = some (.iconst 4, 1, [], []) := by decide +kernel
theorem f0_375 : fr 0 375 = some (.iadd, 1, [], []) := by decide +kernel
theorem f0_376 : fr 0 376 = some (.iaload, 1, [], []) := by decide +kernel
theorem f0_377 : fr 0 377 = some (.invokevirtual 25, 3, [], []) := by decide +kernel
theorem f0_380 : fr 0 380 = some (.aload 2, 1, [], []) := by decide +kernel
theorem f0_381 : fr 0 381 = some (.aload 0, 1, [], []) := by decide +kernel
theorem f0_382 : fr 0 382 = some (.iload 3, 1, [], []) := by decide +kernel
theorem f0_383 : fr 0 383 = some (.iconst 1, 1, [], []) := by decide +kernel
theorem f0_384 : fr 0 384 = some (.iadd, 1, [], []) := by decide +kernel
theorem f0_385 : fr 0 385 = some (.iaload, 1, [], []) := by decide +kernel
theorem f0_386 : fr 0 386 = some (.aload 0, 1, [], []) := by decide +kernel
theorem f0_387 : fr 0 387 = some (.iload 3, 1, [], []) := by decide +kernel
theorem f0_388 : fr 0 388 = some (.iconst 2, 1, [], []) := by decide +kernel
theorem f0_389 : fr 0 389 = some (.iadd, 1, [], []) := by decide +kernel
theorem f0_390 : fr 0 390 = some (.iaload, 1, [], []) := by decide +kernel
theorem f0_391 : fr 0 391 = some (.aload 0, 1, [], []) := by decide +kernel
theorem f0_392 : fr 0 392 = some (.iload 3, 1, [], []) := by decide +kernel
theorem f0_393 : fr 0 393 = some (.iconst 3, 1, [], []) := by decide +kernel
theorem f0_394 : fr 0 394 = some (.iadd, 1, [], []) := by decide +kernel
theorem f0_395 : fr 0 395 = some (.iaload, 1, [], []) := by decide +kernel
theorem f0_396 : fr 0 396 = some (.aload 0, 1, [], []) := by decide +kernel
theorem f0_397 : fr 0 397 = some (.iload 3, 1, [], []) := by decide +kernel
theorem f0_398 : fr 0 398 = some (.iconst 4, 1, [], []) := by decide +kernel
theorem f0_399 : fr 0 399 = some (.iadd, 1, [], []) := by decide +kernel
theorem f0_400 : fr 0 400 = some (.iaload, 1, [], []) := by decide +kernel
theorem f0_401 : fr 0 401 = some (.invokevirtual 159, 3, [], []) := by decide +kernel
theorem f0_404 : fr 0 404 = some (.if_icmp .eq 1652, 3, [0, 1, 2, 3], []) := by decide +kernel
theorem f0_407 : fr 0 407 = some (.iconst 0, 1, [], []) := by decide +kernel
theorem f0_408 : fr 0 408 = some (.ireturn, 1, [], []) := by decide +kernel
theorem f0_409 : fr 0 409 = some (.aload 1, 1, [], []) := by decide +kernel
theorem f0_410 : fr 0 410 = some (.aload 0, 1, [], []) := by decide +kernel
theorem f0_411 : fr 0 411 = some (.iload 3, 1, [], []) := by decide +kernel
theorem f0_412 : fr 0 412 = some (.iconst 1, 1, [], []) := by decide +kernel
theorem f0_413 : fr 0 413 = some (.iadd, 1, [], []) := by decide +kernel
theorem f0_414 : fr 0 414 = some (.iaload, 1, [], []) := by decide +kernel
theorem f0_415 : fr 0 415 = some (.aload 0, 1, [], []) := by decide +kernel
theorem f0_416 : fr 0 416 = some (.iload 3, 1, [], []) := by decide +kernel
theorem f0_417 : fr 0 417 = some (.iconst 2, 1, [], []) := by decide +kernel
theorem f0_418 : fr 0 418 = some (.iadd, 1, [], []) := by decide +kernel
theorem f0_419 : fr 0 419 = some (.iaload, 1, [], []) := by decide +kernel
theorem f0_420 : fr 0 420 = some (.invokevirtual 33, 3, [], []) := by decide +kernel
theorem f0_423 : fr 0 423 = some (.aload 2, 1, [], []) := by decide +kernel
theorem f0_424 : fr 0 424 = some (.aload 0, 1, [], []) := by decide +kernel
theorem f0_425 : fr 0 425 = some (.iload 3, 1, [], []) := by decide +kernel
theorem f0_426 : fr 0 426 = some (.iconst 1, 1, [], []) := by decide +kernel
theorem f0_427 : fr 0 427 = some (.iadd, 1, [], []) := by decide +kernel
theorem f0_428 : fr 0 428 = some (.iaload, 1, [], []) := by decide +kernel
theorem f0_429 : fr 0 429 = some (.aload 0, 1, [], []) := by decide +kernel
theorem f0_430 : fr 0 430 = some (.iload 3, 1, [], []) := by decide +kernel
theorem f0_431 : fr 0 431 = some (.iconst 2, 1, [], []) := by decide +kernel
theorem f0_432 : fr 0 432 = some (.iadd, 1, [], []) := by decide +kernel
theorem f0_433 : fr 0 433 = some (.iaload, 1, [], []) := by decide +kernel
theorem f0_434 : fr 0 434 = some (.invokevirtual 161, 3, [], []) := by decide +kernel
theorem f0_437 : fr 0 437 = some (.if_icmp .eq 1652, 3, [0, 1, 2, 3], []) := by decide +kernel
theorem f0_440 : fr 0 440 = some (.iconst 0, 1, [], []) := by decide +kernel
theorem f0_441 : fr 0 441 = some (.ireturn, 1, [], []) := by decide +kernel
theorem f0_442 : fr 0 442 = some (.aload 1, 1, [], []) := by decide +kernel
theorem f0_443 : fr 0 443 = some (.aload 0, 1, [], []) := by decide +kernel
theorem f0_444 : fr 0 444 = some (.iload 3, 1, [], []) := by decide +kernel
theorem f0_445 : fr 0 445 = some (.iconst 1, 1, [], []) := by decide +kernel
theorem f0_446 : fr 0 446 = some (.iadd, 1, [], []) := by decide +kernel
theorem f0_447 : fr 0 447 = some (.iaload, 1, [], []) := by decide +kernel
theorem f0_448 : fr 0 448 = some (.invokevirtual 37, 3, [], []) := by decide +kernel
theorem f0_451 : fr 0 451 = some (.aload 2, 1, [], []) := by decide +kernel
theorem f0_452 : fr 0 452 = some (.aload 0, 1, [], []) := by decide +kernel
theorem f0_453 : fr 0 453 = some (.iload 3, 1, [], []) := by decide +kernel
theorem f0_454 : fr 0 454 = some (.iconst 1, 1, [], []) := by decide +kernel
theorem f0_455 : fr 0 455 = some (.iadd, 1, [], []) := by decide +kernel
theorem f0_456 : fr 0 456 = some (.iaload, 1, [], []) := by decide +kernel
theorem f0_457 : fr 0 457 = some (.invokevirtual 163, 3, [], []) := by decide +kernel
theorem f0_460 : fr 0 460 = some (.if_icmp .eq 1652, 3, [0, 1, 2, 3], []) := by decide +kernel
theorem f0_463 : fr 0 463 = some (.iconst 0, 1, [], []) := by decide +kernel
theorem f0_464 : fr 0 464 = some (.ireturn, 1, [], []) := by decide +kernel
theorem f0_465 : fr 0 465 = some (.aload 1, 1, [], []) := by decide +kernel
theorem f0_466 : fr 0 466 = some (.aload 0, 1, [], []) := by decide +kernel
theorem f0_467 : fr 0 467 = some (.iload 3, 1, [], []) := by decide +kernel
theorem f0_468 : fr 0 468 = some (.iconst 1, 1, [], []) := by decide +kernel
theorem f0_469 : fr 0 469 = some (.iadd, 1, [], []) := by decide +kernel
theorem f0_470 : fr 0 470 = some (.iaload, 1, [], []) := by decide +kernel
theorem f0_471 : fr 0 471 = some (.aload 0, 1, [], []) := by decide +kernel
theorem f0_472 : fr 0 472 = some (.iload 3, 1, [], []) := by decide +kernel
theorem f0_473 : fr 0 473 = some (.iconst 2, 1, [], []) := by decide +kernel
theorem f0_474 : fr 0 474 = some (.iadd, 1, [], []) := by decide +kernel
theorem f0_475 : fr 0 475 = some (.iaload, 1, [], []) := by decide +kernel
theorem f0_476 : fr 0 476 = some (.invokevirtual 39, 3, [], []) := by decide +kernel
theorem f0_479 : fr 0 479 = some (.aload 2, 1, [], []) := by decide +kernel
theorem f0_480 : fr 0 480 = some (.aload 0, 1, [], []) := by decide +kernel
theorem f0_481 : fr 0 481 = some (.iload 3, 1, [], []) := by decide +kernel
theorem f0_482 : fr 0 482 = some (.iconst 1, 1, [], []) := by decide +kernel
theorem f0_483 : fr 0 483 = some (.iadd, 1, [], []) := by decide +kernel
theorem f0_484 : fr 0 484 = some (.iaload, 1, [], []) := by decide +kernel
theorem f0_485 : fr 0 485 = some (.aload 0, 1, [], []) := by decide +kernel
theorem f0_486 : fr 0 486 = some (.iload 3, 1, [], []) := by decide +kernel
theorem f0_487 : fr 0 487 = some (.iconst 2, 1, [], []) := by decide +kernel
theorem f0_488 : fr 0 488 = some (.iadd, 1, [], []) := by decide +kernel
theorem f0_489 : fr 0 489 = some (.iaload, 1, [], []) := by decide +kernel
theorem f0_490 : fr 0 490 = some (.invokevirtual 164, 3, [], []) := by decide +kernel
theorem f0_493 : fr 0 493 = some (.if_icmp .eq 1652, 3, [0, 1, 2, 3], []) := by decide +kernel
theorem f0_496 : fr 0 496 = some (.iconst 0, 1, [], []) := by decide +kernel
theorem f0_497 : fr 0 497 = some (.ireturn, 1, [], []) := by decide +kernel
theorem f0_498 : fr 0 498 = some (.aload 1, 1, [], []) := by decide +kernel
theorem f0_499 : fr 0 499 = some (.invokevirtual 41, 3, [], []) := by decide +kernel
theorem f0_502 : fr 0 502 = some (.aload 2, 1, [], []) := by decide +kernel
theorem f0_503 : fr 0 503 = some (.invokevirtual 165, 3, [], []) := by decide +kernel
theorem f0_506 : fr 0 506 = some (.if_icmp .eq 1652, 3, [0, 1, 2, 3], []) := by decide +kernel
theorem f0_509 : fr 0 509 = some (.iconst 0, 1, [], []) := by decide +kernel
theorem f0_510 : fr 0 510 = some (.ireturn, 1, [], []) := by decide +kernel
theorem f0_511 : fr 0 511 = some (.aload 1, 1, [], []) := by decide +kernel
theorem f0_512 : fr 0 512 = some (.aload 0, 1, [], []) := by decide +kernel
theorem f0_513 : fr 0 513 = some (.iload 3, 1, [], []) := by decide +kernel
theorem f0_514 : fr 0 514 = some (.iconst 1, 1, [], []) := by decide +kernel
theorem f0_515 : fr 0 515 = some (.iadd, 1, [], []) := by decide +kernel
theorem f0_516 : fr 0 516 = some (.iaload, 1, [], []) := by decide +kernel
theorem f0_517 : fr 0 517 = some (.aload 0, 1, [], []) := by decide +kernel
theorem f0_518 : fr 0 518 = some (.iload 3, 1, [], []) := by decide +kernel
theorem f0_519 : fr 0 519 = some (.iconst 2, 1, [], []) := by decide +kernel
theorem f0_520 : fr 0 520 = some (.iadd, 1, [], []) := by decide +kernel
theorem f0_521 : fr 0 521 = some (.iaload, 1, [], []) := by decide +kernel
theorem f0_522 : fr 0 522 = some (.aload 0, 1, [], []) := by decide +kernel
theorem f0_523 : fr 0 523 = some (.iload 3, 1, [], []) := by decide +kernel
theorem f0_524 : fr 0 524 = some (.iconst 3, 1, [], []) := by decide +kernel
theorem f0_525 : fr 0 525 = some (.iadd, 1, [], []) := by decide +kernel
theorem f0_526 : fr 0 526 = some (.iaload, 1, [], []) := by decide +kernel
theorem f0_527 : fr 0 527 = some (.invokevirtual 56, 3, [], []) := by decide +kernel
theorem f0_530 : fr 0 530 = some (.aload 2, 1, [], []) := by decide +kernel
theorem f0_531 : fr 0 531 = some (.aload 0, 1, [], []) := by decide +kernel
theorem f0_532 : fr 0 532 = some (.iload 3, 1, [], []) := by decide +kernel
theorem f0_533 : fr 0 533 = some (.iconst 1, 1, [], []) := by decide +kernel
theorem f0_534 : fr 0 534 = some (.iadd, 1, [], []) := by decide +kernel
theorem f0_535 : fr 0 535 = some (.iaload, 1, [], []) := by decide +kernel
theorem f0_536 : fr 0 536 = some (.aload 0, 1, [], []) := by decide +kernel
theorem f0_537 : fr 0 537 = some (.iload 3, 1, [], []) := by decide +kernel
theorem f0_538 : fr 0 538 = some (.iconst 2, 1, [], []) := by decide +kernel
theorem f0_539 : fr 0 539 = some (.iadd, 1, [], []) := by decide +kernel
theorem f0_540 : fr 0 540 = some (.iaload, 1, [], []) := by decide +kernel
theorem f0_541 : fr 0 541 = some (.aload 0, 1, [], []) := by decide +kernel
theorem f0_542 : fr 0 542 = some (.iload 3, 1, [], []) := by decide +kernel
theorem f0_543 : fr 0 543 = some (.iconst 3, 1, [], []) := by decide +kernel
theorem f0_544 : fr 0 544 = some (.iadd, 1, [], []) := by decide +kernel
theorem f0_545 : fr 0 545 = some (.iaload, 1, [], []) := by decide +kernel
theorem f0_546 : fr 0 546 = some (.invokevirtual 178, 3, [], []) := by decide +kernel
theorem f0_549 : fr 0 549 = some (.if_icmp .eq 1652, 3, [0, 1, 2, 3], []) := by decide +kernel
theorem f0_552 : fr 0 552 = some (.iconst 0, 1, [], []) := by decide +kernel
theorem f0_553 : fr 0 553 = some (.ireturn, 1, [], []) := by decide +kernel
theorem f0_554 : fr 0 554 = some (.aload 1, 1, [], []) := by decide +kernel
theorem f0_555 : fr 0 555 = some (.aload 0, 1, [], []) := by decide +kernel
theorem f0_556 : fr 0 556 = some (.iload 3, 1, [], []) := by decide +kernel
theorem f0_557 : fr 0 557 = some (.iconst 1, 1, [], []) := by decide +kernel
theorem f0_558 : fr 0 558 = some (.iadd, 1, [], []) := by decide +kernel
theorem f0_559 : fr 0 559 = some (.iaload, 1, [], []) := by decide +kernel
theorem f0_560 : fr 0 560 = some (.aload 0, 1, [], []) := by decide +kernel
theorem f0_561 : fr 0 561 = some (.iload 3, 1, [], []) := by decide +kernel
theorem f0_562 : fr 0 562 = some (.iconst 2, 1, [], []) := by decide +kernel
theorem f0_563 : fr 0 563 = some (.iadd, 1, [], []) := by decide +kernel
theorem f0_564 : fr 0 564 = some (.iaload, 1, [], []) := by decide +kernel
theorem f0_565 : fr 0 565 = some (.aload 0, 1, [], []) := by decide +kernel
theorem f0_566 : fr 0 566 = some (.iload 3, 1, [], []) := by decide +kernel
theorem f0_567 : fr 0 567 = some (.iconst 3, 1, [], []) := by decide +kernel
theorem f0_568 : fr 0 568 = some (.iadd, 1, [], []) := by decide +kernel
theorem f0_569 : fr 0 569 = some (.iaload, 1, [], []) := by decide +kernel
theorem f0_570 : fr 0 570 = some (.invokevirtual 62, 3, [], []) := by decide +kernel
theorem f0_573 : fr 0 573 = some (.aload 2, 1, [], []) := by decide +kernel
theorem f0_574 : fr 0 574 = some (.aload 0, 1, [], []) := by decide +kernel
theorem f0_575 : fr 0 575 = some (.iload 3, 1, [], []) := by decide +kernel
theorem f0_576 : fr 0 576 = some (.iconst 1, 1, [], []) := by decide +kernel
theorem f0_577 : fr 0 577 = some (.iadd, 1, [], []) := by decide +kernel
theorem f0_578 : fr 0 578 = some (.iaload, 1, [], []) := by decide +kernel
theorem f0_579 : fr 0 579 = some (.aload 0, 1, [], []) := by decide +kernel
theorem f0_580 : fr 0 580 = some (.iload 3, 1, [], []) := by decide +kernel
theorem f0_581 : fr 0 581 = some (.iconst 2, 1, [], []) := by decide +kernel
theorem f0_582 : fr 0 582 = some (.iadd, 1, [], []) := by decide +kernel
theorem f0_583 : fr 0 583 = some (.iaload, 1, [], []) := by decide +kernel
theorem f0_584 : fr 0 584 = some (.aload 0, 1, [], []) := by decide +kernel
theorem f0_585 : fr 0 585 = some (.iload 3, 1, [], []) := by decide +kernel
theorem f0_586 : fr 0 586 = some (.iconst 3, 1, [], []) := by decide +kernel
theorem f0_587 : fr 0 587 = some (.iadd, 1, [], []) := by decide +kernel
theorem f0_588 : fr 0 588 = some (.iaload, 1, [], []) := by decide +kernel
theorem f0_589 : fr 0 589 = some (.invokevirtual 185, 3, [], []) := by decide +kernel
theorem f0_592 : fr 0 592 = some (.if_icmp .eq 1652, 3, [0, 1, 2, 3], []) := by decide +kernel
theorem f0_595 : fr 0 595 = some (.iconst 0, 1, [], []) := by decide +kernel
theorem f0_596 : fr 0 596 = some (.ireturn, 1, [], []) := by decide +kernel
theorem f0_597 : fr 0 597 = some (.aload 1, 1, [], []) := by decide +kernel
theorem f0_598 : fr 0 598 = some (.aload 0, 1, [], []) := by decide +kernel
theorem f0_599 : fr 0 599 = some (.iload 3, 1, [], []) := by decide +kernel
theorem f0_600 : fr 0 600 = some (.iconst 1, 1, [], []) := by decide +kernel
theorem f0_601 : fr 0 601 = some (.iadd, 1, [], []) := by decide +kernel
theorem f0_602 : fr 0 602 = some (.iaload, 1, [], []) := by decide +kernel
theorem f0_603 : fr 0 603 = some (.aload 0, 1, [], []) := by decide +kernel
theorem f0_604 : fr 0 604 = some (.iload 3, 1, [], []) := by decide +kernel
theorem f0_605 : fr 0 605 = some (.iconst 2, 1, [], []) := by decide +kernel
theorem f0_606 : fr 0 606 = some (.iadd, 1, [], []) := by decide +kernel
theorem f0_607 : fr 0 607 = some (.iaload, 1, [], []) := by decide +kernel
theorem f0_608 : fr 0 608 = some (.aload 0, 1, [], []) := by decide +kernel
theorem f0_609 : fr 0 609 = some (.iload 3, 1, [], []) := by decide +kernel
theorem f0_610 : fr 0 610 = some (.iconst 3, 1, [], []) := by decide +kernel
theorem f0_611 : fr 0 611 = some (.iadd, 1, [], []) := by decide +kernel
theorem f0_612 : fr 0 612 = some (.iaload, 1, [], []) := by decide +kernel
theorem f0_613 : fr 0 613 = some (.invokevirtual 64, 3, [], []) := by decide +kernel
theorem f0_616 : fr 0 616 = some (.aload 2, 1, [], []) := by decide +kernel
theorem f0_617 : fr 0 617 = some (.aload 0, 1, [], []) := by decide +kernel
theorem f0_618 : fr 0 618 = some (.iload 3, 1, [], []) := by decide +kernel
theorem f0_619 : fr 0 619 = some (.iconst 1, 1, [], []) := by decide +kernel
theorem f0_620 : fr 0 620 = some (.iadd, 1, [], []) := by decide +kernel
theorem f0_621 : fr 0 621 = some (.iaload, 1, [], []) := by decide +kernel
theorem f0_622 : fr 0 622 = some (.aload 0, 1, [], []) := by decide +kernel
theorem f0_623 : fr 0 623 = some (.iload 3, 1, [], []) := by decide +kernel
theorem f0_624 : fr 0 624 = some (.iconst 2, 1, [], []) := by decide +kernel
theorem f0_625 : fr 0 625 = some (.iadd, 1, [], []) := by decide +kernel
theorem f0_626 : fr 0 626 = some (.iaload, 1, [], []) := by decide +kernel
theorem f0_627 : fr 0 627 = some (.aload 0, 1, [], []) := by decide +kernel
theorem f0_628 : fr 0 628 = some (.iload 3, 1, [], []) := by decide +kernel
theorem f0_629 : fr 0 629 = some (.iconst 3, 1, [], []) := by decide +kernel
theorem f0_630 : fr 0 630 = some (.iadd, 1, [], []) := by decide +kernel
theorem f0_631 : fr 0 631 = some (.iaload, 1, [], []) := by decide +kernel
theorem f0_632 : fr 0 632 = some (.invokevirtual 186, 3, [], []) := by decide +kernel
theorem f0_635 : fr 0 635 = some (.if_icmp .eq 1652, 3, [0, 1, 2, 3], []) := by decide +kernel
theorem f0_638 : fr 0 638 = some (.iconst 0, 1, [], []) := by decide +kernel
theorem f0_639 : fr 0 639 = some (.ireturn, 1, [], []) := by decide +kernel
theorem f0_640 : fr 0 640 = some (.aload 1, 1, [], []) := by decide +kernel
theorem f0_641 : fr 0 641 = some (.aload 0, 1, [], []) := by decide +kernel
theorem f0_642 : fr 0 642 = some (.iload 3, 1, [], []) := by decide +kernel
theorem f0_643 : fr 0 643 = some (.iconst 1, 1, [], []) := by decide +kernel
theorem f0_644 : fr 0 644 = some (.iadd, 1, [], []) := by decide +kernel
theorem f0_645 : fr 0 645 = some (.iaload, 1, [], []) := by decide +kernel
theorem f0_646 : fr 0 646 = some (.aload 0, 1, [], []) := by decide +kernel
theorem f0_647 : fr 0 647 = some (.iload 3, 1, [], []) := by decide +kernel
theorem f0_648 : fr 0 648 = some (.iconst 2, 1, [], []) := by decide +kernel
theorem f0_649 : fr 0 649 = some (.iadd, 1, [], []) := by decide +kernel
theorem f0_650 : fr 0 650 = some (.iaload, 1, [], []) := by decide +kernel
theorem f0_651 : fr 0 651 = some (.invokevirtual 69, 3, [], []) := by decide +kernel
theorem f0_654 : fr 0 654 = some (.aload 2, 1, [], []) := by decide +kernel
theorem f0_655 : fr 0 655 = some (.aload 0, 1, [], []) := by decide +kernel
theorem f0_656 : fr 0 656 = some (.iload 3, 1, [], []) := by decide +kernel
theorem f0_657 : fr 0 657 = some (.iconst 1, 1, [], []) := by decide +kernel
theorem f0_658 : fr 0 658 = some (.iadd, 1, [], []) := by decide +kernel
theorem f0_659 : fr 0 659 = some (.iaload, 1, [], []) := by decide +kernel
theorem f0_660 : fr 0 660 = some (.aload 0, 1, [], []) := by decide +kernel
theorem f0_661 : fr 0 661 = some (.iload 3, 1, [], []) := by decide +kernel
theorem f0_662 : fr 0 662 = some (.iconst 2, 1, [], []) := by decide +kernel
theorem f0_663 : fr 0 663 = some (.iadd, 1, [], []) := by decide +kernel
theorem f0_664 : fr 0 664 = some (.iaload, 1, [], []) := by decide +kernel
theorem f0_665 : fr 0 665 = some (.invokevirtual 191, 3, [], []) := by decide +kernel
theorem f0_668 : fr 0 668 = some (.if_icmp .eq 1652, 3, [0, 1, 2, 3], []) := by decide +kernel
theorem f0_671 : fr 0 671 = some (.iconst 0, 1, [], []) := by decide +kernel
theorem f0_672 : fr 0 672 = some (.ireturn, 1, [], []) := by decide +kernel
theorem f0_673 : fr 0 673 = some (.aload 1, 1, [], []) := by decide +kernel
theorem f0_674 : fr 0 674 = some (.aload 0, 1, [], []) := by decide +kernel
theorem f0_675 : fr 0 675 = some (.iload 3, 1, [], []) := by decide +kernel
theorem f0_676 : fr 0 676 = some (.iconst 1, 1, [], []) := by decide +kernel
theorem f0_677 : fr 0 677 = some (.iadd, 1, [], []) := by decide +kernel
theorem f0_678 : fr 0 678 = some (.iaload, 1, [], []) := by decide +kernel
theorem f0_679 : fr 0 679 = some (.aload 0, 1, [], []) := by decide +kernel
theorem f0_680 : fr 0 680 = some (.iload 3, 1, [], []) := by decide +kernel
theorem f0_681 : fr 0 681 = some (.iconst 2, 1, [], []) := by decide +kernel
theorem f0_682 : fr 0 682 = some (.iadd, 1, [], []) := by decide +kernel
theorem f0_683 : fr 0 683 = some (.iaload, 1, [], []) := by decide +kernel
theorem f0_684 : fr 0 684 = some (.aload 0, 1, [], []) := by decide +kernel
theorem f0_685 : fr 0 685 = some (.iload 3, 1, [], []) := by decide +kernel
theorem f0_686 : fr 0 686 = some (.iconst 3, 1, [], []) := by decide +kernel
theorem f0_687 : fr 0 687 = some (.iadd, 1, [], []) := by decide +kernel
theorem f0_688 : fr 0 688 = some (.iaload, 1, [], []) := by decide +kernel
theorem f0_689 : fr 0 689 = some (.invokevirtual 70, 3, [], []) := by decide +kernel
theorem f0_692 : fr 0 692 = some (.aload 2, 1, [], []) := by decide +kernel
theorem f0_693 : fr 0 693 = some (.aload 0, 1, [], []) := by decide +kernel
theorem f0_694 : fr 0 694 = some (.iload 3, 1, [], []) := by decide +kernel
theorem f0_695 : fr 0 695 = some (.iconst 1, 1, [], []) := by decide +kernel
theorem f0_696 : fr 0 696 = some (.iadd, 1, [], []) := by decide +kernel
theorem f0_697 : fr 0 697 = some (.iaload, 1, [], []) := by decide +kernel
theorem f0_698 : fr 0 698 = some (.aload 0, 1, [], []) := by decide +kernel
theorem f0_699 : fr 0 699 = some (.iload 3, 1, [], []) := by decide +kernel
theorem f0_700 : fr 0 700 = some (.iconst 2, 1, [], []) := by decide +kernel
theorem f0_701 : fr 0 701 = some (.iadd, 1, [], []) := by decide +kernel
theorem f0_702 : fr 0 702 = some (.iaload, 1, [], []) := by decide +kernel
theorem f0_703 : fr 0 703 = some (.aload 0, 1, [], []) := by decide +kernel
theorem f0_704 : fr 0 704 = some (.iload 3, 1, [], []) := by decide +kernel
theorem f0_705 : fr 0 705 = some (.iconst 3, 1, [], []) := by decide +kernel
theorem f0_706 : fr 0 706 = some (.iadd, 1, [], []) := by decide +kernel
theorem f0_707 : fr 0 707 = some (.iaload, 1, [], []) := by decide +kernel
theorem f0_708 : fr 0 708 = some (.invokevirtual 192, 3, [], []) := by decide +kernel
theorem f0_711 : fr 0 711 = some (.if_icmp .eq 1652, 3, [0, 1, 2, 3], []) := by decide +kernel
theorem f0_714 : fr 0 714 = some (.iconst 0, 1, [], []) := by decide +kernel
theorem f0_715 : fr 0 715 = some (.ireturn, 1, [], []) := by decide +kernel
theorem f0_716 : fr 0 716 = some (.aload 1, 1, [], []) := by decide +kernel
theorem f0_717 : fr 0 717 = some (.aload 0, 1, [], []) := by decide +kernel
theorem f0_718 : fr 0 718 = some (.iload 3, 1, [], []) := by decide +kernel
theorem f0_719 : fr 0 719 = some (.iconst 1, 1, [], []) := by decide +kernel
theorem f0_720 : fr 0 720 = some (.iadd, 1, [], []) := by decide +kernel
theorem f0_721 : fr 0 721 = some (.iaload, 1, [], []) := by decide +kernel
theorem f0_722 : fr 0 722 = some (.aload 0, 1, [], []) := by decide +kernel
theorem f0_723 : fr 0 723 = some (.iload 3, 1, [], []) := by decide +kernel
theorem f0_724 : fr 0 724 = some (.iconst 2, 1, [], []) := by decide +kernel
theorem f0_725 : fr 0 725 = some (.iadd, 1, [], []) := by decide +kernel
theorem f0_726 : fr 0 726 = some (.iaload, 1, [], []) := by decide +kernel
theorem f0_727 : fr 0 727 = some (.invokevirtual 71, 3, [], []) := by decide +kernel
theorem f0_730 : fr 0 730 = some (.aload 2, 1, [], []) := by decide +kernel
theorem f0_731 : fr 0 731 = some (.aload 0, 1, [], []) := by decide +kernel
theorem f0_732 : fr 0 732 = some (.iload 3, 1, [], []) := by decide +kernel
theorem f0_733 : fr 0 733 = some (.iconst 1, 1, [], []) := by decide +kernel
theorem f0_734 : fr 0 734 = some (.iadd, 1, [], []) := by decide +kernel
theorem f0_735 : fr 0 735 = some (.iaload, 1, [], []) := by decide +kernel
theorem f0_736 : fr 0 736 = some (.aload 0, 1, [], []) := by decide +kernel
theorem f0_737 : fr 0 737 = some (.iload 3, 1, [], []) := by decide +kernel
theorem f0_738 : fr 0 738 = some (.iconst 2, 1, [], []) := by decide +kernel
theorem f0_739 : fr 0 739 = some (.iadd, 1, [], []) := by decide +kernel
theorem f0_740 : fr 0 740 = some (.iaload, 1, [], []) := by decide +kernel
theorem f0_741 : fr 0 741 = some (.invokevirtual 193, 3, [], []) := by decide +kernel
theorem f0_744 : fr 0 744 = some (.if_icmp .eq 1652, 3, [0, 1, 2, 3], []) := by decide +kernel
theorem f0_747 : fr 0 747 = some (.iconst 0, 1, [], []) := by decide +kernel
theorem f0_748 : fr 0 748 = some (.ireturn, 1, [], []) := by decide +kernel
theorem f0_749 : fr 0 749 = some (.aload 1, 1, [], []) := by decide +kernel
theorem f0_750 : fr 0 750 = some (.aload 0, 1, [], []) := by decide +kernel
theorem f0_751 : fr 0 751 = some (.iload 3, 1, [], []) := by decide +kernel
theorem f0_752 : fr 0 752 = some (.iconst 1, 1, [], []) := by decide +kernel
theorem f0_753 : fr 0 753 = some (.iadd, 1, [], []) := by decide +kernel
theorem f0_754 : fr 0 754 = some (.iaload, 1, [], []) := by decide +kernel
theorem f0_755 : fr 0 755 = some (.aload 0, 1, [], []) := by decide +kernel
theorem f0_756 : fr 0 756 = some (.iload 3, 1, [], []) := by decide +kernel
theorem f0_757 : fr 0 757 = some (.iconst 2, 1, [], []) := by decide +kernel
theorem f0_758 : fr 0 758 = some (.iadd, 1, [], []) := by decide +kernel
theorem f0_759 : fr 0 759 = some (.iaload, 1, [], []) := by decide +kernel
theorem f0_760 : fr 0 760 = some (.aload 0, 1, [], []) := by decide +kernel
theorem f0_761 : fr 0 761 = some (.iload 3, 1, [], []) := by decide +kernel
theorem f0_762 : fr 0 762 = some (.iconst 3, 1, [], []) := by decide +kernel
theorem f0_763 : fr 0 763 = some (.iadd, 1, [], []) := by decide +kernel
theorem f0_764 : fr 0 764 = some (.iaload, 1, [], []) := by decide +kernel
theorem f0_765 : fr 0 765 = some (.invokevirtual 75, 3, [], []) := by decide +kernel
theorem f0_768 : fr 0 768 = some (.aload 2, 1, [], []) := by decide +kernel
theorem f0_769 : fr 0 769 = some (.aload 0, 1, [], []) := by decide +kernel
theorem f0_770 : fr 0 770 = some (.iload 3, 1, [], []) := by decide +kernel
theorem f0_771 : fr 0 771 = some (.iconst 1, 1, [], []) := by decide +kernel
theorem f0_772 : fr 0 772 = some (.iadd, 1, [], []) := by decide +kernel
theorem f0_773 : fr 0 773 = some (.iaload, 1, [], []) := by decide +kernel
theorem f0_774 : fr 0 774 = some (.aload 0, 1, [], []) := by decide +kernel
theorem f0_775 : fr 0 775 = some (.iload 3, 1, [], []) := by decide +kernel
theorem f0_776 : fr 0 776 = some (.iconst 2, 1, [], []) := by decide +kernel
theorem f0_777 : fr 0 777 = some (.iadd, 1, [], []) := by decide +kernel
theorem f0_778 : fr 0 778 = some (.iaload, 1, [], []) := by decide +kernel
theorem f0_779 : fr 0 779 = some (.aload 0, 1, [], []) := by decide +kernel
theorem f0_780 : fr 0 780 = some (.iload 3, 1, [], []) := by decide +kernel
theorem f0_781 : fr 0 781 = some (.iconst 3, 1, [], []) := by decide +kernel
theorem f0_782 : fr 0 782 = some (.iadd, 1, [], []) := by decide +kernel
theorem f0_783 : fr 0 783 = some (.iaload, 1, [], []) := by decide +kernel
theorem f0_784 : fr 0 784 = some (.invokevirtual 197, 3, [], []) := by decide +kernel
theorem f0_787 : fr 0 787 = some (.if_icmp .eq 1652, 3, [0, 1, 2, 3], []) := by decide +kernel
theorem f0_790 : fr 0 790 = some (.iconst 0, 1, [], []) := by decide +kernel
theorem f0_791 : fr 0 791 = some (.ireturn, 1, [], []) := by decide +kernel
theorem f0_792 : fr 0 792 = some (.aload 1, 1, [], []) := by decide +kernel
theorem f0_793 : fr 0 793 = some (.aload 0, 1, [], []) := by decide +kernel
theorem f0_794 : fr 0 794 = some (.iload 3, 1, [], []) := by decide +kernel
theorem f0_795 : fr 0 795 = some (.iconst 1, 1, [], []) := by decide +kernel
theorem f0_796 : fr 0 796 = some (.iadd, 1, [], []) := by decide +kernel
theorem f0_797 : fr 0 797 = some (.iaload, 1, [], []) := by decide +kernel
theorem f0_798 : fr 0 798 = some (.aload 0, 1, [], []) := by decide +kernel
theorem f0_799 : fr 0 799 = some (.iload 3, 1, [], []) := by decide +kernel
theorem f0_800 : fr 0 800 = some (.iconst 2, 1, [], []) := by decide +kernel
theorem f0_801 : fr 0 801 = some (.iadd, 1, [], []) := by decide +kernel
theorem f0_802 : fr 0 802 = some (.iaload, 1, [], []) := by decide +kernel
theorem f0_803 : fr 0 803 = some (.aload 0, 1, [], []) := by decide +kernel
theorem f0_804 : fr 0 804 = some (.iload 3, 1, [], []) := by decide +kernel
theorem f0_805 : fr 0 805 = some (.iconst 3, 1, [], []) := by decide +kernel
theorem f0_806 : fr 0 806 = some (.iadd, 1, [], []) := by decide +kernel
theorem f0_807 : fr 0 807 = some (.iaload, 1, [], []) := by decide +kernel
theorem f0_808 : fr 0 808 = some (.aload 0, 1, [], []) := by decide +kernel
theorem f0_809 : fr 0 809 = some (.iload 3, 1, [], []) := by decide +kernel
theorem f0_810 : fr 0 810 = some (.iconst 4, 1, [], []) := by decide +kernel
theorem f0_811 : fr 0 811 = some (.iadd, 1, [], []) := by decide +kernel
theorem f0_812 : fr 0 812 = some (.iaload, 1, [], []) := by decide +kernel
theorem f0_813 : fr 0 813 = some (.invokevirtual 77, 3, [], []) := by decide +kernel
theorem f0_816 : fr 0 816 = some (.aload 2, 1, [], []) := by decide +kernel
theorem f0_817 : fr 0 817 = some (.aload 0, 1, [], []) := by decide +kernel
theorem f0_818 : fr 0 818 = some (.iload 3, 1, [], []) := by decide +kernel
theorem f0_819 : fr 0 819 = some (.iconst 1, 1, [], []) := by decide +kernel
theorem f0_820 : fr 0 820 = some (.iadd, 1, [], []) := by decide +kernel
theorem f0_821 : fr 0 821 = some (.iaload, 1, [], []) := by decide +kernel
theorem f0_822 : fr 0 822 = some (.aload 0, 1, [], []) := by decide +kernel
theorem f0_823 : fr 0 823 = some (.iload 3, 1, [], []) := by decide +kernel
theorem f0_824 : fr 0 824 = some (.iconst 2, 1, [], []) := by decide +kernel
theorem f0_825 : fr 0 825 = some (.iadd, 1, [], []) := by decide +kernel
theorem f0_826 : fr 0 826 = some (.iaload, 1, [], []) := by decide +kernel
theorem f0_827 : fr 0 827 = some (.aload 0, 1, [], []) := by decide +kernel
theorem f0_828 : fr 0 828 = some (.iload 3, 1, [], []) := by decide +kernel
theorem f0_829 : fr 0 829 = some (.iconst 3, 1, [], []) := by decide +kernel
theorem f0_830 : fr 0 830 = some (.iadd, 1, [], []) := by decide +kernel
theorem f0_831 : fr 0 831 = some (.iaload, 1, [], []) := by decide +kernel
theorem f0_832 : fr 0 832 = some (.aload 0, 1, [], []) := by decide +kernel
theorem f0_833 : fr 0 833 = some (.iload 3, 1, [], []) := by decide +kernel
theorem f0_834 : fr 0 834 = some (.iconst 4, 1, [], []) := by decide +kernel
theorem f0_835 : fr 0 835 = some (.iadd, 1, [], []) := by decide +kernel
theorem f0_836 : fr 0 836 = some (.iaload, 1, [], []) := by decide +kernel
theorem f0_837 : fr 0 837 = some (.invokevirtual 198, 3, [], []) := by decide +kernel
theorem f0_840 : fr 0 840 = some (.if_icmp .eq 1652, 3, [0, 1, 2, 3], []) := by decide +kernel
theorem f0_843 : fr 0 843 = some (.iconst 0, 1, [], []) := by decide +kernel
theorem f0_844 : fr 0 844 = some (.ireturn, 1, [], []) := by decide +kernel
theorem f0_845 : fr 0 845 = some (.aload 1, 1, [], []) := by decide +kernel
theorem f0_846 : fr 0 846 = some (.aload 0, 1, [], []) := by decide +kernel
theorem f0_847 : fr 0 847 = some (.iload 3, 1, [], []) := by decide +kernel
theorem f0_848 : fr 0 848 = some (.iconst 1, 1, [], []) := by decide +kernel
theorem f0_849 : fr 0 849 = some (.iadd, 1, [], []) := by decide +kernel
theorem f0_850 : fr 0 850 = some (.iaload, 1, [], []) := by decide +kernel
theorem f0_851 : fr 0 851 = some (.aload 0, 1, [], []) := by decide +kernel
theorem f0_852 : fr 0 852 = some (.iload 3, 1, [], []) := by decide +kernel
theorem f0_853 : fr 0 853 = some (.iconst 2, 1, [], []) := by decide +kernel
theorem f0_854 : fr 0 854 = some (.iadd, 1, [], []) := by decide +kernel
theorem f0_855 : fr 0 855 = some (.iaload, 1, [], []) := by decide +kernel
theorem f0_856 : fr 0 856 = some (.aload 0, 1, [], []) := by decide +kernel
theorem f0_857 : fr 0 857 = some (.iload 3, 1, [], []) := by decide +kernel
theorem f0_858 : fr 0 858 = some (.iconst 3, 1, [], []) := by decide +kernel
theorem f0_859 : fr 0 859 = some (.iadd, 1, [], []) := by decide +kernel
theorem f0_860 : fr 0 860 = some (.iaload, 1, [], []) := by decide +kernel
theorem f0_861 : fr 0 861 = some (.aload 0, 1, [], []) := by decide +kernel
theorem f0_862 : fr 0 862 = some (.iload 3, 1, [], []) := by decide +kernel
theorem f0_863 : fr 0 863 = some (.iconst 4, 1, [], []) := by decide +kernel
theorem f0_864 : fr 0 864 = some (.iadd, 1, [], []) := by decide +kernel
theorem f0_865 : fr 0 865 = some (.iaload, 1, [], []) := by decide +kernel
theorem f0_866 : fr 0 866 = some (.invokevirtual 78, 3, [], []) := by decide +kernel
theorem f0_869 : fr 0 869 = some (.aload 2, 1, [], []) := by decide +kernel
theorem f0_870 : fr 0 870 = some (.aload 0, 1, [], []) := by decide +kernel
theorem f0_871 : fr 0 871 = some (.iload 3, 1, [], []) := by decide +kernel
theorem f0_872 : fr 0 872 = some (.iconst 1, 1, [], []) := by decide +kernel
theorem f0_873 : fr 0 873 = some (.iadd, 1, [], []) := by decide +kernel
theorem f0_874 : fr 0 874 = some (.iaload, 1, [], []) := by decide +kernel
theorem f0_875 : fr 0 875 = some (.aload 0, 1, [], []) := by decide +kernel
theorem f0_876 : fr 0 876 = some (.iload 3, 1, [], []) := by decide +kernel
theorem f0_877 : fr 0 877 = some (.iconst 2, 1, [], []) := by decide +kernel
theorem f0_878 : fr 0 878 = some (.iadd, 1, [], []) := by decide +kernel
theorem f0_879 : fr 0 879 = some (.iaload, 1, [], []) := by decide +kernel
theorem f0_880 : fr 0 880 = some (.aload 0, 1, [], []) := by decide +kernel
theorem f0_881 : fr 0 881 = some (.iload 3, 1, [], []) := by decide +kernel
theorem f0_882 : fr 0 882 = some (.iconst 3, 1, [], []) := by decide +kernel
theorem f0_883 : fr 0 883 = some (.iadd, 1, [], []) := by decide +kernel
theorem f0_884 : fr 0 884 = some (.iaload, 1, [], []) := by decide +kernel
theorem f0_885 : fr 0 885 = some (.aload 0, 1, [], []) := by decide +kernel
theorem f0_886 : fr 0 886 = some (.iload 3, 1, [], []) := by decide +kernel
theorem f0_887 : fr 0 887 = some (.iconst 4, 1, [], []) := by decide +kernel
theorem f0_888 : fr 0 888 = some (.iadd, 1, [], []) := by decide +kernel
theorem f0_889 : fr 0 889 = some (.iaload, 1, [], []) := by decide +kernel
theorem f0_890 : fr 0 890 = some (.invokevirtual 199, 3, [], []) := by decide +kernel
theorem f0_893 : fr 0 893 = some (.if_icmp .eq 1652, 3, [0, 1, 2, 3], []) := by decide +kernel
theorem f0_896 : fr 0 896 = some (.iconst 0, 1, [], []) := by decide +kernel
theorem f0_897 : fr 0 897 = some (.ireturn, 1, [], []) := by decide +kernel
theorem f0_898 : fr 0 898 = some (.aload 1, 1, [], []) := by decide +kernel
theorem f0_899 : fr 0 899 = some (.aload 0, 1, [], []) := by decide +kernel
theorem f0_900 : fr 0 900 = some (.iload 3, 1, [], []) := by decide +kernel
theorem f0_901 : fr 0 901 = some (.iconst 1, 1, [], []) := by decide +kernel
theorem f0_902 : fr 0 902 = some (.iadd, 1, [], []) := by decide +kernel
theorem f0_903 : fr 0 903 = some (.iaload, 1, [], []) := by decide +kernel
theorem f0_904 : fr 0 904 = some (.aload 0, 1, [], []) := by decide +kernel
theorem f0_905 : fr 0 905 = some (.iload 3, 1, [], []) := by decide +kernel
theorem f0_906 : fr 0 906 = some (.iconst 2, 1, [], []) := by decide +kernel
theorem f0_907 : fr 0 907 = some (.iadd, 1, [], []) := by decide +kernel
theorem f0_908 : fr 0 908 = some (.iaload, 1, [], []) := by decide +kernel
theorem f0_909 : fr 0 909 = some (.invokevirtual 82, 3, [], []) := by decide +kernel
theorem f0_912 : fr 0 912 = some (.aload 2, 1, [], []) := by decide +kernel
theorem f0_913 : fr 0 913 = some (.aload 0, 1, [], []) := by decide +kernel
theorem f0_914 : fr 0 914 = some (.iload 3, 1, [], []) := by decide +kernel
theorem f0_915 : fr 0 915 = some (.iconst 1, 1, [], []) := by decide +kernel
theorem f0_916 : fr 0 916 = some (.iadd, 1, [], []) := by decide +kernel
theorem f0_917 : fr 0 917 = some (.iaload, 1, [], []) := by decide +kernel
theorem f0_918 : fr 0 918 = some (.aload 0, 1, [], []) := by decide +kernel
theorem f0_919 : fr 0 919 = some (.iload 3, 1, [], []) := by decide +kernel
theorem f0_920 : fr 0 920 = some (.iconst 2, 1, [], []) := by decide +kernel
theorem f0_921 : fr 0 921 = some (.iadd, 1, [], []) := by decide +kernel
theorem f0_922 : fr 0 922 = some (.iaload, 1, [], []) := by decide +kernel
theorem f0_923 : fr 0 923 = some (.invokevirtual 201, 3, [], []) := by decide +kernel
theorem f0_926 : fr 0 926 = some (.if_icmp .eq 1652, 3, [0, 1, 2, 3], []) := by decide +kernel
theorem f0_929 : fr 0 929 = some (.iconst 0, 1, [], []) := by decide +kernel
theorem f0_930 : fr 0 930 = some (.ireturn, 1, [], []) := by decide +kernel
theorem f0_931 : fr 0 931 = some (.aload 1, 1, [], []) := by decide +kernel
theorem f0_932 : fr 0 932 = some (.aload 0, 1, [], []) := by decide +kernel
theorem f0_933 : fr 0 933 = some (.iload 3, 1, [], []) := by decide +kernel
theorem f0_934 : fr 0 934 = some (.iconst 1, 1, [], []) := by decide +kernel
theorem f0_935 : fr 0 935 = some (.iadd, 1, [], []) := by decide +kernel
theorem f0_936 : fr 0 936 = some (.iaload, 1, [], []) := by decide +kernel
theorem f0_937 : fr 0 937 = some (.aload 0, 1, [], []) := by decide +kernel
theorem f0_938 : fr 0 938 = some (.iload 3, 1, [], []) := by decide +kernel
theorem f0_939 : fr 0 939 = some (.iconst 2, 1, [], []) := by decide +kernel
theorem f0_940 : fr 0 940 = some (.iadd, 1, [], []) := by decide +kernel
theorem f0_941 : fr 0 941 = some (.iaload, 1, [], []) := by decide +kernel
theorem f0_942 : fr 0 942 = some (.aload 0, 1, [], []) := by decide +kernel
theorem f0_943 : fr 0 943 = some (.iload 3, 1, [], []) := by decide +kernel
theorem f0_944 : fr 0 944 = some (.iconst 3, 1, [], []) := by decide +kernel
theorem f0_945 : fr 0 945 = some (.iadd, 1, [], []) := by decide +kernel
theorem f0_946 : fr 0 946 = some (.iaload, 1, [], []) := by decide +kernel
theorem f0_947 : fr 0 947 = some (.invokevirtual 84, 3, [], []) := by decide +kernel
theorem f0_950 : fr 0 950 = some (.aload 2, 1, [], []) := by decide +kernel
theorem f0_951 : fr 0 951 = some (.aload 0, 1, [], []) := by decide +kernel
theorem f0_952 : fr 0 952 = some (.iload 3, 1, [], []) := by decide +kernel
theorem f0_953 : fr 0 953 = some (.iconst 1, 1, [], []) := by decide +kernel
theorem f0_954 : fr 0 954 = some (.iadd, 1, [], []) := by decide +kernel
theorem f0_955 : fr 0 955 = some (.iaload, 1, [], []) := by decide +kernel
theorem f0_956 : fr 0 956 = some (.aload 0, 1, [], []) := by decide +kernel
theorem f0_957 : fr 0 957 = some (.iload 3, 1, [], []) := by decide +kernel
theorem f0_958 : fr 0 958 = some (.iconst 2, 1, [], []) := by decide +kernel
theorem f0_959 : fr 0 959 = some (.iadd, 1, [], []) := by decide +kernel
theorem f0_960 : fr 0 960 = some (.iaload, 1, [], []) := by decide +kernel
theorem f0_961 : fr 0 961 = some (.aload 0, 1, [], []) := by decide +kernel
theorem f0_962 : fr 0 962 = some (.iload 3, 1, [], []) := by decide +kernel
theorem f0_963 : fr 0 963 = some (.iconst 3, 1, [], []) := by decide +kernel
theorem f0_964 : fr 0 964 = some (.iadd, 1, [], []) := by decide +kernel
theorem f0_965 : fr 0 965 = some (.iaload, 1, [], []) := by decide +kernel
theorem f0_966 : fr 0 966 = some (.invokevirtual 202, 3, [], []) := by decide +kernel
theorem f0_969 : fr 0 969 = some (.if_icmp .eq 1652, 3, [0, 1, 2, 3], []) := by decide +kernel
theorem f0_972 : fr 0 972 = some (.iconst 0, 1, [], []) := by decide +kernel
theorem f0_973 : fr 0 973 = some (.ireturn, 1, [], []) := by decide +kernel
theorem f0_974 : fr 0 974 = some (.aload 1, 1, [], []) := by decide +kernel
theorem f0_975 : fr 0 975 = some (.aload 0, 1, [], []) := by decide +kernel
theorem f0_976 : fr 0 976 = some (.iload 3, 1, [], []) := by decide +kernel
theorem f0_977 : fr 0 977 = some (.iconst 1, 1, [], []) := by decide +kernel
theorem f0_978 : fr 0 978 = some (.iadd, 1, [], []) := by decide +kernel
theorem f0_979 : fr 0 979 = some (.iaload, 1, [], []) := by decide +kernel
theorem f0_980 : fr 0 980 = some (.aload 0, 1, [], []) := by decide +kernel
theorem f0_981 : fr 0 981 = some (.iload 3, 1, [], []) := by decide +kernel
theorem f0_982 : fr 0 982 = some (.iconst 2, 1, [], []) := by decide +kernel
theorem f0_983 : fr 0 983 = some (.iadd, 1, [], []) := by decide +kernel
theorem f0_984 : fr 0 984 = some (.iaload, 1, [], []) := by decide +kernel
theorem f0_985 : fr 0 985 = some (.aload 0, 1, [], []) := by decide +kernel
theorem f0_986 : fr 0 986 = some (.iload 3, 1, [], []) := by decide +kernel
theorem f0_987 : fr 0 987 = some (.iconst 3, 1, [], []) := by decide +kernel
theorem f0_988 : fr 0 988 = some (.iadd, 1, [], []) := by decide +kernel
theorem f0_989 : fr 0 989 = some (.iaload, 1, [], []) := by decide +kernel
theorem f0_990 : fr 0 990 = some (.aload 0, 1, [], []) := by decide +kernel
theorem f0_991 : fr 0 991 = some (.iload 3, 1, [], []) := by decide +kernel
theorem f0_992 : fr 0 992 = some (.iconst 4, 1, [], []) := by decide +kernel
theorem f0_993 : fr 0 993 = some (.iadd, 1, [], []) := by decide +kernel
theorem f0_994 : fr 0 994 = some (.iaload, 1, [], []) := by decide +kernel
theorem f0_995 : fr 0 995 = some (.invokevirtual 85, 3, [], []) := by decide +kernel
theorem f0_998 : fr 0 998 = some (.aload 2, 1, [], []) := by decide +kernel
theorem f0_999 : fr 0 999 = some (.aload 0, 1, [], []) := by decide +kernel
theorem f0_1000 : fr 0 1000 = some (.iload 3, 1, [], []) := by decide +kernel
theorem f0_1001 : fr 0 1001 = some (.iconst 1, 1, [], []) := by decide +kernel
theorem f0_1002 : fr 0 1002 = some (.iadd, 1, [], []) := by decide +kernel
theorem f0_1003 : fr 0 1003 = some (.iaload, 1, [], []) := by decide +kernel
theorem f0_1004 : fr 0 1004 = some (.aload 0, 1, [], []) := by decide +kernel
theorem f0_1005 : fr 0 1005 = some (.iload 3, 1, [], []) := by decide +kernel
theorem f0_1006 : fr 0 1006 = some (.iconst 2, 1, [], []) := by decide +kernel
theorem f0_1007 : fr 0 1007 = some (.iadd, 1, [], []) := by decide +kernel
theorem f0_1008 : fr 0 1008 = some (.iaload, 1, [], []) := by decide +kernel
theorem f0_1009 : fr 0 1009 = some (.aload 0, 1, [], []) := by decide +kernel
theorem f0_1010 : fr 0 1010 = some (.iload 3, 1, [], []) := by decide +kernel
theorem f0_1011 : fr 0 1011 = some (.iconst 3, 1, [], []) := by decide +kernel
theorem f0_1012 : fr 0 1012 = some (.iadd, 1, [], []) := by decide +kernel
theorem f0_1013 : fr 0 1013 = some (.iaload, 1, [], []) := by decide +kernel
theorem f0_1014 : fr 0 1014 = some (.aload 0, 1, [], []) := by decide +kernel
theorem f0_1015 : fr 0 1015 = some (.iload 3, 1, [], []) := by decide +kernel
theorem f0_1016 : fr 0 1016 = some (.iconst 4, 1, [], []) := by decide +kernel
theorem f0_1017 : fr 0 1017 = some (.iadd, 1, [], []) := by decide +kernel
theorem f0_1018 : fr 0 1018 = some (.iaload, 1, [], []) := by decide +kernel
theorem f0_1019 : fr 0 1019 = some (.invokevirtual 203, 3, [], []) := by decide +kernel
theorem f0_1022 : fr 0 1022 = some (.if_icmp .eq 1652, 3, [0, 1, 2, 3], []) := by decide +kernel
theorem f0_1025 : fr 0 1025 = some (.iconst 0, 1, [], []) := by decide +kernel
theorem f0_1026 : fr 0 1026 = some (.ireturn, 1, [], []) := by decide +kernel
theorem f0_1027 : fr 0 1027 = some (.aload 1, 1, [], []) := by decide +kernel
theorem f0_1028 : fr 0 1028 = some (.aload 0, 1, [], []) := by decide +kernel
theorem f0_1029 : fr 0 1029 = some (.iload 3, 1, [], []) := by decide +kernel
theorem f0_1030 : fr 0 1030 = some (.iconst 1, 1, [], []) := by decide +kernel
theorem f0_1031 : fr 0 1031 = some (.iadd, 1, [], []) := by decide +kernel
theorem f0_1032 : fr 0 1032 = some (.iaload, 1, [], []) := by decide +kernel
theorem f0_1033 : fr 0 1033 = some (.aload 0, 1, [], []) := by decide +kernel
theorem f0_1034 : fr 0 1034 = some (.iload 3, 1, [], []) := by decide +kernel
theorem f0_1035 : fr 0 1035 = some (.iconst 2, 1, [], []) := by decide +kernel
theorem f0_1036 : fr 0 1036 = some (.iadd, 1, [], []) := by decide +kernel
theorem f0_1037 : fr 0 1037 = some (.iaload, 1, [], []) := by decide +kernel
theorem f0_1038 : fr 0 1038 = some (.aload 0, 1, [], []) := by decide +kernel
theorem f0_1039 : fr 0 1039 = some (.iload 3, 1, [], []) := by decide +kernel
theorem f0_1040 : fr 0 1040 = some (.iconst 3, 1, [], []) := by decide +kernel
theorem f0_1041 : fr 0 1041 = some (.iadd, 1, [], []) := by decide +kernel
theorem f0_1042 : fr 0 1042 = some (.iaload, 1, [], []) := by decide +kernel
theorem f0_1043 : fr 0 1043 = some (.invokevirtual 96, 3, [], []) := by decide +kernel
theorem f0_1046 : fr 0 1046 = some (.aload 2, 1, [], []) := by decide +kernel
theorem f0_1047 : fr 0 1047 = some (.aload 0, 1, [], []) := by decide +kernel
theorem f0_1048 : fr 0 1048 = some (.iload 3, 1, [], []) := by decide +kernel
theorem f0_1049 : fr 0 1049 = some (.iconst 1, 1, [], []) := by decide +kernel
theorem f0_1050 : fr 0 1050 = some (.iadd, 1, [], []) := by decide +kernel
theorem f0_1051 : fr 0 1051 = some (.iaload, 1, [], []) := by decide +kernel
theorem f0_1052 : fr 0 1052 = some (.aload 0, 1, [], []) := by decide +kernel
theorem f0_1053 : fr 0 1053 = some (.iload 3, 1, [], []) := by decide +kernel
theorem f0_1054 : fr 0 1054 = some (.iconst 2, 1, [], []) := by decide +kernel
theorem f0_1055 : fr 0 1055 = some (.iadd, 1, [], []) := by decide +kernel
theorem f0_1056 : fr 0 1056 = some (.iaload, 1, [], []) := by decide +kernel
theorem f0_1057 : fr 0 1057 = some (.aload 0, 1, [], []) := by decide +kernel
theorem f0_1058 : fr 0 1058 = some (.iload 3, 1, [], []) := by decide +kernel
theorem f0_1059 : fr 0 1059 = some (.iconst 3, 1, [], []) := by decide +kernel
theorem f0_1060 : fr 0 1060 = some (.iadd, 1, [], []) := by decide +kernel
theorem f0_1061 : fr 0 1061 = some (.iaload, 1, [], []) := by decide +kernel
theorem f0_1062 : fr 0 1062 = some (.invokevirtual 209, 3, [], []) := by decide +kernel
theorem f0_1065 : fr 0 1065 = some (.if_icmp .eq 1652, 3, [0, 1, 2, 3], []) := by decide +kernel
theorem f0_1068 : fr 0 1068 = some (.iconst 0, 1, [], []) := by decide +kernel
theorem f0_1069 : fr 0 1069 = some (.ireturn, 1, [], []) := by decide +kernel
theorem f0_1070 : fr 0 1070 = some (.aload 1, 1, [], []) := by decide +kernel
theorem f0_1071 : fr 0 1071 = some (.aload 0, 1, [], []) := by decide +kernel
theorem f0_1072 : fr 0 1072 = some (.iload 3, 1, [], []) := by decide +kernel
theorem f0_1073 : fr 0 1073 = some (.iconst 1, 1, [], []) := by decide +kernel
theorem f0_1074 : fr 0 1074 = some (.iadd, 1, [], []) := by decide +kernel
theorem f0_1075 : fr 0 1075 = some (.iaload, 1, [], []) := by decide +kernel
theorem f0_1076 : fr 0 1076 = some (.aload 0, 1, [], []) := by decide +kernel
theorem f0_1077 : fr 0 1077 = some (.iload 3, 1, [], []) := by decide +kernel
theorem f0_1078 : fr 0 1078 = some (.iconst 2, 1, [], []) := by decide +kernel
theorem f0_1079 : fr 0 1079 = some (.iadd, 1, [], []) := by decide +kernel
theorem f0_1080 : fr 0 1080 = some (.iaload, 1, [], []) := by decide +kernel
theorem f0_1081 : fr 0 1081 = some (.aload 0, 1, [], []) := by decide +kernel
theorem f0_1082 : fr 0 1082 = some (.iload 3, 1, [], []) := by decide +kernel
theorem f0_1083 : fr 0 1083 = some (.iconst 3, 1, [], []) := by decide +kernel
theorem f0_1084 : fr 0 1084 = some (.iadd, 1, [], []) := by decide +kernel
theorem f0_1085 : fr 0 1085 = some (.iaload, 1, [], []) := by decide +kernel
theorem f0_1086 : fr 0 1086 = some (.invokevirtual 99, 3, [], []) := by decide +kernel
theorem f0_1089 : fr 0 1089 = some (.aload 2, 1, [], []) := by decide +kernel
theorem f0_1090 : fr 0 1090 = some (.aload 0, 1, [], []) := by decide +kernel
theorem f0_1091 : fr 0 1091 = some (.iload 3, 1, [], []) := by decide +kernel
theorem f0_1092 : fr 0 1092 = some (.iconst 1, 1, [], []) := by decide +kernel
theorem f0_1093 : fr 0 1093 = some (.iadd, 1, [], []) := by decide +kernel
theorem f0_1094 : fr 0 1094 = some (.iaload, 1, [], []) := by decide +kernel
theorem f0_1095 : fr 0 1095 = some (.aload 0, 1, [], []) := by decide +kernel
theorem f0_1096 : fr 0 1096 = some (.iload 3, 1, [], []) := by decide +kernel
theorem f0_1097 : fr 0 1097 = some (.iconst 2, 1, [], []) := by decide +kernel
theorem f0_1098 : fr 0 1098 = some (.iadd, 1, [], []) := by decide +kernel
theorem f0_1099 : fr 0 1099 = some (.iaload, 1, [], []) := by decide +kernel
theorem f0_1100 : fr 0 1100 = some (.aload 0, 1, [], []) := by decide +kernel
theorem f0_1101 : fr 0 1101 = some (.iload 3, 1, [], []) := by decide +kernel
theorem f0_1102 : fr 0 1102 = some (.iconst 3, 1, [], []) := by decide +kernel
theorem f0_1103 : fr 0 1103 = some (.iadd, 1, [], []) := by decide +kernel
theorem f0_1104 : fr 0 1104 = some (.iaload, 1, [], []) := by decide +kernel
theorem f0_1105 : fr 0 1105 = some (.invokevirtual 210, 3, [], []) := by decide +kernel
theorem f0_1108 : fr 0 1108 = some (.if_icmp .eq 1652, 3, [0, 1, 2, 3], []) := by decide +kernel
theorem f0_1111 : fr 0 1111 = some (.iconst 0, 1, [], []) := by decide +kernel
theorem f0_1112 : fr 0 1112 = some (.ireturn, 1, [], []) := by decide +kernel
theorem f0_1113 : fr 0 1113 = some (.aload 1, 1, [], []) := by decide +kernel
theorem f0_1114 : fr 0 1114 = some (.aload 0, 1, [], []) := by decide +kernel
theorem f0_1115 : fr 0 1115 = some (.iload 3, 1, [], []) := by decide +kernel
theorem f0_1116 : fr 0 1116 = some (.iconst 1, 1, [], []) := by decide +kernel
theorem f0_1117 : fr 0 1117 = some (.iadd, 1, [], []) := by decide +kernel
theorem f0_1118 : fr 0 1118 = some (.iaload, 1, [], []) := by decide +kernel
theorem f0_1119 : fr 0 1119 = some (.aload 0, 1, [], []) := by decide +kernel
theorem f0_1120 : fr 0 1120 = some (.iload 3, 1, [], []) := by decide +kernel
theorem f0_1121 : fr 0 1121 = some (.iconst 2, 1, [], []) := by decide +kernel
theorem f0_1122 : fr 0 1122 = some (.iadd, 1, [], []) := by decide +kernel
theorem f0_1123 : fr 0 1123 = some (.iaload, 1, [], []) := by decide +kernel
theorem f0_1124 : fr 0 1124 = some (.aload 0, 1, [], []) := by decide +kernel
theorem f0_1125 : fr 0 1125 = some (.iload 3, 1, [], []) := by decide +kernel
theorem f0_1126 : fr 0 1126 = some (.iconst 3, 1, [], []) := by decide +kernel
theorem f0_1127 : fr 0 1127 = some (.iadd, 1, [], []) := by decide +kernel
theorem f0_1128 : fr 0 1128 = some (.iaload, 1, [], []) := by decide +kernel
theorem f0_1129 : fr 0 1129 = some (.invokevirtual 101, 3, [], []) := by decide +kernel
theorem f0_1132 : fr 0 1132 = some (.aload 2, 1, [], []) := by decide +kernel
theorem f0_1133 : fr 0 1133 = some (.aload 0, 1, [], []) := by decide +kernel
theorem f0_1134 : fr 0 1134 = some (.iload 3, 1, [], []) := by decide +kernel
theorem f0_1135 : fr 0 1135 = some (.iconst 1, 1, [], []) := by decide +kernel
theorem f0_1136 : fr 0 1136 = some (.iadd, 1, [], []) := by decide +kernel
theorem f0_1137 : fr 0 1137 = some (.iaload, 1, [], []) := by decide +kernel
theorem f0_1138 : fr 0 1138 = some (.aload 0, 1, [], []) := by decide +kernel
theorem f0_1139 : fr 0 1139 = some (.iload 3, 1, [], []) := by decide +kernel
theorem f0_1140 : fr 0 1140 = some (.iconst 2, 1, [], []) := by decide +kernel
theorem f0_1141 : fr 0 1141 = some (.iadd, 1, [], []) := by decide +kernel
theorem f0_1142 : fr 0 1142 = some (.iaload, 1, [], []) := by decide +kernel
theorem f0_1143 : fr 0 1143 = some (.aload 0, 1, [], []) := by decide +kernel
theorem f0_1144 : fr 0 1144 = some (.iload 3, 1, [], []) := by decide +kernel
theorem f0_1145 : fr 0 1145 = some (.iconst 3, 1, [], []) := by decide +kernel
theorem f0_1146 : fr 0 1146 = some (.iadd, 1, [], []) := by decide +kernel
theorem f0_1147 : fr 0 1147 = some (.iaload, 1, [], []) := by decide +kernel
theorem f0_1148 : fr 0 1148 = some (.invokevirtual 211, 3, [], []) := by decide +kernel
theorem f0_1151 : fr 0 1151 = some (.if_icmp .eq 1652, 3, [0, 1, 2, 3], []) := by decide +kernel
theorem f0_1154 : fr 0 1154 = some (.iconst 0, 1, [], []) := by decide +kernel
theorem f0_1155 : fr 0 1155 = some (.ireturn, 1, [], []) := by decide +kernel
theorem f0_1156 : fr 0 1156 = some (.aload 1, 1, [], []) := by decide +kernel
theorem f0_1157 : fr 0 1157 = some (.aload 0, 1, [], []) := by decide +kernel
theorem f0_1158 : fr 0 1158 = some (.iload 3, 1, [], []) := by decide +kernel
theorem f0_1159 : fr 0 1159 = some (.iconst 1, 1, [], []) := by decide +kernel
theorem f0_1160 : fr 0 1160 = some (.iadd, 1, [], []) := by decide +kernel
theorem f0_1161 : fr 0 1161 = some (.iaload, 1, [], []) := by decide +kernel
theorem f0_1162 : fr 0 1162 = some (.invokevirtual 103, 3, [], []) := by decide +kernel
theorem f0_1165 : fr 0 1165 = some (.aload 2, 1, [], []) := by decide +kernel
theorem f0_1166 : fr 0 1166 = some (.aload 0, 1, [], []) := by decide +kernel
theorem f0_1167 : fr 0 1167 = some (.iload 3, 1, [], []) := by decide +kernel
theorem f0_1168 : fr 0 1168 = some (.iconst 1, 1, [], []) := by decide +kernel
theorem f0_1169 : fr 0 1169 = some (.iadd, 1, [], []) := by decide +kernel
theorem f0_1170 : fr 0 1170 = some (.iaload, 1, [], []) := by decide +kernel
theorem f0_1171 : fr 0 1171 = some (.invokevirtual 212, 3, [], []) := by decide +kernel
theorem f0_1174 : fr 0 1174 = some (.if_icmp .eq 1652, 3, [0, 1, 2, 3], []) := by decide +kernel
theorem f0_1177 : fr 0 1177 = some (.iconst 0, 1, [], []) := by decide +kernel
theorem f0_1178 : fr 0 1178 = some (.ireturn, 1, [], []) := by decide +kernel
theorem f0_1179 : fr 0 1179 = some (.aload 1, 1, [], []) := by decide +kernel
theorem f0_1180 : fr 0 1180 = some (.aload 0, 1, [], []) := by decide +kernel
theorem f0_1181 : fr 0 1181 = some (.iload 3, 1, [], []) := by decide +kernel
theorem f0_1182 : fr 0 1182 = some (.iconst 1, 1, [], []) := by decide +kernel
theorem f0_1183 : fr 0 1183 = some (.iadd, 1, [], []) := by decide +kernel
theorem f0_1184 : fr 0 1184 = some (.iaload, 1, [], []) := by decide +kernel
theorem f0_1185 : fr 0 1185 = some (.invokevirtual 105, 3, [], []) := by decide +kernel
theorem f0_1188 : fr 0 1188 = some (.aload 2, 1, [], []) := by decide +kernel
theorem f0_1189 : fr 0 1189 = some (.aload 0, 1, [], []) := by decide +kernel
theorem f0_1190 : fr 0 1190 = some (.iload 3, 1, [], []) := by decide +kernel
theorem f0_1191 : fr 0 1191 = some (.iconst 1, 1, [], []) := by decide +kernel
theorem f0_1192 : fr 0 1192 = some (.iadd, 1, [], []) := by decide +kernel
theorem f0_1193 : fr 0 1193 = some (.iaload, 1, [], []) := by decide +kernel
theorem f0_1194 : fr 0 1194 = some (.invokevirtual 213, 3, [], []) := by decide +kernel
theorem f0_1197 : fr 0 1197 = some (.if_icmp .eq 1652, 3, [0, 1, 2, 3], []) := by decide +kernel
theorem f0_1200 : fr 0 1200 = some (.iconst 0, 1, [], []) := by decide +kernel
theorem f0_1201 : fr 0 1201 = some (.ireturn, 1, [], []) := by decide +kernel
theorem f0_1202 : fr 0 1202 = some (.aload 1, 1, [], []) := by decide +kernel
theorem f0_1203 : fr 0 1203 = some (.aload 0, 1, [], []) := by decide +kernel
theorem f0_1204 : fr 0 1204 = some (.iload 3, 1, [], []) := by decide +kernel
theorem f0_1205 : fr 0 1205 = some (.iconst 1, 1, [], []) := by decide +kernel
theorem f0_1206 : fr 0 1206 = some (.iadd, 1, [], []) := by decide +kernel
theorem f0_1207 : fr 0 1207 = some (.iaload, 1, [], []) := by decide +kernel
theorem f0_1208 : fr 0 1208 = some (.aload 0, 1, [], []) := by decide +kernel
theorem f0_1209 : fr 0 1209 = some (.iload 3, 1, [], []) := by decide +kernel
theorem f0_1210 : fr 0 1210 = some (.iconst 2, 1, [], []) := by decide +kernel
theorem f0_1211 : fr 0 1211 = some (.iadd, 1, [], []) := by decide +kernel
theorem f0_1212 : fr 0 1212 = some (.iaload, 1, [], []) := by decide +kernel
theorem f0_1213 : fr 0 1213 = some (.invokevirtual 109, 3, [], []) := by decide +kernel
theorem f0_1216 : fr 0 1216 = some (.aload 2, 1, [], []) := by decide +kernel
theorem f0_1217 : fr 0 1217 = some (.aload 0, 1, [], []) := by decide +kernel
theorem f0_1218 : fr 0 1218 = some (.iload 3, 1, [], []) := by decide +kernel
theorem f0_1219 : fr 0 1219 = some (.iconst 1, 1, [], []) := by decide +kernel
theorem f0_1220 : fr 0 1220 = some (.iadd, 1, [], []) := by decide +kernel
theorem f0_1221 : fr 0 1221 = some (.iaload, 1, [], []) := by decide +kernel
theorem f0_1222 : fr 0 1222 = some (.aload 0, 1, [], []) := by decide +kernel
theorem f0_1223 : fr 0 1223 = some (.iload 3, 1, [], []) := by decide +kernel
theorem f0_1224 : fr 0 1224 = some (.iconst 2, 1, [], []) := by decide +kernel
theorem f0_1225 : fr 0 1225 = some (.iadd, 1, [], []) := by decide +kernel
theorem f0_1226 : fr 0 1226 = some (.iaload, 1, [], []) := by decide +kernel
theorem f0_1227 : fr 0 1227 = some (.invokevirtual 214, 3, [], []) := by decide +kernel
theorem f0_1230 : fr 0 1230 = some (.if_icmp .eq 1652, 3, [0, 1, 2, 3], []) := by decide +kernel
theorem f0_1233 : fr 0 1233 = some (.iconst 0, 1, [], []) := by decide +kernel
theorem f0_1234 : fr 0 1234 = some (.ireturn, 1, [], []) := by decide +kernel
theorem f0_1235 : fr 0 1235 = some (.aload 1, 1, [], []) := by decide +kernel
theorem f0_1236 : fr 0 1236 = some (.invokevirtual 111, 3, [], []) := by decide +kernel
theorem f0_1239 : fr 0 1239 = some (.aload 2, 1, [], []) := by decide +kernel
theorem f0_1240 : fr 0 1240 = some (.invokevirtual 215, 3, [], []) := by decide +kernel
theorem f0_1243 : fr 0 1243 = some (.if_icmp .eq 1652, 3, [0, 1, 2, 3], []) := by decide +kernel
theorem f0_1246 : fr 0 1246 = some (.iconst 0, 1, [], []) := by decide +kernel
theorem f0_1247 : fr 0 1247 = some (.ireturn, 1, [], []) := by decide +kernel
theorem f0_1248 : fr 0 1248 = some (.aload 1, 1, [], []) := by decide +kernel
theorem f0_1249 : fr 0 1249 = some (.invokevirtual 114, 3, [], []) := by decide +kernel
theorem f0_1252 : fr 0 1252 = some (.aload 2, 1, [], []) := by decide +kernel
theorem f0_1253 : fr 0 1253 = some (.invokevirtual 216, 3, [], []) := by decide +kernel
theorem f0_1256 : fr 0 1256 = some (.if_icmp .eq 1652, 3, [0, 1, 2, 3], []) := by decide +kernel
theorem f0_1259 : fr 0 1259 = some (.iconst 0, 1, [], []) := by decide +kernel
theorem f0_1260 : fr 0 1260 = some (.ireturn, 1, [], []) := by decide +kernel
theorem f0_1261 : fr 0 1261 = some (.aload 1, 1, [], []) := by decide +kernel
theorem f0_1262 : fr 0 1262 = some (.aload 0, 1, [], []) := by decide +kernel
theorem f0_1263 : fr 0 1263 = some (.iload 3, 1, [], []) := by decide +kernel
theorem f0_1264 : fr 0 1264 = some (.iconst 1, 1, [], []) := by decide +kernel
theorem f0_1265 : fr 0 1265 = some (.iadd, 1, [], []) := by decide +kernel
theorem f0_1266 : fr 0 1266 = some (.iaload, 1, [], []) := by decide +kernel
theorem f0_1267 : fr 0 1267 = some (.invokevirtual 116, 3, [], []) := by decide +kernel
theorem f0_1270 : fr 0 1270 = some (.aload 2, 1, [], []) := by decide +kernel
theorem f0_1271 : fr 0 1271 = some (.aload 0, 1, [], []) := by decide +kernel
theorem f0_1272 : fr 0 1272 = some (.iload 3, 1, [], []) := by decide +kernel
theorem f0_1273 : fr 0 1273 = some (.iconst 1, 1, [], []) := by decide +kernel
theorem f0_1274 : fr 0 1274 = some (.iadd, 1, [], []) := by decide +kernel
theorem f0_1275 : fr 0 1275 = some (.iaload, 1, [], []) := by decide +kernel
theorem f0_1276 : fr 0 1276 = some (.invokevirtual 217, 3, [], []) := by decide +kernel
theorem f0_1279 : fr 0 1279 = some (.if_icmp .eq 1652, 3, [0, 1, 2, 3], []) := by decide +kernel
theorem f0_1282 : fr 0 1282 = some (.iconst 0, 1, [], []) := by decide +kernel
theorem f0_1283 : fr 0 1283 = some (.ireturn, 1, [], []) := by decide +kernel
theorem f0_1284 : fr 0 1284 = some (.aload 1, 1, [], []) := by decide +kernel
theorem f0_1285 : fr 0 1285 = some (.aload 0, 1, [], []) := by decide +kernel
theorem f0_1286 : fr 0 1286 = some (.iload 3, 1, [], []) := by decide +kernel
theorem f0_1287 : fr 0 1287 = some (.iconst 1, 1, [], []) := by decide +kernel
theorem f0_1288 : fr 0 1288 = some (.iadd, 1, [], []) := by decide +kernel
theorem f0_1289 : fr 0 1289 = some (.iaload, 1, [], []) := by decide +kernel
theorem f0_1290 : fr 0 1290 = some (.aload 0, 1, [], []) := by decide +kernel
theorem f0_1291 : fr 0 1291 = some (.iload 3, 1, [], []) := by decide +kernel
theorem f0_1292 : fr 0 1292 = some (.iconst 2, 1, [], []) := by decide +kernel
theorem f0_1293 : fr 0 1293 = some (.iadd, 1, [], []) := by decide +kernel
theorem f0_1294 : fr 0 1294 = some (.iaload, 1, [], []) := by decide +kernel
theorem f0_1295 : fr 0 1295 = some (.aload 0, 1, [], []) := by decide +kernel
theorem f0_1296 : fr 0 1296 = some (.iload 3, 1, [], []) := by decide +kernel
theorem f0_1297 : fr 0 1297 = some (.iconst 3, 1, [], []) := by decide +kernel
theorem f0_1298 : fr 0 1298 = some (.iadd, 1, [], []) := by decide +kernel
theorem f0_1299 : fr 0 1299 = some (.iaload, 1, [], []) := by decide +kernel
theorem f0_1300 : fr 0 1300 = some (.invokevirtual 119, 3, [], []) := by decide +kernel
theorem f0_1303 : fr 0 1303 = some (.aload 2, 1, [], []) := by decide +kernel
theorem f0_1304 : fr 0 1304 = some (.aload 0, 1, [], []) := by decide +kernel
theorem f0_1305 : fr 0 1305 = some (.iload 3, 1, [], []) := by decide +kernel
theorem f0_1306 : fr 0 1306 = some (.iconst 1, 1, [], []) := by decide +kernel
theorem f0_1307 : fr 0 1307 = some (.iadd, 1, [], []) := by decide +kernel
theorem f0_1308 : fr 0 1308 = some (.iaload, 1, [], []) := by decide +kernel
theorem f0_1309 : fr 0 1309 = some (.aload 0, 1, [], []) := by decide +kernel
theorem f0_1310 : fr 0 1310 = some (.iload 3, 1, [], []) := by decide +kernel
theorem f0_1311 : fr 0 1311 = some (.iconst 2, 1, [], []) := by decide +kernel
theorem f0_1312 : fr 0 1312 = some (.iadd, 1, [], []) := by decide +kernel
theorem f0_1313 : fr 0 1313 = some (.iaload, 1, [], []) := by decide +kernel
theorem f0_1314 : fr 0 1314 = some (.aload 0, 1, [], []) := by decide +kernel
theorem f0_1315 : fr 0 1315 = some (.iload 3, 1, [], []) := by decide +kernel
theorem f0_1316 : fr 0 1316 = some (.iconst 3, 1, [], []) := by decide +kernel
theorem f0_1317 : fr 0 1317 = some (.iadd, 1, [], []) := by decide +kernel
theorem f0_1318 : fr 0 1318 = some (.iaload, 1, [], []) := by decide +kernel
theorem f0_1319 : fr 0 1319 = some (.invokevirtual 218, 3, [], []) := by decide +kernel
theorem f0_1322 : fr 0 1322 = some (.if_icmp .eq 1652, 3, [0, 1, 2, 3], []) := by decide +kernel
theorem f0_1325 : fr 0 1325 = some (.iconst 0, 1, [], []) := by decide +kernel
theorem f0_1326 : fr 0 1326 = some (.ireturn, 1, [], []) := by decide +kernel
theorem f0_1327 : fr 0 1327 = some (.aload 1, 1, [], []) := by decide +kernel
theorem f0_1328 : fr 0 1328 = some (.aload 0, 1, [], []) := by decide +kernel
theorem f0_1329 : fr 0 1329 = some (.iload 3, 1, [], []) := by decide +kernel
theorem f0_1330 : fr 0 1330 = some (.iconst 1, 1, [], []) := by decide +kernel
theorem f0_1331 : fr 0 1331 = some (.iadd, 1, [], []) := by decide +kernel
theorem f0_1332 : fr 0 1332 = some (.iaload, 1, [], []) := by decide +kernel
theorem f0_1333 : fr 0 1333 = some (.invokevirtual 127, 3, [], []) := by decide +kernel
theorem f0_1336 : fr 0 1336 = some (.aload 2, 1, [], []) := by decide +kernel
theorem f0_1337 : fr 0 1337 = some (.aload 0, 1, [], []) := by decide +kernel
theorem f0_1338 : fr 0 1338 = some (.iload 3, 1, [], []) := by decide +kernel
theorem f0_1339 : fr 0 1339 = some (.iconst 1, 1, [], []) := by decide +kernel
theorem f0_1340 : fr 0 1340 = some (.iadd, 1, [], []) := by decide +kernel
theorem f0_1341 : fr 0 1341 = some (.iaload, 1, [], []) := by decide +kernel
theorem f0_1342 : fr 0 1342 = some (.invokevirtual 225, 3, [], []) := by decide +kernel
theorem f0_1345 : fr 0 1345 = some (.if_icmp .eq 1652, 3, [0, 1, 2, 3], []) := by decide +kernel
theorem f0_1348 : fr 0 1348 = some (.iconst 0, 1, [], []) := by decide +kernel
theorem f0_1349 : fr 0 1349 = some (.ireturn, 1, [], []) := by decide +kernel
theorem f0_1350 : fr 0 1350 = some (.aload 1, 1, [], []) := by decide +kernel
theorem f0_1351 : fr 0 1351 = some (.aload 0, 1, [], []) := by decide +kernel
theorem f0_1352 : fr 0 1352 = some (.iload 3, 1, [], []) := by decide +kernel
theorem f0_1353 : fr 0 1353 = some (.iconst 1, 1, [], []) := by decide +kernel
theorem f0_1354 : fr 0 1354 = some (.iadd, 1, [], []) := by decide +kernel
theorem f0_1355 : fr 0 1355 = some (.iaload, 1, [], []) := by decide +kernel
theorem f0_1356 : fr 0 1356 = some (.aload 0, 1, [], []) := by decide +kernel
theorem f0_1357 : fr 0 1357 = some (.iload 3, 1, [], []) := by decide +kernel
theorem f0_1358 : fr 0 1358 = some (.iconst 2, 1, [], []) := by decide +kernel
theorem f0_1359 : fr 0 1359 = some (.iadd, 1, [], []) := by decide +kernel
theorem f0_1360 : fr 0 1360 = some (.iaload, 1, [], []) := by decide +kernel
theorem f0_1361 : fr 0 1361 = some (.invokevirtual 130, 3, [], []) := by decide +kernel
theorem f0_1364 : fr 0 1364 = some (.aload 2, 1, [], []) := by decide +kernel
theorem f0_1365 : fr 0 1365 = some (.aload 0, 1, [], []) := by decide +kernel
theorem f0_1366 : fr 0 1366 = some (.iload 3, 1, [], []) := by decide +kernel
theorem f0_1367 : fr 0 1367 = some (.iconst 1, 1, [], []) := by decide +kernel
theorem f0_1368 : fr 0 1368 = some (.iadd, 1, [], []) := by decide +kernel
theorem f0_1369 : fr 0 1369 = some (.iaload, 1, [], []) := by decide +kernel
theorem f0_1370 : fr 0 1370 = some (.aload 0, 1, [], []) := by decide +kernel
theorem f0_1371 : fr 0 1371 = some (.iload 3, 1, [], []) := by decide +kernel
theorem f0_1372 : fr 0 1372 = some (.iconst 2, 1, [], []) := by decide +kernel
theorem f0_1373 : fr 0 1373 = some (.iadd, 1, [], []) := by decide +kernel
theorem f0_1374 : fr 0 1374 = some (.iaload, 1, [], []) := by decide +kernel
theorem f0_1375 : fr 0 1375 = some (.invokevirtual 226, 3, [], []) := by decide +kernel
theorem f0_1378 : fr 0 1378 = some (.if_icmp .eq 1652, 3, [0, 1, 2, 3], []) := by decide +kernel
theorem f0_1381 : fr 0 1381 = some (.iconst 0, 1, [], []) := by decide +kernel
theorem f0_1382 : fr 0 1382 = some (.ireturn, 1, [], []) := by decide +kernel
theorem f0_1383 : fr 0 1383 = some (.aload 1, 1, [], []) := by decide +kernel
theorem f0_1384 : fr 0 1384 = some (.aload 0, 1, [], []) := by decide +kernel
theorem f0_1385 : fr 0 1385 = some (.iload 3, 1, [], []) := by decide +kernel
theorem f0_1386 : fr 0 1386 = some (.iconst 1, 1, [], []) := by decide +kernel
theorem f0_1387 : fr 0 1387 = some (.iadd, 1, [], []) := by decide +kernel
theorem f0_1388 : fr 0 1388 = some (.iaload, 1, [], []) := by decide +kernel
theorem f0_1389 : fr 0 1389 = some (.aload 0, 1, [], []) := by decide +kernel
theorem f0_1390 : fr 0 1390 = some (.iload 3, 1, [], []) := by decide +kernel
theorem f0_1391 : fr 0 1391 = some (.iconst 2, 1, [], []) := by decide +kernel
theorem f0_1392 : fr 0 1392 = some (.iadd, 1, [], []) := by decide +kernel
theorem f0_1393 : fr 0 1393 = some (.iaload, 1, [], []) := by decide +kernel
theorem f0_1394 : fr 0 1394 = some (.aload 0, 1, [], []) := by decide +kernel
theorem f0_1395 : fr 0 1395 = some (.iload 3, 1, [], []) := by decide +kernel
theorem f0_1396 : fr 0 1396 = some (.iconst 3, 1, [], []) := by decide +kernel
theorem f0_1397 : fr 0 1397 = some (.iadd, 1, [], []) := by decide +kernel
theorem f0_1398 : fr 0 1398 = some (.iaload, 1, [], []) := by decide +kernel
theorem f0_1399 : fr 0 1399 = some (.invokevirtual 133, 3, [], []) := by decide +kernel
theorem f0_1402 : fr 0 1402 = some (.aload 2, 1, [], []) := by decide +kernel
theorem f0_1403 : fr 0 1403 = some (.aload 0, 1, [], []) := by decide +kernel
theorem f0_1404 : fr 0 1404 = some (.iload 3, 1, [], []) := by decide +kernel
theorem f0_1405 : fr 0 1405 = some (.iconst 1, 1, [], []) := by decide +kernel
theorem f0_1406 : fr 0 1406 = some (.iadd, 1, [], []) := by decide +kernel
theorem f0_1407 : fr 0 1407 = some (.iaload, 1, [], []) := by decide +kernel
theorem f0_1408 : fr 0 1408 = some (.aload 0, 1, [], []) := by decide +kernel
theorem f0_1409 : fr 0 1409 = some (.iload 3, 1, [], []) := by decide +kernel
theorem f0_1410 : fr 0 1410 = some (.iconst 2, 1, [], []) := by decide +kernel
theorem f0_1411 : fr 0 1411 = some (.iadd, 1, [], []) := by decide +kernel
theorem f0_1412 : fr 0 1412 = some (.iaload, 1, [], []) := by decide +kernel
theorem f0_1413 : fr 0 1413 = some (.aload 0, 1, [], []) := by decide +kernel
theorem f0_1414 : fr 0 1414 = some (.iload 3, 1, [], []) := by decide +kernel
theorem f0_1415 : fr 0 1415 = some (.iconst 3, 1, [], []) := by decide +kernel
theorem f0_1416 : fr 0 1416 = some (.iadd, 1, [], []) := by decide +kernel
theorem f0_1417 : fr 0 1417 = some (.iaload, 1, [], []) := by decide +kernel
theorem f0_1418 : fr 0 1418 = some (.invokevirtual 227, 3, [], []) := by decide +kernel
theorem f0_1421 : fr 0 1421 = some (.if_icmp .eq 1652, 3, [0, 1, 2, 3], []) := by decide +kernel
theorem f0_1424 : fr 0 1424 = some (.iconst 0, 1, [], []) := by decide +kernel
theorem f0_1425 : fr 0 1425 = some (.ireturn, 1, [], []) := by decide +kernel
theorem f0_1426 : fr 0 1426 = some (.aload 1, 1, [], []) := by decide +kernel
theorem f0_1427 : fr 0 1427 = some (.aload 0, 1, [], []) := by decide +kernel
theorem f0_1428 : fr 0 1428 = some (.iload 3, 1, [], []) := by decide +kernel
theorem f0_1429 : fr 0 1429 = some (.iconst 1, 1, [], []) := by decide +kernel
theorem f0_1430 : fr 0 1430 = some (.iadd, 1, [], []) := by decide +kernel
theorem f0_1431 : fr 0 1431 = some (.iaload, 1, [], []) := by decide +kernel
theorem f0_1432 : fr 0 1432 = some (.aload 0, 1, [], []) := by decide +kernel
theorem f0_1433 : fr 0 1433 = some (.iload 3, 1, [], []) := by decide +kernel
theorem f0_1434 : fr 0 1434 = some (.iconst 2, 1, [], []) := by decide +kernel
theorem f0_1435 : fr 0 1435 = some (.iadd, 1, [], []) := by decide +kernel
theorem f0_1436 : fr 0 1436 = some (.iaload, 1, [], []) := by decide +kernel
theorem f0_1437 : fr 0 1437 = some (.aload 0, 1, [], []) := by decide +kernel
theorem f0_1438 : fr 0 1438 = some (.iload 3, 1, [], []) := by decide +kernel
theorem f0_1439 : fr 0 1439 = some (.iconst 3, 1, [], []) := by decide +kernel
theorem f0_1440 : fr 0 1440 = some (.iadd, 1, [], []) := by decide +kernel
theorem f0_1441 : fr 0 1441 = some (.iaload, 1, [], []) := by decide +kernel
theorem f0_1442 : fr 0 1442 = some (.i2l, 1, [], []) := by decide +kernel
theorem f0_1443 : fr 0 1443 = some (.iconst 32, 2, [], []) := by decide +kernel
theorem f0_1445 : fr 0 1445 = some (.lshl, 1, [], []) := by decide +kernel
theorem f0_1446 : fr 0 1446 = some (.aload 0, 1, [], []) := by decide +kernel
theorem f0_1447 : fr 0 1447 = some (.iload 3, 1, [], []) := by decide +kernel
theorem f0_1448 : fr 0 1448 = some (.iconst 4, 1, [], []) := by decide +kernel
theorem f0_1449 : fr 0 1449 = some (.iadd, 1, [], []) := by decide +kernel
theorem f0_1450 : fr 0 1450 = some (.iaload, 1, [], []) := by decide +kernel
theorem f0_1451 : fr 0 1451 = some (.i2l, 1, [], []) := by decide +kernel
theorem f0_1452 : fr 0 1452 = some (.jsr_w 4294967295, 3, [], []) := by decide +kernel
theorem f0_1455 : fr 0 1455 = some (.land, 1, [], []) := by decide +kernel
theorem f0_1456 : fr 0 1456 = some (.lor, 1, [], []) := by decide +kernel
theorem f0_1457 : fr 0 1457 = some (.invokevirtual 136, 3, [], []) := by decide +kernel
theorem f0_1460 : fr 0 1460 = some (.aload 2, 1, [], []) := by decide +kernel
theorem f0_1461 : fr 0 1461 = some (.aload 0, 1, [], []) := by decide +kernel
theorem f0_1462 : fr 0 1462 = some (.iload 3, 1, [], []) := by decide +kernel
theorem f0_1463 : fr 0 1463 = some (.iconst 1, 1, [], []) := by decide +kernel
theorem f0_1464 : fr 0 1464 = some (.iadd, 1, [], []) := by decide +kernel
theorem f0_1465 : fr 0 1465 = some (.iaload, 1, [], []) := by decide +kernel
theorem f0_1466 : fr 0 1466 = some (.aload 0, 1, [], []) := by decide +kernel
theorem f0_1467 : fr 0 1467 = some (.iload 3, 1, [], []) := by decide +kernel
theorem f0_1468 : fr 0 1468 = some (.iconst 2, 1, [], []) := by decide +kernel
theorem f0_1469 : fr 0 1469 = some (.iadd, 1, [], []) := by decide +kernel
theorem f0_1470 : fr 0 1470 = some (.iaload, 1, [], []) := by decide +kernel
theorem f0_1471 : fr 0 1471 = some (.aload 0, 1, [], []) := by decide +kernel
theorem f0_1472 : fr 0 1472 = some (.iload 3, 1, [], []) := by decide +kernel
theorem f0_1473 : fr 0 1473 = some (.iconst 3, 1, [], []) := by decide +kernel
theorem f0_1474 : fr 0 1474 = some (.iadd, 1, [], []) := by decide +kernel
theorem f0_1475 : fr 0 1475 = some (.iaload, 1, [], []) := by decide +kernel
theorem f0_1476 : fr 0 1476 = some (.i2l, 1, [], []) := by decide +kernel
theorem f0_1477 : fr 0 1477 = some (.iconst 32, 2, [], []) := by decide +kernel
theorem f0_1479 : fr 0 1479 = some (.lshl, 1, [], []) := by decide +kernel
theorem f0_1480 : fr 0 1480 = some (.aload 0, 1, [], []) := by decide +kernel
theorem f0_1481 : fr 0 1481 = some (.iload 3, 1, [], []) := by decide +kernel
theorem f0_1482 : fr 0 1482 = some (.iconst 4, 1, [], []) := by decide +kernel
theorem f0_1483 : fr 0 1483 = some (.iadd, 1, [], []) := by decide +kernel
theorem f0_1484 : fr 0 1484 = some (.iaload, 1, [], []) := by decide +kernel
theorem f0_1485 : fr 0 1485 = some (.i2l, 1, [], []) := by decide +kernel
theorem f0_1486 : fr 0 1486 = some (.jsr_w 4294967295, 3, [], []) := by decide +kernel
theorem f0_1489 : fr 0 1489 = some (.land, 1, [], []) := by decide +kernel
theorem f0_1490 : fr 0 1490 = some (.lor, 1, [], []) := by decide +kernel
theorem f0_1491 : fr 0 1491 = some (.invokevirtual 228, 3, [], []) := by decide +kernel
theorem f0_1494 : fr 0 1494 = some (.if_icmp .eq 1652, 3, [0, 1, 2, 3], []) := by decide +kernel
theorem f0_1497 : fr 0 1497 = some (.iconst 0, 1, [], []) := by decide +kernel
theorem f0_1498 : fr 0 1498 = some (.ireturn, 1, [], []) := by decide +kernel
theorem f0_1499 : fr 0 1499 = some (.aload 1, 1, [], []) := by decide +kernel
theorem f0_1500 : fr 0 1500 = some (.aload 0, 1, [], []) := by decide +kernel
theorem f0_1501 : fr 0 1501 = some (.iload 3, 1, [], []) := by decide +kernel
theorem f0_1502 : fr 0 1502 = some (.iconst 1, 1, [], []) := by decide +kernel
theorem f0_1503 : fr 0 1503 = some (.iadd, 1, [], []) := by decide +kernel
theorem f0_1504 : fr 0 1504 = some (.iaload, 1, [], []) := by decide +kernel
theorem f0_1505 : fr 0 1505 = some (.aload 0, 1, [], []) := by decide +kernel
theorem f0_1506 : fr 0 1506 = some (.iload 3, 1, [], []) := by decide +kernel
theorem f0_1507 : fr 0 1507 = some (.iconst 2, 1, [], []) := by decide +kernel
theorem f0_1508 : fr 0 1508 = some (.iadd, 1, [], []) := by decide +kernel
theorem f0_1509 : fr 0 1509 = some (.iaload, 1, [], []) := by decide +kernel
theorem f0_1510 : fr 0 1510 = some (.invokevirtual 140, 3, [], []) := by decide +kernel
theorem f0_1513 : fr 0 1513 = some (.aload 2, 1, [], []) := by decide +kernel
theorem f0_1514 : fr 0 1514 = some (.aload 0, 1, [], []) := by decide +kernel
theorem f0_1515 : fr 0 1515 = some (.iload 3, 1, [], []) := by decide +kernel
theorem f0_1516 : fr 0 1516 = some (.iconst 1, 1, [], []) := by decide +kernel
theorem f0_1517 : fr 0 1517 = some (.iadd, 1, [], []) := by decide +kernel
theorem f0_1518 : fr 0 1518 = some (.iaload, 1, [], []) := by decide +kernel
theorem f0_1519 : fr 0 1519 = some (.aload 0, 1, [], []) := by decide +kernel
theorem f0_1520 : fr 0 1520 = some (.iload 3, 1, [], []) := by decide +kernel
theorem f0_1521 : fr 0 1521 = some (.iconst 2, 1, [], []) := by decide +kernel
theorem f0_1522 : fr 0 1522 = some (.iadd, 1, [], []) := by decide +kernel
theorem f0_1523 : fr 0 1523 = some (.iaload, 1, [], []) := by decide +kernel
theorem f0_1524 : fr 0 1524 = some (.invokevirtual 231, 3, [], []) := by decide +kernel
theorem f0_1527 : fr 0 1527 = some (.lcmp, 1, [], []) := by decide +kernel
theorem f0_1528 : fr 0 1528 = some (.ifCond .eq 1652, 3, [0, 1, 2, 3], []) := by decide +kernel
theorem f0_1531 : fr 0 1531 = some (.iconst 0, 1, [], []) := by decide +kernel
theorem f0_1532 : fr 0 1532 = some (.ireturn, 1, [], []) := by decide +kernel
theorem f0_1533 : fr 0 1533 = some (.aload 1, 1, [], []) := by decide +kernel
theorem f0_1534 : fr 0 1534 = some (.aload 0, 1, [], []) := by decide +kernel
theorem f0_1535 : fr 0 1535 = some (.iload 3, 1, [], []) := by decide +kernel
theorem f0_1536 : fr 0 1536 = some (.iconst 1, 1, [], []) := by decide +kernel
theorem f0_1537 : fr 0 1537 = some (.iadd, 1, [], []) := by decide +kernel
theorem f0_1538 : fr 0 1538 = some (.iaload, 1, [], []) := by decide +kernel
theorem f0_1539 : fr 0 1539 = some (.aload 0, 1, [], []) := by decide +kernel
theorem f0_1540 : fr 0 1540 = some (.iload 3, 1, [], []) := by decide +kernel
theorem f0_1541 : fr 0 1541 = some (.iconst 2, 1, [], []) := by decide +kernel
theorem f0_1542 : fr 0 1542 = some (.iadd, 1, [], []) := by decide +kernel
theorem f0_1543 : fr 0 1543 = some (.iaload, 1, [], []) := by decide +kernel
theorem f0_1544 : fr 0 1544 = some (.aload 0, 1, [], []) := by decide +kernel
theorem f0_1545 : fr 0 1545 = some (.iload 3, 1, [], []) := by decide +kernel
theorem f0_1546 : fr 0 1546 = some (.iconst 3, 1, [], []) := by decide +kernel
theorem f0_1547 : fr 0 1547 = some (.iadd, 1, [], []) := by decide +kernel
theorem f0_1548 : fr 0 1548 = some (.iaload, 1, [], []) := by decide +kernel
theorem f0_1549 : fr 0 1549 = some (.aload 0, 1, [], []) := by decide +kernel
theorem f0_1550 : fr 0 1550 = some (.iload 3, 1, [], []) := by decide +kernel
theorem f0_1551 : fr 0 1551 = some (.iconst 4, 1, [], []) := by decide +kernel
theorem f0_1552 : fr 0 1552 = some (.iadd, 1, [], []) := by decide +kernel
theorem f0_1553 : fr 0 1553 = some (.iaload, 1, [], []) := by decide +kernel
theorem f0_1554 : fr 0 1554 = some (.aload 0, 1, [], []) := by decide +kernel
theorem f0_1555 : fr 0 1555 = some (.iload 3, 1, [], []) := by decide +kernel
theorem f0_1556 : fr 0 1556 = some (.iconst 5, 1, [], []) := by decide +kernel
theorem f0_1557 : fr 0 1557 = some (.iadd, 1, [], []) := by decide +kernel
theorem f0_1558 : fr 0 1558 = some (.iaload, 1, [], []) := by decide +kernel
theorem f0_1559 : fr 0 1559 = some (.invokevirtual 141, 3, [], []) := by decide +kernel
theorem f0_1562 : fr 0 1562 = some (.aload 2, 1, [], []) := by decide +kernel
theorem f0_1563 : fr 0 1563 = some (.aload 0, 1, [], []) := by decide +kernel
theorem f0_1564 : fr 0 1564 = some (.iload 3, 1, [], []) := by decide +kernel
theorem f0_1565 : fr 0 1565 = some (.iconst 1, 1, [], []) := by decide +kernel
theorem f0_1566 : fr 0 1566 = some (.iadd, 1, [], []) := by decide +kernel
theorem f0_1567 : fr 0 1567 = some (.iaload, 1, [], []) := by decide +kernel
theorem f0_1568 : fr 0 1568 = some (.aload 0, 1, [], []) := by decide +kernel
theorem f0_1569 : fr 0 1569 = some (.iload 3, 1, [], []) := by decide +kernel
theorem f0_1570 : fr 0 1570 = some (.iconst 2, 1, [], []) := by decide +kernel
theorem f0_1571 : fr 0 1571 = some (.iadd, 1, [], []) := by decide +kernel
theorem f0_1572 : fr 0 1572 = some (.iaload, 1, [], []) := by decide +kernel
theorem f0_1573 : fr 0 1573 = some (.aload 0, 1, [], []) := by decide +kernel
theorem f0_1574 : fr 0 1574 = some (.iload 3, 1, [], []) := by decide +kernel
theorem f0_1575 : fr 0 1575 = some (.iconst 3, 1, [], []) := by decide +kernel
theorem f0_1576 : fr 0 1576 = some (.iadd, 1, [], []) := by decide +kernel
theorem f0_1577 : fr 0 1577 = some (.iaload, 1, [], []) := by decide +kernel
theorem f0_1578 : fr 0 1578 = some (.aload 0, 1, [], []) := by decide +kernel
theorem f0_1579 : fr 0 1579 = some (.iload 3, 1, [], []) := by decide +kernel
theorem f0_1580 : fr 0 1580 = some (.iconst 4, 1, [], []) := by decide +kernel
theorem f0_1581 : fr 0 1581 = some (.iadd, 1, [], []) := by decide +kernel
theorem f0_1582 : fr 0 1582 = some (.iaload, 1, [], []) := by decide +kernel
theorem f0_1583 : fr 0 1583 = some (.aload 0, 1, [], []) := by decide +kernel
theorem f0_1584 : fr 0 1584 = some (.iload 3, 1, [], []) := by decide +kernel
theorem f0_1585 : fr 0 1585 = some (.iconst 5, 1, [], []) := by decide +kernel
theorem f0_1586 : fr 0 1586 = some (.iadd, 1, [], []) := by decide +kernel
theorem f0_1587 : fr 0 1587 = some (.iaload, 1, [], []) := by decide +kernel
theorem f0_1588 : fr 0 1588 = some (.invokevirtual 232, 3, [], []) := by decide +kernel
theorem f0_1591 : fr 0 1591 = some (.if_icmp .eq 1652, 3, [0, 1, 2, 3], []) := by decide +kernel
theorem f0_1594 : fr 0 1594 = some (.iconst 0, 1, [], []) := by decide +kernel
theorem f0_1595 : fr 0 1595 = some (.ireturn, 1, [], []) := by decide +kernel
theorem f0_1596 : fr 0 1596 = some (.aload 1, 1, [], []) := by decide +kernel
theorem f0_1597 : fr 0 1597 = some (.aload 0, 1, [], []) := by decide +kernel
theorem f0_1598 : fr 0 1598 = some (.iload 3, 1, [], []) := by decide +kernel
theorem f0_1599 : fr 0 1599 = some (.iconst 1, 1, [], []) := by decide +kernel
theorem f0_1600 : fr 0 1600 = some (.iadd, 1, [], []) := by decide +kernel
theorem f0_1601 : fr 0 1601 = some (.iaload, 1, [], []) := by decide +kernel
theorem f0_1602 : fr 0 1602 = some (.aload 0, 1, [], []) := by decide +kernel
theorem f0_1603 : fr 0 1603 = some (.iload 3, 1, [], []) := by decide +kernel
theorem f0_1604 : fr 0 1604 = some (.iconst 2, 1, [], []) := by decide +kernel
theorem f0_1605 : fr 0 1605 = some (.iadd, 1, [], []) := by decide +kernel
theorem f0_1606 : fr 0 1606 = some (.iaload, 1, [], []) := by decide +kernel
theorem f0_1607 : fr 0 1607 = some (.invokevirtual 143, 3, [], []) := by decide +kernel
theorem f0_1610 : fr 0 1610 = some (.aload 2, 1, [], []) := by decide +kernel
theorem f0_1611 : fr 0 1611 = some (.aload 0, 1, [], []) := by decide +kernel
theorem f0_1612 : fr 0 1612 = some (.iload 3, 1, [], []) := by decide +kernel
theorem f0_1613 : fr 0 1613 = some (.iconst 1, 1, [], []) := by decide +kernel
theorem f0_1614 : fr 0 1614 = some (.iadd, 1, [], []) := by decide +kernel
theorem f0_1615 : fr 0 1615 = some (.iaload, 1, [], []) := by decide +kernel
theorem f0_1616 : fr 0 1616 = some (.aload 0, 1, [], []) := by decide +kernel
theorem f0_1617 : fr 0 1617 = some (.iload 3, 1, [], []) := by decide +kernel
theorem f0_1618 : fr 0 1618 = some (.iconst 2, 1, [], []) := by decide +kernel
theorem f0_1619 : fr 0 1619 = some (.iadd, 1, [], []) := by decide +kernel
theorem f0_1620 : fr 0 1620 = some (.iaload, 1, [], []) := by decide +kernel
theorem f0_1621 : fr 0 1621 = some (.invokevirtual 233, 3, [], []) := by decide +kernel
theorem f0_1624 : fr 0 1624 = some (.if_icmp .eq 1652, 3, [0, 1, 2, 3], []) := by decide +kernel
theorem f0_1627 : fr 0 1627 = some (.iconst 0, 1, [], []) := by decide +kernel
theorem f0_1628 : fr 0 1628 = some (.ireturn, 1, [], []) := by decide +kernel
theorem f0_1629 : fr 0 1629 = some (.aload 1, 1, [], []) := by decide +kernel
theorem f0_1630 : fr 0 1630 = some (.aload 0, 1, [], []) := by decide +kernel
theorem f0_1631 : fr 0 1631 = some (.iload 3, 1, [], []) := by decide +kernel
theorem f0_1632 : fr 0 1632 = some (.iconst 1, 1, [], []) := by decide +kernel
theorem f0_1633 : fr 0 1633 = some (.iadd, 1, [], []) := by decide +kernel
theorem f0_1634 : fr 0 1634 = some (.iaload, 1, [], []) := by decide +kernel
theorem f0_1635 : fr 0 1635 = some (.invokevirtual 145, 3, [], []) := by decide +kernel
theorem f0_1638 : fr 0 1638 = some (.aload 2, 1, [], []) := by decide +kernel
theorem f0_1639 : fr 0 1639 = some (.aload 0, 1, [], []) := by decide +kernel
theorem f0_1640 : fr 0 1640 = some (.iload 3, 1, [], []) := by decide +kernel
theorem f0_1641 : fr 0 1641 = some (.iconst 1, 1, [], []) := by decide +kernel
theorem f0_1642 : fr 0 1642 = some (.iadd, 1, [], []) := by decide +kernel
theorem f0_1643 : fr 0 1643 = some (.iaload, 1, [], []) := by decide +kernel
theorem f0_1644 : fr 0 1644 = some (.invokevirtual 235, 3, [], []) := by decide +kernel
theorem f0_1647 : fr 0 1647 = some (.if_icmp .eq 1652, 3, [0, 1, 2, 3], []) := by decide +kernel
theorem f0_1650 : fr 0 1650 = some (.iconst 0, 1, [], []) := by decide +kernel
theorem f0_1651 : fr 0 1651 = some (.ireturn, 1, [], []) := by decide +kernel
theorem f0_1652 : fr 0 1652 = some (.iinc 3 6, 3, [], []) := by decide +kernel
theorem f0_1655 : fr 0 1655 = some (.goto 18, 3, [], []) := by decide +kernel
theorem f0_1658 : fr 0 1658 = some (.iconst 1, 1, [], []) := by decide +kernel
theorem f0_1659 : fr 0 1659 = some (.ireturn, 1, [], []) := by decide +kernel
theorem t0_0 {X : XX} {d : Nat} {sz sl : Nat} {sh : Nat → Nat × Nat} {R : Nat → Nat → Option Nat} {I : Nat → Nat → Int32} {J : Nat → Nat → Int64}  : exe X d 0 0 [Value.retAddr 0, dm, dm, dm] [] (sz, sl, sh, R, I, J) =
    exe X d 0 3 [Value.retAddr 0, dm, dm, dm] [Value.ref sz] ((sz + 1), (sl + 13), (ur sh sz (7, 0)), (ur R sz (fun _ => none)), (ur I sz (fun _ => 0)), (ur J sz (fun _ => 0))) :=
  (E_new (by decide +kernel) f0_0)
theorem t0_3 {X : XX} {d : Nat} {sz sl : Nat} {sh : Nat → Nat × Nat} {R : Nat → Nat → Option Nat} {I : Nat → Nat → Int32} {J : Nat → Nat → Int64} {s0 : Value} (k0 : isB s0 = true) : exe X d 0 3 [Value.retAddr 0, dm, dm, dm] [s0] (sz, sl, sh, R, I, J) =
    (rf (s0) fun p1 => if sh p1 = (7, 0) then ((ev X d 1 [Value.ref p1] (sz, sl, sh, R, I, J)).bind fun q => exe X d 0 7 [Value.retAddr 0, dm, dm, dm] (q.1.toList ++ [s0]) q.2) else none) :=
  tq ((E_dup (catB k0) f0_3)) ((E_callI pn_1 pc_1 rfl rfl (by simp [cats, cat_i, cat_l, cat_r, catB k0]) f0_4))
theorem t0_7 {X : XX} {d : Nat} {sz sl : Nat} {sh : Nat → Nat × Nat} {R : Nat → Nat → Option Nat} {I : Nat → Nat → Int32} {J : Nat → Nat → Int64} {s0 : Value} (k0 : isB s0 = true) : exe X d 0 7 [Value.retAddr 0, dm, dm, dm] [s0] (sz, sl, sh, R, I, J) =
    exe X d 0 11 [Value.retAddr 0, s0, dm, dm] [Value.ref sz] ((sz + 1), (sl + 50), (ur sh sz (18, 0)), (ur R sz (fun _ => none)), (ur I sz (fun _ => 0)), (ur J sz (fun _ => 0))) :=
  tq ((E_astore k0 rfl f0_7)) ((E_new (by decide +kernel) f0_8))
theorem t0_11 {X : XX} {d : Nat} {sz sl : Nat} {sh : Nat → Nat × Nat} {R : Nat → Nat → Option Nat} {I : Nat → Nat → Int32} {J : Nat → Nat → Int64} {s0 : Value} (k0 : isB s0 = true) : exe X d 0 11 [Value.retAddr 0, Value.ref 0, dm, dm] [s0] (sz, sl, sh, R, I, J) =
    (rf (s0) fun p1 => if sh p1 = (18, 0) then ((ev X d 146 [Value.ref p1] (sz, sl, sh, R, I, J)).bind fun q => exe X d 0 15 [Value.retAddr 0, Value.ref 0, dm, dm] (q.1.toList ++ [s0]) q.2) else none) :=
  tq ((E_dup (catB k0) f0_11)) ((E_callI pn_146 pc_146 rfl rfl (by simp [cats, cat_i, cat_l, cat_r, catB k0]) f0_12))
theorem t0_15 {X : XX} {d : Nat} {sz sl : Nat} {sh : Nat → Nat × Nat} {R : Nat → Nat → Option Nat} {I : Nat → Nat → Int32} {J : Nat → Nat → Int64} {s0 : Value} (k0 : isB s0 = true) : exe X d 0 15 [Value.retAddr 0, Value.ref 0, dm, dm] [s0] (sz, sl, sh, R, I, J) =
    exe X d 0 18 [Value.retAddr 0, Value.ref 0, s0, Value.int (0)] [] (sz, sl, sh, R, I, J) :=
  tq ((E_astore k0 rfl f0_15)) (tq ((E_iconst (x := (0)) (by decide) f0_16)) ((E_istore (okS_A (Nat.lt_of_sub_eq_succ rfl) rfl k0) f0_17)))
theorem t0_18 {X : XX} {d : Nat} {sz sl : Nat} {sh : Nat → Nat × Nat} {R : Nat → Nat → Option Nat} {I : Nat → Nat → Int32} {J : Nat → Nat → Int64} (hS : SF sh R) {l3 : Int32} : exe X d 0 18 [Value.retAddr 0, Value.ref 0, Value.ref 37, Value.int l3] [] (sz, sl, sh, R, I, J) =
    (if ((Int32.ofNat (tn X 0)) - (6)) < l3 then some (some (Value.int (1)), (sz, sl, sh, R, I, J)) else (if 0 < 3 ∧ inb l3 (tn X 0) then (if ((tv X 0 l3.toNatClampNeg) &&& (63)) = (0) then (if 0 < 3 ∧ inb (l3 + (1)) (tn X 0) then (if 0 < 3 ∧ inb (l3 + (2)) (tn X 0) then (if 0 < 3 ∧ inb (l3 + (3)) (tn X 0) then ((ev X d 9 [Value.ref 0, Value.int (tv X 0 (l3 + (1)).toNatClampNeg), Value.int (tv X 0 (l3 + (2)).toNatClampNeg), Value.int (tv X 0 (l3 + (3)).toNatClampNeg)] (sz, sl, sh, R, I, J)).bind fun q => exe X d 0 223 [Value.retAddr 0, Value.ref 0, Value.ref 37, Value.int l3] (q.1.toList ++ []) q.2) else none) else none) else none) else (if ((tv X 0 l3.toNatClampNeg) &&& (63)) = (1) then (if 0 < 3 ∧ inb (l3 + (1)) (tn X 0) then (if 0 < 3 ∧ inb (l3 + (2)) (tn X 0) then ((ev X d 14 [Value.ref 0, Value.int (tv X 0 (l3 + (1)).toNatClampNeg), Value.int (tv X 0 (l3 + (2)).toNatClampNeg)] (sz, sl, sh, R, I, J)).bind fun q => exe X d 0 261 [Value.retAddr 0, Value.ref 0, Value.ref 37, Value.int l3] (q.1.toList ++ []) q.2) else none) else none) else (if ((tv X 0 l3.toNatClampNeg) &&& (63)) = (2) then (if 0 < 3 ∧ inb (l3 + (1)) (tn X 0) then (if 0 < 3 ∧ inb (l3 + (2)) (tn X 0) then ((ev X d 17 [Value.ref 0, Value.int (tv X 0 (l3 + (1)).toNatClampNeg), Value.int (tv X 0 (l3 + (2)).toNatClampNeg)] (sz, sl, sh, R, I, J)).bind fun q => exe X d 0 294 [Value.retAddr 0, Value.ref 0, Value.ref 37, Value.int l3] (q.1.toList ++ []) q.2) else none) else none) else (if ((tv X 0 l3.toNatClampNeg) &&& (63)) = (3) then (if 0 < 3 ∧ inb (l3 + (1)) (tn X 0) then (if 0 < 3 ∧ inb (l3 + (2)) (tn X 0) then (if 0 < 3 ∧ inb (l3 + (3)) (tn X 0) then ((ev X d 24 [Value.ref 0, Value.int (tv X 0 (l3 + (1)).toNatClampNeg), Value.int (tv X 0 (l3 + (2)).toNatClampNeg), Value.int (tv X 0 (l3 + (3)).toNatClampNeg)] (sz, sl, sh, R, I, J)).bind fun q => exe X d 0 332 [Value.retAddr 0, Value.ref 0, Value.ref 37, Value.int l3] (q.1.toList ++ []) q.2) else none) else none) else none) else (if ((tv X 0 l3.toNatClampNeg) &&& (63)) = (4) then (if 0 < 3 ∧ inb (l3 + (1)) (tn X 0) then (if 0 < 3 ∧ inb (l3 + (2)) (tn X 0) then (if 0 < 3 ∧ inb (l3 + (3)) (tn X 0) then (if 0 < 3 ∧ inb (l3 + (4)) (tn X 0) then ((ev X d 25 [Value.ref 0, Value.int (tv X 0 (l3 + (1)).toNatClampNeg), Value.int (tv X 0 (l3 + (2)).toNatClampNeg), Value.int (tv X 0 (l3 + (3)).toNatClampNeg), Value.int (tv X 0 (l3 + (4)).toNatClampNeg)] (sz, sl, sh, R, I, J)).bind fun q => exe X d 0 380 [Value.retAddr 0, Value.ref 0, Value.ref 37, Value.int l3] (q.1.toList ++ []) q.2) else none) else none) else none) else none) else (if ((tv X 0 l3.toNatClampNeg) &&& (63)) = (5) then (if 0 < 3 ∧ inb (l3 + (1)) (tn X 0) then (if 0 < 3 ∧ inb (l3 + (2)) (tn X 0) then ((ev X d 33 [Value.ref 0, Value.int (tv X 0 (l3 + (1)).toNatClampNeg), Value.int (tv X 0 (l3 + (2)).toNatClampNeg)] (sz, sl, sh, R, I, J)).bind fun q => exe X d 0 423 [Value.retAddr 0, Value.ref 0, Value.ref 37, Value.int l3] (q.1.toList ++ []) q.2) else none) else none) else (if ((tv X 0 l3.toNatClampNeg) &&& (63)) = (6) then (if 0 < 3 ∧ inb (l3 + (1)) (tn X 0) then ((ev X d 37 [Value.ref 0, Value.int (tv X 0 (l3 + (1)).toNatClampNeg)] (sz, sl, sh, R, I, J)).bind fun q => exe X d 0 451 [Value.retAddr 0, Value.ref 0, Value.ref 37, Value.int l3] (q.1.toList ++ []) q.2) else none) else (if ((tv X 0 l3.toNatClampNeg) &&& (63)) = (7) then (if 0 < 3 ∧ inb (l3 + (1)) (tn X 0) then (if 0 < 3 ∧ inb (l3 + (2)) (tn X 0) then ((ev X d 39 [Value.ref 0, Value.int (tv X 0 (l3 + (1)).toNatClampNeg), Value.int (tv X 0 (l3 + (2)).toNatClampNeg)] (sz, sl, sh, R, I, J)).bind fun q => exe X d 0 479 [Value.retAddr 0, Value.ref 0, Value.ref 37, Value.int l3] (q.1.toList ++ []) q.2) else none) else none) else (if ((tv X 0 l3.toNatClampNeg) &&& (63)) = (8) then ((ev X d 41 [Value.ref 0] (sz, sl, sh, R, I, J)).bind fun q => exe X d 0 502 [Value.retAddr 0, Value.ref 0, Value.ref 37, Value.int l3] (q.1.toList ++ []) q.2) else (if ((tv X 0 l3.toNatClampNeg) &&& (63)) = (9) then (if 0 < 3 ∧ inb (l3 + (1)) (tn X 0) then (if 0 < 3 ∧ inb (l3 + (2)) (tn X 0) then (if 0 < 3 ∧ inb (l3 + (3)) (tn X 0) then ((ev X d 56 [Value.ref 0, Value.int (tv X 0 (l3 + (1)).toNatClampNeg), Value.int (tv X 0 (l3 + (2)).toNatClampNeg), Value.int (tv X 0 (l3 + (3)).toNatClampNeg)] (sz, sl, sh, R, I, J)).bind fun q => exe X d 0 530 [Value.retAddr 0, Value.ref 0, Value.ref 37, Value.int l3] (q.1.toList ++ []) q.2) else none) else none) else none) else (if ((tv X 0 l3.toNatClampNeg) &&& (63)) = (10) then (if 0 < 3 ∧ inb (l3 + (1)) (tn X 0) then (if 0 < 3 ∧ inb (l3 + (2)) (tn X 0) then (if 0 < 3 ∧ inb (l3 + (3)) (tn X 0) then ((ev X d 62 [Value.ref 0, Value.int (tv X 0 (l3 + (1)).toNatClampNeg), Value.int (tv X 0 (l3 + (2)).toNatClampNeg), Value.int (tv X 0 (l3 + (3)).toNatClampNeg)] (sz, sl, sh, R, I, J)).bind fun q => exe X d 0 573 [Value.retAddr 0, Value.ref 0, Value.ref 37, Value.int l3] (q.1.toList ++ []) q.2) else none) else none) else none) else (if ((tv X 0 l3.toNatClampNeg) &&& (63)) = (11) then (if 0 < 3 ∧ inb (l3 + (1)) (tn X 0) then (if 0 < 3 ∧ inb (l3 + (2)) (tn X 0) then (if 0 < 3 ∧ inb (l3 + (3)) (tn X 0) then ((ev X d 64 [Value.ref 0, Value.int (tv X 0 (l3 + (1)).toNatClampNeg), Value.int (tv X 0 (l3 + (2)).toNatClampNeg), Value.int (tv X 0 (l3 + (3)).toNatClampNeg)] (sz, sl, sh, R, I, J)).bind fun q => exe X d 0 616 [Value.retAddr 0, Value.ref 0, Value.ref 37, Value.int l3] (q.1.toList ++ []) q.2) else none) else none) else none) else (if ((tv X 0 l3.toNatClampNeg) &&& (63)) = (12) then (if 0 < 3 ∧ inb (l3 + (1)) (tn X 0) then (if 0 < 3 ∧ inb (l3 + (2)) (tn X 0) then ((ev X d 69 [Value.ref 0, Value.int (tv X 0 (l3 + (1)).toNatClampNeg), Value.int (tv X 0 (l3 + (2)).toNatClampNeg)] (sz, sl, sh, R, I, J)).bind fun q => exe X d 0 654 [Value.retAddr 0, Value.ref 0, Value.ref 37, Value.int l3] (q.1.toList ++ []) q.2) else none) else none) else (if ((tv X 0 l3.toNatClampNeg) &&& (63)) = (13) then (if 0 < 3 ∧ inb (l3 + (1)) (tn X 0) then (if 0 < 3 ∧ inb (l3 + (2)) (tn X 0) then (if 0 < 3 ∧ inb (l3 + (3)) (tn X 0) then ((ev X d 70 [Value.ref 0, Value.int (tv X 0 (l3 + (1)).toNatClampNeg), Value.int (tv X 0 (l3 + (2)).toNatClampNeg), Value.int (tv X 0 (l3 + (3)).toNatClampNeg)] (sz, sl, sh, R, I, J)).bind fun q => exe X d 0 692 [Value.retAddr 0, Value.ref 0, Value.ref 37, Value.int l3] (q.1.toList ++ []) q.2) else none) else none) else none) else (if ((tv X 0 l3.toNatClampNeg) &&& (63)) = (14) then (if 0 < 3 ∧ inb (l3 + (1)) (tn X 0) then (if 0 < 3 ∧ inb (l3 + (2)) (tn X 0) then ((ev X d 71 [Value.ref 0, Value.int (tv X 0 (l3 + (1)).toNatClampNeg), Value.int (tv X 0 (l3 + (2)).toNatClampNeg)] (sz, sl, sh, R, I, J)).bind fun q => exe X d 0 730 [Value.retAddr 0, Value.ref 0, Value.ref 37, Value.int l3] (q.1.toList ++ []) q.2) else none) else none) else (if ((tv X 0 l3.toNatClampNeg) &&& (63)) = (15) then (if 0 < 3 ∧ inb (l3 + (1)) (tn X 0) then (if 0 < 3 ∧ inb (l3 + (2)) (tn X 0) then (if 0 < 3 ∧ inb (l3 + (3)) (tn X 0) then ((ev X d 75 [Value.ref 0, Value.int (tv X 0 (l3 + (1)).toNatClampNeg), Value.int (tv X 0 (l3 + (2)).toNatClampNeg), Value.int (tv X 0 (l3 + (3)).toNatClampNeg)] (sz, sl, sh, R, I, J)).bind fun q => exe X d 0 768 [Value.retAddr 0, Value.ref 0, Value.ref 37, Value.int l3] (q.1.toList ++ []) q.2) else none) else none) else none) else (if ((tv X 0 l3.toNatClampNeg) &&& (63)) = (16) then (if 0 < 3 ∧ inb (l3 + (1)) (tn X 0) then (if 0 < 3 ∧ inb (l3 + (2)) (tn X 0) then (if 0 < 3 ∧ inb (l3 + (3)) (tn X 0) then (if 0 < 3 ∧ inb (l3 + (4)) (tn X 0) then ((ev X d 77 [Value.ref 0, Value.int (tv X 0 (l3 + (1)).toNatClampNeg), Value.int (tv X 0 (l3 + (2)).toNatClampNeg), Value.int (tv X 0 (l3 + (3)).toNatClampNeg), Value.int (tv X 0 (l3 + (4)).toNatClampNeg)] (sz, sl, sh, R, I, J)).bind fun q => exe X d 0 816 [Value.retAddr 0, Value.ref 0, Value.ref 37, Value.int l3] (q.1.toList ++ []) q.2) else none) else none) else none) else none) else (if ((tv X 0 l3.toNatClampNeg) &&& (63)) = (17) then (if 0 < 3 ∧ inb (l3 + (1)) (tn X 0) then (if 0 < 3 ∧ inb (l3 + (2)) (tn X 0) then (if 0 < 3 ∧ inb (l3 + (3)) (tn X 0) then (if 0 < 3 ∧ inb (l3 + (4)) (tn X 0) then ((ev X d 78 [Value.ref 0, Value.int (tv X 0 (l3 + (1)).toNatClampNeg), Value.int (tv X 0 (l3 + (2)).toNatClampNeg), Value.int (tv X 0 (l3 + (3)).toNatClampNeg), Value.int (tv X 0 (l3 + (4)).toNatClampNeg)] (sz, sl, sh, R, I, J)).bind fun q => exe X d 0 869 [Value.retAddr 0, Value.ref 0, Value.ref 37, Value.int l3] (q.1.toList ++ []) q.2) else none) else none) else none) else none) else (if ((tv X 0 l3.toNatClampNeg) &&& (63)) = (18) then (if 0 < 3 ∧ inb (l3 + (1)) (tn X 0) then (if 0 < 3 ∧ inb (l3 + (2)) (tn X 0) then ((ev X d 82 [Value.ref 0, Value.int (tv X 0 (l3 + (1)).toNatClampNeg), Value.int (tv X 0 (l3 + (2)).toNatClampNeg)] (sz, sl, sh, R, I, J)).bind fun q => exe X d 0 912 [Value.retAddr 0, Value.ref 0, Value.ref 37, Value.int l3] (q.1.toList ++ []) q.2) else none) else none) else (if ((tv X 0 l3.toNatClampNeg) &&& (63)) = (19) then (if 0 < 3 ∧ inb (l3 + (1)) (tn X 0) then (if 0 < 3 ∧ inb (l3 + (2)) (tn X 0) then (if 0 < 3 ∧ inb (l3 + (3)) (tn X 0) then ((ev X d 84 [Value.ref 0, Value.int (tv X 0 (l3 + (1)).toNatClampNeg), Value.int (tv X 0 (l3 + (2)).toNatClampNeg), Value.int (tv X 0 (l3 + (3)).toNatClampNeg)] (sz, sl, sh, R, I, J)).bind fun q => exe X d 0 950 [Value.retAddr 0, Value.ref 0, Value.ref 37, Value.int l3] (q.1.toList ++ []) q.2) else none) else none) else none) else (if ((tv X 0 l3.toNatClampNeg) &&& (63)) = (20) then (if 0 < 3 ∧ inb (l3 + (1)) (tn X 0) then (if 0 < 3 ∧ inb (l3 + (2)) (tn X 0) then (if 0 < 3 ∧ inb (l3 + (3)) (tn X 0) then (if 0 < 3 ∧ inb (l3 + (4)) (tn X 0) then ((ev X d 85 [Value.ref 0, Value.int (tv X 0 (l3 + (1)).toNatClampNeg), Value.int (tv X 0 (l3 + (2)).toNatClampNeg), Value.int (tv X 0 (l3 + (3)).toNatClampNeg), Value.int (tv X 0 (l3 + (4)).toNatClampNeg)] (sz, sl, sh, R, I, J)).bind fun q => exe X d 0 998 [Value.retAddr 0, Value.ref 0, Value.ref 37, Value.int l3] (q.1.toList ++ []) q.2) else none) else none) else none) else none) else (if ((tv X 0 l3.toNatClampNeg) &&& (63)) = (21) then (if 0 < 3 ∧ inb (l3 + (1)) (tn X 0) then (if 0 < 3 ∧ inb (l3 + (2)) (tn X 0) then (if 0 < 3 ∧ inb (l3 + (3)) (tn X 0) then ((ev X d 96 [Value.ref 0, Value.int (tv X 0 (l3 + (1)).toNatClampNeg), Value.int (tv X 0 (l3 + (2)).toNatClampNeg), Value.int (tv X 0 (l3 + (3)).toNatClampNeg)] (sz, sl, sh, R, I, J)).bind fun q => exe X d 0 1046 [Value.retAddr 0, Value.ref 0, Value.ref 37, Value.int l3] (q.1.toList ++ []) q.2) else none) else none) else none) else (if ((tv X 0 l3.toNatClampNeg) &&& (63)) = (22) then (if 0 < 3 ∧ inb (l3 + (1)) (tn X 0) then (if 0 < 3 ∧ inb (l3 + (2)) (tn X 0) then (if 0 < 3 ∧ inb (l3 + (3)) (tn X 0) then ((ev X d 99 [Value.ref 0, Value.int (tv X 0 (l3 + (1)).toNatClampNeg), Value.int (tv X 0 (l3 + (2)).toNatClampNeg), Value.int (tv X 0 (l3 + (3)).toNatClampNeg)] (sz, sl, sh, R, I, J)).bind fun q => exe X d 0 1089 [Value.retAddr 0, Value.ref 0, Value.ref 37, Value.int l3] (q.1.toList ++ []) q.2) else none) else none) else none) else (if ((tv X 0 l3.toNatClampNeg) &&& (63)) = (23) then (if 0 < 3 ∧ inb (l3 + (1)) (tn X 0) then (if 0 < 3 ∧ inb (l3 + (2)) (tn X 0) then (if 0 < 3 ∧ inb (l3 + (3)) (tn X 0) then ((ev X d 101 [Value.ref 0, Value.int (tv X 0 (l3 + (1)).toNatClampNeg), Value.int (tv X 0 (l3 + (2)).toNatClampNeg), Value.int (tv X 0 (l3 + (3)).toNatClampNeg)] (sz, sl, sh, R, I, J)).bind fun q => exe X d 0 1132 [Value.retAddr 0, Value.ref 0, Value.ref 37, Value.int l3] (q.1.toList ++ []) q.2) else none) else none) else none) else (if ((tv X 0 l3.toNatClampNeg) &&& (63)) = (24) then (if 0 < 3 ∧ inb (l3 + (1)) (tn X 0) then ((ev X d 103 [Value.ref 0, Value.int (tv X 0 (l3 + (1)).toNatClampNeg)] (sz, sl, sh, R, I, J)).bind fun q => exe X d 0 1165 [Value.retAddr 0, Value.ref 0, Value.ref 37, Value.int l3] (q.1.toList ++ []) q.2) else none) else (if ((tv X 0 l3.toNatClampNeg) &&& (63)) = (25) then (if 0 < 3 ∧ inb (l3 + (1)) (tn X 0) then ((ev X d 105 [Value.ref 0, Value.int (tv X 0 (l3 + (1)).toNatClampNeg)] (sz, sl, sh, R, I, J)).bind fun q => exe X d 0 1188 [Value.retAddr 0, Value.ref 0, Value.ref 37, Value.int l3] (q.1.toList ++ []) q.2) else none) else (if ((tv X 0 l3.toNatClampNeg) &&& (63)) = (26) then (if 0 < 3 ∧ inb (l3 + (1)) (tn X 0) then (if 0 < 3 ∧ inb (l3 + (2)) (tn X 0) then ((ev X d 109 [Value.ref 0, Value.int (tv X 0 (l3 + (1)).toNatClampNeg), Value.int (tv X 0 (l3 + (2)).toNatClampNeg)] (sz, sl, sh, R, I, J)).bind fun q => exe X d 0 1216 [Value.retAddr 0, Value.ref 0, Value.ref 37, Value.int l3] (q.1.toList ++ []) q.2) else none) else none) else (if ((tv X 0 l3.toNatClampNeg) &&& (63)) = (27) then ((ev X d 111 [Value.ref 0] (sz, sl, sh, R, I, J)).bind fun q => exe X d 0 1239 [Value.retAddr 0, Value.ref 0, Value.ref 37, Value.int l3] (q.1.toList ++ []) q.2) else (if ((tv X 0 l3.toNatClampNeg) &&& (63)) = (28) then ((ev X d 114 [Value.ref 0] (sz, sl, sh, R, I, J)).bind fun q => exe X d 0 1252 [Value.retAddr 0, Value.ref 0, Value.ref 37, Value.int l3] (q.1.toList ++ []) q.2) else (if ((tv X 0 l3.toNatClampNeg) &&& (63)) = (29) then (if 0 < 3 ∧ inb (l3 + (1)) (tn X 0) then ((ev X d 116 [Value.ref 0, Value.int (tv X 0 (l3 + (1)).toNatClampNeg)] (sz, sl, sh, R, I, J)).bind fun q => exe X d 0 1270 [Value.retAddr 0, Value.ref 0, Value.ref 37, Value.int l3] (q.1.toList ++ []) q.2) else none) else (if ((tv X 0 l3.toNatClampNeg) &&& (63)) = (30) then (if 0 < 3 ∧ inb (l3 + (1)) (tn X 0) then (if 0 < 3 ∧ inb (l3 + (2)) (tn X 0) then (if 0 < 3 ∧ inb (l3 + (3)) (tn X 0) then ((ev X d 119 [Value.ref 0, Value.int (tv X 0 (l3 + (1)).toNatClampNeg), Value.int (tv X 0 (l3 + (2)).toNatClampNeg), Value.int (tv X 0 (l3 + (3)).toNatClampNeg)] (sz, sl, sh, R, I, J)).bind fun q => exe X d 0 1303 [Value.retAddr 0, Value.ref 0, Value.ref 37, Value.int l3] (q.1.toList ++ []) q.2) else none) else none) else none) else (if ((tv X 0 l3.toNatClampNeg) &&& (63)) = (31) then (if 0 < 3 ∧ inb (l3 + (1)) (tn X 0) then ((ev X d 127 [Value.ref 0, Value.int (tv X 0 (l3 + (1)).toNatClampNeg)] (sz, sl, sh, R, I, J)).bind fun q => exe X d 0 1336 [Value.retAddr 0, Value.ref 0, Value.ref 37, Value.int l3] (q.1.toList ++ []) q.2) else none) else (if ((tv X 0 l3.toNatClampNeg) &&& (63)) = (32) then (if 0 < 3 ∧ inb (l3 + (1)) (tn X 0) then (if 0 < 3 ∧ inb (l3 + (2)) (tn X 0) then ((ev X d 130 [Value.ref 0, Value.int (tv X 0 (l3 + (1)).toNatClampNeg), Value.int (tv X 0 (l3 + (2)).toNatClampNeg)] (sz, sl, sh, R, I, J)).bind fun q => exe X d 0 1364 [Value.retAddr 0, Value.ref 0, Value.ref 37, Value.int l3] (q.1.toList ++ []) q.2) else none) else none) else (if ((tv X 0 l3.toNatClampNeg) &&& (63)) = (33) then (if 0 < 3 ∧ inb (l3 + (1)) (tn X 0) then (if 0 < 3 ∧ inb (l3 + (2)) (tn X 0) then (if 0 < 3 ∧ inb (l3 + (3)) (tn X 0) then ((ev X d 133 [Value.ref 0, Value.int (tv X 0 (l3 + (1)).toNatClampNeg), Value.int (tv X 0 (l3 + (2)).toNatClampNeg), Value.int (tv X 0 (l3 + (3)).toNatClampNeg)] (sz, sl, sh, R, I, J)).bind fun q => exe X d 0 1402 [Value.retAddr 0, Value.ref 0, Value.ref 37, Value.int l3] (q.1.toList ++ []) q.2) else none) else none) else none) else (if ((tv X 0 l3.toNatClampNeg) &&& (63)) = (34) then (if 0 < 3 ∧ inb (l3 + (1)) (tn X 0) then (if 0 < 3 ∧ inb (l3 + (2)) (tn X 0) then (if 0 < 3 ∧ inb (l3 + (3)) (tn X 0) then (if 0 < 3 ∧ inb (l3 + (4)) (tn X 0) then ((ev X d 136 [Value.ref 0, Value.int (tv X 0 (l3 + (1)).toNatClampNeg), Value.int (tv X 0 (l3 + (2)).toNatClampNeg), Value.long (((Int32.toInt64 (tv X 0 (l3 + (3)).toNatClampNeg)) <<< (Int32.toInt64 (32) &&& 63)) ||| ((Int32.toInt64 (tv X 0 (l3 + (4)).toNatClampNeg)) &&& (4294967295)))] (sz, sl, sh, R, I, J)).bind fun q => exe X d 0 1460 [Value.retAddr 0, Value.ref 0, Value.ref 37, Value.int l3] (q.1.toList ++ []) q.2) else none) else none) else none) else none) else (if ((tv X 0 l3.toNatClampNeg) &&& (63)) = (35) then (if 0 < 3 ∧ inb (l3 + (1)) (tn X 0) then (if 0 < 3 ∧ inb (l3 + (2)) (tn X 0) then ((ev X d 140 [Value.ref 0, Value.int (tv X 0 (l3 + (1)).toNatClampNeg), Value.int (tv X 0 (l3 + (2)).toNatClampNeg)] (sz, sl, sh, R, I, J)).bind fun q => exe X d 0 1513 [Value.retAddr 0, Value.ref 0, Value.ref 37, Value.int l3] (q.1.toList ++ []) q.2) else none) else none) else (if ((tv X 0 l3.toNatClampNeg) &&& (63)) = (36) then (if 0 < 3 ∧ inb (l3 + (1)) (tn X 0) then (if 0 < 3 ∧ inb (l3 + (2)) (tn X 0) then (if 0 < 3 ∧ inb (l3 + (3)) (tn X 0) then (if 0 < 3 ∧ inb (l3 + (4)) (tn X 0) then (if 0 < 3 ∧ inb (l3 + (5)) (tn X 0) then ((ev X d 141 [Value.ref 0, Value.int (tv X 0 (l3 + (1)).toNatClampNeg), Value.int (tv X 0 (l3 + (2)).toNatClampNeg), Value.int (tv X 0 (l3 + (3)).toNatClampNeg), Value.int (tv X 0 (l3 + (4)).toNatClampNeg), Value.int (tv X 0 (l3 + (5)).toNatClampNeg)] (sz, sl, sh, R, I, J)).bind fun q => exe X d 0 1562 [Value.retAddr 0, Value.ref 0, Value.ref 37, Value.int l3] (q.1.toList ++ []) q.2) else none) else none) else none) else none) else none) else (if ((tv X 0 l3.toNatClampNeg) &&& (63)) = (37) then (if 0 < 3 ∧ inb (l3 + (1)) (tn X 0) then (if 0 < 3 ∧ inb (l3 + (2)) (tn X 0) then ((ev X d 143 [Value.ref 0, Value.int (tv X 0 (l3 + (1)).toNatClampNeg), Value.int (tv X 0 (l3 + (2)).toNatClampNeg)] (sz, sl, sh, R, I, J)).bind fun q => exe X d 0 1610 [Value.retAddr 0, Value.ref 0, Value.ref 37, Value.int l3] (q.1.toList ++ []) q.2) else none) else none) else (if ((tv X 0 l3.toNatClampNeg) &&& (63)) = (38) then (if 0 < 3 ∧ inb (l3 + (1)) (tn X 0) then ((ev X d 145 [Value.ref 0, Value.int (tv X 0 (l3 + (1)).toNatClampNeg)] (sz, sl, sh, R, I, J)).bind fun q => exe X d 0 1638 [Value.retAddr 0, Value.ref 0, Value.ref 37, Value.int l3] (q.1.toList ++ []) q.2) else none) else exe X d 0 18 [Value.retAddr 0, Value.ref 0, Value.ref 37, Value.int (l3 + (6))] [] (sz, sl, sh, R, I, J)))))))))))))))))))))))))))))))))))))))) else none)) :=
  tq ((E_iload (x := l3) rfl f0_18)) (tq ((E_aload (v := Value.retAddr 0) rfl rfl f0_19)) (tq (tq (E_len f0_20) (if_pos (by decide))) (tq ((E_iconst (x := (6)) (by decide) f0_21)) (tq ((E_isub f0_23)) (tq ((E_ic_gt f0_24)) (ite_c (tq ((E_iconst (x := (1)) (by decide) f0_1658)) (tq (E_zret pr_0 f0_1659) (if_pos (by decide)))) (tq ((E_aload (v := Value.retAddr 0) rfl rfl f0_27)) (tq ((E_iload (x := l3) rfl f0_28)) (tq (E_iald f0_29) (ite_c (tq ((E_iconst (x := (63)) (by decide) f0_30)) (tq ((E_iand f0_32)) (tq ((E_sw f0_33)) (sw_c (by decide) (tq ((E_aload (v := Value.ref 0) rfl rfl f0_204)) (tq ((E_aload (v := Value.retAddr 0) rfl rfl f0_205)) (tq ((E_iload (x := l3) rfl f0_206)) (tq ((E_iconst (x := (1)) (by decide) f0_207)) (tq ((E_iadd f0_208)) (tq (E_iald f0_209) (ite_c (tq ((E_aload (v := Value.retAddr 0) rfl rfl f0_210)) (tq ((E_iload (x := l3) rfl f0_211)) (tq ((E_iconst (x := (2)) (by decide) f0_212)) (tq ((E_iadd f0_213)) (tq (E_iald f0_214) (ite_c (tq ((E_aload (v := Value.retAddr 0) rfl rfl f0_215)) (tq ((E_iload (x := l3) rfl f0_216)) (tq ((E_iconst (x := (3)) (by decide) f0_217)) (tq ((E_iadd f0_218)) (tq (E_iald f0_219) (ite_c ((tq ((E_callV pn_9 pc_9 rfl rfl (Nat.le_of_ble_eq_true rfl) f0_220)) (if_pos (zS0 hS)))) rfl)))))) rfl)))))) rfl))))))) (sw_c (by decide) (tq ((E_aload (v := Value.ref 0) rfl rfl f0_247)) (tq ((E_aload (v := Value.retAddr 0) rfl rfl f0_248)) (tq ((E_iload (x := l3) rfl f0_249)) (tq ((E_iconst (x := (1)) (by decide) f0_250)) (tq ((E_iadd f0_251)) (tq (E_iald f0_252) (ite_c (tq ((E_aload (v := Value.retAddr 0) rfl rfl f0_253)) (tq ((E_iload (x := l3) rfl f0_254)) (tq ((E_iconst (x := (2)) (by decide) f0_255)) (tq ((E_iadd f0_256)) (tq (E_iald f0_257) (ite_c ((tq ((E_callV pn_14 pc_14 rfl rfl (Nat.le_of_ble_eq_true rfl) f0_258)) (if_pos (zS0 hS)))) rfl)))))) rfl))))))) (sw_c (by decide) (tq ((E_aload (v := Value.ref 0) rfl rfl f0_280)) (tq ((E_aload (v := Value.retAddr 0) rfl rfl f0_281)) (tq ((E_iload (x := l3) rfl f0_282)) (tq ((E_iconst (x := (1)) (by decide) f0_283)) (tq ((E_iadd f0_284)) (tq (E_iald f0_285) (ite_c (tq ((E_aload (v := Value.retAddr 0) rfl rfl f0_286)) (tq ((E_iload (x := l3) rfl f0_287)) (tq ((E_iconst (x := (2)) (by decide) f0_288)) (tq ((E_iadd f0_289)) (tq (E_iald f0_290) (ite_c ((tq ((E_callV pn_17 pc_17 rfl rfl (Nat.le_of_ble_eq_true rfl) f0_291)) (if_pos (zS0 hS)))) rfl)))))) rfl))))))) (sw_c (by decide) (tq ((E_aload (v := Value.ref 0) rfl rfl f0_313)) (tq ((E_aload (v := Value.retAddr 0) rfl rfl f0_314)) (tq ((E_iload (x := l3) rfl f0_315)) (tq ((E_iconst (x := (1)) (by decide) f0_316)) (tq ((E_iadd f0_317)) (tq (E_iald f0_318) (ite_c (tq ((E_aload (v := Value.retAddr 0) rfl rfl f0_319)) (tq ((E_iload (x := l3) rfl f0_320)) (tq ((E_iconst (x := (2)) (by decide) f0_321)) (tq ((E_iadd f0_322)) (tq (E_iald f0_323) (ite_c (tq ((E_aload (v := Value.retAddr 0) rfl rfl f0_324)) (tq ((E_iload (x := l3) rfl f0_325)) (tq ((E_iconst (x := (3)) (by decide) f0_326)) (tq ((E_iadd f0_327)) (tq (E_iald f0_328) (ite_c ((tq ((E_callV pn_24 pc_24 rfl rfl (Nat.le_of_ble_eq_true rfl) f0_329)) (if_pos (zS0 hS)))) rfl)))))) rfl)))))) rfl))))))) (sw_c (by decide) (tq ((E_aload (v := Value.ref 0) rfl rfl f0_356)) (tq ((E_aload (v := Value.retAddr 0) rfl rfl f0_357)) (tq ((E_iload (x := l3) rfl f0_358)) (tq ((E_iconst (x := (1)) (by decide) f0_359)) (tq ((E_iadd f0_360)) (tq (E_iald f0_361) (ite_c (tq ((E_aload (v := Value.retAddr 0) rfl rfl f0_362)) (tq ((E_iload (x := l3) rfl f0_363)) (tq ((E_iconst (x := (2)) (by decide) f0_364)) (tq ((E_iadd f0_365)) (tq (E_iald f0_366) (ite_c (tq ((E_aload (v := Value.retAddr 0) rfl rfl f0_367)) (tq ((E_iload (x := l3) rfl f0_368)) (tq ((E_iconst (x := (3)) (by decide) f0_369)) (tq ((E_iadd f0_370)) (tq (E_iald f0_371) (ite_c (tq ((E_aload (v := Value.retAddr 0) rfl rfl f0_372)) (tq ((E_iload (x := l3) rfl f0_373)) (tq ((E_iconst (x := (4)) (by decide) f0_374)) (tq ((E_iadd f0_375)) (tq (E_iald f0_376) (ite_c ((tq ((E_callV pn_25 pc_25 rfl rfl (Nat.le_of_ble_eq_true rfl) f0_377)) (if_pos (zS0 hS)))) rfl)))))) rfl)))))) rfl)))))) rfl))))))) (sw_c (by decide) (tq ((E_aload (v := Value.ref 0) rfl rfl f0_409)) (tq ((E_aload (v := Value.retAddr 0) rfl rfl f0_410)) (tq ((E_iload (x := l3) rfl f0_411)) (tq ((E_iconst (x := (1)) (by decide) f0_412)) (tq ((E_iadd f0_413)) (tq (E_iald f0_414) (ite_c (tq ((E_aload (v := Value.retAddr 0) rfl rfl f0_415)) (tq ((E_iload (x := l3) rfl f0_416)) (tq ((E_iconst (x := (2)) (by decide) f0_417)) (tq ((E_iadd f0_418)) (tq (E_iald f0_419) (ite_c ((tq ((E_callV pn_33 pc_33 rfl rfl (Nat.le_of_ble_eq_true rfl) f0_420)) (if_pos (zS0 hS)))) rfl)))))) rfl))))))) (sw_c (by decide) (tq ((E_aload (v := Value.ref 0) rfl rfl f0_442)) (tq ((E_aload (v := Value.retAddr 0) rfl rfl f0_443)) (tq ((E_iload (x := l3) rfl f0_444)) (tq ((E_iconst (x := (1)) (by decide) f0_445)) (tq ((E_iadd f0_446)) (tq (E_iald f0_447) (ite_c ((tq ((E_callV pn_37 pc_37 rfl rfl (Nat.le_of_ble_eq_true rfl) f0_448)) (if_pos (zS0 hS)))) rfl))))))) (sw_c (by decide) (tq ((E_aload (v := Value.ref 0) rfl rfl f0_465)) (tq ((E_aload (v := Value.retAddr 0) rfl rfl f0_466)) (tq ((E_iload (x := l3) rfl f0_467)) (tq ((E_iconst (x := (1)) (by decide) f0_468)) (tq ((E_iadd f0_469)) (tq (E_iald f0_470) (ite_c (tq ((E_aload (v := Value.retAddr 0) rfl rfl f0_471)) (tq ((E_iload (x := l3) rfl f0_472)) (tq ((E_iconst (x := (2)) (by decide) f0_473)) (tq ((E_iadd f0_474)) (tq (E_iald f0_475) (ite_c ((tq ((E_callV pn_39 pc_39 rfl rfl (Nat.le_of_ble_eq_true rfl) f0_476)) (if_pos (zS0 hS)))) rfl)))))) rfl))))))) (sw_c (by decide) (tq ((E_aload (v := Value.ref 0) rfl rfl f0_498)) ((tq ((E_callV pn_41 pc_41 rfl rfl (Nat.le_of_ble_eq_true rfl) f0_499)) (if_pos (zS0 hS))))) (sw_c (by decide) (tq ((E_aload (v := Value.ref 0) rfl rfl f0_511)) (tq ((E_aload (v := Value.retAddr 0) rfl rfl f0_512)) (tq ((E_iload (x := l3) rfl f0_513)) (tq ((E_iconst (x := (1)) (by decide) f0_514)) (tq ((E_iadd f0_515)) (tq (E_iald f0_516) (ite_c (tq ((E_aload (v := Value.retAddr 0) rfl rfl f0_517)) (tq ((E_iload (x := l3) rfl f0_518)) (tq ((E_iconst (x := (2)) (by decide) f0_519)) (tq ((E_iadd f0_520)) (tq (E_iald f0_521) (ite_c (tq ((E_aload (v := Value.retAddr 0) rfl rfl f0_522)) (tq ((E_iload (x := l3) rfl f0_523)) (tq ((E_iconst (x := (3)) (by decide) f0_524)) (tq ((E_iadd f0_525)) (tq (E_iald f0_526) (ite_c ((tq ((E_callV pn_56 pc_56 rfl rfl (Nat.le_of_ble_eq_true rfl) f0_527)) (if_pos (zS0 hS)))) rfl)))))) rfl)))))) rfl))))))) (sw_c (by decide) (tq ((E_aload (v := Value.ref 0) rfl rfl f0_554)) (tq ((E_aload (v := Value.retAddr 0) rfl rfl f0_555)) (tq ((E_iload (x := l3) rfl f0_556)) (tq ((E_iconst (x := (1)) (by decide) f0_557)) (tq ((E_iadd f0_558)) (tq (E_iald f0_559) (ite_c (tq ((E_aload (v := Value.retAddr 0) rfl rfl f0_560)) (tq ((E_iload (x := l3) rfl f0_561)) (tq ((E_iconst (x := (2)) (by decide) f0_562)) (tq ((E_iadd f0_563)) (tq (E_iald f0_564) (ite_c (tq ((E_aload (v := Value.retAddr 0) rfl rfl f0_565)) (tq ((E_iload (x := l3) rfl f0_566)) (tq ((E_iconst (x := (3)) (by decide) f0_567)) (tq ((E_iadd f0_568)) (tq (E_iald f0_569) (ite_c ((tq ((E_callV pn_62 pc_62 rfl rfl (Nat.le_of_ble_eq_true rfl) f0_570)) (if_pos (zS0 hS)))) rfl)))))) rfl)))))) rfl))))))) (sw_c (by decide) (tq ((E_aload (v := Value.ref 0) rfl rfl f0_597)) (tq ((E_aload (v := Value.retAddr 0) rfl rfl f0_598)) (tq ((E_iload (x := l3) rfl f0_599)) (tq ((E_iconst (x := (1)) (by decide) f0_600)) (tq ((E_iadd f0_601)) (tq (E_iald f0_602) (ite_c (tq ((E_aload (v := Value.retAddr 0) rfl rfl f0_603)) (tq ((E_iload (x := l3) rfl f0_604)) (tq ((E_iconst (x := (2)) (by decide) f0_605)) (tq ((E_iadd f0_606)) (tq (E_iald f0_607) (ite_c (tq ((E_aload (v := Value.retAddr 0) rfl rfl f0_608)) (tq ((E_iload (x := l3) rfl f0_609)) (tq ((E_iconst (x := (3)) (by decide) f0_610)) (tq ((E_iadd f0_611)) (tq (E_iald f0_612) (ite_c ((tq ((E_callV pn_64 pc_64 rfl rfl (Nat.le_of_ble_eq_true rfl) f0_613)) (if_pos (zS0 hS)))) rfl)))))) rfl)))))) rfl))))))) (sw_c (by decide) (tq ((E_aload (v := Value.ref 0) rfl rfl f0_640)) (tq ((E_aload (v := Value.retAddr 0) rfl rfl f0_641)) (tq ((E_iload (x := l3) rfl f0_642)) (tq ((E_iconst (x := (1)) (by decide) f0_643)) (tq ((E_iadd f0_644)) (tq (E_iald f0_645) (ite_c (tq ((E_aload (v := Value.retAddr 0) rfl rfl f0_646)) (tq ((E_iload (x := l3) rfl f0_647)) (tq ((E_iconst (x := (2)) (by decide) f0_648)) (tq ((E_iadd f0_649)) (tq (E_iald f0_650) (ite_c ((tq ((E_callV pn_69 pc_69 rfl rfl (Nat.le_of_ble_eq_true rfl) f0_651)) (if_pos (zS0 hS)))) rfl)))))) rfl))))))) (sw_c (by decide) (tq ((E_aload (v := Value.ref 0) rfl rfl f0_673)) (tq ((E_aload (v := Value.retAddr 0) rfl rfl f0_674)) (tq ((E_iload (x := l3) rfl f0_675)) (tq ((E_iconst (x := (1)) (by decide) f0_676)) (tq ((E_iadd f0_677)) (tq (E_iald f0_678) (ite_c (tq ((E_aload (v := Value.retAddr 0) rfl rfl f0_679)) (tq ((E_iload (x := l3) rfl f0_680)) (tq ((E_iconst (x := (2)) (by decide) f0_681)) (tq ((E_iadd f0_682)) (tq (E_iald f0_683) (ite_c (tq ((E_aload (v := Value.retAddr 0) rfl rfl f0_684)) (tq ((E_iload (x := l3) rfl f0_685)) (tq ((E_iconst (x := (3)) (by decide) f0_686)) (tq ((E_iadd f0_687)) (tq (E_iald f0_688) (ite_c ((tq ((E_callV pn_70 pc_70 rfl rfl (Nat.le_of_ble_eq_true rfl) f0_689)) (if_pos (zS0 hS)))) rfl)))))) rfl)))))) rfl))))))) (sw_c (by decide) (tq ((E_aload (v := Value.ref 0) rfl rfl f0_716)) (tq ((E_aload (v := Value.retAddr 0) rfl rfl f0_717)) (tq ((E_iload (x := l3) rfl f0_718)) (tq ((E_iconst (x := (1)) (by decide) f0_719)) (tq ((E_iadd f0_720)) (tq (E_iald f0_721) (ite_c (tq ((E_aload (v := Value.retAddr 0) rfl rfl f0_722)) (tq ((E_iload (x := l3) rfl f0_723)) (tq ((E_iconst (x := (2)) (by decide) f0_724)) (tq ((E_iadd f0_725)) (tq (E_iald f0_726) (ite_c ((tq ((E_callV pn_71 pc_71 rfl rfl (Nat.le_of_ble_eq_true rfl) f0_727)) (if_pos (zS0 hS)))) rfl)))))) rfl))))))) (sw_c (by decide) (tq ((E_aload (v := Value.ref 0) rfl rfl f0_749)) (tq ((E_aload (v := Value.retAddr 0) rfl rfl f0_750)) (tq ((E_iload (x := l3) rfl f0_751)) (tq ((E_iconst (x := (1)) (by decide) f0_752)) (tq ((E_iadd f0_753)) (tq (E_iald f0_754) (ite_c (tq ((E_aload (v := Value.retAddr 0) rfl rfl f0_755)) (tq ((E_iload (x := l3) rfl f0_756)) (tq ((E_iconst (x := (2)) (by decide) f0_757)) (tq ((E_iadd f0_758)) (tq (E_iald f0_759) (ite_c (tq ((E_aload (v := Value.retAddr 0) rfl rfl f0_760)) (tq ((E_iload (x := l3) rfl f0_761)) (tq ((E_iconst (x := (3)) (by decide) f0_762)) (tq ((E_iadd f0_763)) (tq (E_iald f0_764) (ite_c ((tq ((E_callV pn_75 pc_75 rfl rfl (Nat.le_of_ble_eq_true rfl) f0_765)) (if_pos (zS0 hS)))) rfl)))))) rfl)))))) rfl))))))) (sw_c (by decide) (tq ((E_aload (v := Value.ref 0) rfl rfl f0_792)) (tq ((E_aload (v := Value.retAddr 0) rfl rfl f0_793)) (tq ((E_iload (x := l3) rfl f0_794)) (tq ((E_iconst (x := (1)) (by decide) f0_795)) (tq ((E_iadd f0_796)) (tq (E_iald f0_797) (ite_c (tq ((E_aload (v := Value.retAddr 0) rfl rfl f0_798)) (tq ((E_iload (x := l3) rfl f0_799)) (tq ((E_iconst (x := (2)) (by decide) f0_800)) (tq ((E_iadd f0_801)) (tq (E_iald f0_802) (ite_c (tq ((E_aload (v := Value.retAddr 0) rfl rfl f0_803)) (tq ((E_iload (x := l3) rfl f0_804)) (tq ((E_iconst (x := (3)) (by decide) f0_805)) (tq ((E_iadd f0_806)) (tq (E_iald f0_807) (ite_c (tq ((E_aload (v := Value.retAddr 0) rfl rfl f0_808)) (tq ((E_iload (x := l3) rfl f0_809)) (tq ((E_iconst (x := (4)) (by decide) f0_810)) (tq ((E_iadd f0_811)) (tq (E_iald f0_812) (ite_c ((tq ((E_callV pn_77 pc_77 rfl rfl (Nat.le_of_ble_eq_true rfl) f0_813)) (if_pos (zS0 hS)))) rfl)))))) rfl)))))) rfl)))))) rfl))))))) (sw_c (by decide) (tq ((E_aload (v := Value.ref 0) rfl rfl f0_845)) (tq ((E_aload (v := Value.retAddr 0) rfl rfl f0_846)) (tq ((E_iload (x := l3) rfl f0_847)) (tq ((E_iconst (x := (1)) (by decide) f0_848)) (tq ((E_iadd f0_849)) (tq (E_iald f0_850) (ite_c (tq ((E_aload (v := Value.retAddr 0) rfl rfl f0_851)) (tq ((E_iload (x := l3) rfl f0_852)) (tq ((E_iconst (x := (2)) (by decide) f0_853)) (tq ((E_iadd f0_854)) (tq (E_iald f0_855) (ite_c (tq ((E_aload (v := Value.retAddr 0) rfl rfl f0_856)) (tq ((E_iload (x := l3) rfl f0_857)) (tq ((E_iconst (x := (3)) (by decide) f0_858)) (tq ((E_iadd f0_859)) (tq (E_iald f0_860) (ite_c (tq ((E_aload (v := Value.retAddr 0) rfl rfl f0_861)) (tq ((E_iload (x := l3) rfl f0_862)) (tq ((E_iconst (x := (4)) (by decide) f0_863)) (tq ((E_iadd f0_864)) (tq (E_iald f0_865) (ite_c ((tq ((E_callV pn_78 pc_78 rfl rfl (Nat.le_of_ble_eq_true rfl) f0_866)) (if_pos (zS0 hS)))) rfl)))))) rfl)))))) rfl)))))) rfl))))))) (sw_c (by decide) (tq ((E_aload (v := Value.ref 0) rfl rfl f0_898)) (tq ((E_aload (v := Value.retAddr 0) rfl rfl f0_899)) (tq ((E_iload (x := l3) rfl f0_900)) (tq ((E_iconst (x := (1)) (by decide) f0_901)) (tq ((E_iadd f0_902)) (tq (E_iald f0_903) (ite_c (tq ((E_aload (v := Value.retAddr 0) rfl rfl f0_904)) (tq ((E_iload (x := l3) rfl f0_905)) (tq ((E_iconst (x := (2)) (by decide) f0_906)) (tq ((E_iadd f0_907)) (tq (E_iald f0_908) (ite_c ((tq ((E_callV pn_82 pc_82 rfl rfl (Nat.le_of_ble_eq_true rfl) f0_909)) (if_pos (zS0 hS)))) rfl)))))) rfl))))))) (sw_c (by decide) (tq ((E_aload (v := Value.ref 0) rfl rfl f0_931)) (tq ((E_aload (v := Value.retAddr 0) rfl rfl f0_932)) (tq ((E_iload (x := l3) rfl f0_933)) (tq ((E_iconst (x := (1)) (by decide) f0_934)) (tq ((E_iadd f0_935)) (tq (E_iald f0_936) (ite_c (tq ((E_aload (v := Value.retAddr 0) rfl rfl f0_937)) (tq ((E_iload (x := l3) rfl f0_938)) (tq ((E_iconst (x := (2)) (by decide) f0_939)) (tq ((E_iadd f0_940)) (tq (E_iald f0_941) (ite_c (tq ((E_aload (v := Value.retAddr 0) rfl rfl f0_942)) (tq ((E_iload (x := l3) rfl f0_943)) (tq ((E_iconst (x := (3)) (by decide) f0_944)) (tq ((E_iadd f0_945)) (tq (E_iald f0_946) (ite_c ((tq ((E_callV pn_84 pc_84 rfl rfl (Nat.le_of_ble_eq_true rfl) f0_947)) (if_pos (zS0 hS)))) rfl)))))) rfl)))))) rfl))))))) (sw_c (by decide) (tq ((E_aload (v := Value.ref 0) rfl rfl f0_974)) (tq ((E_aload (v := Value.retAddr 0) rfl rfl f0_975)) (tq ((E_iload (x := l3) rfl f0_976)) (tq ((E_iconst (x := (1)) (by decide) f0_977)) (tq ((E_iadd f0_978)) (tq (E_iald f0_979) (ite_c (tq ((E_aload (v := Value.retAddr 0) rfl rfl f0_980)) (tq ((E_iload (x := l3) rfl f0_981)) (tq ((E_iconst (x := (2)) (by decide) f0_982)) (tq ((E_iadd f0_983)) (tq (E_iald f0_984) (ite_c (tq ((E_aload (v := Value.retAddr 0) rfl rfl f0_985)) (tq ((E_iload (x := l3) rfl f0_986)) (tq ((E_iconst (x := (3)) (by decide) f0_987)) (tq ((E_iadd f0_988)) (tq (E_iald f0_989) (ite_c (tq ((E_aload (v := Value.retAddr 0) rfl rfl f0_990)) (tq ((E_iload (x := l3) rfl f0_991)) (tq ((E_iconst (x := (4)) (by decide) f0_992)) (tq ((E_iadd f0_993)) (tq (E_iald f0_994) (ite_c ((tq ((E_callV pn_85 pc_85 rfl rfl (Nat.le_of_ble_eq_true rfl) f0_995)) (if_pos (zS0 hS)))) rfl)))))) rfl)))))) rfl)))))) rfl))))))) (sw_c (by decide) (tq ((E_aload (v := Value.ref 0) rfl rfl f0_1027)) (tq ((E_aload (v := Value.retAddr 0) rfl rfl f0_1028)) (tq ((E_iload (x := l3) rfl f0_1029)) (tq ((E_iconst (x := (1)) (by decide) f0_1030)) (tq ((E_iadd f0_1031)) (tq (E_iald f0_1032) (ite_c (tq ((E_aload (v := Value.retAddr 0) rfl rfl f0_1033)) (tq ((E_iload (x := l3) rfl f0_1034)) (tq ((E_iconst (x := (2)) (by decide) f0_1035)) (tq ((E_iadd f0_1036)) (tq (E_iald f0_1037) (ite_c (tq ((E_aload (v := Value.retAddr 0) rfl rfl f0_1038)) (tq ((E_iload (x := l3) rfl f0_1039)) (tq ((E_iconst (x := (3)) (by decide) f0_1040)) (tq ((E_iadd f0_1041)) (tq (E_iald f0_1042) (ite_c ((tq ((E_callV pn_96 pc_96 rfl rfl (Nat.le_of_ble_eq_true rfl) f0_1043)) (if_pos (zS0 hS)))) rfl)))))) rfl)))))) rfl))))))) (sw_c (by decide) (tq ((E_aload (v := Value.ref 0) rfl rfl f0_1070)) (tq ((E_aload (v := Value.retAddr 0) rfl rfl f0_1071)) (tq ((E_iload (x := l3) rfl f0_1072)) (tq ((E_iconst (x := (1)) (by decide) f0_1073)) (tq ((E_iadd f0_1074)) (tq (E_iald f0_1075) (ite_c (tq ((E_aload (v := Value.retAddr 0) rfl rfl f0_1076)) (tq ((E_iload (x := l3) rfl f0_1077)) (tq ((E_iconst (x := (2)) (by decide) f0_1078)) (tq ((E_iadd f0_1079)) (tq (E_iald f0_1080) (ite_c (tq ((E_aload (v := Value.retAddr 0) rfl rfl f0_1081)) (tq ((E_iload (x := l3) rfl f0_1082)) (tq ((E_iconst (x := (3)) (by decide) f0_1083)) (tq ((E_iadd f0_1084)) (tq (E_iald f0_1085) (ite_c ((tq ((E_callV pn_99 pc_99 rfl rfl (Nat.le_of_ble_eq_true rfl) f0_1086)) (if_pos (zS0 hS)))) rfl)))))) rfl)))))) rfl))))))) (sw_c (by decide) (tq ((E_aload (v := Value.ref 0) rfl rfl f0_1113)) (tq ((E_aload (v := Value.retAddr 0) rfl rfl f0_1114)) (tq ((E_iload (x := l3) rfl f0_1115)) (tq ((E_iconst (x := (1)) (by decide) f0_1116)) (tq ((E_iadd f0_1117)) (tq (E_iald f0_1118) (ite_c (tq ((E_aload (v := Value.retAddr 0) rfl rfl f0_1119)) (tq ((E_iload (x := l3) rfl f0_1120)) (tq ((E_iconst (x := (2)) (by decide) f0_1121)) (tq ((E_iadd f0_1122)) (tq (E_iald f0_1123) (ite_c (tq ((E_aload (v := Value.retAddr 0) rfl rfl f0_1124)) (tq ((E_iload (x := l3) rfl f0_1125)) (tq ((E_iconst (x := (3)) (by decide) f0_1126)) (tq ((E_iadd f0_1127)) (tq (E_iald f0_1128) (ite_c ((tq ((E_callV pn_101 pc_101 rfl rfl (Nat.le_of_ble_eq_true rfl) f0_1129)) (if_pos (zS0 hS)))) rfl)))))) rfl)))))) rfl))))))) (sw_c (by decide) (tq ((E_aload (v := Value.ref 0) rfl rfl f0_1156)) (tq ((E_aload (v := Value.retAddr 0) rfl rfl f0_1157)) (tq ((E_iload (x := l3) rfl f0_1158)) (tq ((E_iconst (x := (1)) (by decide) f0_1159)) (tq ((E_iadd f0_1160)) (tq (E_iald f0_1161) (ite_c ((tq ((E_callV pn_103 pc_103 rfl rfl (Nat.le_of_ble_eq_true rfl) f0_1162)) (if_pos (zS0 hS)))) rfl))))))) (sw_c (by decide) (tq ((E_aload (v := Value.ref 0) rfl rfl f0_1179)) (tq ((E_aload (v := Value.retAddr 0) rfl rfl f0_1180)) (tq ((E_iload (x := l3) rfl f0_1181)) (tq ((E_iconst (x := (1)) (by decide) f0_1182)) (tq ((E_iadd f0_1183)) (tq (E_iald f0_1184) (ite_c ((tq ((E_callV pn_105 pc_105 rfl rfl (Nat.le_of_ble_eq_true rfl) f0_1185)) (if_pos (zS0 hS)))) rfl))))))) (sw_c (by decide) (tq ((E_aload (v := Value.ref 0) rfl rfl f0_1202)) (tq ((E_aload (v := Value.retAddr 0) rfl rfl f0_1203)) (tq ((E_iload (x := l3) rfl f0_1204)) (tq ((E_iconst (x := (1)) (by decide) f0_1205)) (tq ((E_iadd f0_1206)) (tq (E_iald f0_1207) (ite_c (tq ((E_aload (v := Value.retAddr 0) rfl rfl f0_1208)) (tq ((E_iload (x := l3) rfl f0_1209)) (tq ((E_iconst (x := (2)) (by decide) f0_1210)) (tq ((E_iadd f0_1211)) (tq (E_iald f0_1212) (ite_c ((tq ((E_callV pn_109 pc_109 rfl rfl (Nat.le_of_ble_eq_true rfl) f0_1213)) (if_pos (zS0 hS)))) rfl)))))) rfl))))))) (sw_c (by decide) (tq ((E_aload (v := Value.ref 0) rfl rfl f0_1235)) ((tq ((E_callV pn_111 pc_111 rfl rfl (Nat.le_of_ble_eq_true rfl) f0_1236)) (if_pos (zS0 hS))))) (sw_c (by decide) (tq ((E_aload (v := Value.ref 0) rfl rfl f0_1248)) ((tq ((E_callV pn_114 pc_114 rfl rfl (Nat.le_of_ble_eq_true rfl) f0_1249)) (if_pos (zS0 hS))))) (sw_c (by decide) (tq ((E_aload (v := Value.ref 0) rfl rfl f0_1261)) (tq ((E_aload (v := Value.retAddr 0) rfl rfl f0_1262)) (tq ((E_iload (x := l3) rfl f0_1263)) (tq ((E_iconst (x := (1)) (by decide) f0_1264)) (tq ((E_iadd f0_1265)) (tq (E_iald f0_1266) (ite_c ((tq ((E_callV pn_116 pc_116 rfl rfl (Nat.le_of_ble_eq_true rfl) f0_1267)) (if_pos (zS0 hS)))) rfl))))))) (sw_c (by decide) (tq ((E_aload (v := Value.ref 0) rfl rfl f0_1284)) (tq ((E_aload (v := Value.retAddr 0) rfl rfl f0_1285)) (tq ((E_iload (x := l3) rfl f0_1286)) (tq ((E_iconst (x := (1)) (by decide) f0_1287)) (tq ((E_iadd f0_1288)) (tq (E_iald f0_1289) (ite_c (tq ((E_aload (v := Value.retAddr 0) rfl rfl f0_1290)) (tq ((E_iload (x := l3) rfl f0_1291)) (tq ((E_iconst (x := (2)) (by decide) f0_1292)) (tq ((E_iadd f0_1293)) (tq (E_iald f0_1294) (ite_c (tq ((E_aload (v := Value.retAddr 0) rfl rfl f0_1295)) (tq ((E_iload (x := l3) rfl f0_1296)) (tq ((E_iconst (x := (3)) (by decide) f0_1297)) (tq ((E_iadd f0_1298)) (tq (E_iald f0_1299) (ite_c ((tq ((E_callV pn_119 pc_119 rfl rfl (Nat.le_of_ble_eq_true rfl) f0_1300)) (if_pos (zS0 hS)))) rfl)))))) rfl)))))) rfl))))))) (sw_c (by decide) (tq ((E_aload (v := Value.ref 0) rfl rfl f0_1327)) (tq ((E_aload (v := Value.retAddr 0) rfl rfl f0_1328)) (tq ((E_iload (x := l3) rfl f0_1329)) (tq ((E_iconst (x := (1)) (by decide) f0_1330)) (tq ((E_iadd f0_1331)) (tq (E_iald f0_1332) (ite_c ((tq ((E_callV pn_127 pc_127 rfl rfl (Nat.le_of_ble_eq_true rfl) f0_1333)) (if_pos (zS0 hS)))) rfl))))))) (sw_c (by decide) (tq ((E_aload (v := Value.ref 0) rfl rfl f0_1350)) (tq ((E_aload (v := Value.retAddr 0) rfl rfl f0_1351)) (tq ((E_iload (x := l3) rfl f0_1352)) (tq ((E_iconst (x := (1)) (by decide) f0_1353)) (tq ((E_iadd f0_1354)) (tq (E_iald f0_1355) (ite_c (tq ((E_aload (v := Value.retAddr 0) rfl rfl f0_1356)) (tq ((E_iload (x := l3) rfl f0_1357)) (tq ((E_iconst (x := (2)) (by decide) f0_1358)) (tq ((E_iadd f0_1359)) (tq (E_iald f0_1360) (ite_c ((tq ((E_callV pn_130 pc_130 rfl rfl (Nat.le_of_ble_eq_true rfl) f0_1361)) (if_pos (zS0 hS)))) rfl)))))) rfl))))))) (sw_c (by decide) (tq ((E_aload (v := Value.ref 0) rfl rfl f0_1383)) (tq ((E_aload (v := Value.retAddr 0) rfl rfl f0_1384)) (tq ((E_iload (x := l3) rfl f0_1385)) (tq ((E_iconst (x := (1)) (by decide) f0_1386)) (tq ((E_iadd f0_1387)) (tq (E_iald f0_1388) (ite_c (tq ((E_aload (v := Value.retAddr 0) rfl rfl f0_1389)) (tq ((E_iload (x := l3) rfl f0_1390)) (tq ((E_iconst (x := (2)) (by decide) f0_1391)) (tq ((E_iadd f0_1392)) (tq (E_iald f0_1393) (ite_c (tq ((E_aload (v := Value.retAddr 0) rfl rfl f0_1394)) (tq ((E_iload (x := l3) rfl f0_1395)) (tq ((E_iconst (x := (3)) (by decide) f0_1396)) (tq ((E_iadd f0_1397)) (tq (E_iald f0_1398) (ite_c ((tq ((E_callV pn_133 pc_133 rfl rfl (Nat.le_of_ble_eq_true rfl) f0_1399)) (if_pos (zS0 hS)))) rfl)))))) rfl)))))) rfl))))))) (sw_c (by decide) (tq ((E_aload (v := Value.ref 0) rfl rfl f0_1426)) (tq ((E_aload (v := Value.retAddr 0) rfl rfl f0_1427)) (tq ((E_iload (x := l3) rfl f0_1428)) (tq ((E_iconst (x := (1)) (by decide) f0_1429)) (tq ((E_iadd f0_1430)) (tq (E_iald f0_1431) (ite_c (tq ((E_aload (v := Value.retAddr 0) rfl rfl f0_1432)) (tq ((E_iload (x := l3) rfl f0_1433)) (tq ((E_iconst (x := (2)) (by decide) f0_1434)) (tq ((E_iadd f0_1435)) (tq (E_iald f0_1436) (ite_c (tq ((E_aload (v := Value.retAddr 0) rfl rfl f0_1437)) (tq ((E_iload (x := l3) rfl f0_1438)) (tq ((E_iconst (x := (3)) (by decide) f0_1439)) (tq ((E_iadd f0_1440)) (tq (E_iald f0_1441) (ite_c (tq ((E_i2l f0_1442)) (tq ((E_iconst (x := (32)) (by decide) f0_1443)) (tq ((E_lshl f0_1445)) (tq ((E_aload (v := Value.retAddr 0) rfl rfl f0_1446)) (tq ((E_iload (x := l3) rfl f0_1447)) (tq ((E_iconst (x := (4)) (by decide) f0_1448)) (tq ((E_iadd f0_1449)) (tq (E_iald f0_1450) (ite_c (tq ((E_i2l f0_1451)) (tq ((E_lconst (x := (4294967295)) (by decide) f0_1452)) (tq ((E_land f0_1455)) (tq ((E_lor f0_1456)) ((tq ((E_callV pn_136 pc_136 rfl rfl (Nat.le_of_ble_eq_true rfl) f0_1457)) (if_pos (zS0 hS)))))))) rfl))))))))) rfl)))))) rfl)))))) rfl))))))) (sw_c (by decide) (tq ((E_aload (v := Value.ref 0) rfl rfl f0_1499)) (tq ((E_aload (v := Value.retAddr 0) rfl rfl f0_1500)) (tq ((E_iload (x := l3) rfl f0_1501)) (tq ((E_iconst (x := (1)) (by decide) f0_1502)) (tq ((E_iadd f0_1503)) (tq (E_iald f0_1504) (ite_c (tq ((E_aload (v := Value.retAddr 0) rfl rfl f0_1505)) (tq ((E_iload (x := l3) rfl f0_1506)) (tq ((E_iconst (x := (2)) (by decide) f0_1507)) (tq ((E_iadd f0_1508)) (tq (E_iald f0_1509) (ite_c ((tq ((E_callV pn_140 pc_140 rfl rfl (Nat.le_of_ble_eq_true rfl) f0_1510)) (if_pos (zS0 hS)))) rfl)))))) rfl))))))) (sw_c (by decide) (tq ((E_aload (v := Value.ref 0) rfl rfl f0_1533)) (tq ((E_aload (v := Value.retAddr 0) rfl rfl f0_1534)) (tq ((E_iload (x := l3) rfl f0_1535)) (tq ((E_iconst (x := (1)) (by decide) f0_1536)) (tq ((E_iadd f0_1537)) (tq (E_iald f0_1538) (ite_c (tq ((E_aload (v := Value.retAddr 0) rfl rfl f0_1539)) (tq ((E_iload (x := l3) rfl f0_1540)) (tq ((E_iconst (x := (2)) (by decide) f0_1541)) (tq ((E_iadd f0_1542)) (tq (E_iald f0_1543) (ite_c (tq ((E_aload (v := Value.retAddr 0) rfl rfl f0_1544)) (tq ((E_iload (x := l3) rfl f0_1545)) (tq ((E_iconst (x := (3)) (by decide) f0_1546)) (tq ((E_iadd f0_1547)) (tq (E_iald f0_1548) (ite_c (tq ((E_aload (v := Value.retAddr 0) rfl rfl f0_1549)) (tq ((E_iload (x := l3) rfl f0_1550)) (tq ((E_iconst (x := (4)) (by decide) f0_1551)) (tq ((E_iadd f0_1552)) (tq (E_iald f0_1553) (ite_c (tq ((E_aload (v := Value.retAddr 0) rfl rfl f0_1554)) (tq ((E_iload (x := l3) rfl f0_1555)) (tq ((E_iconst (x := (5)) (by decide) f0_1556)) (tq ((E_iadd f0_1557)) (tq (E_iald f0_1558) (ite_c ((tq ((E_callV pn_141 pc_141 rfl rfl (Nat.le_of_ble_eq_true rfl) f0_1559)) (if_pos (zS0 hS)))) rfl)))))) rfl)))))) rfl)))))) rfl)))))) rfl))))))) (sw_c (by decide) (tq ((E_aload (v := Value.ref 0) rfl rfl f0_1596)) (tq ((E_aload (v := Value.retAddr 0) rfl rfl f0_1597)) (tq ((E_iload (x := l3) rfl f0_1598)) (tq ((E_iconst (x := (1)) (by decide) f0_1599)) (tq ((E_iadd f0_1600)) (tq (E_iald f0_1601) (ite_c (tq ((E_aload (v := Value.retAddr 0) rfl rfl f0_1602)) (tq ((E_iload (x := l3) rfl f0_1603)) (tq ((E_iconst (x := (2)) (by decide) f0_1604)) (tq ((E_iadd f0_1605)) (tq (E_iald f0_1606) (ite_c ((tq ((E_callV pn_143 pc_143 rfl rfl (Nat.le_of_ble_eq_true rfl) f0_1607)) (if_pos (zS0 hS)))) rfl)))))) rfl))))))) (sw_c (by decide) (tq ((E_aload (v := Value.ref 0) rfl rfl f0_1629)) (tq ((E_aload (v := Value.retAddr 0) rfl rfl f0_1630)) (tq ((E_iload (x := l3) rfl f0_1631)) (tq ((E_iconst (x := (1)) (by decide) f0_1632)) (tq ((E_iadd f0_1633)) (tq (E_iald f0_1634) (ite_c ((tq ((E_callV pn_145 pc_145 rfl rfl (Nat.le_of_ble_eq_true rfl) f0_1635)) (if_pos (zS0 hS)))) rfl))))))) (tq ((E_iinc (x := l3) (x' := (6)) rfl rfl (by decide) f0_1652)) ((E_goto f0_1655))))))))))))))))))))))))))))))))))))))))))))) rfl))))))))))
theorem t0_223 {X : XX} {d : Nat} {sz sl : Nat} {sh : Nat → Nat × Nat} {R : Nat → Nat → Option Nat} {I : Nat → Nat → Int32} {J : Nat → Nat → Int64} (hS : SF sh R) {l3 : Int32} {s0 : Int32} : exe X d 0 223 [Value.retAddr 0, Value.ref 0, Value.ref 37, Value.int l3] [Value.int s0] (sz, sl, sh, R, I, J) =
    (if 0 < 3 ∧ inb (l3 + (1)) (tn X 0) then (if 0 < 3 ∧ inb (l3 + (2)) (tn X 0) then (if 0 < 3 ∧ inb (l3 + (3)) (tn X 0) then ((ev X d 147 [Value.ref 37, Value.int (tv X 0 (l3 + (1)).toNatClampNeg), Value.int (tv X 0 (l3 + (2)).toNatClampNeg), Value.int (tv X 0 (l3 + (3)).toNatClampNeg)] (sz, sl, sh, R, I, J)).bind fun q => exe X d 0 242 [Value.retAddr 0, Value.ref 0, Value.ref 37, Value.int l3] (q.1.toList ++ [Value.int s0]) q.2) else none) else none) else none) :=
  tq ((E_aload (v := Value.ref 37) rfl rfl f0_223)) (tq ((E_aload (v := Value.retAddr 0) rfl rfl f0_224)) (tq ((E_iload (x := l3) rfl f0_225)) (tq ((E_iconst (x := (1)) (by decide) f0_226)) (tq ((E_iadd f0_227)) (tq (E_iald f0_228) (ite_c (tq ((E_aload (v := Value.retAddr 0) rfl rfl f0_229)) (tq ((E_iload (x := l3) rfl f0_230)) (tq ((E_iconst (x := (2)) (by decide) f0_231)) (tq ((E_iadd f0_232)) (tq (E_iald f0_233) (ite_c (tq ((E_aload (v := Value.retAddr 0) rfl rfl f0_234)) (tq ((E_iload (x := l3) rfl f0_235)) (tq ((E_iconst (x := (3)) (by decide) f0_236)) (tq ((E_iadd f0_237)) (tq (E_iald f0_238) (ite_c ((tq ((E_callV pn_147 pc_147 rfl rfl (Nat.le_of_ble_eq_true rfl) f0_239)) (if_pos (zS37 hS)))) rfl)))))) rfl)))))) rfl))))))
theorem t0_242 {X : XX} {d : Nat} {sz sl : Nat} {sh : Nat → Nat × Nat} {R : Nat → Nat → Option Nat} {I : Nat → Nat → Int32} {J : Nat → Nat → Int64} {l3 : Int32} {s0 : Int32} {s1 : Int32} : exe X d 0 242 [Value.retAddr 0, Value.ref 0, Value.ref 37, Value.int l3] [Value.int s0, Value.int s1] (sz, sl, sh, R, I, J) =
    (if s1 = s0 then exe X d 0 18 [Value.retAddr 0, Value.ref 0, Value.ref 37, Value.int (l3 + (6))] [] (sz, sl, sh, R, I, J) else some (some (Value.int (0)), (sz, sl, sh, R, I, J))) :=
  tq ((E_ic_eq f0_242)) (ite_c (tq ((E_iinc (x := l3) (x' := (6)) rfl rfl (by decide) f0_1652)) ((E_goto f0_1655))) (tq ((E_iconst (x := (0)) (by decide) f0_245)) (tq (E_zret pr_0 f0_246) (if_pos (by decide)))))
theorem t0_261 {X : XX} {d : Nat} {sz sl : Nat} {sh : Nat → Nat × Nat} {R : Nat → Nat → Option Nat} {I : Nat → Nat → Int32} {J : Nat → Nat → Int64} (hS : SF sh R) {l3 : Int32} {s0 : Int32} : exe X d 0 261 [Value.retAddr 0, Value.ref 0, Value.ref 37, Value.int l3] [Value.int s0] (sz, sl, sh, R, I, J) =
    (if 0 < 3 ∧ inb (l3 + (1)) (tn X 0) then (if 0 < 3 ∧ inb (l3 + (2)) (tn X 0) then ((ev X d 149 [Value.ref 37, Value.int (tv X 0 (l3 + (1)).toNatClampNeg), Value.int (tv X 0 (l3 + (2)).toNatClampNeg)] (sz, sl, sh, R, I, J)).bind fun q => exe X d 0 275 [Value.retAddr 0, Value.ref 0, Value.ref 37, Value.int l3] (q.1.toList ++ [Value.int s0]) q.2) else none) else none) :=
  tq ((E_aload (v := Value.ref 37) rfl rfl f0_261)) (tq ((E_aload (v := Value.retAddr 0) rfl rfl f0_262)) (tq ((E_iload (x := l3) rfl f0_263)) (tq ((E_iconst (x := (1)) (by decide) f0_264)) (tq ((E_iadd f0_265)) (tq (E_iald f0_266) (ite_c (tq ((E_aload (v := Value.retAddr 0) rfl rfl f0_267)) (tq ((E_iload (x := l3) rfl f0_268)) (tq ((E_iconst (x := (2)) (by decide) f0_269)) (tq ((E_iadd f0_270)) (tq (E_iald f0_271) (ite_c ((tq ((E_callV pn_149 pc_149 rfl rfl (Nat.le_of_ble_eq_true rfl) f0_272)) (if_pos (zS37 hS)))) rfl)))))) rfl))))))
theorem t0_275 {X : XX} {d : Nat} {sz sl : Nat} {sh : Nat → Nat × Nat} {R : Nat → Nat → Option Nat} {I : Nat → Nat → Int32} {J : Nat → Nat → Int64} {l3 : Int32} {s0 : Int32} {s1 : Int32} : exe X d 0 275 [Value.retAddr 0, Value.ref 0, Value.ref 37, Value.int l3] [Value.int s0, Value.int s1] (sz, sl, sh, R, I, J) =
    (if s1 = s0 then exe X d 0 18 [Value.retAddr 0, Value.ref 0, Value.ref 37, Value.int (l3 + (6))] [] (sz, sl, sh, R, I, J) else some (some (Value.int (0)), (sz, sl, sh, R, I, J))) :=
  tq ((E_ic_eq f0_275)) (ite_c (tq ((E_iinc (x := l3) (x' := (6)) rfl rfl (by decide) f0_1652)) ((E_goto f0_1655))) (tq ((E_iconst (x := (0)) (by decide) f0_278)) (tq (E_zret pr_0 f0_279) (if_pos (by decide)))))
theorem t0_294 {X : XX} {d : Nat} {sz sl : Nat} {sh : Nat → Nat × Nat} {R : Nat → Nat → Option Nat} {I : Nat → Nat → Int32} {J : Nat → Nat → Int64} (hS : SF sh R) {l3 : Int32} {s0 : Int32} : exe X d 0 294 [Value.retAddr 0, Value.ref 0, Value.ref 37, Value.int l3] [Value.int s0] (sz, sl, sh, R, I, J) =
    (if 0 < 3 ∧ inb (l3 + (1)) (tn X 0) then (if 0 < 3 ∧ inb (l3 + (2)) (tn X 0) then ((ev X d 153 [Value.ref 37, Value.int (tv X 0 (l3 + (1)).toNatClampNeg), Value.int (tv X 0 (l3 + (2)).toNatClampNeg)] (sz, sl, sh, R, I, J)).bind fun q => exe X d 0 308 [Value.retAddr 0, Value.ref 0, Value.ref 37, Value.int l3] (q.1.toList ++ [Value.int s0]) q.2) else none) else none) :=
  tq ((E_aload (v := Value.ref 37) rfl rfl f0_294)) (tq ((E_aload (v := Value.retAddr 0) rfl rfl f0_295)) (tq ((E_iload (x := l3) rfl f0_296)) (tq ((E_iconst (x := (1)) (by decide) f0_297)) (tq ((E_iadd f0_298)) (tq (E_iald f0_299) (ite_c (tq ((E_aload (v := Value.retAddr 0) rfl rfl f0_300)) (tq ((E_iload (x := l3) rfl f0_301)) (tq ((E_iconst (x := (2)) (by decide) f0_302)) (tq ((E_iadd f0_303)) (tq (E_iald f0_304) (ite_c ((tq ((E_callV pn_153 pc_153 rfl rfl (Nat.le_of_ble_eq_true rfl) f0_305)) (if_pos (zS37 hS)))) rfl)))))) rfl))))))
theorem t0_308 {X : XX} {d : Nat} {sz sl : Nat} {sh : Nat → Nat × Nat} {R : Nat → Nat → Option Nat} {I : Nat → Nat → Int32} {J : Nat → Nat → Int64} {l3 : Int32} {s0 : Int32} {s1 : Int32} : exe X d 0 308 [Value.retAddr 0, Value.ref 0, Value.ref 37, Value.int l3] [Value.int s0, Value.int s1] (sz, sl, sh, R, I, J) =
    (if s1 = s0 then exe X d 0 18 [Value.retAddr 0, Value.ref 0, Value.ref 37, Value.int (l3 + (6))] [] (sz, sl, sh, R, I, J) else some (some (Value.int (0)), (sz, sl, sh, R, I, J))) :=
  tq ((E_ic_eq f0_308)) (ite_c (tq ((E_iinc (x := l3) (x' := (6)) rfl rfl (by decide) f0_1652)) ((E_goto f0_1655))) (tq ((E_iconst (x := (0)) (by decide) f0_311)) (tq (E_zret pr_0 f0_312) (if_pos (by decide)))))
theorem t0_332 {X : XX} {d : Nat} {sz sl : Nat} {sh : Nat → Nat × Nat} {R : Nat → Nat → Option Nat} {I : Nat → Nat → Int32} {J : Nat → Nat → Int64} (hS : SF sh R) {l3 : Int32} {s0 : Int32} : exe X d 0 332 [Value.retAddr 0, Value.ref 0, Value.ref 37, Value.int l3] [Value.int s0] (sz, sl, sh, R, I, J) =
    (if 0 < 3 ∧ inb (l3 + (1)) (tn X 0) then (if 0 < 3 ∧ inb (l3 + (2)) (tn X 0) then (if 0 < 3 ∧ inb (l3 + (3)) (tn X 0) then ((ev X d 158 [Value.ref 37, Value.int (tv X 0 (l3 + (1)).toNatClampNeg), Value.int (tv X 0 (l3 + (2)).toNatClampNeg), Value.int (tv X 0 (l3 + (3)).toNatClampNeg)] (sz, sl, sh, R, I, J)).bind fun q => exe X d 0 351 [Value.retAddr 0, Value.ref 0, Value.ref 37, Value.int l3] (q.1.toList ++ [Value.int s0]) q.2) else none) else none) else none) :=
  tq ((E_aload (v := Value.ref 37) rfl rfl f0_332)) (tq ((E_aload (v := Value.retAddr 0) rfl rfl f0_333)) (tq ((E_iload (x := l3) rfl f0_334)) (tq ((E_iconst (x := (1)) (by decide) f0_335)) (tq ((E_iadd f0_336)) (tq (E_iald f0_337) (ite_c (tq ((E_aload (v := Value.retAddr 0) rfl rfl f0_338)) (tq ((E_iload (x := l3) rfl f0_339)) (tq ((E_iconst (x := (2)) (by decide) f0_340)) (tq ((E_iadd f0_341)) (tq (E_iald f0_342) (ite_c (tq ((E_aload (v := Value.retAddr 0) rfl rfl f0_343)) (tq ((E_iload (x := l3) rfl f0_344)) (tq ((E_iconst (x := (3)) (by decide) f0_345)) (tq ((E_iadd f0_346)) (tq (E_iald f0_347) (ite_c ((tq ((E_callV pn_158 pc_158 rfl rfl (Nat.le_of_ble_eq_true rfl) f0_348)) (if_pos (zS37 hS)))) rfl)))))) rfl)))))) rfl))))))
theorem t0_351 {X : XX} {d : Nat} {sz sl : Nat} {sh : Nat → Nat × Nat} {R : Nat → Nat → Option Nat} {I : Nat → Nat → Int32} {J : Nat → Nat → Int64} {l3 : Int32} {s0 : Int32} {s1 : Int32} : exe X d 0 351 [Value.retAddr 0, Value.ref 0, Value.ref 37, Value.int l3] [Value.int s0, Value.int s1] (sz, sl, sh, R, I, J) =
    (if s1 = s0 then exe X d 0 18 [Value.retAddr 0, Value.ref 0, Value.ref 37, Value.int (l3 + (6))] [] (sz, sl, sh, R, I, J) else some (some (Value.int (0)), (sz, sl, sh, R, I, J))) :=
  tq ((E_ic_eq f0_351)) (ite_c (tq ((E_iinc (x := l3) (x' := (6)) rfl rfl (by decide) f0_1652)) ((E_goto f0_1655))) (tq ((E_iconst (x := (0)) (by decide) f0_354)) (tq (E_zret pr_0 f0_355) (if_pos (by decide)))))
theorem t0_380 {X : XX} {d : Nat} {sz sl : Nat} {sh : Nat → Nat × Nat} {R : Nat → Nat → Option Nat} {I : Nat → Nat → Int32} {J : Nat → Nat → Int64} (hS : SF sh R) {l3 : Int32} {s0 : Int32} : exe X d 0 380 [Value.retAddr 0, Value.ref 0, Value.ref 37, Value.int l3] [Value.int s0] (sz, sl, sh, R, I, J) =
    (if 0 < 3 ∧ inb (l3 + (1)) (tn X 0) then (if 0 < 3 ∧ inb (l3 + (2)) (tn X 0) then (if 0 < 3 ∧ inb (l3 + (3)) (tn X 0) then (if 0 < 3 ∧ inb (l3 + (4)) (tn X 0) then ((ev X d 159 [Value.ref 37, Value.int (tv X 0 (l3 + (1)).toNatClampNeg), Value.int (tv X 0 (l3 + (2)).toNatClampNeg), Value.int (tv X 0 (l3 + (3)).toNatClampNeg), Value.int (tv X 0 (l3 + (4)).toNatClampNeg)] (sz, sl, sh, R, I, J)).bind fun q => exe X d 0 404 [Value.retAddr 0, Value.ref 0, Value.ref 37, Value.int l3] (q.1.toList ++ [Value.int s0]) q.2) else none) else none) else none) else none) :=
  tq ((E_aload (v := Value.ref 37) rfl rfl f0_380)) (tq ((E_aload (v := Value.retAddr 0) rfl rfl f0_381)) (tq ((E_iload (x := l3) rfl f0_382)) (tq ((E_iconst (x := (1)) (by decide) f0_383)) (tq ((E_iadd f0_384)) (tq (E_iald f0_385) (ite_c (tq ((E_aload (v := Value.retAddr 0) rfl rfl f0_386)) (tq ((E_iload (x := l3) rfl f0_387)) (tq ((E_iconst (x := (2)) (by decide) f0_388)) (tq ((E_iadd f0_389)) (tq (E_iald f0_390) (ite_c (tq ((E_aload (v := Value.retAddr 0) rfl rfl f0_391)) (tq ((E_iload (x := l3) rfl f0_392)) (tq ((E_iconst (x := (3)) (by decide) f0_393)) (tq ((E_iadd f0_394)) (tq (E_iald f0_395) (ite_c (tq ((E_aload (v := Value.retAddr 0) rfl rfl f0_396)) (tq ((E_iload (x := l3) rfl f0_397)) (tq ((E_iconst (x := (4)) (by decide) f0_398)) (tq ((E_iadd f0_399)) (tq (E_iald f0_400) (ite_c ((tq ((E_callV pn_159 pc_159 rfl rfl (Nat.le_of_ble_eq_true rfl) f0_401)) (if_pos (zS37 hS)))) rfl)))))) rfl)))))) rfl)))))) rfl))))))
theorem t0_404 {X : XX} {d : Nat} {sz sl : Nat} {sh : Nat → Nat × Nat} {R : Nat → Nat → Option Nat} {I : Nat → Nat → Int32} {J : Nat → Nat → Int64} {l3 : Int32} {s0 : Int32} {s1 : Int32} : exe X d 0 404 [Value.retAddr 0, Value.ref 0, Value.ref 37, Value.int l3] [Value.int s0, Value.int s1] (sz, sl, sh, R, I, J) =
    (if s1 = s0 then exe X d 0 18 [Value.retAddr 0, Value.ref 0, Value.ref 37, Value.int (l3 + (6))] [] (sz, sl, sh, R, I, J) else some (some (Value.int (0)), (sz, sl, sh, R, I, J))) :=
  tq ((E_ic_eq f0_404)) (ite_c (tq ((E_iinc (x := l3) (x' := (6)) rfl rfl (by decide) f0_1652)) ((E_goto f0_1655))) (tq ((E_iconst (x := (0)) (by decide) f0_407)) (tq (E_zret pr_0 f0_408) (if_pos (by decide)))))
theorem t0_423 {X : XX} {d : Nat} {sz sl : Nat} {sh : Nat → Nat × Nat} {R : Nat → Nat → Option Nat} {I : Nat → Nat → Int32} {J : Nat → Nat → Int64} (hS : SF sh R) {l3 : Int32} {s0 : Int32} : exe X d 0 423 [Value.retAddr 0, Value.ref 0, Value.ref 37, Value.int l3] [Value.int s0] (sz, sl, sh, R, I, J) =
    (if 0 < 3 ∧ inb (l3 + (1)) (tn X 0) then (if 0 < 3 ∧ inb (l3 + (2)) (tn X 0) then ((ev X d 161 [Value.ref 37, Value.int (tv X 0 (l3 + (1)).toNatClampNeg), Value.int (tv X 0 (l3 + (2)).toNatClampNeg)] (sz, sl, sh, R, I, J)).bind fun q => exe X d 0 437 [Value.retAddr 0, Value.ref 0, Value.ref 37, Value.int l3] (q.1.toList ++ [Value.int s0]) q.2) else none) else none) :=
  tq ((E_aload (v := Value.ref 37) rfl rfl f0_423)) (tq ((E_aload (v := Value.retAddr 0) rfl rfl f0_424)) (tq ((E_iload (x := l3) rfl f0_425)) (tq ((E_iconst (x := (1)) (by decide) f0_426)) (tq ((E_iadd f0_427)) (tq (E_iald f0_428) (ite_c (tq ((E_aload (v := Value.retAddr 0) rfl rfl f0_429)) (tq ((E_iload (x := l3) rfl f0_430)) (tq ((E_iconst (x := (2)) (by decide) f0_431)) (tq ((E_iadd f0_432)) (tq (E_iald f0_433) (ite_c ((tq ((E_callV pn_161 pc_161 rfl rfl (Nat.le_of_ble_eq_true rfl) f0_434)) (if_pos (zS37 hS)))) rfl)))))) rfl))))))
theorem t0_437 {X : XX} {d : Nat} {sz sl : Nat} {sh : Nat → Nat × Nat} {R : Nat → Nat → Option Nat} {I : Nat → Nat → Int32} {J : Nat → Nat → Int64} {l3 : Int32} {s0 : Int32} {s1 : Int32} : exe X d 0 437 [Value.retAddr 0, Value.ref 0, Value.ref 37, Value.int l3] [Value.int s0, Value.int s1] (sz, sl, sh, R, I, J) =
    (if s1 = s0 then exe X d 0 18 [Value.retAddr 0, Value.ref 0, Value.ref 37, Value.int (l3 + (6))] [] (sz, sl, sh, R, I, J) else some (some (Value.int (0)), (sz, sl, sh, R, I, J))) :=
  tq ((E_ic_eq f0_437)) (ite_c (tq ((E_iinc (x := l3) (x' := (6)) rfl rfl (by decide) f0_1652)) ((E_goto f0_1655))) (tq ((E_iconst (x := (0)) (by decide) f0_440)) (tq (E_zret pr_0 f0_441) (if_pos (by decide)))))
theorem t0_451 {X : XX} {d : Nat} {sz sl : Nat} {sh : Nat → Nat × Nat} {R : Nat → Nat → Option Nat} {I : Nat → Nat → Int32} {J : Nat → Nat → Int64} (hS : SF sh R) {l3 : Int32} {s0 : Int32} : exe X d 0 451 [Value.retAddr 0, Value.ref 0, Value.ref 37, Value.int l3] [Value.int s0] (sz, sl, sh, R, I, J) =
    (if 0 < 3 ∧ inb (l3 + (1)) (tn X 0) then ((ev X d 163 [Value.ref 37, Value.int (tv X 0 (l3 + (1)).toNatClampNeg)] (sz, sl, sh, R, I, J)).bind fun q => exe X d 0 460 [Value.retAddr 0, Value.ref 0, Value.ref 37, Value.int l3] (q.1.toList ++ [Value.int s0]) q.2) else none) :=
  tq ((E_aload (v := Value.ref 37) rfl rfl f0_451)) (tq ((E_aload (v := Value.retAddr 0) rfl rfl f0_452)) (tq ((E_iload (x := l3) rfl f0_453)) (tq ((E_iconst (x := (1)) (by decide) f0_454)) (tq ((E_iadd f0_455)) (tq (E_iald f0_456) (ite_c ((tq ((E_callV pn_163 pc_163 rfl rfl (Nat.le_of_ble_eq_true rfl) f0_457)) (if_pos (zS37 hS)))) rfl))))))
theorem t0_460 {X : XX} {d : Nat} {sz sl : Nat} {sh : Nat → Nat × Nat} {R : Nat → Nat → Option Nat} {I : Nat → Nat → Int32} {J : Nat → Nat → Int64} {l3 : Int32} {s0 : Int32} {s1 : Int32} : exe X d 0 460 [Value.retAddr 0, Value.ref 0, Value.ref 37, Value.int l3] [Value.int s0, Value.int s1] (sz, sl, sh, R, I, J) =
    (if s1 = s0 then exe X d 0 18 [Value.retAddr 0, Value.ref 0, Value.ref 37, Value.int (l3 + (6))] [] (sz, sl, sh, R, I, J) else some (some (Value.int (0)), (sz, sl, sh, R, I, J))) :=
  tq ((E_ic_eq f0_460)) (ite_c (tq ((E_iinc (x := l3) (x' := (6)) rfl rfl (by decide) f0_1652)) ((E_goto f0_1655))) (tq ((E_iconst (x := (0)) (by decide) f0_463)) (tq (E_zret pr_0 f0_464) (if_pos (by decide)))))
theorem t0_479 {X : XX} {d : Nat} {sz sl : Nat} {sh : Nat → Nat × Nat} {R : Nat → Nat → Option Nat} {I : Nat → Nat → Int32} {J : Nat → Nat → Int64} (hS : SF sh R) {l3 : Int32} {s0 : Int32} : exe X d 0 479 [Value.retAddr 0, Value.ref 0, Value.ref 37, Value.int l3] [Value.int s0] (sz, sl, sh, R, I, J) =
    (if 0 < 3 ∧ inb (l3 + (1)) (tn X 0) then (if 0 < 3 ∧ inb (l3 + (2)) (tn X 0) then ((ev X d 164 [Value.ref 37, Value.int (tv X 0 (l3 + (1)).toNatClampNeg), Value.int (tv X 0 (l3 + (2)).toNatClampNeg)] (sz, sl, sh, R, I, J)).bind fun q => exe X d 0 493 [Value.retAddr 0, Value.ref 0, Value.ref 37, Value.int l3] (q.1.toList ++ [Value.int s0]) q.2) else none) else none) :=
  tq ((E_aload (v := Value.ref 37) rfl rfl f0_479)) (tq ((E_aload (v := Value.retAddr 0) rfl rfl f0_480)) (tq ((E_iload (x := l3) rfl f0_481)) (tq ((E_iconst (x := (1)) (by decide) f0_482)) (tq ((E_iadd f0_483)) (tq (E_iald f0_484) (ite_c (tq ((E_aload (v := Value.retAddr 0) rfl rfl f0_485)) (tq ((E_iload (x := l3) rfl f0_486)) (tq ((E_iconst (x := (2)) (by decide) f0_487)) (tq ((E_iadd f0_488)) (tq (E_iald f0_489) (ite_c ((tq ((E_callV pn_164 pc_164 rfl rfl (Nat.le_of_ble_eq_true rfl) f0_490)) (if_pos (zS37 hS)))) rfl)))))) rfl))))))
theorem t0_493 {X : XX} {d : Nat} {sz sl : Nat} {sh : Nat → Nat × Nat} {R : Nat → Nat → Option Nat} {I : Nat → Nat → Int32} {J : Nat → Nat → Int64} {l3 : Int32} {s0 : Int32} {s1 : Int32} : exe X d 0 493 [Value.retAddr 0, Value.ref 0, Value.ref 37, Value.int l3] [Value.int s0, Value.int s1] (sz, sl, sh, R, I, J) =
    (if s1 = s0 then exe X d 0 18 [Value.retAddr 0, Value.ref 0, Value.ref 37, Value.int (l3 + (6))] [] (sz, sl, sh, R, I, J) else some (some (Value.int (0)), (sz, sl, sh, R, I, J))) :=
  tq ((E_ic_eq f0_493)) (ite_c (tq ((E_iinc (x := l3) (x' := (6)) rfl rfl (by decide) f0_1652)) ((E_goto f0_1655))) (tq ((E_iconst (x := (0)) (by decide) f0_496)) (tq (E_zret pr_0 f0_497) (if_pos (by decide)))))
theorem t0_502 {X : XX} {d : Nat} {sz sl : Nat} {sh : Nat → Nat × Nat} {R : Nat → Nat → Option Nat} {I : Nat → Nat → Int32} {J : Nat → Nat → Int64} (hS : SF sh R) {l3 : Int32} {s0 : Int32} : exe X d 0 502 [Value.retAddr 0, Value.ref 0, Value.ref 37, Value.int l3] [Value.int s0] (sz, sl, sh, R, I, J) =
    ((ev X d 165 [Value.ref 37] (sz, sl, sh, R, I, J)).bind fun q => exe X d 0 506 [Value.retAddr 0, Value.ref 0, Value.ref 37, Value.int l3] (q.1.toList ++ [Value.int s0]) q.2) :=
  tq ((E_aload (v := Value.ref 37) rfl rfl f0_502)) ((tq ((E_callV pn_165 pc_165 rfl rfl (Nat.le_of_ble_eq_true rfl) f0_503)) (if_pos (zS37 hS))))
theorem t0_506 {X : XX} {d : Nat} {sz sl : Nat} {sh : Nat → Nat × Nat} {R : Nat → Nat → Option Nat} {I : Nat → Nat → Int32} {J : Nat → Nat → Int64} {l3 : Int32} {s0 : Int32} {s1 : Int32} : exe X d 0 506 [Value.retAddr 0, Value.ref 0, Value.ref 37, Value.int l3] [Value.int s0, Value.int s1] (sz, sl, sh, R, I, J) =
    (if s1 = s0 then exe X d 0 18 [Value.retAddr 0, Value.ref 0, Value.ref 37, Value.int (l3 + (6))] [] (sz, sl, sh, R, I, J) else some (some (Value.int (0)), (sz, sl, sh, R, I, J))) :=
  tq ((E_ic_eq f0_506)) (ite_c (tq ((E_iinc (x := l3) (x' := (6)) rfl rfl (by decide) f0_1652)) ((E_goto f0_1655))) (tq ((E_iconst (x := (0)) (by decide) f0_509)) (tq (E_zret pr_0 f0_510) (if_pos (by decide)))))
theorem t0_530 {X : XX} {d : Nat} {sz sl : Nat} {sh : Nat → Nat × Nat} {R : Nat → Nat → Option Nat} {I : Nat → Nat → Int32} {J : Nat → Nat → Int64} (hS : SF sh R) {l3 : Int32} {s0 : Int32} : exe X d 0 530 [Value.retAddr 0, Value.ref 0, Value.ref 37, Value.int l3] [Value.int s0] (sz, sl, sh, R, I, J) =
    (if 0 < 3 ∧ inb (l3 + (1)) (tn X 0) then (if 0 < 3 ∧ inb (l3 + (2)) (tn X 0) then (if 0 < 3 ∧ inb (l3 + (3)) (tn X 0) then ((ev X d 178 [Value.ref 37, Value.int (tv X 0 (l3 + (1)).toNatClampNeg), Value.int (tv X 0 (l3 + (2)).toNatClampNeg), Value.int (tv X 0 (l3 + (3)).toNatClampNeg)] (sz, sl, sh, R, I, J)).bind fun q => exe X d 0 549 [Value.retAddr 0, Value.ref 0, Value.ref 37, Value.int l3] (q.1.toList ++ [Value.int s0]) q.2) else none) else none) else none) :=
  tq ((E_aload (v := Value.ref 37) rfl rfl f0_530)) (tq ((E_aload (v := Value.retAddr 0) rfl rfl f0_531)) (tq ((E_iload (x := l3) rfl f0_532)) (tq ((E_iconst (x := (1)) (by decide) f0_533)) (tq ((E_iadd f0_534)) (tq (E_iald f0_535) (ite_c (tq ((E_aload (v := Value.retAddr 0) rfl rfl f0_536)) (tq ((E_iload (x := l3) rfl f0_537)) (tq ((E_iconst (x := (2)) (by decide) f0_538)) (tq ((E_iadd f0_539)) (tq (E_iald f0_540) (ite_c (tq ((E_aload (v := Value.retAddr 0) rfl rfl f0_541)) (tq ((E_iload (x := l3) rfl f0_542)) (tq ((E_iconst (x := (3)) (by decide) f0_543)) (tq ((E_iadd f0_544)) (tq (E_iald f0_545) (ite_c ((tq ((E_callV pn_178 pc_178 rfl rfl (Nat.le_of_ble_eq_true rfl) f0_546)) (if_pos (zS37 hS)))) rfl)))))) rfl)))))) rfl))))))
theorem t0_549 {X : XX} {d : Nat} {sz sl : Nat} {sh : Nat → Nat × Nat} {R : Nat → Nat → Option Nat} {I : Nat → Nat → Int32} {J : Nat → Nat → Int64} {l3 : Int32} {s0 : Int32} {s1 : Int32} : exe X d 0 549 [Value.retAddr 0, Value.ref 0, Value.ref 37, Value.int l3] [Value.int s0, Value.int s1] (sz, sl, sh, R, I, J) =
    (if s1 = s0 then exe X d 0 18 [Value.retAddr 0, Value.ref 0, Value.ref 37, Value.int (l3 + (6))] [] (sz, sl, sh, R, I, J) else some (some (Value.int (0)), (sz, sl, sh, R, I, J))) :=
  tq ((E_ic_eq f0_549)) (ite_c (tq ((E_iinc (x := l3) (x' := (6)) rfl rfl (by decide) f0_1652)) ((E_goto f0_1655))) (tq ((E_iconst (x := (0)) (by decide) f0_552)) (tq (E_zret pr_0 f0_553) (if_pos (by decide)))))
theorem t0_573 {X : XX} {d : Nat} {sz sl : Nat} {sh : Nat → Nat × Nat} {R : Nat → Nat → Option Nat} {I : Nat → Nat → Int32} {J : Nat → Nat → Int64} (hS : SF sh R) {l3 : Int32} {s0 : Int32} : exe X d 0 573 [Value.retAddr 0, Value.ref 0, Value.ref 37, Value.int l3] [Value.int s0] (sz, sl, sh, R, I, J) =
    (if 0 < 3 ∧ inb (l3 + (1)) (tn X 0) then (if 0 < 3 ∧ inb (l3 + (2)) (tn X 0) then (if 0 < 3 ∧ inb (l3 + (3)) (tn X 0) then ((ev X d 185 [Value.ref 37, Value.int (tv X 0 (l3 + (1)).toNatClampNeg), Value.int (tv X 0 (l3 + (2)).toNatClampNeg), Value.int (tv X 0 (l3 + (3)).toNatClampNeg)] (sz, sl, sh, R, I, J)).bind fun q => exe X d 0 592 [Value.retAddr 0, Value.ref 0, Value.ref 37, Value.int l3] (q.1.toList ++ [Value.int s0]) q.2) else none) else none) else none) :=
  tq ((E_aload (v := Value.ref 37) rfl rfl f0_573)) (tq ((E_aload (v := Value.retAddr 0) rfl rfl f0_574)) (tq ((E_iload (x := l3) rfl f0_575)) (tq ((E_iconst (x := (1)) (by decide) f0_576)) (tq ((E_iadd f0_577)) (tq (E_iald f0_578) (ite_c (tq ((E_aload (v := Value.retAddr 0) rfl rfl f0_579)) (tq ((E_iload (x := l3) rfl f0_580)) (tq ((E_iconst (x := (2)) (by decide) f0_581)) (tq ((E_iadd f0_582)) (tq (E_iald f0_583) (ite_c (tq ((E_aload (v := Value.retAddr 0) rfl rfl f0_584)) (tq ((E_iload (x := l3) rfl f0_585)) (tq ((E_iconst (x := (3)) (by decide) f0_586)) (tq ((E_iadd f0_587)) (tq (E_iald f0_588) (ite_c ((tq ((E_callV pn_185 pc_185 rfl rfl (Nat.le_of_ble_eq_true rfl) f0_589)) (if_pos (zS37 hS)))) rfl)))))) rfl)))))) rfl))))))
theorem t0_592 {X : XX} {d : Nat} {sz sl : Nat} {sh : Nat → Nat × Nat} {R : Nat → Nat → Option Nat} {I : Nat → Nat → Int32} {J : Nat → Nat → Int64} {l3 : Int32} {s0 : Int32} {s1 : Int32} : exe X d 0 592 [Value.retAddr 0, Value.ref 0, Value.ref 37, Value.int l3] [Value.int s0, Value.int s1] (sz, sl, sh, R, I, J) =
    (if s1 = s0 then exe X d 0 18 [Value.retAddr 0, Value.ref 0, Value.ref 37, Value.int (l3 + (6))] [] (sz, sl, sh, R, I, J) else some (some (Value.int (0)), (sz, sl, sh, R, I, J))) :=
  tq ((E_ic_eq f0_592)) (ite_c (tq ((E_iinc (x := l3) (x' := (6)) rfl rfl (by decide) f0_1652)) ((E_goto f0_1655))) (tq ((E_iconst (x := (0)) (by decide) f0_595)) (tq (E_zret pr_0 f0_596) (if_pos (by decide)))))
theorem t0_616 {X : XX} {d : Nat} {sz sl : Nat} {sh : Nat → Nat × Nat} {R : Nat → Nat → Option Nat} {I : Nat → Nat → Int32} {J : Nat → Nat → Int64} (hS : SF sh R) {l3 : Int32} {s0 : Int32} : exe X d 0 616 [Value.retAddr 0, Value.ref 0, Value.ref 37, Value.int l3] [Value.int s0] (sz, sl, sh, R, I, J) =
    (if 0 < 3 ∧ inb (l3 + (1)) (tn X 0) then (if 0 < 3 ∧ inb (l3 + (2)) (tn X 0) then (if 0 < 3 ∧ inb (l3 + (3)) (tn X 0) then ((ev X d 186 [Value.ref 37, Value.int (tv X 0 (l3 + (1)).toNatClampNeg), Value.int (tv X 0 (l3 + (2)).toNatClampNeg), Value.int (tv X 0 (l3 + (3)).toNatClampNeg)] (sz, sl, sh, R, I, J)).bind fun q => exe X d 0 635 [Value.retAddr 0, Value.ref 0, Value.ref 37, Value.int l3] (q.1.toList ++ [Value.int s0]) q.2) else none) else none) else none) :=
  tq ((E_aload (v := Value.ref 37) rfl rfl f0_616)) (tq ((E_aload (v := Value.retAddr 0) rfl rfl f0_617)) (tq ((E_iload (x := l3) rfl f0_618)) (tq ((E_iconst (x := (1)) (by decide) f0_619)) (tq ((E_iadd f0_620)) (tq (E_iald f0_621) (ite_c (tq ((E_aload (v := Value.retAddr 0) rfl rfl f0_622)) (tq ((E_iload (x := l3) rfl f0_623)) (tq ((E_iconst (x := (2)) (by decide) f0_624)) (tq ((E_iadd f0_625)) (tq (E_iald f0_626) (ite_c (tq ((E_aload (v := Value.retAddr 0) rfl rfl f0_627)) (tq ((E_iload (x := l3) rfl f0_628)) (tq ((E_iconst (x := (3)) (by decide) f0_629)) (tq ((E_iadd f0_630)) (tq (E_iald f0_631) (ite_c ((tq ((E_callV pn_186 pc_186 rfl rfl (Nat.le_of_ble_eq_true rfl) f0_632)) (if_pos (zS37 hS)))) rfl)))))) rfl)))))) rfl))))))
theorem t0_635 {X : XX} {d : Nat} {sz sl : Nat} {sh : Nat → Nat × Nat} {R : Nat → Nat → Option Nat} {I : Nat → Nat → Int32} {J : Nat → Nat → Int64} {l3 : Int32} {s0 : Int32} {s1 : Int32} : exe X d 0 635 [Value.retAddr 0, Value.ref 0, Value.ref 37, Value.int l3] [Value.int s0, Value.int s1] (sz, sl, sh, R, I, J) =
    (if s1 = s0 then exe X d 0 18 [Value.retAddr 0, Value.ref 0, Value.ref 37, Value.int (l3 + (6))] [] (sz, sl, sh, R, I, J) else some (some (Value.int (0)), (sz, sl, sh, R, I, J))) :=
  tq ((E_ic_eq f0_635)) (ite_c (tq ((E_iinc (x := l3) (x' := (6)) rfl rfl (by decide) f0_1652)) ((E_goto f0_1655))) (tq ((E_iconst (x := (0)) (by decide) f0_638)) (tq (E_zret pr_0 f0_639) (if_pos (by decide)))))
theorem t0_654 {X : XX} {d : Nat} {sz sl : Nat} {sh : Nat → Nat × Nat} {R : Nat → Nat → Option Nat} {I : Nat → Nat → Int32} {J : Nat → Nat → Int64} (hS : SF sh R) {l3 : Int32} {s0 : Int32} : exe X d 0 654 [Value.retAddr 0, Value.ref 0, Value.ref 37, Value.int l3] [Value.int s0] (sz, sl, sh, R, I, J) =
    (if 0 < 3 ∧ inb (l3 + (1)) (tn X 0) then (if 0 < 3 ∧ inb (l3 + (2)) (tn X 0) then ((ev X d 191 [Value.ref 37, Value.int (tv X 0 (l3 + (1)).toNatClampNeg), Value.int (tv X 0 (l3 + (2)).toNatClampNeg)] (sz, sl, sh, R, I, J)).bind fun q => exe X d 0 668 [Value.retAddr 0, Value.ref 0, Value.ref 37, Value.int l3] (q.1.toList ++ [Value.int s0]) q.2) else none) else none) :=
  tq ((E_aload (v := Value.ref 37) rfl rfl f0_654)) (tq ((E_aload (v := Value.retAddr 0) rfl rfl f0_655)) (tq ((E_iload (x := l3) rfl f0_656)) (tq ((E_iconst (x := (1)) (by decide) f0_657)) (tq ((E_iadd f0_658)) (tq (E_iald f0_659) (ite_c (tq ((E_aload (v := Value.retAddr 0) rfl rfl f0_660)) (tq ((E_iload (x := l3) rfl f0_661)) (tq ((E_iconst (x := (2)) (by decide) f0_662)) (tq ((E_iadd f0_663)) (tq (E_iald f0_664) (ite_c ((tq ((E_callV pn_191 pc_191 rfl rfl (Nat.le_of_ble_eq_true rfl) f0_665)) (if_pos (zS37 hS)))) rfl)))))) rfl))))))
theorem t0_668 {X : XX} {d : Nat} {sz sl : Nat} {sh : Nat → Nat × Nat} {R : Nat → Nat → Option Nat} {I : Nat → Nat → Int32} {J : Nat → Nat → Int64} {l3 : Int32} {s0 : Int32} {s1 : Int32} : exe X d 0 668 [Value.retAddr 0, Value.ref 0, Value.ref 37, Value.int l3] [Value.int s0, Value.int s1] (sz, sl, sh, R, I, J) =
    (if s1 = s0 then exe X d 0 18 [Value.retAddr 0, Value.ref 0, Value.ref 37, Value.int (l3 + (6))] [] (sz, sl, sh, R, I, J) else some (some (Value.int (0)), (sz, sl, sh, R, I, J))) :=
  tq ((E_ic_eq f0_668)) (ite_c (tq ((E_iinc (x := l3) (x' := (6)) rfl rfl (by decide) f0_1652)) ((E_goto f0_1655))) (tq ((E_iconst (x := (0)) (by decide) f0_671)) (tq (E_zret pr_0 f0_672) (if_pos (by decide)))))
theorem t0_692 {X : XX} {d : Nat} {sz sl : Nat} {sh : Nat → Nat × Nat} {R : Nat → Nat → Option Nat} {I : Nat → Nat → Int32} {J : Nat → Nat → Int64} (hS : SF sh R) {l3 : Int32} {s0 : Int32} : exe X d 0 692 [Value.retAddr 0, Value.ref 0, Value.ref 37, Value.int l3] [Value.int s0] (sz, sl, sh, R, I, J) =
    (if 0 < 3 ∧ inb (l3 + (1)) (tn X 0) then (if 0 < 3 ∧ inb (l3 + (2)) (tn X 0) then (if 0 < 3 ∧ inb (l3 + (3)) (tn X 0) then ((ev X d 192 [Value.ref 37, Value.int (tv X 0 (l3 + (1)).toNatClampNeg), Value.int (tv X 0 (l3 + (2)).toNatClampNeg), Value.int (tv X 0 (l3 + (3)).toNatClampNeg)] (sz, sl, sh, R, I, J)).bind fun q => exe X d 0 711 [Value.retAddr 0, Value.ref 0, Value.ref 37, Value.int l3] (q.1.toList ++ [Value.int s0]) q.2) else none) else none) else none) :=
  tq ((E_aload (v := Value.ref 37) rfl rfl f0_692)) (tq ((E_aload (v := Value.retAddr 0) rfl rfl f0_693)) (tq ((E_iload (x := l3) rfl f0_694)) (tq ((E_iconst (x := (1)) (by decide) f0_695)) (tq ((E_iadd f0_696)) (tq (E_iald f0_697) (ite_c (tq ((E_aload (v := Value.retAddr 0) rfl rfl f0_698)) (tq ((E_iload (x := l3) rfl f0_699)) (tq ((E_iconst (x := (2)) (by decide) f0_700)) (tq ((E_iadd f0_701)) (tq (E_iald f0_702) (ite_c (tq ((E_aload (v := Value.retAddr 0) rfl rfl f0_703)) (tq ((E_iload (x := l3) rfl f0_704)) (tq ((E_iconst (x := (3)) (by decide) f0_705)) (tq ((E_iadd f0_706)) (tq (E_iald f0_707) (ite_c ((tq ((E_callV pn_192 pc_192 rfl rfl (Nat.le_of_ble_eq_true rfl) f0_708)) (if_pos (zS37 hS)))) rfl)))))) rfl)))))) rfl))))))
theorem t0_711 {X : XX} {d : Nat} {sz sl : Nat} {sh : Nat → Nat × Nat} {R : Nat → Nat → Option Nat} {I : Nat → Nat → Int32} {J : Nat → Nat → Int64} {l3 : Int32} {s0 : Int32} {s1 : Int32} : exe X d 0 711 [Value.retAddr 0, Value.ref 0, Value.ref 37, Value.int l3] [Value.int s0, Value.int s1] (sz, sl, sh, R, I, J) =
    (if s1 = s0 then exe X d 0 18 [Value.retAddr 0, Value.ref 0, Value.ref 37, Value.int (l3 + (6))] [] (sz, sl, sh, R, I, J) else some (some (Value.int (0)), (sz, sl, sh, R, I, J))) :=
  tq ((E_ic_eq f0_711)) (ite_c (tq ((E_iinc (x := l3) (x' := (6)) rfl rfl (by decide) f0_1652)) ((E_goto f0_1655))) (tq ((E_iconst (x := (0)) (by decide) f0_714)) (tq (E_zret pr_0 f0_715) (if_pos (by decide)))))
theorem t0_730 {X : XX} {d : Nat} {sz sl : Nat} {sh : Nat → Nat × Nat} {R : Nat → Nat → Option Nat} {I : Nat → Nat → Int32} {J : Nat → Nat → Int64} (hS : SF sh R) {l3 : Int32} {s0 : Int32} : exe X d 0 730 [Value.retAddr 0, Value.ref 0, Value.ref 37, Value.int l3] [Value.int s0] (sz, sl, sh, R, I, J) =
    (if 0 < 3 ∧ inb (l3 + (1)) (tn X 0) then (if 0 < 3 ∧ inb (l3 + (2)) (tn X 0) then ((ev X d 193 [Value.ref 37, Value.int (tv X 0 (l3 + (1)).toNatClampNeg), Value.int (tv X 0 (l3 + (2)).toNatClampNeg)] (sz, sl, sh, R, I, J)).bind fun q => exe X d 0 744 [Value.retAddr 0, Value.ref 0, Value.ref 37, Value.int l3] (q.1.toList ++ [Value.int s0]) q.2) else none) else none) :=
  tq ((E_aload (v := Value.ref 37) rfl rfl f0_730)) (tq ((E_aload (v := Value.retAddr 0) rfl rfl f0_731)) (tq ((E_iload (x := l3) rfl f0_732)) (tq ((E_iconst (x := (1)) (by decide) f0_733)) (tq ((E_iadd f0_734)) (tq (E_iald f0_735) (ite_c (tq ((E_aload (v := Value.retAddr 0) rfl rfl f0_736)) (tq ((E_iload (x := l3) rfl f0_737)) (tq ((E_iconst (x := (2)) (by decide) f0_738)) (tq ((E_iadd f0_739)) (tq (E_iald f0_740) (ite_c ((tq ((E_callV pn_193 pc_193 rfl rfl (Nat.le_of_ble_eq_true rfl) f0_741)) (if_pos (zS37 hS)))) rfl)))))) rfl))))))
theorem t0_744 {X : XX} {d : Nat} {sz sl : Nat} {sh : Nat → Nat × Nat} {R : Nat → Nat → Option Nat} {I : Nat → Nat → Int32} {J : Nat → Nat → Int64} {l3 : Int32} {s0 : Int32} {s1 : Int32} : exe X d 0 744 [Value.retAddr 0, Value.ref 0, Value.ref 37, Value.int l3] [Value.int s0, Value.int s1] (sz, sl, sh, R, I, J) =
    (if s1 = s0 then exe X d 0 18 [Value.retAddr 0, Value.ref 0, Value.ref 37, Value.int (l3 + (6))] [] (sz, sl, sh, R, I, J) else some (some (Value.int (0)), (sz, sl, sh, R, I, J))) :=
  tq ((E_ic_eq f0_744)) (ite_c (tq ((E_iinc (x := l3) (x' := (6)) rfl rfl (by decide) f0_1652)) ((E_goto f0_1655))) (tq ((E_iconst (x := (0)) (by decide) f0_747)) (tq (E_zret pr_0 f0_748) (if_pos (by decide)))))
theorem t0_768 {X : XX} {d : Nat} {sz sl : Nat} {sh : Nat → Nat × Nat} {R : Nat → Nat → Option Nat} {I : Nat → Nat → Int32} {J : Nat → Nat → Int64} (hS : SF sh R) {l3 : Int32} {s0 : Int32} : exe X d 0 768 [Value.retAddr 0, Value.ref 0, Value.ref 37, Value.int l3] [Value.int s0] (sz, sl, sh, R, I, J) =
    (if 0 < 3 ∧ inb (l3 + (1)) (tn X 0) then (if 0 < 3 ∧ inb (l3 + (2)) (tn X 0) then (if 0 < 3 ∧ inb (l3 + (3)) (tn X 0) then ((ev X d 197 [Value.ref 37, Value.int (tv X 0 (l3 + (1)).toNatClampNeg), Value.int (tv X 0 (l3 + (2)).toNatClampNeg), Value.int (tv X 0 (l3 + (3)).toNatClampNeg)] (sz, sl, sh, R, I, J)).bind fun q => exe X d 0 787 [Value.retAddr 0, Value.ref 0, Value.ref 37, Value.int l3] (q.1.toList ++ [Value.int s0]) q.2) else none) else none) else none) :=
  tq ((E_aload (v := Value.ref 37) rfl rfl f0_768)) (tq ((E_aload (v := Value.retAddr 0) rfl rfl f0_769)) (tq ((E_iload (x := l3) rfl f0_770)) (tq ((E_iconst (x := (1)) (by decide) f0_771)) (tq ((E_iadd f0_772)) (tq (E_iald f0_773) (ite_c (tq ((E_aload (v := Value.retAddr 0) rfl rfl f0_774)) (tq ((E_iload (x := l3) rfl f0_775)) (tq ((E_iconst (x := (2)) (by decide) f0_776)) (tq ((E_iadd f0_777)) (tq (E_iald f0_778) (ite_c (tq ((E_aload (v := Value.retAddr 0) rfl rfl f0_779)) (tq ((E_iload (x := l3) rfl f0_780)) (tq ((E_iconst (x := (3)) (by decide) f0_781)) (tq ((E_iadd f0_782)) (tq (E_iald f0_783) (ite_c ((tq ((E_callV pn_197 pc_197 rfl rfl (Nat.le_of_ble_eq_true rfl) f0_784)) (if_pos (zS37 hS)))) rfl)))))) rfl)))))) rfl))))))
theorem t0_787 {X : XX} {d : Nat} {sz sl : Nat} {sh : Nat → Nat × Nat} {R : Nat → Nat → Option Nat} {I : Nat → Nat → Int32} {J : Nat → Nat → Int64} {l3 : Int32} {s0 : Int32} {s1 : Int32} : exe X d 0 787 [Value.retAddr 0, Value.ref 0, Value.ref 37, Value.int l3] [Value.int s0, Value.int s1] (sz, sl, sh, R, I, J) =
    (if s1 = s0 then exe X d 0 18 [Value.retAddr 0, Value.ref 0, Value.ref 37, Value.int (l3 + (6))] [] (sz, sl, sh, R, I, J) else some (some (Value.int (0)), (sz, sl, sh, R, I, J))) :=
  tq ((E_ic_eq f0_787)) (ite_c (tq ((E_iinc (x := l3) (x' := (6)) rfl rfl (by decide) f0_1652)) ((E_goto f0_1655))) (tq ((E_iconst (x := (0)) (by decide) f0_790)) (tq (E_zret pr_0 f0_791) (if_pos (by decide)))))
theorem t0_816 {X : XX} {d : Nat} {sz sl : Nat} {sh : Nat → Nat × Nat} {R : Nat → Nat → Option Nat} {I : Nat → Nat → Int32} {J : Nat → Nat → Int64} (hS : SF sh R) {l3 : Int32} {s0 : Int32} : exe X d 0 816 [Value.retAddr 0, Value.ref 0, Value.ref 37, Value.int l3] [Value.int s0] (sz, sl, sh, R, I, J) =
    (if 0 < 3 ∧ inb (l3 + (1)) (tn X 0) then (if 0 < 3 ∧ inb (l3 + (2)) (tn X 0) then (if 0 < 3 ∧ inb (l3 + (3)) (tn X 0) then (if 0 < 3 ∧ inb (l3 + (4)) (tn X 0) then ((ev X d 198 [Value.ref 37, Value.int (tv X 0 (l3 + (1)).toNatClampNeg), Value.int (tv X 0 (l3 + (2)).toNatClampNeg), Value.int (tv X 0 (l3 + (3)).toNatClampNeg), Value.int (tv X 0 (l3 + (4)).toNatClampNeg)] (sz, sl, sh, R, I, J)).bind fun q => exe X d 0 840 [Value.retAddr 0, Value.ref 0, Value.ref 37, Value.int l3] (q.1.toList ++ [Value.int s0]) q.2) else none) else none) else none) else none) :=
  tq ((E_aload (v := Value.ref 37) rfl rfl f0_816)) (tq ((E_aload (v := Value.retAddr 0) rfl rfl f0_817)) (tq ((E_iload (x := l3) rfl f0_818)) (tq ((E_iconst (x := (1)) (by decide) f0_819)) (tq ((E_iadd f0_820)) (tq (E_iald f0_821) (ite_c (tq ((E_aload (v := Value.retAddr 0) rfl rfl f0_822)) (tq ((E_iload (x := l3) rfl f0_823)) (tq ((E_iconst (x := (2)) (by decide) f0_824)) (tq ((E_iadd f0_825)) (tq (E_iald f0_826) (ite_c (tq ((E_aload (v := Value.retAddr 0) rfl rfl f0_827)) (tq ((E_iload (x := l3) rfl f0_828)) (tq ((E_iconst (x := (3)) (by decide) f0_829)) (tq ((E_iadd f0_830)) (tq (E_iald f0_831) (ite_c (tq ((E_aload (v := Value.retAddr 0) rfl rfl f0_832)) (tq ((E_iload (x := l3) rfl f0_833)) (tq ((E_iconst (x := (4)) (by decide) f0_834)) (tq ((E_iadd f0_835)) (tq (E_iald f0_836) (ite_c ((tq ((E_callV pn_198 pc_198 rfl rfl (Nat.le_of_ble_eq_true rfl) f0_837)) (if_pos (zS37 hS)))) rfl)))))) rfl)))))) rfl)))))) rfl))))))
theorem t0_840 {X : XX} {d : Nat} {sz sl : Nat} {sh : Nat → Nat × Nat} {R : Nat → Nat → Option Nat} {I : Nat → Nat → Int32} {J : Nat → Nat → Int64} {l3 : Int32} {s0 : Int32} {s1 : Int32} : exe X d 0 840 [Value.retAddr 0, Value.ref 0, Value.ref 37, Value.int l3] [Value.int s0, Value.int s1] (sz, sl, sh, R, I, J) =
    (if s1 = s0 then exe X d 0 18 [Value.retAddr 0, Value.ref 0, Value.ref 37, Value.int (l3 + (6))] [] (sz, sl, sh, R, I, J) else some (some (Value.int (0)), (sz, sl, sh, R, I, J))) :=
  tq ((E_ic_eq f0_840)) (ite_c (tq ((E_iinc (x := l3) (x' := (6)) rfl rfl (by decide) f0_1652)) ((E_goto f0_1655))) (tq ((E_iconst (x := (0)) (by decide) f0_843)) (tq (E_zret pr_0 f0_844) (if_pos (by decide)))))
theorem t0_869 {X : XX} {d : Nat} {sz sl : Nat} {sh : Nat → Nat × Nat} {R : Nat → Nat → Option Nat} {I : Nat → Nat → Int32} {J : Nat → Nat → Int64} (hS : SF sh R) {l3 : Int32} {s0 : Int32} : exe X d 0 869 [Value.retAddr 0, Value.ref 0, Value.ref 37, Value.int l3] [Value.int s0] (sz, sl, sh, R, I, J) =
    (if 0 < 3 ∧ inb (l3 + (1)) (tn X 0) then (if 0 < 3 ∧ inb (l3 + (2)) (tn X 0) then (if 0 < 3 ∧ inb (l3 + (3)) (tn X 0) then (if 0 < 3 ∧ inb (l3 + (4)) (tn X 0) then ((ev X d 199 [Value.ref 37, Value.int (tv X 0 (l3 + (1)).toNatClampNeg), Value.int (tv X 0 (l3 + (2)).toNatClampNeg), Value.int (tv X 0 (l3 + (3)).toNatClampNeg), Value.int (tv X 0 (l3 + (4)).toNatClampNeg)] (sz, sl, sh, R, I, J)).bind fun q => exe X d 0 893 [Value.retAddr 0, Value.ref 0, Value.ref 37, Value.int l3] (q.1.toList ++ [Value.int s0]) q.2) else none) else none) else none) else none) :=
  tq ((E_aload (v := Value.ref 37) rfl rfl f0_869)) (tq ((E_aload (v := Value.retAddr 0) rfl rfl f0_870)) (tq ((E_iload (x := l3) rfl f0_871)) (tq ((E_iconst (x := (1)) (by decide) f0_872)) (tq ((E_iadd f0_873)) (tq (E_iald f0_874) (ite_c (tq ((E_aload (v := Value.retAddr 0) rfl rfl f0_875)) (tq ((E_iload (x := l3) rfl f0_876)) (tq ((E_iconst (x := (2)) (by decide) f0_877)) (tq ((E_iadd f0_878)) (tq (E_iald f0_879) (ite_c (tq ((E_aload (v := Value.retAddr 0) rfl rfl f0_880)) (tq ((E_iload (x := l3) rfl f0_881)) (tq ((E_iconst (x := (3)) (by decide) f0_882)) (tq ((E_iadd f0_883)) (tq (E_iald f0_884) (ite_c (tq ((E_aload (v := Value.retAddr 0) rfl rfl f0_885)) (tq ((E_iload (x := l3) rfl f0_886)) (tq ((E_iconst (x := (4)) (by decide) f0_887)) (tq ((E_iadd f0_888)) (tq (E_iald f0_889) (ite_c ((tq ((E_callV pn_199 pc_199 rfl rfl (Nat.le_of_ble_eq_true rfl) f0_890)) (if_pos (zS37 hS)))) rfl)))))) rfl)))))) rfl)))))) rfl))))))
theorem t0_893 {X : XX} {d : Nat} {sz sl : Nat} {sh : Nat → Nat × Nat} {R : Nat → Nat → Option Nat} {I : Nat → Nat → Int32} {J : Nat → Nat → Int64} {l3 : Int32} {s0 : Int32} {s1 : Int32} : exe X d 0 893 [Value.retAddr 0, Value.ref 0, Value.ref 37, Value.int l3] [Value.int s0, Value.int s1] (sz, sl, sh, R, I, J) =
    (if s1 = s0 then exe X d 0 18 [Value.retAddr 0, Value.ref 0, Value.ref 37, Value.int (l3 + (6))] [] (sz, sl, sh, R, I, J) else some (some (Value.int (0)), (sz, sl, sh, R, I, J))) :=
  tq ((E_ic_eq f0_893)) (ite_c (tq ((E_iinc (x := l3) (x' := (6)) rfl rfl (by decide) f0_1652)) ((E_goto f0_1655))) (tq ((E_iconst (x := (0)) (by decide) f0_896)) (tq (E_zret pr_0 f0_897) (if_pos (by decide)))))
theorem t0_912 {X : XX} {d : Nat} {sz sl : Nat} {sh : Nat → Nat × Nat} {R : Nat → Nat → Option Nat} {I : Nat → Nat → Int32} {J : Nat → Nat → Int64} (hS : SF sh R) {l3 : Int32} {s0 : Int32} : exe X d 0 912 [Value.retAddr 0, Value.ref 0, Value.ref 37, Value.int l3] [Value.int s0] (sz, sl, sh, R, I, J) =
    (if 0 < 3 ∧ inb (l3 + (1)) (tn X 0) then (if 0 < 3 ∧ inb (l3 + (2)) (tn X 0) then ((ev X d 201 [Value.ref 37, Value.int (tv X 0 (l3 + (1)).toNatClampNeg), Value.int (tv X 0 (l3 + (2)).toNatClampNeg)] (sz, sl, sh, R, I, J)).bind fun q => exe X d 0 926 [Value.retAddr 0, Value.ref 0, Value.ref 37, Value.int l3] (q.1.toList ++ [Value.int s0]) q.2) else none) else none) :=
  tq ((E_aload (v := Value.ref 37) rfl rfl f0_912)) (tq ((E_aload (v := Value.retAddr 0) rfl rfl f0_913)) (tq ((E_iload (x := l3) rfl f0_914)) (tq ((E_iconst (x := (1)) (by decide) f0_915)) (tq ((E_iadd f0_916)) (tq (E_iald f0_917) (ite_c (tq ((E_aload (v := Value.retAddr 0) rfl rfl f0_918)) (tq ((E_iload (x := l3) rfl f0_919)) (tq ((E_iconst (x := (2)) (by decide) f0_920)) (tq ((E_iadd f0_921)) (tq (E_iald f0_922) (ite_c ((tq ((E_callV pn_201 pc_201 rfl rfl (Nat.le_of_ble_eq_true rfl) f0_923)) (if_pos (zS37 hS)))) rfl)))))) rfl))))))
theorem t0_926 {X : XX} {d : Nat} {sz sl : Nat} {sh : Nat → Nat × Nat} {R : Nat → Nat → Option Nat} {I : Nat → Nat → Int32} {J : Nat → Nat → Int64} {l3 : Int32} {s0 : Int32} {s1 : Int32} : exe X d 0 926 [Value.retAddr 0, Value.ref 0, Value.ref 37, Value.int l3] [Value.int s0, Value.int s1] (sz, sl, sh, R, I, J) =
    (if s1 = s0 then exe X d 0 18 [Value.retAddr 0, Value.ref 0, Value.ref 37, Value.int (l3 + (6))] [] (sz, sl, sh, R, I, J) else some (some (Value.int (0)), (sz, sl, sh, R, I, J))) :=
  tq ((E_ic_eq f0_926)) (ite_c (tq ((E_iinc (x := l3) (x' := (6)) rfl rfl (by decide) f0_1652)) ((E_goto f0_1655))) (tq ((E_iconst (x := (0)) (by decide) f0_929)) (tq (E_zret pr_0 f0_930) (if_pos (by decide)))))
theorem t0_950 {X : XX} {d : Nat} {sz sl : Nat} {sh : Nat → Nat × Nat} {R : Nat → Nat → Option Nat} {I : Nat → Nat → Int32} {J : Nat → Nat → Int64} (hS : SF sh R) {l3 : Int32} {s0 : Int32} : exe X d 0 950 [Value.retAddr 0, Value.ref 0, Value.ref 37, Value.int l3] [Value.int s0] (sz, sl, sh, R, I, J) =
    (if 0 < 3 ∧ inb (l3 + (1)) (tn X 0) then (if 0 < 3 ∧ inb (l3 + (2)) (tn X 0) then (if 0 < 3 ∧ inb (l3 + (3)) (tn X 0) then ((ev X d 202 [Value.ref 37, Value.int (tv X 0 (l3 + (1)).toNatClampNeg), Value.int (tv X 0 (l3 + (2)).toNatClampNeg), Value.int (tv X 0 (l3 + (3)).toNatClampNeg)] (sz, sl, sh, R, I, J)).bind fun q => exe X d 0 969 [Value.retAddr 0, Value.ref 0, Value.ref 37, Value.int l3] (q.1.toList ++ [Value.int s0]) q.2) else none) else none) else none) :=
  tq ((E_aload (v := Value.ref 37) rfl rfl f0_950)) (tq ((E_aload (v := Value.retAddr 0) rfl rfl f0_951)) (tq ((E_iload (x := l3) rfl f0_952)) (tq ((E_iconst (x := (1)) (by decide) f0_953)) (tq ((E_iadd f0_954)) (tq (E_iald f0_955) (ite_c (tq ((E_aload (v := Value.retAddr 0) rfl rfl f0_956)) (tq ((E_iload (x := l3) rfl f0_957)) (tq ((E_iconst (x := (2)) (by decide) f0_958)) (tq ((E_iadd f0_959)) (tq (E_iald f0_960) (ite_c (tq ((E_aload (v := Value.retAddr 0) rfl rfl f0_961)) (tq ((E_iload (x := l3) rfl f0_962)) (tq ((E_iconst (x := (3)) (by decide) f0_963)) (tq ((E_iadd f0_964)) (tq (E_iald f0_965) (ite_c ((tq ((E_callV pn_202 pc_202 rfl rfl (Nat.le_of_ble_eq_true rfl) f0_966)) (if_pos (zS37 hS)))) rfl)))))) rfl)))))) rfl))))))
theorem t0_969 {X : XX} {d : Nat} {sz sl : Nat} {sh : Nat → Nat × Nat} {R : Nat → Nat → Option Nat} {I : Nat → Nat → Int32} {J : Nat → Nat → Int64} {l3 : Int32} {s0 : Int32} {s1 : Int32} : exe X d 0 969 [Value.retAddr 0, Value.ref 0, Value.ref 37, Value.int l3] [Value.int s0, Value.int s1] (sz, sl, sh, R, I, J) =
    (if s1 = s0 then exe X d 0 18 [Value.retAddr 0, Value.ref 0, Value.ref 37, Value.int (l3 + (6))] [] (sz, sl, sh, R, I, J) else some (some (Value.int (0)), (sz, sl, sh, R, I, J))) :=
  tq ((E_ic_eq f0_969)) (ite_c (tq ((E_iinc (x := l3) (x' := (6)) rfl rfl (by decide) f0_1652)) ((E_goto f0_1655))) (tq ((E_iconst (x := (0)) (by decide) f0_972)) (tq (E_zret pr_0 f0_973) (if_pos (by decide)))))
theorem t0_998 {X : XX} {d : Nat} {sz sl : Nat} {sh : Nat → Nat × Nat} {R : Nat → Nat → Option Nat} {I : Nat → Nat → Int32} {J : Nat → Nat → Int64} (hS : SF sh R) {l3 : Int32} {s0 : Int32} : exe X d 0 998 [Value.retAddr 0, Value.ref 0, Value.ref 37, Value.int l3] [Value.int s0] (sz, sl, sh, R, I, J) =
    (if 0 < 3 ∧ inb (l3 + (1)) (tn X 0) then (if 0 < 3 ∧ inb (l3 + (2)) (tn X 0) then (if 0 < 3 ∧ inb (l3 + (3)) (tn X 0) then (if 0 < 3 ∧ inb (l3 + (4)) (tn X 0) then ((ev X d 203 [Value.ref 37, Value.int (tv X 0 (l3 + (1)).toNatClampNeg), Value.int (tv X 0 (l3 + (2)).toNatClampNeg), Value.int (tv X 0 (l3 + (3)).toNatClampNeg), Value.int (tv X 0 (l3 + (4)).toNatClampNeg)] (sz, sl, sh, R, I, J)).bind fun q => exe X d 0 1022 [Value.retAddr 0, Value.ref 0, Value.ref 37, Value.int l3] (q.1.toList ++ [Value.int s0]) q.2) else none) else none) else none) else none) :=
  tq ((E_aload (v := Value.ref 37) rfl rfl f0_998)) (tq ((E_aload (v := Value.retAddr 0) rfl rfl f0_999)) (tq ((E_iload (x := l3) rfl f0_1000)) (tq ((E_iconst (x := (1)) (by decide) f0_1001)) (tq ((E_iadd f0_1002)) (tq (E_iald f0_1003) (ite_c (tq ((E_aload (v := Value.retAddr 0) rfl rfl f0_1004)) (tq ((E_iload (x := l3) rfl f0_1005)) (tq ((E_iconst (x := (2)) (by decide) f0_1006)) (tq ((E_iadd f0_1007)) (tq (E_iald f0_1008) (ite_c (tq ((E_aload (v := Value.retAddr 0) rfl rfl f0_1009)) (tq ((E_iload (x := l3) rfl f0_1010)) (tq ((E_iconst (x := (3)) (by decide) f0_1011)) (tq ((E_iadd f0_1012)) (tq (E_iald f0_1013) (ite_c (tq ((E_aload (v := Value.retAddr 0) rfl rfl f0_1014)) (tq ((E_iload (x := l3) rfl f0_1015)) (tq ((E_iconst (x := (4)) (by decide) f0_1016)) (tq ((E_iadd f0_1017)) (tq (E_iald f0_1018) (ite_c ((tq ((E_callV pn_203 pc_203 rfl rfl (Nat.le_of_ble_eq_true rfl) f0_1019)) (if_pos (zS37 hS)))) rfl)))))) rfl)))))) rfl)))))) rfl))))))
theorem t0_1022 {X : XX} {d : Nat} {sz sl : Nat} {sh : Nat → Nat × Nat} {R : Nat → Nat → Option Nat} {I : Nat → Nat → Int32} {J : Nat → Nat → Int64} {l3 : Int32} {s0 : Int32} {s1 : Int32} : exe X d 0 1022 [Value.retAddr 0, Value.ref 0, Value.ref 37, Value.int l3] [Value.int s0, Value.int s1] (sz, sl, sh, R, I, J) =
    (if s1 = s0 then exe X d 0 18 [Value.retAddr 0, Value.ref 0, Value.ref 37, Value.int (l3 + (6))] [] (sz, sl, sh, R, I, J) else some (some (Value.int (0)), (sz, sl, sh, R, I, J))) :=
  tq ((E_ic_eq f0_1022)) (ite_c (tq ((E_iinc (x := l3) (x' := (6)) rfl rfl (by decide) f0_1652)) ((E_goto f0_1655))) (tq ((E_iconst (x := (0)) (by decide) f0_1025)) (tq (E_zret pr_0 f0_1026) (if_pos (by decide)))))
theorem t0_1046 {X : XX} {d : Nat} {sz sl : Nat} {sh : Nat → Nat × Nat} {R : Nat → Nat → Option Nat} {I : Nat → Nat → Int32} {J : Nat → Nat → Int64} (hS : SF sh R) {l3 : Int32} {s0 : Int32} : exe X d 0 1046 [Value.retAddr 0, Value.ref 0, Value.ref 37, Value.int l3] [Value.int s0] (sz, sl, sh, R, I, J) =
    (if 0 < 3 ∧ inb (l3 + (1)) (tn X 0) then (if 0 < 3 ∧ inb (l3 + (2)) (tn X 0) then (if 0 < 3 ∧ inb (l3 + (3)) (tn X 0) then ((ev X d 209 [Value.ref 37, Value.int (tv X 0 (l3 + (1)).toNatClampNeg), Value.int (tv X 0 (l3 + (2)).toNatClampNeg), Value.int (tv X 0 (l3 + (3)).toNatClampNeg)] (sz, sl, sh, R, I, J)).bind fun q => exe X d 0 1065 [Value.retAddr 0, Value.ref 0, Value.ref 37, Value.int l3] (q.1.toList ++ [Value.int s0]) q.2) else none) else none) else none) :=
  tq ((E_aload (v := Value.ref 37) rfl rfl f0_1046)) (tq ((E_aload (v := Value.retAddr 0) rfl rfl f0_1047)) (tq ((E_iload (x := l3) rfl f0_1048)) (tq ((E_iconst (x := (1)) (by decide) f0_1049)) (tq ((E_iadd f0_1050)) (tq (E_iald f0_1051) (ite_c (tq ((E_aload (v := Value.retAddr 0) rfl rfl f0_1052)) (tq ((E_iload (x := l3) rfl f0_1053)) (tq ((E_iconst (x := (2)) (by decide) f0_1054)) (tq ((E_iadd f0_1055)) (tq (E_iald f0_1056) (ite_c (tq ((E_aload (v := Value.retAddr 0) rfl rfl f0_1057)) (tq ((E_iload (x := l3) rfl f0_1058)) (tq ((E_iconst (x := (3)) (by decide) f0_1059)) (tq ((E_iadd f0_1060)) (tq (E_iald f0_1061) (ite_c ((tq ((E_callV pn_209 pc_209 rfl rfl (Nat.le_of_ble_eq_true rfl) f0_1062)) (if_pos (zS37 hS)))) rfl)))))) rfl)))))) rfl))))))
theorem t0_1065 {X : XX} {d : Nat} {sz sl : Nat} {sh : Nat → Nat × Nat} {R : Nat → Nat → Option Nat} {I : Nat → Nat → Int32} {J : Nat → Nat → Int64} {l3 : Int32} {s0 : Int32} {s1 : Int32} : exe X d 0 1065 [Value.retAddr 0, Value.ref 0, Value.ref 37, Value.int l3] [Value.int s0, Value.int s1] (sz, sl, sh, R, I, J) =
    (if s1 = s0 then exe X d 0 18 [Value.retAddr 0, Value.ref 0, Value.ref 37, Value.int (l3 + (6))] [] (sz, sl, sh, R, I, J) else some (some (Value.int (0)), (sz, sl, sh, R, I, J))) :=
  tq ((E_ic_eq f0_1065)) (ite_c (tq ((E_iinc (x := l3) (x' := (6)) rfl rfl (by decide) f0_1652)) ((E_goto f0_1655))) (tq ((E_iconst (x := (0)) (by decide) f0_1068)) (tq (E_zret pr_0 f0_1069) (if_pos (by decide)))))
theorem t0_1089 {X : XX} {d : Nat} {sz sl : Nat} {sh : Nat → Nat × Nat} {R : Nat → Nat → Option Nat} {I : Nat → Nat → Int32} {J : Nat → Nat → Int64} (hS : SF sh R) {l3 : Int32} {s0 : Int32} : exe X d 0 1089 [Value.retAddr 0, Value.ref 0, Value.ref 37, Value.int l3] [Value.int s0] (sz, sl, sh, R, I, J) =
    (if 0 < 3 ∧ inb (l3 + (1)) (tn X 0) then (if 0 < 3 ∧ inb (l3 + (2)) (tn X 0) then (if 0 < 3 ∧ inb (l3 + (3)) (tn X 0) then ((ev X d 210 [Value.ref 37, Value.int (tv X 0 (l3 + (1)).toNatClampNeg), Value.int (tv X 0 (l3 + (2)).toNatClampNeg), Value.int (tv X 0 (l3 + (3)).toNatClampNeg)] (sz, sl, sh, R, I, J)).bind fun q => exe X d 0 1108 [Value.retAddr 0, Value.ref 0, Value.ref 37, Value.int l3] (q.1.toList ++ [Value.int s0]) q.2) else none) else none) else none) :=
  tq ((E_aload (v := Value.ref 37) rfl rfl f0_1089)) (tq ((E_aload (v := Value.retAddr 0) rfl rfl f0_1090)) (tq ((E_iload (x := l3) rfl f0_1091)) (tq ((E_iconst (x := (1)) (by decide) f0_1092)) (tq ((E_iadd f0_1093)) (tq (E_iald f0_1094) (ite_c (tq ((E_aload (v := Value.retAddr 0) rfl rfl f0_1095)) (tq ((E_iload (x := l3) rfl f0_1096)) (tq ((E_iconst (x := (2)) (by decide) f0_1097)) (tq ((E_iadd f0_1098)) (tq (E_iald f0_1099) (ite_c (tq ((E_aload (v := Value.retAddr 0) rfl rfl f0_1100)) (tq ((E_iload (x := l3) rfl f0_1101)) (tq ((E_iconst (x := (3)) (by decide) f0_1102)) (tq ((E_iadd f0_1103)) (tq (E_iald f0_1104) (ite_c ((tq ((E_callV pn_210 pc_210 rfl rfl (Nat.le_of_ble_eq_true rfl) f0_1105)) (if_pos (zS37 hS)))) rfl)))))) rfl)))))) rfl))))))
theorem t0_1108 {X : XX} {d : Nat} {sz sl : Nat} {sh : Nat → Nat × Nat} {R : Nat → Nat → Option Nat} {I : Nat → Nat → Int32} {J : Nat → Nat → Int64} {l3 : Int32} {s0 : Int32} {s1 : Int32} : exe X d 0 1108 [Value.retAddr 0, Value.ref 0, Value.ref 37, Value.int l3] [Value.int s0, Value.int s1] (sz, sl, sh, R, I, J) =
    (if s1 = s0 then exe X d 0 18 [Value.retAddr 0, Value.ref 0, Value.ref 37, Value.int (l3 + (6))] [] (sz, sl, sh, R, I, J) else some (some (Value.int (0)), (sz, sl, sh, R, I, J))) :=
  tq ((E_ic_eq f0_1108)) (ite_c (tq ((E_iinc (x := l3) (x' := (6)) rfl rfl (by decide) f0_1652)) ((E_goto f0_1655))) (tq ((E_iconst (x := (0)) (by decide) f0_1111)) (tq (E_zret pr_0 f0_1112) (if_pos (by decide)))))
theorem t0_1132 {X : XX} {d : Nat} {sz sl : Nat} {sh : Nat → Nat × Nat} {R : Nat → Nat → Option Nat} {I : Nat → Nat → Int32} {J : Nat → Nat → Int64} (hS : SF sh R) {l3 : Int32} {s0 : Int32} : exe X d 0 1132 [Value.retAddr 0, Value.ref 0, Value.ref 37, Value.int l3] [Value.int s0] (sz, sl, sh, R, I, J) =
    (if 0 < 3 ∧ inb (l3 + (1)) (tn X 0) then (if 0 < 3 ∧ inb (l3 + (2)) (tn X 0) then (if 0 < 3 ∧ inb (l3 + (3)) (tn X 0) then ((ev X d 211 [Value.ref 37, Value.int (tv X 0 (l3 + (1)).toNatClampNeg), Value.int (tv X 0 (l3 + (2)).toNatClampNeg), Value.int (tv X 0 (l3 + (3)).toNatClampNeg)] (sz, sl, sh, R, I, J)).bind fun q => exe X d 0 1151 [Value.retAddr 0, Value.ref 0, Value.ref 37, Value.int l3] (q.1.toList ++ [Value.int s0]) q.2) else none) else none) else none) :=
  tq ((E_aload (v := Value.ref 37) rfl rfl f0_1132)) (tq ((E_aload (v := Value.retAddr 0) rfl rfl f0_1133)) (tq ((E_iload (x := l3) rfl f0_1134)) (tq ((E_iconst (x := (1)) (by decide) f0_1135)) (tq ((E_iadd f0_1136)) (tq (E_iald f0_1137) (ite_c (tq ((E_aload (v := Value.retAddr 0) rfl rfl f0_1138)) (tq ((E_iload (x := l3) rfl f0_1139)) (tq ((E_iconst (x := (2)) (by decide) f0_1140)) (tq ((E_iadd f0_1141)) (tq (E_iald f0_1142) (ite_c (tq ((E_aload (v := Value.retAddr 0) rfl rfl f0_1143)) (tq ((E_iload (x := l3) rfl f0_1144)) (tq ((E_iconst (x := (3)) (by decide) f0_1145)) (tq ((E_iadd f0_1146)) (tq (E_iald f0_1147) (ite_c ((tq ((E_callV pn_211 pc_211 rfl rfl (Nat.le_of_ble_eq_true rfl) f0_1148)) (if_pos (zS37 hS)))) rfl)))))) rfl)))))) rfl))))))
theorem t0_1151 {X : XX} {d : Nat} {sz sl : Nat} {sh : Nat → Nat × Nat} {R : Nat → Nat → Option Nat} {I : Nat → Nat → Int32} {J : Nat → Nat → Int64} {l3 : Int32} {s0 : Int32} {s1 : Int32} : exe X d 0 1151 [Value.retAddr 0, Value.ref 0, Value.ref 37, Value.int l3] [Value.int s0, Value.int s1] (sz, sl, sh, R, I, J) =
    (if s1 = s0 then exe X d 0 18 [Value.retAddr 0, Value.ref 0, Value.ref 37, Value.int (l3 + (6))] [] (sz, sl, sh, R, I, J) else some (some (Value.int (0)), (sz, sl, sh, R, I, J))) :=
  tq ((E_ic_eq f0_1151)) (ite_c (tq ((E_iinc (x := l3) (x' := (6)) rfl rfl (by decide) f0_1652)) ((E_goto f0_1655))) (tq ((E_iconst (x := (0)) (by decide) f0_1154)) (tq (E_zret pr_0 f0_1155) (if_pos (by decide)))))
theorem t0_1165 {X : XX} {d : Nat} {sz sl : Nat} {sh : Nat → Nat × Nat} {R : Nat → Nat → Option Nat} {I : Nat → Nat → Int32} {J : Nat → Nat → Int64} (hS : SF sh R) {l3 : Int32} {s0 : Int32} : exe X d 0 1165 [Value.retAddr 0, Value.ref 0, Value.ref 37, Value.int l3] [Value.int s0] (sz, sl, sh, R, I, J) =
    (if 0 < 3 ∧ inb (l3 + (1)) (tn X 0) then ((ev X d 212 [Value.ref 37, Value.int (tv X 0 (l3 + (1)).toNatClampNeg)] (sz, sl, sh, R, I, J)).bind fun q => exe X d 0 1174 [Value.retAddr 0, Value.ref 0, Value.ref 37, Value.int l3] (q.1.toList ++ [Value.int s0]) q.2) else none) :=
  tq ((E_aload (v := Value.ref 37) rfl rfl f0_1165)) (tq ((E_aload (v := Value.retAddr 0) rfl rfl f0_1166)) (tq ((E_iload (x := l3) rfl f0_1167)) (tq ((E_iconst (x := (1)) (by decide) f0_1168)) (tq ((E_iadd f0_1169)) (tq (E_iald f0_1170) (ite_c ((tq ((E_callV pn_212 pc_212 rfl rfl (Nat.le_of_ble_eq_true rfl) f0_1171)) (if_pos (zS37 hS)))) rfl))))))
theorem t0_1174 {X : XX} {d : Nat} {sz sl : Nat} {sh : Nat → Nat × Nat} {R : Nat → Nat → Option Nat} {I : Nat → Nat → Int32} {J : Nat → Nat → Int64} {l3 : Int32} {s0 : Int32} {s1 : Int32} : exe X d 0 1174 [Value.retAddr 0, Value.ref 0, Value.ref 37, Value.int l3] [Value.int s0, Value.int s1] (sz, sl, sh, R, I, J) =
    (if s1 = s0 then exe X d 0 18 [Value.retAddr 0, Value.ref 0, Value.ref 37, Value.int (l3 + (6))] [] (sz, sl, sh, R, I, J) else some (some (Value.int (0)), (sz, sl, sh, R, I, J))) :=
  tq ((E_ic_eq f0_1174)) (ite_c (tq ((E_iinc (x := l3) (x' := (6)) rfl rfl (by decide) f0_1652)) ((E_goto f0_1655))) (tq ((E_iconst (x := (0)) (by decide) f0_1177)) (tq (E_zret pr_0 f0_1178) (if_pos (by decide)))))
theorem t0_1188 {X : XX} {d : Nat} {sz sl : Nat} {sh : Nat → Nat × Nat} {R : Nat → Nat → Option Nat} {I : Nat → Nat → Int32} {J : Nat → Nat → Int64} (hS : SF sh R) {l3 : Int32} {s0 : Int32} : exe X d 0 1188 [Value.retAddr 0, Value.ref 0, Value.ref 37, Value.int l3] [Value.int s0] (sz, sl, sh, R, I, J) =
    (if 0 < 3 ∧ inb (l3 + (1)) (tn X 0) then ((ev X d 213 [Value.ref 37, Value.int (tv X 0 (l3 + (1)).toNatClampNeg)] (sz, sl, sh, R, I, J)).bind fun q => exe X d 0 1197 [Value.retAddr 0, Value.ref 0, Value.ref 37, Value.int l3] (q.1.toList ++ [Value.int s0]) q.2) else none) :=
  tq ((E_aload (v := Value.ref 37) rfl rfl f0_1188)) (tq ((E_aload (v := Value.retAddr 0) rfl rfl f0_1189)) (tq ((E_iload (x := l3) rfl f0_1190)) (tq ((E_iconst (x := (1)) (by decide) f0_1191)) (tq ((E_iadd f0_1192)) (tq (E_iald f0_1193) (ite_c ((tq ((E_callV pn_213 pc_213 rfl rfl (Nat.le_of_ble_eq_true rfl) f0_1194)) (if_pos (zS37 hS)))) rfl))))))
theorem t0_1197 {X : XX} {d : Nat} {sz sl : Nat} {sh : Nat → Nat × Nat} {R : Nat → Nat → Option Nat} {I : Nat → Nat → Int32} {J : Nat → Nat → Int64} {l3 : Int32} {s0 : Int32} {s1 : Int32} : exe X d 0 1197 [Value.retAddr 0, Value.ref 0, Value.ref 37, Value.int l3] [Value.int s0, Value.int s1] (sz, sl, sh, R, I, J) =
    (if s1 = s0 then exe X d 0 18 [Value.retAddr 0, Value.ref 0, Value.ref 37, Value.int (l3 + (6))] [] (sz, sl, sh, R, I, J) else some (some (Value.int (0)), (sz, sl, sh, R, I, J))) :=
  tq ((E_ic_eq f0_1197)) (ite_c (tq ((E_iinc (x := l3) (x' := (6)) rfl rfl (by decide) f0_1652)) ((E_goto f0_1655))) (tq ((E_iconst (x := (0)) (by decide) f0_1200)) (tq (E_zret pr_0 f0_1201) (if_pos (by decide)))))
theorem t0_1216 {X : XX} {d : Nat} {sz sl : Nat} {sh : Nat → Nat × Nat} {R : Nat → Nat → Option Nat} {I : Nat → Nat → Int32} {J : Nat → Nat → Int64} (hS : SF sh R) {l3 : Int32} {s0 : Int32} : exe X d 0 1216 [Value.retAddr 0, Value.ref 0, Value.ref 37, Value.int l3] [Value.int s0] (sz, sl, sh, R, I, J) =
    (if 0 < 3 ∧ inb (l3 + (1)) (tn X 0) then (if 0 < 3 ∧ inb (l3 + (2)) (tn X 0) then ((ev X d 214 [Value.ref 37, Value.int (tv X 0 (l3 + (1)).toNatClampNeg), Value.int (tv X 0 (l3 + (2)).toNatClampNeg)] (sz, sl, sh, R, I, J)).bind fun q => exe X d 0 1230 [Value.retAddr 0, Value.ref 0, Value.ref 37, Value.int l3] (q.1.toList ++ [Value.int s0]) q.2) else none) else none) :=
  tq ((E_aload (v := Value.ref 37) rfl rfl f0_1216)) (tq ((E_aload (v := Value.retAddr 0) rfl rfl f0_1217)) (tq ((E_iload (x := l3) rfl f0_1218)) (tq ((E_iconst (x := (1)) (by decide) f0_1219)) (tq ((E_iadd f0_1220)) (tq (E_iald f0_1221) (ite_c (tq ((E_aload (v := Value.retAddr 0) rfl rfl f0_1222)) (tq ((E_iload (x := l3) rfl f0_1223)) (tq ((E_iconst (x := (2)) (by decide) f0_1224)) (tq ((E_iadd f0_1225)) (tq (E_iald f0_1226) (ite_c ((tq ((E_callV pn_214 pc_214 rfl rfl (Nat.le_of_ble_eq_true rfl) f0_1227)) (if_pos (zS37 hS)))) rfl)))))) rfl))))))
theorem t0_1230 {X : XX} {d : Nat} {sz sl : Nat} {sh : Nat → Nat × Nat} {R : Nat → Nat → Option Nat} {I : Nat → Nat → Int32} {J : Nat → Nat → Int64} {l3 : Int32} {s0 : Int32} {s1 : Int32} : exe X d 0 1230 [Value.retAddr 0, Value.ref 0, Value.ref 37, Value.int l3] [Value.int s0, Value.int s1] (sz, sl, sh, R, I, J) =
    (if s1 = s0 then exe X d 0 18 [Value.retAddr 0, Value.ref 0, Value.ref 37, Value.int (l3 + (6))] [] (sz, sl, sh, R, I, J) else some (some (Value.int (0)), (sz, sl, sh, R, I, J))) :=
  tq ((E_ic_eq f0_1230)) (ite_c (tq ((E_iinc (x := l3) (x' := (6)) rfl rfl (by decide) f0_1652)) ((E_goto f0_1655))) (tq ((E_iconst (x := (0)) (by decide) f0_1233)) (tq (E_zret pr_0 f0_1234) (if_pos (by decide)))))
theorem t0_1239 {X : XX} {d : Nat} {sz sl : Nat} {sh : Nat → Nat × Nat} {R : Nat → Nat → Option Nat} {I : Nat → Nat → Int32} {J : Nat → Nat → Int64} (hS : SF sh R) {l3 : Int32} {s0 : Int32} : exe X d 0 1239 [Value.retAddr 0, Value.ref 0, Value.ref 37, Value.int l3] [Value.int s0] (sz, sl, sh, R, I, J) =
    ((ev X d 215 [Value.ref 37] (sz, sl, sh, R, I, J)).bind fun q => exe X d 0 1243 [Value.retAddr 0, Value.ref 0, Value.ref 37, Value.int l3] (q.1.toList ++ [Value.int s0]) q.2) :=
  tq ((E_aload (v := Value.ref 37) rfl rfl f0_1239)) ((tq ((E_callV pn_215 pc_215 rfl rfl (Nat.le_of_ble_eq_true rfl) f0_1240)) (if_pos (zS37 hS))))
theorem t0_1243 {X : XX} {d : Nat} {sz sl : Nat} {sh : Nat → Nat × Nat} {R : Nat → Nat → Option Nat} {I : Nat → Nat → Int32} {J : Nat → Nat → Int64} {l3 : Int32} {s0 : Int32} {s1 : Int32} : exe X d 0 1243 [Value.retAddr 0, Value.ref 0, Value.ref 37, Value.int l3] [Value.int s0, Value.int s1] (sz, sl, sh, R, I, J) =
    (if s1 = s0 then exe X d 0 18 [Value.retAddr 0, Value.ref 0, Value.ref 37, Value.int (l3 + (6))] [] (sz, sl, sh, R, I, J) else some (some (Value.int (0)), (sz, sl, sh, R, I, J))) :=
  tq ((E_ic_eq f0_1243)) (ite_c (tq ((E_iinc (x := l3) (x' := (6)) rfl rfl (by decide) f0_1652)) ((E_goto f0_1655))) (tq ((E_iconst (x := (0)) (by decide) f0_1246)) (tq (E_zret pr_0 f0_1247) (if_pos (by decide)))))
theorem t0_1252 {X : XX} {d : Nat} {sz sl : Nat} {sh : Nat → Nat × Nat} {R : Nat → Nat → Option Nat} {I : Nat → Nat → Int32} {J : Nat → Nat → Int64} (hS : SF sh R) {l3 : Int32} {s0 : Int32} : exe X d 0 1252 [Value.retAddr 0, Value.ref 0, Value.ref 37, Value.int l3] [Value.int s0] (sz, sl, sh, R, I, J) =
    ((ev X d 216 [Value.ref 37] (sz, sl, sh, R, I, J)).bind fun q => exe X d 0 1256 [Value.retAddr 0, Value.ref 0, Value.ref 37, Value.int l3] (q.1.toList ++ [Value.int s0]) q.2) :=
  tq ((E_aload (v := Value.ref 37) rfl rfl f0_1252)) ((tq ((E_callV pn_216 pc_216 rfl rfl (Nat.le_of_ble_eq_true rfl) f0_1253)) (if_pos (zS37 hS))))
theorem t0_1256 {X : XX} {d : Nat} {sz sl : Nat} {sh : Nat → Nat × Nat} {R : Nat → Nat → Option Nat} {I : Nat → Nat → Int32} {J : Nat → Nat → Int64} {l3 : Int32} {s0 : Int32} {s1 : Int32} : exe X d 0 1256 [Value.retAddr 0, Value.ref 0, Value.ref 37, Value.int l3] [Value.int s0, Value.int s1] (sz, sl, sh, R, I, J) =
    (if s1 = s0 then exe X d 0 18 [Value.retAddr 0, Value.ref 0, Value.ref 37, Value.int (l3 + (6))] [] (sz, sl, sh, R, I, J) else some (some (Value.int (0)), (sz, sl, sh, R, I, J))) :=
  tq ((E_ic_eq f0_1256)) (ite_c (tq ((E_iinc (x := l3) (x' := (6)) rfl rfl (by decide) f0_1652)) ((E_goto f0_1655))) (tq ((E_iconst (x := (0)) (by decide) f0_1259)) (tq (E_zret pr_0 f0_1260) (if_pos (by decide)))))
theorem t0_1270 {X : XX} {d : Nat} {sz sl : Nat} {sh : Nat → Nat × Nat} {R : Nat → Nat → Option Nat} {I : Nat → Nat → Int32} {J : Nat → Nat → Int64} (hS : SF sh R) {l3 : Int32} {s0 : Int32} : exe X d 0 1270 [Value.retAddr 0, Value.ref 0, Value.ref 37, Value.int l3] [Value.int s0] (sz, sl, sh, R, I, J) =
    (if 0 < 3 ∧ inb (l3 + (1)) (tn X 0) then ((ev X d 217 [Value.ref 37, Value.int (tv X 0 (l3 + (1)).toNatClampNeg)] (sz, sl, sh, R, I, J)).bind fun q => exe X d 0 1279 [Value.retAddr 0, Value.ref 0, Value.ref 37, Value.int l3] (q.1.toList ++ [Value.int s0]) q.2) else none) :=
  tq ((E_aload (v := Value.ref 37) rfl rfl f0_1270)) (tq ((E_aload (v := Value.retAddr 0) rfl rfl f0_1271)) (tq ((E_iload (x := l3) rfl f0_1272)) (tq ((E_iconst (x := (1)) (by decide) f0_1273)) (tq ((E_iadd f0_1274)) (tq (E_iald f0_1275) (ite_c ((tq ((E_callV pn_217 pc_217 rfl rfl (Nat.le_of_ble_eq_true rfl) f0_1276)) (if_pos (zS37 hS)))) rfl))))))
theorem t0_1279 {X : XX} {d : Nat} {sz sl : Nat} {sh : Nat → Nat × Nat} {R : Nat → Nat → Option Nat} {I : Nat → Nat → Int32} {J : Nat → Nat → Int64} {l3 : Int32} {s0 : Int32} {s1 : Int32} : exe X d 0 1279 [Value.retAddr 0, Value.ref 0, Value.ref 37, Value.int l3] [Value.int s0, Value.int s1] (sz, sl, sh, R, I, J) =
    (if s1 = s0 then exe X d 0 18 [Value.retAddr 0, Value.ref 0, Value.ref 37, Value.int (l3 + (6))] [] (sz, sl, sh, R, I, J) else some (some (Value.int (0)), (sz, sl, sh, R, I, J))) :=
  tq ((E_ic_eq f0_1279)) (ite_c (tq ((E_iinc (x := l3) (x' := (6)) rfl rfl (by decide) f0_1652)) ((E_goto f0_1655))) (tq ((E_iconst (x := (0)) (by decide) f0_1282)) (tq (E_zret pr_0 f0_1283) (if_pos (by decide)))))
theorem t0_1303 {X : XX} {d : Nat} {sz sl : Nat} {sh : Nat → Nat × Nat} {R : Nat → Nat → Option Nat} {I : Nat → Nat → Int32} {J : Nat → Nat → Int64} (hS : SF sh R) {l3 : Int32} {s0 : Int32} : exe X d 0 1303 [Value.retAddr 0, Value.ref 0, Value.ref 37, Value.int l3] [Value.int s0] (sz, sl, sh, R, I, J) =
    (if 0 < 3 ∧ inb (l3 + (1)) (tn X 0) then (if 0 < 3 ∧ inb (l3 + (2)) (tn X 0) then (if 0 < 3 ∧ inb (l3 + (3)) (tn X 0) then ((ev X d 218 [Value.ref 37, Value.int (tv X 0 (l3 + (1)).toNatClampNeg), Value.int (tv X 0 (l3 + (2)).toNatClampNeg), Value.int (tv X 0 (l3 + (3)).toNatClampNeg)] (sz, sl, sh, R, I, J)).bind fun q => exe X d 0 1322 [Value.retAddr 0, Value.ref 0, Value.ref 37, Value.int l3] (q.1.toList ++ [Value.int s0]) q.2) else none) else none) else none) :=
  tq ((E_aload (v := Value.ref 37) rfl rfl f0_1303)) (tq ((E_aload (v := Value.retAddr 0) rfl rfl f0_1304)) (tq ((E_iload (x := l3) rfl f0_1305)) (tq ((E_iconst (x := (1)) (by decide) f0_1306)) (tq ((E_iadd f0_1307)) (tq (E_iald f0_1308) (ite_c (tq ((E_aload (v := Value.retAddr 0) rfl rfl f0_1309)) (tq ((E_iload (x := l3) rfl f0_1310)) (tq ((E_iconst (x := (2)) (by decide) f0_1311)) (tq ((E_iadd f0_1312)) (tq (E_iald f0_1313) (ite_c (tq ((E_aload (v := Value.retAddr 0) rfl rfl f0_1314)) (tq ((E_iload (x := l3) rfl f0_1315)) (tq ((E_iconst (x := (3)) (by decide) f0_1316)) (tq ((E_iadd f0_1317)) (tq (E_iald f0_1318) (ite_c ((tq ((E_callV pn_218 pc_218 rfl rfl (Nat.le_of_ble_eq_true rfl) f0_1319)) (if_pos (zS37 hS)))) rfl)))))) rfl)))))) rfl))))))
theorem t0_1322 {X : XX} {d : Nat} {sz sl : Nat} {sh : Nat → Nat × Nat} {R : Nat → Nat → Option Nat} {I : Nat → Nat → Int32} {J : Nat → Nat → Int64} {l3 : Int32} {s0 : Int32} {s1 : Int32} : exe X d 0 1322 [Value.retAddr 0, Value.ref 0, Value.ref 37, Value.int l3] [Value.int s0, Value.int s1] (sz, sl, sh, R, I, J) =
    (if s1 = s0 then exe X d 0 18 [Value.retAddr 0, Value.ref 0, Value.ref 37, Value.int (l3 + (6))] [] (sz, sl, sh, R, I, J) else some (some (Value.int (0)), (sz, sl, sh, R, I, J))) :=
  tq ((E_ic_eq f0_1322)) (ite_c (tq ((E_iinc (x := l3) (x' := (6)) rfl rfl (by decide) f0_1652)) ((E_goto f0_1655))) (tq ((E_iconst (x := (0)) (by decide) f0_1325)) (tq (E_zret pr_0 f0_1326) (if_pos (by decide)))))
theorem t0_1336 {X : XX} {d : Nat} {sz sl : Nat} {sh : Nat → Nat × Nat} {R : Nat → Nat → Option Nat} {I : Nat → Nat → Int32} {J : Nat → Nat → Int64} (hS : SF sh R) {l3 : Int32} {s0 : Int32} : exe X d 0 1336 [Value.retAddr 0, Value.ref 0, Value.ref 37, Value.int l3] [Value.int s0] (sz, sl, sh, R, I, J) =
    (if 0 < 3 ∧ inb (l3 + (1)) (tn X 0) then ((ev X d 225 [Value.ref 37, Value.int (tv X 0 (l3 + (1)).toNatClampNeg)] (sz, sl, sh, R, I, J)).bind fun q => exe X d 0 1345 [Value.retAddr 0, Value.ref 0, Value.ref 37, Value.int l3] (q.1.toList ++ [Value.int s0]) q.2) else none) :=
  tq ((E_aload (v := Value.ref 37) rfl rfl f0_1336)) (tq ((E_aload (v := Value.retAddr 0) rfl rfl f0_1337)) (tq ((E_iload (x := l3) rfl f0_1338)) (tq ((E_iconst (x := (1)) (by decide) f0_1339)) (tq ((E_iadd f0_1340)) (tq (E_iald f0_1341) (ite_c ((tq ((E_callV pn_225 pc_225 rfl rfl (Nat.le_of_ble_eq_true rfl) f0_1342)) (if_pos (zS37 hS)))) rfl))))))
theorem t0_1345 {X : XX} {d : Nat} {sz sl : Nat} {sh : Nat → Nat × Nat} {R : Nat → Nat → Option Nat} {I : Nat → Nat → Int32} {J : Nat → Nat → Int64} {l3 : Int32} {s0 : Int32} {s1 : Int32} : exe X d 0 1345 [Value.retAddr 0, Value.ref 0, Value.ref 37, Value.int l3] [Value.int s0, Value.int s1] (sz, sl, sh, R, I, J) =
    (if s1 = s0 then exe X d 0 18 [Value.retAddr 0, Value.ref 0, Value.ref 37, Value.int (l3 + (6))] [] (sz, sl, sh, R, I, J) else some (some (Value.int (0)), (sz, sl, sh, R, I, J))) :=
  tq ((E_ic_eq f0_1345)) (ite_c (tq ((E_iinc (x := l3) (x' := (6)) rfl rfl (by decide) f0_1652)) ((E_goto f0_1655))) (tq ((E_iconst (x := (0)) (by decide) f0_1348)) (tq (E_zret pr_0 f0_1349) (if_pos (by decide)))))
theorem t0_1364 {X : XX} {d : Nat} {sz sl : Nat} {sh : Nat → Nat × Nat} {R : Nat → Nat → Option Nat} {I : Nat → Nat → Int32} {J : Nat → Nat → Int64} (hS : SF sh R) {l3 : Int32} {s0 : Int32} : exe X d 0 1364 [Value.retAddr 0, Value.ref 0, Value.ref 37, Value.int l3] [Value.int s0] (sz, sl, sh, R, I, J) =
    (if 0 < 3 ∧ inb (l3 + (1)) (tn X 0) then (if 0 < 3 ∧ inb (l3 + (2)) (tn X 0) then ((ev X d 226 [Value.ref 37, Value.int (tv X 0 (l3 + (1)).toNatClampNeg), Value.int (tv X 0 (l3 + (2)).toNatClampNeg)] (sz, sl, sh, R, I, J)).bind fun q => exe X d 0 1378 [Value.retAddr 0, Value.ref 0, Value.ref 37, Value.int l3] (q.1.toList ++ [Value.int s0]) q.2) else none) else none) :=
  tq ((E_aload (v := Value.ref 37) rfl rfl f0_1364)) (tq ((E_aload (v := Value.retAddr 0) rfl rfl f0_1365)) (tq ((E_iload (x := l3) rfl f0_1366)) (tq ((E_iconst (x := (1)) (by decide) f0_1367)) (tq ((E_iadd f0_1368)) (tq (E_iald f0_1369) (ite_c (tq ((E_aload (v := Value.retAddr 0) rfl rfl f0_1370)) (tq ((E_iload (x := l3) rfl f0_1371)) (tq ((E_iconst (x := (2)) (by decide) f0_1372)) (tq ((E_iadd f0_1373)) (tq (E_iald f0_1374) (ite_c ((tq ((E_callV pn_226 pc_226 rfl rfl (Nat.le_of_ble_eq_true rfl) f0_1375)) (if_pos (zS37 hS)))) rfl)))))) rfl))))))
theorem t0_1378 {X : XX} {d : Nat} {sz sl : Nat} {sh : Nat → Nat × Nat} {R : Nat → Nat → Option Nat} {I : Nat → Nat → Int32} {J : Nat → Nat → Int64} {l3 : Int32} {s0 : Int32} {s1 : Int32} : exe X d 0 1378 [Value.retAddr 0, Value.ref 0, Value.ref 37, Value.int l3] [Value.int s0, Value.int s1] (sz, sl, sh, R, I, J) =
    (if s1 = s0 then exe X d 0 18 [Value.retAddr 0, Value.ref 0, Value.ref 37, Value.int (l3 + (6))] [] (sz, sl, sh, R, I, J) else some (some (Value.int (0)), (sz, sl, sh, R, I, J))) :=
  tq ((E_ic_eq f0_1378)) (ite_c (tq ((E_iinc (x := l3) (x' := (6)) rfl rfl (by decide) f0_1652)) ((E_goto f0_1655))) (tq ((E_iconst (x := (0)) (by decide) f0_1381)) (tq (E_zret pr_0 f0_1382) (if_pos (by decide)))))
theorem t0_1402 {X : XX} {d : Nat} {sz sl : Nat} {sh : Nat → Nat × Nat} {R : Nat → Nat → Option Nat} {I : Nat → Nat → Int32} {J : Nat → Nat → Int64} (hS : SF sh R) {l3 : Int32} {s0 : Int32} : exe X d 0 1402 [Value.retAddr 0, Value.ref 0, Value.ref 37, Value.int l3] [Value.int s0] (sz, sl, sh, R, I, J) =
    (if 0 < 3 ∧ inb (l3 + (1)) (tn X 0) then (if 0 < 3 ∧ inb (l3 + (2)) (tn X 0) then (if 0 < 3 ∧ inb (l3 + (3)) (tn X 0) then ((ev X d 227 [Value.ref 37, Value.int (tv X 0 (l3 + (1)).toNatClampNeg), Value.int (tv X 0 (l3 + (2)).toNatClampNeg), Value.int (tv X 0 (l3 + (3)).toNatClampNeg)] (sz, sl, sh, R, I, J)).bind fun q => exe X d 0 1421 [Value.retAddr 0, Value.ref 0, Value.ref 37, Value.int l3] (q.1.toList ++ [Value.int s0]) q.2) else none) else none) else none) :=
  tq ((E_aload (v := Value.ref 37) rfl rfl f0_1402)) (tq ((E_aload (v := Value.retAddr 0) rfl rfl f0_1403)) (tq ((E_iload (x := l3) rfl f0_1404)) (tq ((E_iconst (x := (1)) (by decide) f0_1405)) (tq ((E_iadd f0_1406)) (tq (E_iald f0_1407) (ite_c (tq ((E_aload (v := Value.retAddr 0) rfl rfl f0_1408)) (tq ((E_iload (x := l3) rfl f0_1409)) (tq ((E_iconst (x := (2)) (by decide) f0_1410)) (tq ((E_iadd f0_1411)) (tq (E_iald f0_1412) (ite_c (tq ((E_aload (v := Value.retAddr 0) rfl rfl f0_1413)) (tq ((E_iload (x := l3) rfl f0_1414)) (tq ((E_iconst (x := (3)) (by decide) f0_1415)) (tq ((E_iadd f0_1416)) (tq (E_iald f0_1417) (ite_c ((tq ((E_callV pn_227 pc_227 rfl rfl (Nat.le_of_ble_eq_true rfl) f0_1418)) (if_pos (zS37 hS)))) rfl)))))) rfl)))))) rfl))))))
theorem t0_1421 {X : XX} {d : Nat} {sz sl : Nat} {sh : Nat → Nat × Nat} {R : Nat → Nat → Option Nat} {I : Nat → Nat → Int32} {J : Nat → Nat → Int64} {l3 : Int32} {s0 : Int32} {s1 : Int32} : exe X d 0 1421 [Value.retAddr 0, Value.ref 0, Value.ref 37, Value.int l3] [Value.int s0, Value.int s1] (sz, sl, sh, R, I, J) =
    (if s1 = s0 then exe X d 0 18 [Value.retAddr 0, Value.ref 0, Value.ref 37, Value.int (l3 + (6))] [] (sz, sl, sh, R, I, J) else some (some (Value.int (0)), (sz, sl, sh, R, I, J))) :=
  tq ((E_ic_eq f0_1421)) (ite_c (tq ((E_iinc (x := l3) (x' := (6)) rfl rfl (by decide) f0_1652)) ((E_goto f0_1655))) (tq ((E_iconst (x := (0)) (by decide) f0_1424)) (tq (E_zret pr_0 f0_1425) (if_pos (by decide)))))
theorem t0_1460 {X : XX} {d : Nat} {sz sl : Nat} {sh : Nat → Nat × Nat} {R : Nat → Nat → Option Nat} {I : Nat → Nat → Int32} {J : Nat → Nat → Int64} (hS : SF sh R) {l3 : Int32} {s0 : Int32} : exe X d 0 1460 [Value.retAddr 0, Value.ref 0, Value.ref 37, Value.int l3] [Value.int s0] (sz, sl, sh, R, I, J) =
    (if 0 < 3 ∧ inb (l3 + (1)) (tn X 0) then (if 0 < 3 ∧ inb (l3 + (2)) (tn X 0) then (if 0 < 3 ∧ inb (l3 + (3)) (tn X 0) then (if 0 < 3 ∧ inb (l3 + (4)) (tn X 0) then ((ev X d 228 [Value.ref 37, Value.int (tv X 0 (l3 + (1)).toNatClampNeg), Value.int (tv X 0 (l3 + (2)).toNatClampNeg), Value.long (((Int32.toInt64 (tv X 0 (l3 + (3)).toNatClampNeg)) <<< (Int32.toInt64 (32) &&& 63)) ||| ((Int32.toInt64 (tv X 0 (l3 + (4)).toNatClampNeg)) &&& (4294967295)))] (sz, sl, sh, R, I, J)).bind fun q => exe X d 0 1494 [Value.retAddr 0, Value.ref 0, Value.ref 37, Value.int l3] (q.1.toList ++ [Value.int s0]) q.2) else none) else none) else none) else none) :=
  tq ((E_aload (v := Value.ref 37) rfl rfl f0_1460)) (tq ((E_aload (v := Value.retAddr 0) rfl rfl f0_1461)) (tq ((E_iload (x := l3) rfl f0_1462)) (tq ((E_iconst (x := (1)) (by decide) f0_1463)) (tq ((E_iadd f0_1464)) (tq (E_iald f0_1465) (ite_c (tq ((E_aload (v := Value.retAddr 0) rfl rfl f0_1466)) (tq ((E_iload (x := l3) rfl f0_1467)) (tq ((E_iconst (x := (2)) (by decide) f0_1468)) (tq ((E_iadd f0_1469)) (tq (E_iald f0_1470) (ite_c (tq ((E_aload (v := Value.retAddr 0) rfl rfl f0_1471)) (tq ((E_iload (x := l3) rfl f0_1472)) (tq ((E_iconst (x := (3)) (by decide) f0_1473)) (tq ((E_iadd f0_1474)) (tq (E_iald f0_1475) (ite_c (tq ((E_i2l f0_1476)) (tq ((E_iconst (x := (32)) (by decide) f0_1477)) (tq ((E_lshl f0_1479)) (tq ((E_aload (v := Value.retAddr 0) rfl rfl f0_1480)) (tq ((E_iload (x := l3) rfl f0_1481)) (tq ((E_iconst (x := (4)) (by decide) f0_1482)) (tq ((E_iadd f0_1483)) (tq (E_iald f0_1484) (ite_c (tq ((E_i2l f0_1485)) (tq ((E_lconst (x := (4294967295)) (by decide) f0_1486)) (tq ((E_land f0_1489)) (tq ((E_lor f0_1490)) ((tq ((E_callV pn_228 pc_228 rfl rfl (Nat.le_of_ble_eq_true rfl) f0_1491)) (if_pos (zS37 hS)))))))) rfl))))))))) rfl)))))) rfl)))))) rfl))))))
theorem t0_1494 {X : XX} {d : Nat} {sz sl : Nat} {sh : Nat → Nat × Nat} {R : Nat → Nat → Option Nat} {I : Nat → Nat → Int32} {J : Nat → Nat → Int64} {l3 : Int32} {s0 : Int32} {s1 : Int32} : exe X d 0 1494 [Value.retAddr 0, Value.ref 0, Value.ref 37, Value.int l3] [Value.int s0, Value.int s1] (sz, sl, sh, R, I, J) =
    (if s1 = s0 then exe X d 0 18 [Value.retAddr 0, Value.ref 0, Value.ref 37, Value.int (l3 + (6))] [] (sz, sl, sh, R, I, J) else some (some (Value.int (0)), (sz, sl, sh, R, I, J))) :=
  tq ((E_ic_eq f0_1494)) (ite_c (tq ((E_iinc (x := l3) (x' := (6)) rfl rfl (by decide) f0_1652)) ((E_goto f0_1655))) (tq ((E_iconst (x := (0)) (by decide) f0_1497)) (tq (E_zret pr_0 f0_1498) (if_pos (by decide)))))
theorem t0_1513 {X : XX} {d : Nat} {sz sl : Nat} {sh : Nat → Nat × Nat} {R : Nat → Nat → Option Nat} {I : Nat → Nat → Int32} {J : Nat → Nat → Int64} (hS : SF sh R) {l3 : Int32} {s0 : Int64} : exe X d 0 1513 [Value.retAddr 0, Value.ref 0, Value.ref 37, Value.int l3] [Value.long s0] (sz, sl, sh, R, I, J) =
    (if 0 < 3 ∧ inb (l3 + (1)) (tn X 0) then (if 0 < 3 ∧ inb (l3 + (2)) (tn X 0) then ((ev X d 231 [Value.ref 37, Value.int (tv X 0 (l3 + (1)).toNatClampNeg), Value.int (tv X 0 (l3 + (2)).toNatClampNeg)] (sz, sl, sh, R, I, J)).bind fun q => exe X d 0 1527 [Value.retAddr 0, Value.ref 0, Value.ref 37, Value.int l3] (q.1.toList ++ [Value.long s0]) q.2) else none) else none) :=
  tq ((E_aload (v := Value.ref 37) rfl rfl f0_1513)) (tq ((E_aload (v := Value.retAddr 0) rfl rfl f0_1514)) (tq ((E_iload (x := l3) rfl f0_1515)) (tq ((E_iconst (x := (1)) (by decide) f0_1516)) (tq ((E_iadd f0_1517)) (tq (E_iald f0_1518) (ite_c (tq ((E_aload (v := Value.retAddr 0) rfl rfl f0_1519)) (tq ((E_iload (x := l3) rfl f0_1520)) (tq ((E_iconst (x := (2)) (by decide) f0_1521)) (tq ((E_iadd f0_1522)) (tq (E_iald f0_1523) (ite_c ((tq ((E_callV pn_231 pc_231 rfl rfl (Nat.le_of_ble_eq_true rfl) f0_1524)) (if_pos (zS37 hS)))) rfl)))))) rfl))))))
theorem t0_1527 {X : XX} {d : Nat} {sz sl : Nat} {sh : Nat → Nat × Nat} {R : Nat → Nat → Option Nat} {I : Nat → Nat → Int32} {J : Nat → Nat → Int64} {l3 : Int32} {s0 : Int64} {s1 : Int64} : exe X d 0 1527 [Value.retAddr 0, Value.ref 0, Value.ref 37, Value.int l3] [Value.long s0, Value.long s1] (sz, sl, sh, R, I, J) =
    (if (lg_cmp s1 s0) = 0 then exe X d 0 18 [Value.retAddr 0, Value.ref 0, Value.ref 37, Value.int (l3 + (6))] [] (sz, sl, sh, R, I, J) else some (some (Value.int (0)), (sz, sl, sh, R, I, J))) :=
  tq ((E_lcmp f0_1527)) (tq ((E_if_eq f0_1528)) (ite_c (tq ((E_iinc (x := l3) (x' := (6)) rfl rfl (by decide) f0_1652)) ((E_goto f0_1655))) (tq ((E_iconst (x := (0)) (by decide) f0_1531)) (tq (E_zret pr_0 f0_1532) (if_pos (by decide))))))
theorem t0_1562 {X : XX} {d : Nat} {sz sl : Nat} {sh : Nat → Nat × Nat} {R : Nat → Nat → Option Nat} {I : Nat → Nat → Int32} {J : Nat → Nat → Int64} (hS : SF sh R) {l3 : Int32} {s0 : Int32} : exe X d 0 1562 [Value.retAddr 0, Value.ref 0, Value.ref 37, Value.int l3] [Value.int s0] (sz, sl, sh, R, I, J) =
    (if 0 < 3 ∧ inb (l3 + (1)) (tn X 0) then (if 0 < 3 ∧ inb (l3 + (2)) (tn X 0) then (if 0 < 3 ∧ inb (l3 + (3)) (tn X 0) then (if 0 < 3 ∧ inb (l3 + (4)) (tn X 0) then (if 0 < 3 ∧ inb (l3 + (5)) (tn X 0) then ((ev X d 232 [Value.ref 37, Value.int (tv X 0 (l3 + (1)).toNatClampNeg), Value.int (tv X 0 (l3 + (2)).toNatClampNeg), Value.int (tv X 0 (l3 + (3)).toNatClampNeg), Value.int (tv X 0 (l3 + (4)).toNatClampNeg), Value.int (tv X 0 (l3 + (5)).toNatClampNeg)] (sz, sl, sh, R, I, J)).bind fun q => exe X d 0 1591 [Value.retAddr 0, Value.ref 0, Value.ref 37, Value.int l3] (q.1.toList ++ [Value.int s0]) q.2) else none) else none) else none) else none) else none) :=
  tq ((E_aload (v := Value.ref 37) rfl rfl f0_1562)) (tq ((E_aload (v := Value.retAddr 0) rfl rfl f0_1563)) (tq ((E_iload (x := l3) rfl f0_1564)) (tq ((E_iconst (x := (1)) (by decide) f0_1565)) (tq ((E_iadd f0_1566)) (tq (E_iald f0_1567) (ite_c (tq ((E_aload (v := Value.retAddr 0) rfl rfl f0_1568)) (tq ((E_iload (x := l3) rfl f0_1569)) (tq ((E_iconst (x := (2)) (by decide) f0_1570)) (tq ((E_iadd f0_1571)) (tq (E_iald f0_1572) (ite_c (tq ((E_aload (v := Value.retAddr 0) rfl rfl f0_1573)) (tq ((E_iload (x := l3) rfl f0_1574)) (tq ((E_iconst (x := (3)) (by decide) f0_1575)) (tq ((E_iadd f0_1576)) (tq (E_iald f0_1577) (ite_c (tq ((E_aload (v := Value.retAddr 0) rfl rfl f0_1578)) (tq ((E_iload (x := l3) rfl f0_1579)) (tq ((E_iconst (x := (4)) (by decide) f0_1580)) (tq ((E_iadd f0_1581)) (tq (E_iald f0_1582) (ite_c (tq ((E_aload (v := Value.retAddr 0) rfl rfl f0_1583)) (tq ((E_iload (x := l3) rfl f0_1584)) (tq ((E_iconst (x := (5)) (by decide) f0_1585)) (tq ((E_iadd f0_1586)) (tq (E_iald f0_1587) (ite_c ((tq ((E_callV pn_232 pc_232 rfl rfl (Nat.le_of_ble_eq_true rfl) f0_1588)) (if_pos (zS37 hS)))) rfl)))))) rfl)))))) rfl)))))) rfl)))))) rfl))))))
theorem t0_1591 {X : XX} {d : Nat} {sz sl : Nat} {sh : Nat → Nat × Nat} {R : Nat → Nat → Option Nat} {I : Nat → Nat → Int32} {J : Nat → Nat → Int64} {l3 : Int32} {s0 : Int32} {s1 : Int32} : exe X d 0 1591 [Value.retAddr 0, Value.ref 0, Value.ref 37, Value.int l3] [Value.int s0, Value.int s1] (sz, sl, sh, R, I, J) =
    (if s1 = s0 then exe X d 0 18 [Value.retAddr 0, Value.ref 0, Value.ref 37, Value.int (l3 + (6))] [] (sz, sl, sh, R, I, J) else some (some (Value.int (0)), (sz, sl, sh, R, I, J))) :=
  tq ((E_ic_eq f0_1591)) (ite_c (tq ((E_iinc (x := l3) (x' := (6)) rfl rfl (by decide) f0_1652)) ((E_goto f0_1655))) (tq ((E_iconst (x := (0)) (by decide) f0_1594)) (tq (E_zret pr_0 f0_1595) (if_pos (by decide)))))
theorem t0_1610 {X : XX} {d : Nat} {sz sl : Nat} {sh : Nat → Nat × Nat} {R : Nat → Nat → Option Nat} {I : Nat → Nat → Int32} {J : Nat → Nat → Int64} (hS : SF sh R) {l3 : Int32} {s0 : Int32} : exe X d 0 1610 [Value.retAddr 0, Value.ref 0, Value.ref 37, Value.int l3] [Value.int s0] (sz, sl, sh, R, I, J) =
    (if 0 < 3 ∧ inb (l3 + (1)) (tn X 0) then (if 0 < 3 ∧ inb (l3 + (2)) (tn X 0) then ((ev X d 233 [Value.ref 37, Value.int (tv X 0 (l3 + (1)).toNatClampNeg), Value.int (tv X 0 (l3 + (2)).toNatClampNeg)] (sz, sl, sh, R, I, J)).bind fun q => exe X d 0 1624 [Value.retAddr 0, Value.ref 0, Value.ref 37, Value.int l3] (q.1.toList ++ [Value.int s0]) q.2) else none) else none) :=
  tq ((E_aload (v := Value.ref 37) rfl rfl f0_1610)) (tq ((E_aload (v := Value.retAddr 0) rfl rfl f0_1611)) (tq ((E_iload (x := l3) rfl f0_1612)) (tq ((E_iconst (x := (1)) (by decide) f0_1613)) (tq ((E_iadd f0_1614)) (tq (E_iald f0_1615) (ite_c (tq ((E_aload (v := Value.retAddr 0) rfl rfl f0_1616)) (tq ((E_iload (x := l3) rfl f0_1617)) (tq ((E_iconst (x := (2)) (by decide) f0_1618)) (tq ((E_iadd f0_1619)) (tq (E_iald f0_1620) (ite_c ((tq ((E_callV pn_233 pc_233 rfl rfl (Nat.le_of_ble_eq_true rfl) f0_1621)) (if_pos (zS37 hS)))) rfl)))))) rfl))))))
theorem t0_1624 {X : XX} {d : Nat} {sz sl : Nat} {sh : Nat → Nat × Nat} {R : Nat → Nat → Option Nat} {I : Nat → Nat → Int32} {J : Nat → Nat → Int64} {l3 : Int32} {s0 : Int32} {s1 : Int32} : exe X d 0 1624 [Value.retAddr 0, Value.ref 0, Value.ref 37, Value.int l3] [Value.int s0, Value.int s1] (sz, sl, sh, R, I, J) =
    (if s1 = s0 then exe X d 0 18 [Value.retAddr 0, Value.ref 0, Value.ref 37, Value.int (l3 + (6))] [] (sz, sl, sh, R, I, J) else some (some (Value.int (0)), (sz, sl, sh, R, I, J))) :=
  tq ((E_ic_eq f0_1624)) (ite_c (tq ((E_iinc (x := l3) (x' := (6)) rfl rfl (by decide) f0_1652)) ((E_goto f0_1655))) (tq ((E_iconst (x := (0)) (by decide) f0_1627)) (tq (E_zret pr_0 f0_1628) (if_pos (by decide)))))
theorem t0_1638 {X : XX} {d : Nat} {sz sl : Nat} {sh : Nat → Nat × Nat} {R : Nat → Nat → Option Nat} {I : Nat → Nat → Int32} {J : Nat → Nat → Int64} (hS : SF sh R) {l3 : Int32} {s0 : Int32} : exe X d 0 1638 [Value.retAddr 0, Value.ref 0, Value.ref 37, Value.int l3] [Value.int s0] (sz, sl, sh, R, I, J) =
    (if 0 < 3 ∧ inb (l3 + (1)) (tn X 0) then ((ev X d 235 [Value.ref 37, Value.int (tv X 0 (l3 + (1)).toNatClampNeg)] (sz, sl, sh, R, I, J)).bind fun q => exe X d 0 1647 [Value.retAddr 0, Value.ref 0, Value.ref 37, Value.int l3] (q.1.toList ++ [Value.int s0]) q.2) else none) :=
  tq ((E_aload (v := Value.ref 37) rfl rfl f0_1638)) (tq ((E_aload (v := Value.retAddr 0) rfl rfl f0_1639)) (tq ((E_iload (x := l3) rfl f0_1640)) (tq ((E_iconst (x := (1)) (by decide) f0_1641)) (tq ((E_iadd f0_1642)) (tq (E_iald f0_1643) (ite_c ((tq ((E_callV pn_235 pc_235 rfl rfl (Nat.le_of_ble_eq_true rfl) f0_1644)) (if_pos (zS37 hS)))) rfl))))))
theorem t0_1647 {X : XX} {d : Nat} {sz sl : Nat} {sh : Nat → Nat × Nat} {R : Nat → Nat → Option Nat} {I : Nat → Nat → Int32} {J : Nat → Nat → Int64} {l3 : Int32} {s0 : Int32} {s1 : Int32} : exe X d 0 1647 [Value.retAddr 0, Value.ref 0, Value.ref 37, Value.int l3] [Value.int s0, Value.int s1] (sz, sl, sh, R, I, J) =
    (if s1 = s0 then exe X d 0 18 [Value.retAddr 0, Value.ref 0, Value.ref 37, Value.int (l3 + (6))] [] (sz, sl, sh, R, I, J) else some (some (Value.int (0)), (sz, sl, sh, R, I, J))) :=
  tq ((E_ic_eq f0_1647)) (ite_c (tq ((E_iinc (x := l3) (x' := (6)) rfl rfl (by decide) f0_1652)) ((E_goto f0_1655))) (tq ((E_iconst (x := (0)) (by decide) f0_1650)) (tq (E_zret pr_0 f0_1651) (if_pos (by decide)))))
theorem n0 {X : XX} {d : Nat} {h : HP}  : ev X (d + 1) 0 [Value.retAddr 0] h = exe X d 0 0 [Value.retAddr 0, dm, dm, dm] [] h := ev_exe (Nat.le_of_ble_eq_true rfl)
theorem f1_0 : fr 1 0 = some (.aload 0, 1, [], []) := by decide +kernel
theorem f1_1 : fr 1 1 = some (.monitorexit, 3, [], []) := by decide +kernel
theorem f1_4 : fr 1 4 = some (.aload 0, 1, [], []) := by decide +kernel
theorem f1_5 : fr 1 5 = some (.iconst 40, 2, [], []) := by decide +kernel
theorem f1_7 : fr 1 7 = some (.anewarray 3, 3, [], []) := by decide +kernel
theorem f1_10 : fr 1 10 = some (.putfield 0, 3, [], []) := by decide +kernel
theorem f1_13 : fr 1 13 = some (.aload 0, 1, [], []) := by decide +kernel
theorem f1_14 : fr 1 14 = some (.new 4, 3, [], []) := by decide +kernel
theorem f1_17 : fr 1 17 = some (.dup, 1, [], []) := by decide +kernel
theorem f1_18 : fr 1 18 = some (.invokespecial 2, 3, [], []) := by decide +kernel
theorem f1_21 : fr 1 21 = some (.putfield 2, 3, [], []) := by decide +kernel
theorem f1_24 : fr 1 24 = some (.aload 0, 1, [], []) := by decide +kernel
theorem f1_25 : fr 1 25 = some (.iconst 4, 1, [], []) := by decide +kernel
theorem f1_26 : fr 1 26 = some (.anewarray 4, 3, [], []) := by decide +kernel
theorem f1_29 : fr 1 29 = some (.putfield 3, 3, [], []) := by decide +kernel
theorem f1_32 : fr 1 32 = some (.aload 0, 1, [], []) := by decide +kernel
theorem f1_33 : fr 1 33 = some (.iconst 10, 2, [], []) := by decide +kernel
theorem f1_35 : fr 1 35 = some (.anewarray 5, 3, [], []) := by decide +kernel
theorem f1_38 : fr 1 38 = some (.putfield 5, 3, [], []) := by decide +kernel
theorem f1_41 : fr 1 41 = some (.aload 0, 1, [], []) := by decide +kernel
theorem f1_42 : fr 1 42 = some (.new 6, 3, [], []) := by decide +kernel
theorem f1_45 : fr 1 45 = some (.dup, 1, [], []) := by decide +kernel
theorem f1_46 : fr 1 46 = some (.invokespecial 3, 3, [], []) := by decide +kernel
theorem f1_49 : fr 1 49 = some (.putfield 7, 3, [], []) := by decide +kernel
theorem f1_52 : fr 1 52 = some (.aload 0, 1, [], []) := by decide +kernel
theorem f1_53 : fr 1 53 = some (.new 5, 3, [], []) := by decide +kernel
theorem f1_56 : fr 1 56 = some (.dup, 1, [], []) := by decide +kernel
theorem f1_57 : fr 1 57 = some (.invokespecial 4, 3, [], []) := by decide +kernel
theorem f1_60 : fr 1 60 = some (.putfield 8, 3, [], []) := by decide +kernel
theorem f1_63 : fr 1 63 = some (.aload 0, 1, [], []) := by decide +kernel
theorem f1_64 : fr 1 64 = some (.new 2, 3, [], []) := by decide +kernel
theorem f1_67 : fr 1 67 = some (.dup, 1, [], []) := by decide +kernel
theorem f1_68 : fr 1 68 = some (.invokespecial 5, 3, [], []) := by decide +kernel
theorem f1_71 : fr 1 71 = some (.putfield 9, 3, [], []) := by decide +kernel
theorem f1_74 : fr 1 74 = some (.aload 0, 1, [], []) := by decide +kernel
theorem f1_75 : fr 1 75 = some (.new 1, 3, [], []) := by decide +kernel
theorem f1_78 : fr 1 78 = some (.dup, 1, [], []) := by decide +kernel
theorem f1_79 : fr 1 79 = some (.invokespecial 6, 3, [], []) := by decide +kernel
theorem f1_82 : fr 1 82 = some (.putfield 10, 3, [], []) := by decide +kernel
theorem f1_85 : fr 1 85 = some (.aload 0, 1, [], []) := by decide +kernel
theorem f1_86 : fr 1 86 = some (.new 10, 3, [], []) := by decide +kernel
theorem f1_89 : fr 1 89 = some (.dup, 1, [], []) := by decide +kernel
theorem f1_90 : fr 1 90 = some (.invokespecial 7, 3, [], []) := by decide +kernel
theorem f1_93 : fr 1 93 = some (.putfield 11, 3, [], []) := by decide +kernel
theorem f1_96 : fr 1 96 = some (.aload 0, 1, [], []) := by decide +kernel
theorem f1_97 : fr 1 97 = some (.iconst 6, 2, [], []) := by decide +kernel
theorem f1_99 : fr 1 99 = some (.anewarray 6, 3, [], []) := by decide +kernel
theorem f1_102 : fr 1 102 = some (.putfield 12, 3, [], []) := by decide +kernel
theorem f1_105 : fr 1 105 = some (.iconst 0, 1, [], []) := by decide +kernel
theorem f1_106 : fr 1 106 = some (.istore 1, 1, [], []) := by decide +kernel
theorem f1_107 : fr 1 107 = some (.iload 1, 1, [], []) := by decide +kernel
theorem f1_108 : fr 1 108 = some (.aload 0, 1, [], []) := by decide +kernel
theorem f1_109 : fr 1 109 = some (.getfield 12, 3, [], []) := by decide +kernel
theorem f1_112 : fr 1 112 = some (.arraylength, 1, [], []) := by decide +kernel
theorem f1_113 : fr 1 113 = some (.if_icmp .ge 135, 3, [], [0, 1]) := by decide +kernel
theorem f1_116 : fr 1 116 = some (.aload 0, 1, [], []) := by decide +kernel
theorem f1_117 : fr 1 117 = some (.getfield 12, 3, [], []) := by decide +kernel
theorem f1_120 : fr 1 120 = some (.iload 1, 1, [], []) := by decide +kernel
theorem f1_121 : fr 1 121 = some (.new 7, 3, [], []) := by decide +kernel
theorem f1_124 : fr 1 124 = some (.dup, 1, [], []) := by decide +kernel
theorem f1_125 : fr 1 125 = some (.invokespecial 8, 3, [], []) := by decide +kernel
theorem f1_128 : fr 1 128 = some (.aastore, 1, [], []) := by decide +kernel
theorem f1_129 : fr 1 129 = some (.iinc 1 1, 3, [], []) := by decide +kernel
theorem f1_132 : fr 1 132 = some (.goto 107, 3, [], []) := by decide +kernel
theorem f1_135 : fr 1 135 = some (.return_, 1, [], []) := by decide +kernel
theorem f2_0 : fr 2 0 = some (.aload 0, 1, [], []) := by decide +kernel
theorem f2_1 : fr 2 1 = some (.monitorexit, 3, [], []) := by decide +kernel
theorem f2_4 : fr 2 4 = some (.aload 0, 1, [], []) := by decide +kernel
theorem f2_5 : fr 2 5 = some (.iconst 120, 2, [], []) := by decide +kernel
theorem f2_7 : fr 2 7 = some (.newarray .int, 2, [], []) := by decide +kernel
theorem f2_9 : fr 2 9 = some (.putfield 4000, 3, [], []) := by decide +kernel
theorem f2_12 : fr 2 12 = some (.aload 0, 1, [0], []) := by decide +kernel
theorem f2_13 : fr 2 13 = some (.iconst 241, 3, [], []) := by decide +kernel
theorem f2_16 : fr 2 16 = some (.newarray .int, 2, [], []) := by decide +kernel
theorem f2_18 : fr 2 18 = some (.putfield 4001, 3, [], []) := by decide +kernel
theorem f2_21 : fr 2 21 = some (.return_, 1, [], []) := by decide +kernel
theorem f3_0 : fr 3 0 = some (.aload 0, 1, [], []) := by decide +kernel
theorem f3_1 : fr 3 1 = some (.monitorexit, 3, [], []) := by decide +kernel
theorem f3_4 : fr 3 4 = some (.aload 0, 1, [], []) := by decide +kernel
theorem f3_5 : fr 3 5 = some (.iconst 8, 2, [], []) := by decide +kernel
theorem f3_7 : fr 3 7 = some (.newarray .int, 2, [], []) := by decide +kernel
theorem f3_9 : fr 3 9 = some (.putfield 6000, 3, [], []) := by decide +kernel
theorem f3_12 : fr 3 12 = some (.aload 0, 1, [], []) := by decide +kernel
theorem f3_13 : fr 3 13 = some (.iconst 8, 2, [], []) := by decide +kernel
theorem f3_15 : fr 3 15 = some (.newarray .int, 2, [], []) := by decide +kernel
theorem f3_17 : fr 3 17 = some (.putfield 6001, 3, [], []) := by decide +kernel
theorem f3_20 : fr 3 20 = some (.aload 0, 1, [0], []) := by decide +kernel
theorem f3_21 : fr 3 21 = some (.iconst 8, 2, [], []) := by decide +kernel
theorem f3_23 : fr 3 23 = some (.newarray .int, 2, [], []) := by decide +kernel
theorem f3_25 : fr 3 25 = some (.putfield 6002, 3, [], []) := by decide +kernel
theorem f3_28 : fr 3 28 = some (.return_, 1, [], []) := by decide +kernel
theorem f4_0 : fr 4 0 = some (.aload 0, 1, [], []) := by decide +kernel
theorem f4_1 : fr 4 1 = some (.monitorexit, 3, [], []) := by decide +kernel
theorem f4_4 : fr 4 4 = some (.aload 0, 1, [], []) := by decide +kernel
theorem f4_5 : fr 4 5 = some (.iconst 256, 3, [], []) := by decide +kernel
theorem f4_8 : fr 4 8 = some (.newarray .long, 2, [], []) := by decide +kernel
theorem f4_10 : fr 4 10 = some (.putfield 5000, 3, [], []) := by decide +kernel
theorem f4_13 : fr 4 13 = some (.aload 0, 1, [], []) := by decide +kernel
theorem f4_14 : fr 4 14 = some (.iconst 256, 3, [], []) := by decide +kernel
theorem f4_17 : fr 4 17 = some (.newarray .long, 2, [], []) := by decide +kernel
theorem f4_19 : fr 4 19 = some (.putfield 5001, 3, [], []) := by decide +kernel
theorem f4_22 : fr 4 22 = some (.aload 0, 1, [0], []) := by decide +kernel
theorem f4_23 : fr 4 23 = some (.iconst 256, 3, [], []) := by decide +kernel
theorem f4_26 : fr 4 26 = some (.newarray .long, 2, [], []) := by decide +kernel
theorem f4_28 : fr 4 28 = some (.putfield 5002, 3, [], []) := by decide +kernel
theorem f4_31 : fr 4 31 = some (.return_, 1, [], []) := by decide +kernel
theorem f5_0 : fr 5 0 = some (.aload 0, 1, [], []) := by decide +kernel
theorem f5_1 : fr 5 1 = some (.monitorexit, 3, [], []) := by decide +kernel
theorem f5_4 : fr 5 4 = some (.aload 0, 1, [0], []) := by decide +kernel
theorem f5_5 : fr 5 5 = some (.iconst 30, 2, [], []) := by decide +kernel
theorem f5_7 : fr 5 7 = some (.newarray .int, 2, [], []) := by decide +kernel
theorem f5_9 : fr 5 9 = some (.putfield 2000, 3, [], []) := by decide +kernel
theorem f5_12 : fr 5 12 = some (.return_, 1, [], []) := by decide +kernel
theorem f6_0 : fr 6 0 = some (.aload 0, 1, [], []) := by decide +kernel
theorem f6_1 : fr 6 1 = some (.monitorexit, 3, [], []) := by decide +kernel
theorem f6_4 : fr 6 4 = some (.aload 0, 1, [], []) := by decide +kernel
theorem f6_5 : fr 6 5 = some (.iconst 40, 2, [], []) := by decide +kernel
theorem f6_7 : fr 6 7 = some (.newarray .int, 2, [], []) := by decide +kernel
theorem f6_9 : fr 6 9 = some (.putfield 1000, 3, [], []) := by decide +kernel
theorem f6_12 : fr 6 12 = some (.aload 0, 1, [], []) := by decide +kernel
theorem f6_13 : fr 6 13 = some (.iconst 40, 2, [], []) := by decide +kernel
theorem f6_15 : fr 6 15 = some (.newarray .int, 2, [], []) := by decide +kernel
theorem f6_17 : fr 6 17 = some (.putfield 1001, 3, [], []) := by decide +kernel
theorem f6_20 : fr 6 20 = some (.aload 0, 1, [0], []) := by decide +kernel
theorem f6_21 : fr 6 21 = some (.iconst 40, 2, [], []) := by decide +kernel
theorem f6_23 : fr 6 23 = some (.newarray .int, 2, [], []) := by decide +kernel
theorem f6_25 : fr 6 25 = some (.putfield 1002, 3, [], []) := by decide +kernel
theorem f6_28 : fr 6 28 = some (.return_, 1, [], []) := by decide +kernel
theorem f7_0 : fr 7 0 = some (.aload 0, 1, [], []) := by decide +kernel
theorem f7_1 : fr 7 1 = some (.monitorexit, 3, [], []) := by decide +kernel
theorem f7_4 : fr 7 4 = some (.aload 0, 1, [], []) := by decide +kernel
theorem f7_5 : fr 7 5 = some (.iconst 50, 2, [], []) := by decide +kernel
theorem f7_7 : fr 7 7 = some (.newarray .int, 2, [], []) := by decide +kernel
theorem f7_9 : fr 7 9 = some (.putfield 10000, 3, [], []) := by decide +kernel
theorem f7_12 : fr 7 12 = some (.aload 0, 1, [0], []) := by decide +kernel
theorem f7_13 : fr 7 13 = some (.iconst 24, 2, [], []) := by decide +kernel
theorem f7_15 : fr 7 15 = some (.newarray .int, 2, [], []) := by decide +kernel
theorem f7_17 : fr 7 17 = some (.putfield 10001, 3, [], []) := by decide +kernel
theorem f7_20 : fr 7 20 = some (.return_, 1, [], []) := by decide +kernel
theorem f8_0 : fr 8 0 = some (.aload 0, 1, [], []) := by decide +kernel
theorem f8_1 : fr 8 1 = some (.monitorexit, 3, [], []) := by decide +kernel
theorem f8_4 : fr 8 4 = some (.aload 0, 1, [], []) := by decide +kernel
theorem f8_5 : fr 8 5 = some (.iconst 60, 2, [], []) := by decide +kernel
theorem f8_7 : fr 8 7 = some (.newarray .long, 2, [], []) := by decide +kernel
theorem f8_9 : fr 8 9 = some (.putfield 7000, 3, [], []) := by decide +kernel
theorem f8_12 : fr 8 12 = some (.aload 0, 1, [0], []) := by decide +kernel
theorem f8_13 : fr 8 13 = some (.iconst 0, 1, [], []) := by decide +kernel
theorem f8_14 : fr 8 14 = some (.putfield 7001, 3, [], []) := by decide +kernel
theorem f8_17 : fr 8 17 = some (.return_, 1, [], []) := by decide +kernel
theorem f9_0 : fr 9 0 = some (.iload 1, 1, [], []) := by decide +kernel
theorem f9_1 : fr 9 1 = some (.iconst 10, 2, [], []) := by decide +kernel
theorem f9_3 : fr 9 3 = some (.idiv, 1, [], []) := by decide +kernel
theorem f9_4 : fr 9 4 = some (.istore 4, 2, [], []) := by decide +kernel
theorem f9_6 : fr 9 6 = some (.iload 1, 1, [], []) := by decide +kernel
theorem f9_7 : fr 9 7 = some (.iconst 10, 2, [], []) := by decide +kernel
theorem f9_9 : fr 9 9 = some (.irem, 1, [], []) := by decide +kernel
theorem f9_10 : fr 9 10 = some (.istore 5, 2, [], []) := by decide +kernel
theorem f9_12 : fr 9 12 = some (.iload 1, 1, [1], []) := by decide +kernel
theorem f9_13 : fr 9 13 = some (.ifCond .lt 50, 3, [], [0, 2, 3, 4, 5]) := by decide +kernel
theorem f9_16 : fr 9 16 = some (.iload 4, 2, [], []) := by decide +kernel
theorem f9_18 : fr 9 18 = some (.iconst 1, 1, [], []) := by decide +kernel
theorem f9_19 : fr 9 19 = some (.iconst 9, 2, [], []) := by decide +kernel
theorem f9_21 : fr 9 21 = some (.invokestatic 10, 3, [], []) := by decide +kernel
theorem f9_24 : fr 9 24 = some (.ifCond .eq 50, 3, [], [0, 2, 3, 4, 5]) := by decide +kernel
theorem f9_27 : fr 9 27 = some (.iload 5, 2, [], []) := by decide +kernel
theorem f9_29 : fr 9 29 = some (.iconst 1, 1, [], []) := by decide +kernel
theorem f9_30 : fr 9 30 = some (.if_icmp .gt 50, 3, [], [0, 2, 3, 4, 5]) := by decide +kernel
theorem f9_33 : fr 9 33 = some (.iload 2, 1, [], []) := by decide +kernel
theorem f9_34 : fr 9 34 = some (.invokestatic 11, 3, [], []) := by decide +kernel
theorem f9_37 : fr 9 37 = some (.ifCond .eq 50, 3, [], [0, 2, 3, 4, 5]) := by decide +kernel
theorem f9_40 : fr 9 40 = some (.iload 3, 1, [], []) := by decide +kernel
theorem f9_41 : fr 9 41 = some (.iconst 1, 1, [], []) := by decide +kernel
theorem f9_42 : fr 9 42 = some (.iconst 99, 2, [], []) := by decide +kernel
theorem f9_44 : fr 9 44 = some (.invokestatic 10, 3, [], []) := by decide +kernel
theorem f9_47 : fr 9 47 = some (.ifCond .ne 52, 3, [0, 2, 3, 4, 5], []) := by decide +kernel
theorem f9_50 : fr 9 50 = some (.iconst (-1), 1, [], []) := by decide +kernel
theorem f9_51 : fr 9 51 = some (.ireturn, 1, [], []) := by decide +kernel
theorem f9_52 : fr 9 52 = some (.aload 0, 1, [], []) := by decide +kernel
theorem f9_53 : fr 9 53 = some (.getfield 1, 3, [], []) := by decide +kernel
theorem f9_56 : fr 9 56 = some (.aload 0, 1, [], []) := by decide +kernel
theorem f9_57 : fr 9 57 = some (.getfield 0, 3, [], []) := by decide +kernel
theorem f9_60 : fr 9 60 = some (.arraylength, 1, [], []) := by decide +kernel
theorem f9_61 : fr 9 61 = some (.if_icmp .lt 67, 3, [0, 2, 3, 4, 5], []) := by decide +kernel
theorem f9_64 : fr 9 64 = some (.iconst (-3), 2, [], []) := by decide +kernel
theorem f9_66 : fr 9 66 = some (.ireturn, 1, [], []) := by decide +kernel
theorem f9_67 : fr 9 67 = some (.aload 0, 1, [], []) := by decide +kernel
theorem f9_68 : fr 9 68 = some (.getfield 0, 3, [], []) := by decide +kernel
theorem f9_71 : fr 9 71 = some (.aload 0, 1, [], []) := by decide +kernel
theorem f9_72 : fr 9 72 = some (.getfield 1, 3, [], []) := by decide +kernel
theorem f9_75 : fr 9 75 = some (.new 8, 3, [], []) := by decide +kernel
theorem f9_78 : fr 9 78 = some (.dup, 1, [], []) := by decide +kernel
theorem f9_79 : fr 9 79 = some (.aload 0, 1, [], []) := by decide +kernel
theorem f9_80 : fr 9 80 = some (.aload 0, 1, [], []) := by decide +kernel
theorem f9_81 : fr 9 81 = some (.getfield 1, 3, [], []) := by decide +kernel
theorem f9_84 : fr 9 84 = some (.iconst 1, 1, [], []) := by decide +kernel
theorem f9_85 : fr 9 85 = some (.isub, 1, [], []) := by decide +kernel
theorem f9_86 : fr 9 86 = some (.invokevirtual 12, 3, [], []) := by decide +kernel
theorem f9_89 : fr 9 89 = some (.iload 4, 2, [4], []) := by decide +kernel
theorem f9_91 : fr 9 91 = some (.iload 5, 2, [5], []) := by decide +kernel
theorem f9_93 : fr 9 93 = some (.iload 2, 1, [2], []) := by decide +kernel
theorem f9_94 : fr 9 94 = some (.iload 3, 1, [3], []) := by decide +kernel
theorem f9_95 : fr 9 95 = some (.invokespecial 13, 3, [], []) := by decide +kernel
theorem f9_98 : fr 9 98 = some (.aastore, 1, [], []) := by decide +kernel
theorem f9_99 : fr 9 99 = some (.aload 0, 1, [0], []) := by decide +kernel
theorem f9_100 : fr 9 100 = some (.dup, 1, [], []) := by decide +kernel
theorem f9_101 : fr 9 101 = some (.getfield 1, 3, [], []) := by decide +kernel
theorem f9_104 : fr 9 104 = some (.dup_x1, 1, [], []) := by decide +kernel
theorem f9_105 : fr 9 105 = some (.iconst 1, 1, [], []) := by decide +kernel
theorem f9_106 : fr 9 106 = some (.iadd, 1, [], []) := by decide +kernel
theorem f9_107 : fr 9 107 = some (.putfield 1, 3, [], []) := by decide +kernel
theorem f9_110 : fr 9 110 = some (.ireturn, 1, [], []) := by decide +kernel
theorem t9_0 {X : XX} {d : Nat} {sz sl : Nat} {sh : Nat → Nat × Nat} {R : Nat → Nat → Option Nat} {I : Nat → Nat → Int32} {J : Nat → Nat → Int64} {l1 : Int32} {l2 : Int32} {l3 : Int32} : exe X d 9 0 [Value.ref 0, Value.int l1, Value.int l2, Value.int l3, dm, dm] [] (sz, sl, sh, R, I, J) =
    (if l1 < 0 then some (some (Value.int (-1)), (sz, sl, sh, R, I, J)) else ((ev X d 10 [Value.int (l1 / (10)), Value.int (1), Value.int (9)] (sz, sl, sh, R, I, J)).bind fun q => exe X d 9 24 [Value.ref 0, dm, Value.int l2, Value.int l3, Value.int (l1 / (10)), Value.int (l1 - l1 / (10) * (10))] (q.1.toList ++ []) q.2)) :=
  tq ((E_iload (x := l1) rfl f9_0)) (tq ((E_iconst (x := (10)) (by decide) f9_1)) (tq ((E_idiv (by decide) f9_3)) (tq ((E_istore rfl f9_4)) (tq ((E_iload (x := l1) rfl f9_6)) (tq ((E_iconst (x := (10)) (by decide) f9_7)) (tq ((E_irem (by decide) f9_9)) (tq ((E_istore rfl f9_10)) (tq ((E_iload (x := l1) rfl f9_12)) (tq ((E_if_lt f9_13)) (ite_c (tq ((E_iconst (x := (-1)) (by decide) f9_50)) ((E_iret pr_9 f9_51))) (tq ((E_iload (x := (l1 / (10))) rfl f9_16)) (tq ((E_iconst (x := (1)) (by decide) f9_18)) (tq ((E_iconst (x := (9)) (by decide) f9_19)) ((E_callS pn_10 rfl rfl (Nat.le_of_ble_eq_true rfl) (Nat.le_of_ble_eq_true rfl) f9_21)))))))))))))))
theorem t9_24 {X : XX} {d : Nat} {sz sl : Nat} {sh : Nat → Nat × Nat} {R : Nat → Nat → Option Nat} {I : Nat → Nat → Int32} {J : Nat → Nat → Int64} {l2 : Int32} {l3 : Int32} {l4 : Int32} {l5 : Int32} {s0 : Int32} : exe X d 9 24 [Value.ref 0, dm, Value.int l2, Value.int l3, Value.int l4, Value.int l5] [Value.int s0] (sz, sl, sh, R, I, J) =
    (if s0 = 0 then some (some (Value.int (-1)), (sz, sl, sh, R, I, J)) else (if (1) < l5 then some (some (Value.int (-1)), (sz, sl, sh, R, I, J)) else ((ev X d 11 [Value.int l2] (sz, sl, sh, R, I, J)).bind fun q => exe X d 9 37 [Value.ref 0, dm, Value.int l2, Value.int l3, Value.int l4, Value.int l5] (q.1.toList ++ []) q.2))) :=
  tq ((E_if_eq f9_24)) (ite_c (tq ((E_iconst (x := (-1)) (by decide) f9_50)) ((E_iret pr_9 f9_51))) (tq ((E_iload (x := l5) rfl f9_27)) (tq ((E_iconst (x := (1)) (by decide) f9_29)) (tq ((E_ic_gt f9_30)) (ite_c (tq ((E_iconst (x := (-1)) (by decide) f9_50)) ((E_iret pr_9 f9_51))) (tq ((E_iload (x := l2) rfl f9_33)) ((E_callS pn_11 rfl rfl (Nat.le_of_ble_eq_true rfl) (Nat.le_of_ble_eq_true rfl) f9_34))))))))
theorem t9_37 {X : XX} {d : Nat} {sz sl : Nat} {sh : Nat → Nat × Nat} {R : Nat → Nat → Option Nat} {I : Nat → Nat → Int32} {J : Nat → Nat → Int64} {l2 : Int32} {l3 : Int32} {l4 : Int32} {l5 : Int32} {s0 : Int32} : exe X d 9 37 [Value.ref 0, dm, Value.int l2, Value.int l3, Value.int l4, Value.int l5] [Value.int s0] (sz, sl, sh, R, I, J) =
    (if s0 = 0 then some (some (Value.int (-1)), (sz, sl, sh, R, I, J)) else ((ev X d 10 [Value.int l3, Value.int (1), Value.int (99)] (sz, sl, sh, R, I, J)).bind fun q => exe X d 9 47 [Value.ref 0, dm, Value.int l2, Value.int l3, Value.int l4, Value.int l5] (q.1.toList ++ []) q.2)) :=
  tq ((E_if_eq f9_37)) (ite_c (tq ((E_iconst (x := (-1)) (by decide) f9_50)) ((E_iret pr_9 f9_51))) (tq ((E_iload (x := l3) rfl f9_40)) (tq ((E_iconst (x := (1)) (by decide) f9_41)) (tq ((E_iconst (x := (99)) (by decide) f9_42)) ((E_callS pn_10 rfl rfl (Nat.le_of_ble_eq_true rfl) (Nat.le_of_ble_eq_true rfl) f9_44))))))
theorem t9_47 {X : XX} {d : Nat} {sz sl : Nat} {sh : Nat → Nat × Nat} {R : Nat → Nat → Option Nat} {I : Nat → Nat → Int32} {J : Nat → Nat → Int64} (hS : SF sh R) {l2 : Int32} {l3 : Int32} {l4 : Int32} {l5 : Int32} {s0 : Int32} : exe X d 9 47 [Value.ref 0, dm, Value.int l2, Value.int l3, Value.int l4, Value.int l5] [Value.int s0] (sz, sl, sh, R, I, J) =
    (if ¬ s0 = 0 then (if (I 0 1) < (40) then exe X d 9 78 [Value.ref 0, dm, Value.int l2, Value.int l3, Value.int l4, Value.int l5] [Value.ref sz, Value.int (I 0 1), Value.ref 1] ((sz + 1), (sl + 8), (ur sh sz (15, 0)), (ur R sz (fun _ => none)), (ur I sz (fun _ => 0)), (ur J sz (fun _ => 0))) else some (some (Value.int (-3)), (sz, sl, sh, R, I, J))) else some (some (Value.int (-1)), (sz, sl, sh, R, I, J))) :=
  tq ((E_if_ne f9_47)) (ite_c (tq ((E_aload (v := Value.ref 0) rfl rfl f9_52)) (tq (tq ((G1 f9_53)) (if_pos (zS0 hS))) (tq ((E_aload (v := Value.ref 0) rfl rfl f9_56)) (tq (tq ((G0 f9_57)) (if_pos (zS0 hS))) (tq (exe_R (zR0_0 hS)) (tq (tq (E_len f9_60) (ite_len (m := 40) (A := fun m => exe X d 9 61 [Value.ref 0, dm, Value.int l2, Value.int l3, Value.int l4, Value.int l5] (.int (Int32.ofNat m) :: [Value.int (I 0 1)]) (sz, sl, sh, R, I, J)) (zS1 hS) (by decide))) (tq ((E_ic_lt f9_61)) (ite_c (tq ((E_aload (v := Value.ref 0) rfl rfl f9_67)) (tq (tq ((G0 f9_68)) (if_pos (zS0 hS))) (tq (exe_R (zR0_0 hS)) (tq ((E_aload (v := Value.ref 0) rfl rfl f9_71)) (tq (tq ((G1 f9_72)) (if_pos (zS0 hS))) ((E_new (by decide +kernel) f9_75))))))) (tq ((E_iconst (x := (-3)) (by decide) f9_64)) ((E_iret pr_9 f9_66))))))))))) (tq ((E_iconst (x := (-1)) (by decide) f9_50)) ((E_iret pr_9 f9_51))))
theorem t9_78 {X : XX} {d : Nat} {sz sl : Nat} {sh : Nat → Nat × Nat} {R : Nat → Nat → Option Nat} {I : Nat → Nat → Int32} {J : Nat → Nat → Int64} (hS : SF sh R) {l2 : Int32} {l3 : Int32} {l4 : Int32} {l5 : Int32} {s0 : Value} (k0 : isB s0 = true) {s1 : Int32} {s2 : Value} (k2 : isB s2 = true) : exe X d 9 78 [Value.ref 0, dm, Value.int l2, Value.int l3, Value.int l4, Value.int l5] [s0, Value.int s1, s2] (sz, sl, sh, R, I, J) =
    ((ev X d 12 [Value.ref 0, Value.int ((I 0 1) - (1))] (sz, sl, sh, R, I, J)).bind fun q => exe X d 9 89 [Value.ref 0, dm, Value.int l2, Value.int l3, Value.int l4, Value.int l5] (q.1.toList ++ [s0, s0, Value.int s1, s2]) q.2) :=
  tq ((E_dup (catB k0) f9_78)) (tq ((E_aload (v := Value.ref 0) rfl rfl f9_79)) (tq ((E_aload (v := Value.ref 0) rfl rfl f9_80)) (tq (tq ((G1 f9_81)) (if_pos (zS0 hS))) (tq ((E_iconst (x := (1)) (by decide) f9_84)) (tq ((E_isub f9_85)) ((tq ((E_callV pn_12 pc_12 rfl rfl (by simp [cats, cat_i, cat_l, cat_r, catB k0, catB k0, catB k2]) f9_86)) (if_pos (zS0 hS)))))))))
theorem t9_89 {X : XX} {d : Nat} {sz sl : Nat} {sh : Nat → Nat × Nat} {R : Nat → Nat → Option Nat} {I : Nat → Nat → Int32} {J : Nat → Nat → Int64} {l2 : Int32} {l3 : Int32} {l4 : Int32} {l5 : Int32} {s0 : Value} (k0 : isB s0 = true) {s1 : Value} (k1 : isB s1 = true) {s2 : Value} (k2 : isB s2 = true) {s3 : Int32} {s4 : Value} (k4 : isB s4 = true) : exe X d 9 89 [Value.ref 0, dm, Value.int l2, Value.int l3, Value.int l4, Value.int l5] [s0, s1, s2, Value.int s3, s4] (sz, sl, sh, R, I, J) =
    (rf (s1) fun p1 => if sh p1 = (15, 0) then ((ev X d 13 [Value.ref p1, s0, Value.int l4, Value.int l5, Value.int l2, Value.int l3] (sz, sl, sh, R, I, J)).bind fun q => exe X d 9 98 [Value.ref 0, dm, dm, dm, dm, dm] (q.1.toList ++ [s2, Value.int s3, s4]) q.2) else none) :=
  tq ((E_iload (x := l4) rfl f9_89)) (tq ((E_iload (x := l5) rfl f9_91)) (tq ((E_iload (x := l2) rfl f9_93)) (tq ((E_iload (x := l3) rfl f9_94)) ((E_callI pn_13 pc_13 rfl rfl (by simp [cats, cat_i, cat_l, cat_r, catB k2, catB k4]) f9_95)))))
theorem t9_98 {X : XX} {d : Nat} {sz sl : Nat} {sh : Nat → Nat × Nat} {R : Nat → Nat → Option Nat} {I : Nat → Nat → Int32} {J : Nat → Nat → Int64} {s0 : Value} (k0 : isB s0 = true) {s1 : Int32} {s2 : Value} (k2 : isB s2 = true) : exe X d 9 98 [Value.ref 0, dm, dm, dm, dm, dm] [s0, Value.int s1, s2] (sz, sl, sh, R, I, J) =
    (rf (s2) fun p1 => (rf (s0) fun p2 => (if ((3 ≤ (sh p1).1 ∧ (sh p1).1 < 7) ∧ inb s1 (sh p1).2) ∧ sh p2 = (tcl (sh p1).1 + 7, 0) then exe X d 9 99 [Value.ref 0, dm, dm, dm, dm, dm] [] (sz, sl, sh, (u2 R p1 s1.toNatClampNeg (some p2)), I, J) else none))) :=
  (E_aast f9_98)
theorem t9_99 {X : XX} {d : Nat} {sz sl : Nat} {sh : Nat → Nat × Nat} {R : Nat → Nat → Option Nat} {I : Nat → Nat → Int32} {J : Nat → Nat → Int64} (hS : SF sh R)  : exe X d 9 99 [Value.ref 0, dm, dm, dm, dm, dm] [] (sz, sl, sh, R, I, J) =
    some (some (Value.int (I 0 1)), (sz, sl, sh, R, (u2 I 0 1 ((I 0 1) + (1))), J)) :=
  tq ((E_aload (v := Value.ref 0) rfl rfl f9_99)) (tq ((E_dup rfl f9_100)) (tq (tq ((G1 f9_101)) (if_pos (zS0 hS))) (tq ((E_dup_x1 rfl rfl f9_104)) (tq ((E_iconst (x := (1)) (by decide) f9_105)) (tq ((E_iadd f9_106)) (tq (tq ((P1 f9_107)) (if_pos (zS0 hS))) ((E_iret pr_9 f9_110))))))))
theorem n9 {X : XX} {d : Nat} {h : HP} {a0 : Int32} {a1 : Int32} {a2 : Int32} : ev X (d + 1) 9 [Value.ref 0, Value.int a0, Value.int a1, Value.int a2] h = exe X d 9 0 [Value.ref 0, Value.int a0, Value.int a1, Value.int a2, dm, dm] [] h := ev_exe (Nat.le_of_ble_eq_true rfl)
theorem f10_0 : fr 10 0 = some (.iload 0, 1, [], []) := by decide +kernel
theorem f10_1 : fr 10 1 = some (.iload 1, 1, [1], []) := by decide +kernel
theorem f10_2 : fr 10 2 = some (.if_icmp .lt 14, 3, [], [0, 2]) := by decide +kernel
theorem f10_5 : fr 10 5 = some (.iload 0, 1, [0], []) := by decide +kernel
theorem f10_6 : fr 10 6 = some (.iload 2, 1, [2], []) := by decide +kernel
theorem f10_7 : fr 10 7 = some (.if_icmp .gt 14, 3, [], []) := by decide +kernel
theorem f10_10 : fr 10 10 = some (.iconst 1, 1, [], []) := by decide +kernel
theorem f10_11 : fr 10 11 = some (.goto 15, 3, [], []) := by decide +kernel
theorem f10_14 : fr 10 14 = some (.iconst 0, 1, [], []) := by decide +kernel
theorem f10_15 : fr 10 15 = some (.ireturn, 1, [], []) := by decide +kernel
theorem t10_0 {X : XX} {d : Nat} {sz sl : Nat} {sh : Nat → Nat × Nat} {R : Nat → Nat → Option Nat} {I : Nat → Nat → Int32} {J : Nat → Nat → Int64} {l0 : Int32} {l1 : Int32} {l2 : Int32} : exe X d 10 0 [Value.int l0, Value.int l1, Value.int l2] [] (sz, sl, sh, R, I, J) =
    (if l0 < l1 then some (some (Value.int (0)), (sz, sl, sh, R, I, J)) else (if l2 < l0 then some (some (Value.int (0)), (sz, sl, sh, R, I, J)) else some (some (Value.int (1)), (sz, sl, sh, R, I, J)))) :=
  tq ((E_iload (x := l0) rfl f10_0)) (tq ((E_iload (x := l1) rfl f10_1)) (tq ((E_ic_lt f10_2)) (ite_c (tq ((E_iconst (x := (0)) (by decide) f10_14)) (tq (E_zret pr_10 f10_15) (if_pos (by decide)))) (tq ((E_iload (x := l0) rfl f10_5)) (tq ((E_iload (x := l2) rfl f10_6)) (tq ((E_ic_gt f10_7)) (ite_c (tq ((E_iconst (x := (0)) (by decide) f10_14)) (tq (E_zret pr_10 f10_15) (if_pos (by decide)))) (tq ((E_iconst (x := (1)) (by decide) f10_10)) (tq ((E_goto f10_11)) (tq (E_zret pr_10 f10_15) (if_pos (by decide))))))))))))
theorem n10 {X : XX} {d : Nat} {h : HP} {a0 : Int32} {a1 : Int32} {a2 : Int32} : ev X (d + 1) 10 [Value.int a0, Value.int a1, Value.int a2] h = exe X d 10 0 [Value.int a0, Value.int a1, Value.int a2] [] h := ev_exe (Nat.le_of_ble_eq_true rfl)
theorem f11_0 : fr 11 0 = some (.iload 0, 1, [0], []) := by decide +kernel
theorem f11_1 : fr 11 1 = some (.iconst 0, 1, [], []) := by decide +kernel
theorem f11_2 : fr 11 2 = some (.iconst 2000, 3, [], []) := by decide +kernel
theorem f11_5 : fr 11 5 = some (.invokestatic 10, 3, [], []) := by decide +kernel
theorem f11_8 : fr 11 8 = some (.ireturn, 1, [], []) := by decide +kernel
theorem t11_0 {X : XX} {d : Nat} {sz sl : Nat} {sh : Nat → Nat × Nat} {R : Nat → Nat → Option Nat} {I : Nat → Nat → Int32} {J : Nat → Nat → Int64} {l0 : Int32} : exe X d 11 0 [Value.int l0] [] (sz, sl, sh, R, I, J) =
    ((ev X d 10 [Value.int l0, Value.int (0), Value.int (2000)] (sz, sl, sh, R, I, J)).bind fun q => exe X d 11 8 [dm] (q.1.toList ++ []) q.2) :=
  tq ((E_iload (x := l0) rfl f11_0)) (tq ((E_iconst (x := (0)) (by decide) f11_1)) (tq ((E_iconst (x := (2000)) (by decide) f11_2)) ((E_callS pn_10 rfl rfl (Nat.le_of_ble_eq_true rfl) (Nat.le_of_ble_eq_true rfl) f11_5))))
theorem t11_8 {X : XX} {d : Nat} {sz sl : Nat} {sh : Nat → Nat × Nat} {R : Nat → Nat → Option Nat} {I : Nat → Nat → Int32} {J : Nat → Nat → Int64} {s0 : Int32} : exe X d 11 8 [dm] [Value.int s0] (sz, sl, sh, R, I, J) =
    (if s0 = 0 ∨ s0 = 1 then some (some (Value.int s0), (sz, sl, sh, R, I, J)) else none) :=
  (E_zret pr_11 f11_8)
theorem n11 {X : XX} {d : Nat} {h : HP} {a0 : Int32} : ev X (d + 1) 11 [Value.int a0] h = exe X d 11 0 [Value.int a0] [] h := ev_exe (Nat.le_of_ble_eq_true rfl)
theorem f12_0 : fr 12 0 = some (.iload 1, 1, [], []) := by decide +kernel
theorem f12_1 : fr 12 1 = some (.iconst 0, 1, [], []) := by decide +kernel
theorem f12_2 : fr 12 2 = some (.aload 0, 1, [], []) := by decide +kernel
theorem f12_3 : fr 12 3 = some (.getfield 1, 3, [], []) := by decide +kernel
theorem f12_6 : fr 12 6 = some (.iconst 1, 1, [], []) := by decide +kernel
theorem f12_7 : fr 12 7 = some (.isub, 1, [], []) := by decide +kernel
theorem f12_8 : fr 12 8 = some (.invokestatic 10, 3, [], []) := by decide +kernel
theorem f12_11 : fr 12 11 = some (.ifCond .eq 32, 3, [], [0, 1]) := by decide +kernel
theorem f12_14 : fr 12 14 = some (.iload 1, 1, [], []) := by decide +kernel
theorem f12_15 : fr 12 15 = some (.aload 0, 1, [], []) := by decide +kernel
theorem f12_16 : fr 12 16 = some (.getfield 0, 3, [], []) := by decide +kernel
theorem f12_19 : fr 12 19 = some (.arraylength, 1, [], []) := by decide +kernel
theorem f12_20 : fr 12 20 = some (.if_icmp .ge 32, 3, [], [0, 1]) := by decide +kernel
theorem f12_23 : fr 12 23 = some (.aload 0, 1, [0], []) := by decide +kernel
theorem f12_24 : fr 12 24 = some (.getfield 0, 3, [], []) := by decide +kernel
theorem f12_27 : fr 12 27 = some (.iload 1, 1, [1], []) := by decide +kernel
theorem f12_28 : fr 12 28 = some (.aaload, 1, [], []) := by decide +kernel
theorem f12_29 : fr 12 29 = some (.goto 33, 3, [], []) := by decide +kernel
theorem f12_32 : fr 12 32 = some (.aconst_null, 1, [], []) := by decide +kernel
theorem f12_33 : fr 12 33 = some (.areturn, 1, [], []) := by decide +kernel
theorem t12_0 {X : XX} {d : Nat} {sz sl : Nat} {sh : Nat → Nat × Nat} {R : Nat → Nat → Option Nat} {I : Nat → Nat → Int32} {J : Nat → Nat → Int64} (hS : SF sh R) {l1 : Int32} : exe X d 12 0 [Value.ref 0, Value.int l1] [] (sz, sl, sh, R, I, J) =
    ((ev X d 10 [Value.int l1, Value.int (0), Value.int ((I 0 1) - (1))] (sz, sl, sh, R, I, J)).bind fun q => exe X d 12 11 [Value.ref 0, Value.int l1] (q.1.toList ++ []) q.2) :=
  tq ((E_iload (x := l1) rfl f12_0)) (tq ((E_iconst (x := (0)) (by decide) f12_1)) (tq ((E_aload (v := Value.ref 0) rfl rfl f12_2)) (tq (tq ((G1 f12_3)) (if_pos (zS0 hS))) (tq ((E_iconst (x := (1)) (by decide) f12_6)) (tq ((E_isub f12_7)) ((E_callS pn_10 rfl rfl (Nat.le_of_ble_eq_true rfl) (Nat.le_of_ble_eq_true rfl) f12_8)))))))
theorem t12_11 {X : XX} {d : Nat} {sz sl : Nat} {sh : Nat → Nat × Nat} {R : Nat → Nat → Option Nat} {I : Nat → Nat → Int32} {J : Nat → Nat → Int64} (hS : SF sh R) {l1 : Int32} {s0 : Int32} : exe X d 12 11 [Value.ref 0, Value.int l1] [Value.int s0] (sz, sl, sh, R, I, J) =
    (if s0 = 0 then some (some (Value.null), (sz, sl, sh, R, I, J)) else (if (40) ≤ l1 then some (some (Value.null), (sz, sl, sh, R, I, J)) else (if inb l1 40 then some (some ((rfv (R 1 l1.toNatClampNeg))), (sz, sl, sh, R, I, J)) else none))) :=
  tq ((E_if_eq f12_11)) (ite_c (tq ((E_null f12_32)) (tq (E_aret pr_12 f12_33) (if_pos rfl))) (tq ((E_iload (x := l1) rfl f12_14)) (tq ((E_aload (v := Value.ref 0) rfl rfl f12_15)) (tq (tq ((G0 f12_16)) (if_pos (zS0 hS))) (tq (exe_R (zR0_0 hS)) (tq (tq (E_len f12_19) (ite_len (m := 40) (A := fun m => exe X d 12 20 [Value.ref 0, Value.int l1] (.int (Int32.ofNat m) :: [Value.int l1]) (sz, sl, sh, R, I, J)) (zS1 hS) (by decide))) (tq ((E_ic_ge f12_20)) (ite_c (tq ((E_null f12_32)) (tq (E_aret pr_12 f12_33) (if_pos rfl))) (tq ((E_aload (v := Value.ref 0) rfl rfl f12_23)) (tq (tq ((G0 f12_24)) (if_pos (zS0 hS))) (tq (exe_R (zR0_0 hS)) (tq ((E_iload (x := l1) rfl f12_27)) (tq (tq ((E_aald f12_28)) (ite_aq (zS1 hS) (by decide))) (ite_c (tq ((E_goto f12_29)) (tq (E_aret pr_12 f12_33) (if_pos (isB_rfv _)))) rfl))))))))))))))
theorem n12 {X : XX} {d : Nat} {h : HP} {a0 : Int32} : ev X (d + 1) 12 [Value.ref 0, Value.int a0] h = exe X d 12 0 [Value.ref 0, Value.int a0] [] h := ev_exe (Nat.le_of_ble_eq_true rfl)
theorem f13_0 : fr 13 0 = some (.aload 0, 1, [], []) := by decide +kernel
theorem f13_1 : fr 13 1 = some (.monitorexit, 3, [], []) := by decide +kernel
theorem f13_4 : fr 13 4 = some (.aload 0, 1, [], []) := by decide +kernel
theorem f13_5 : fr 13 5 = some (.iconst 8, 2, [], []) := by decide +kernel
theorem f13_7 : fr 13 7 = some (.newarray .int, 2, [], []) := by decide +kernel
theorem f13_9 : fr 13 9 = some (.putfield 8006, 3, [], []) := by decide +kernel
theorem f13_12 : fr 13 12 = some (.aload 0, 1, [], []) := by decide +kernel
theorem f13_13 : fr 13 13 = some (.iconst 8, 2, [], []) := by decide +kernel
theorem f13_15 : fr 13 15 = some (.newarray .int, 2, [], []) := by decide +kernel
theorem f13_17 : fr 13 17 = some (.putfield 8007, 3, [], []) := by decide +kernel
theorem f13_20 : fr 13 20 = some (.aload 0, 1, [], []) := by decide +kernel
theorem f13_21 : fr 13 21 = some (.aload 1, 1, [1], []) := by decide +kernel
theorem f13_22 : fr 13 22 = some (.putfield 8000, 3, [], []) := by decide +kernel
theorem f13_25 : fr 13 25 = some (.aload 0, 1, [], []) := by decide +kernel
theorem f13_26 : fr 13 26 = some (.iload 2, 1, [2], []) := by decide +kernel
theorem f13_27 : fr 13 27 = some (.putfield 8002, 3, [], []) := by decide +kernel
theorem f13_30 : fr 13 30 = some (.aload 0, 1, [], []) := by decide +kernel
theorem f13_31 : fr 13 31 = some (.iload 3, 1, [3], []) := by decide +kernel
theorem f13_32 : fr 13 32 = some (.putfield 8001, 3, [], []) := by decide +kernel
theorem f13_35 : fr 13 35 = some (.aload 0, 1, [], []) := by decide +kernel
theorem f13_36 : fr 13 36 = some (.iload 4, 2, [4], []) := by decide +kernel
theorem f13_38 : fr 13 38 = some (.putfield 8003, 3, [], []) := by decide +kernel
theorem f13_41 : fr 13 41 = some (.aload 0, 1, [0], []) := by decide +kernel
theorem f13_42 : fr 13 42 = some (.iload 5, 2, [5], []) := by decide +kernel
theorem f13_44 : fr 13 44 = some (.putfield 8004, 3, [], []) := by decide +kernel
theorem f13_47 : fr 13 47 = some (.return_, 1, [], []) := by decide +kernel
theorem t13_0 {X : XX} {d : Nat} {sz sl : Nat} {sh : Nat → Nat × Nat} {R : Nat → Nat → Option Nat} {I : Nat → Nat → Int32} {J : Nat → Nat → Int64} {l0 : Nat} (h0 : sh l0 = (15, 0)) {l1 : Value} (h1 : isB l1 = true) {l2 : Int32} {l3 : Int32} {l4 : Int32} {l5 : Int32} : exe X d 13 0 [Value.ref l0, l1, Value.int l2, Value.int l3, Value.int l4, Value.int l5] [] (sz, sl, sh, R, I, J) =
    exe X d 13 9 [Value.ref l0, l1, Value.int l2, Value.int l3, Value.int l4, Value.int l5] [Value.ref sz, Value.ref l0] ((sz + 1), (sl + 8), (ur sh sz (0, 8)), (ur R sz (fun _ => none)), (ur I sz (fun _ => 0)), (ur J sz (fun _ => 0))) :=
  tq ((E_aload (v := Value.ref l0) rfl rfl f13_0)) (tq ((E_obj (Nat.le_of_ble_eq_true rfl) f13_1)) (tq ((E_aload (v := Value.ref l0) rfl rfl f13_4)) (tq ((E_iconst (x := (8)) (by decide) f13_5)) ((E_newI (m := 8) (by decide) (by decide) (by decide) f13_7)))))
theorem t13_9 {X : XX} {d : Nat} {sz sl : Nat} {sh : Nat → Nat × Nat} {R : Nat → Nat → Option Nat} {I : Nat → Nat → Int32} {J : Nat → Nat → Int64} {l0 : Nat} (h0 : sh l0 = (15, 0)) {l1 : Value} (h1 : isB l1 = true) {l2 : Int32} {l3 : Int32} {l4 : Int32} {l5 : Int32} {s0 : Value} (k0 : isB s0 = true) {s1 : Value} (k1 : isB s1 = true) : exe X d 13 9 [Value.ref l0, l1, Value.int l2, Value.int l3, Value.int l4, Value.int l5] [s0, s1] (sz, sl, sh, R, I, J) =
    (rf (s1) fun p1 => (orf (s0) fun q2 => (if sh p1 = (15, 0) then exe X d 13 12 [Value.ref l0, l1, Value.int l2, Value.int l3, Value.int l4, Value.int l5] [] (sz, sl, sh, (u2 R p1 6 q2), I, J) else none))) :=
  (P8006 f13_9)
theorem t13_12 {X : XX} {d : Nat} {sz sl : Nat} {sh : Nat → Nat × Nat} {R : Nat → Nat → Option Nat} {I : Nat → Nat → Int32} {J : Nat → Nat → Int64} {l0 : Nat} (h0 : sh l0 = (15, 0)) {l1 : Value} (h1 : isB l1 = true) {l2 : Int32} {l3 : Int32} {l4 : Int32} {l5 : Int32} : exe X d 13 12 [Value.ref l0, l1, Value.int l2, Value.int l3, Value.int l4, Value.int l5] [] (sz, sl, sh, R, I, J) =
    exe X d 13 17 [Value.ref l0, l1, Value.int l2, Value.int l3, Value.int l4, Value.int l5] [Value.ref sz, Value.ref l0] ((sz + 1), (sl + 8), (ur sh sz (0, 8)), (ur R sz (fun _ => none)), (ur I sz (fun _ => 0)), (ur J sz (fun _ => 0))) :=
  tq ((E_aload (v := Value.ref l0) rfl rfl f13_12)) (tq ((E_iconst (x := (8)) (by decide) f13_13)) ((E_newI (m := 8) (by decide) (by decide) (by decide) f13_15)))
theorem t13_17 {X : XX} {d : Nat} {sz sl : Nat} {sh : Nat → Nat × Nat} {R : Nat → Nat → Option Nat} {I : Nat → Nat → Int32} {J : Nat → Nat → Int64} {l0 : Nat} (h0 : sh l0 = (15, 0)) {l1 : Value} (h1 : isB l1 = true) {l2 : Int32} {l3 : Int32} {l4 : Int32} {l5 : Int32} {s0 : Value} (k0 : isB s0 = true) {s1 : Value} (k1 : isB s1 = true) : exe X d 13 17 [Value.ref l0, l1, Value.int l2, Value.int l3, Value.int l4, Value.int l5] [s0, s1] (sz, sl, sh, R, I, J) =
    (rf (s1) fun p1 => (orf (s0) fun q2 => (if sh p1 = (15, 0) then exe X d 13 20 [Value.ref l0, l1, Value.int l2, Value.int l3, Value.int l4, Value.int l5] [] (sz, sl, sh, (u2 R p1 7 q2), I, J) else none))) :=
  (P8007 f13_17)
theorem t13_20 {X : XX} {d : Nat} {sz sl : Nat} {sh : Nat → Nat × Nat} {R : Nat → Nat → Option Nat} {I : Nat → Nat → Int32} {J : Nat → Nat → Int64} {l0 : Nat} (h0 : sh l0 = (15, 0)) {l1 : Value} (h1 : isB l1 = true) {l2 : Int32} {l3 : Int32} {l4 : Int32} {l5 : Int32} : exe X d 13 20 [Value.ref l0, l1, Value.int l2, Value.int l3, Value.int l4, Value.int l5] [] (sz, sl, sh, R, I, J) =
    (orf (l1) fun q1 => exe X d 13 25 [Value.ref l0, dm, Value.int l2, Value.int l3, Value.int l4, Value.int l5] [] (sz, sl, sh, (u2 R l0 0 q1), I, J)) :=
  tq ((E_aload (v := Value.ref l0) rfl rfl f13_20)) (tq ((E_aload (v := l1) rfl (isBA h1) f13_21)) (tq (tq ((P8000 f13_22)) rf_ref) (orf_c fun q1 => if_pos h0)))
theorem t13_25 {X : XX} {d : Nat} {sz sl : Nat} {sh : Nat → Nat × Nat} {R : Nat → Nat → Option Nat} {I : Nat → Nat → Int32} {J : Nat → Nat → Int64} {l0 : Nat} (h0 : sh l0 = (15, 0)) {l2 : Int32} {l3 : Int32} {l4 : Int32} {l5 : Int32} : exe X d 13 25 [Value.ref l0, dm, Value.int l2, Value.int l3, Value.int l4, Value.int l5] [] (sz, sl, sh, R, I, J) =
    some (none, (sz, sl, sh, R, (u2 (u2 (u2 (u2 I l0 2 l2) l0 1 l3) l0 3 l4) l0 4 l5), J)) :=
  tq ((E_aload (v := Value.ref l0) rfl rfl f13_25)) (tq ((E_iload (x := l2) rfl f13_26)) (tq (tq ((P8002 f13_27)) (if_pos h0)) (tq ((E_aload (v := Value.ref l0) rfl rfl f13_30)) (tq ((E_iload (x := l3) rfl f13_31)) (tq (tq ((P8001 f13_32)) (if_pos h0)) (tq ((E_aload (v := Value.ref l0) rfl rfl f13_35)) (tq ((E_iload (x := l4) rfl f13_36)) (tq (tq ((P8003 f13_38)) (if_pos h0)) (tq ((E_aload (v := Value.ref l0) rfl rfl f13_41)) (tq ((E_iload (x := l5) rfl f13_42)) (tq (tq ((P8004 f13_44)) (if_pos h0)) ((E_vret pr_13 f13_47)))))))))))))
theorem n13 {X : XX} {d : Nat} {h : HP} {l0 : Nat} {a0 : Value} (hA0 : isB a0 = true) {a1 : Int32} {a2 : Int32} {a3 : Int32} {a4 : Int32} : ev X (d + 1) 13 [Value.ref l0, a0, Value.int a1, Value.int a2, Value.int a3, Value.int a4] h = exe X d 13 0 [Value.ref l0, a0, Value.int a1, Value.int a2, Value.int a3, Value.int a4] [] h := by
  cases a0 <;> first | (cases hA0; done) | (exact ev_exe (Nat.le_of_ble_eq_true rfl))
theorem f14_0 : fr 14 0 = some (.aload 0, 1, [0], []) := by decide +kernel
theorem f14_1 : fr 14 1 = some (.iload 1, 1, [1], []) := by decide +kernel
theorem f14_2 : fr 14 2 = some (.invokevirtual 12, 3, [], []) := by decide +kernel
theorem f14_5 : fr 14 5 = some (.astore 3, 1, [], []) := by decide +kernel
theorem f14_6 : fr 14 6 = some (.aload 3, 1, [], []) := by decide +kernel
theorem f14_7 : fr 14 7 = some (.ifnonnull 12, 3, [2, 3], []) := by decide +kernel
theorem f14_10 : fr 14 10 = some (.iconst (-1), 1, [], []) := by decide +kernel
theorem f14_11 : fr 14 11 = some (.ireturn, 1, [], []) := by decide +kernel
theorem f14_12 : fr 14 12 = some (.iload 2, 1, [], []) := by decide +kernel
theorem f14_13 : fr 14 13 = some (.lookupswitch 90 #[(0, 52), (1, 57), (2, 62), (3, 67), (4, 72), (5, 77)], 39, [], []) := by decide +kernel
theorem f14_52 : fr 14 52 = some (.aload 3, 1, [2, 3], []) := by decide +kernel
theorem f14_53 : fr 14 53 = some (.getfield 8002, 3, [], []) := by decide +kernel
theorem f14_56 : fr 14 56 = some (.ireturn, 1, [], []) := by decide +kernel
theorem f14_57 : fr 14 57 = some (.aload 3, 1, [2, 3], []) := by decide +kernel
theorem f14_58 : fr 14 58 = some (.getfield 8001, 3, [], []) := by decide +kernel
theorem f14_61 : fr 14 61 = some (.ireturn, 1, [], []) := by decide +kernel
theorem f14_62 : fr 14 62 = some (.aload 3, 1, [2, 3], []) := by decide +kernel
theorem f14_63 : fr 14 63 = some (.getfield 8003, 3, [], []) := by decide +kernel
theorem f14_66 : fr 14 66 = some (.ireturn, 1, [], []) := by decide +kernel
theorem f14_67 : fr 14 67 = some (.aload 3, 1, [2, 3], []) := by decide +kernel
theorem f14_68 : fr 14 68 = some (.getfield 8004, 3, [], []) := by decide +kernel
theorem f14_71 : fr 14 71 = some (.ireturn, 1, [], []) := by decide +kernel
theorem f14_72 : fr 14 72 = some (.aload 3, 1, [2, 3], []) := by decide +kernel
theorem f14_73 : fr 14 73 = some (.invokevirtual 15, 3, [], []) := by decide +kernel
theorem f14_76 : fr 14 76 = some (.ireturn, 1, [], []) := by decide +kernel
theorem f14_77 : fr 14 77 = some (.aload 3, 1, [2, 3], []) := by decide +kernel
theorem f14_78 : fr 14 78 = some (.getfield 8005, 3, [], []) := by decide +kernel
theorem f14_81 : fr 14 81 = some (.ifCond .eq 88, 3, [], []) := by decide +kernel
theorem f14_84 : fr 14 84 = some (.iconst 1, 1, [], []) := by decide +kernel
theorem f14_85 : fr 14 85 = some (.goto 89, 3, [], []) := by decide +kernel
theorem f14_88 : fr 14 88 = some (.iconst 0, 1, [], []) := by decide +kernel
theorem f14_89 : fr 14 89 = some (.ireturn, 1, [], []) := by decide +kernel
theorem f14_90 : fr 14 90 = some (.iload 2, 1, [], []) := by decide +kernel
theorem f14_91 : fr 14 91 = some (.iconst 10, 2, [], []) := by decide +kernel
theorem f14_93 : fr 14 93 = some (.iconst 17, 2, [], []) := by decide +kernel
theorem f14_95 : fr 14 95 = some (.invokestatic 10, 3, [], []) := by decide +kernel
theorem f14_98 : fr 14 98 = some (.ifCond .eq 112, 3, [], [2, 3]) := by decide +kernel
theorem f14_101 : fr 14 101 = some (.aload 3, 1, [3], []) := by decide +kernel
theorem f14_102 : fr 14 102 = some (.iload 2, 1, [2], []) := by decide +kernel
theorem f14_103 : fr 14 103 = some (.iconst 10, 2, [], []) := by decide +kernel
theorem f14_105 : fr 14 105 = some (.isub, 1, [], []) := by decide +kernel
theorem f14_106 : fr 14 106 = some (.invokevirtual 16, 3, [], []) := by decide +kernel
theorem f14_109 : fr 14 109 = some (.goto 113, 3, [], []) := by decide +kernel
theorem f14_112 : fr 14 112 = some (.iconst (-1), 1, [], []) := by decide +kernel
theorem f14_113 : fr 14 113 = some (.ireturn, 1, [], []) := by decide +kernel
theorem t14_0 {X : XX} {d : Nat} {sz sl : Nat} {sh : Nat → Nat × Nat} {R : Nat → Nat → Option Nat} {I : Nat → Nat → Int32} {J : Nat → Nat → Int64} (hS : SF sh R) {l1 : Int32} {l2 : Int32} : exe X d 14 0 [Value.ref 0, Value.int l1, Value.int l2, dm] [] (sz, sl, sh, R, I, J) =
    ((ev X d 12 [Value.ref 0, Value.int l1] (sz, sl, sh, R, I, J)).bind fun q => exe X d 14 5 [dm, dm, Value.int l2, dm] (q.1.toList ++ []) q.2) :=
  tq ((E_aload (v := Value.ref 0) rfl rfl f14_0)) (tq ((E_iload (x := l1) rfl f14_1)) ((tq ((E_callV pn_12 pc_12 rfl rfl (Nat.le_of_ble_eq_true rfl) f14_2)) (if_pos (zS0 hS)))))
theorem t14_5 {X : XX} {d : Nat} {sz sl : Nat} {sh : Nat → Nat × Nat} {R : Nat → Nat → Option Nat} {I : Nat → Nat → Int32} {J : Nat → Nat → Int64} {l2 : Int32} {s0 : Value} (k0 : isB s0 = true) : exe X d 14 5 [dm, dm, Value.int l2, dm] [s0] (sz, sl, sh, R, I, J) =
    (nn (s0) (some (some (Value.int (-1)), (sz, sl, sh, R, I, J))) ((if l2 = (0) then (rf (s0) fun p6 => if sh p6 = (15, 0) then some (some (Value.int (I p6 2)), (sz, sl, sh, R, I, J)) else none) else (if l2 = (1) then (rf (s0) fun p5 => if sh p5 = (15, 0) then some (some (Value.int (I p5 1)), (sz, sl, sh, R, I, J)) else none) else (if l2 = (2) then (rf (s0) fun p4 => if sh p4 = (15, 0) then some (some (Value.int (I p4 3)), (sz, sl, sh, R, I, J)) else none) else (if l2 = (3) then (rf (s0) fun p3 => if sh p3 = (15, 0) then some (some (Value.int (I p3 4)), (sz, sl, sh, R, I, J)) else none) else (if l2 = (4) then (rf (s0) fun p2 => if sh p2 = (15, 0) then ((ev X d 15 [Value.ref p2] (sz, sl, sh, R, I, J)).bind fun q => exe X d 14 76 [dm, dm, dm, dm] (q.1.toList ++ []) q.2) else none) else (if l2 = (5) then (rf (s0) fun p1 => if sh p1 = (15, 0) then (if (I p1 5) = 0 then some (some (Value.int (0)), (sz, sl, sh, R, I, J)) else some (some (Value.int (1)), (sz, sl, sh, R, I, J))) else none) else ((ev X d 10 [Value.int l2, Value.int (10), Value.int (17)] (sz, sl, sh, R, I, J)).bind fun q => exe X d 14 98 [dm, dm, Value.int l2, s0] (q.1.toList ++ []) q.2))))))))) :=
  tq ((E_astore k0 rfl f14_5)) (tq ((E_aload (v := s0) rfl (isBA k0) f14_6)) (tq ((E_ifnonnull f14_7)) (nn_c (tq ((E_iconst (x := (-1)) (by decide) f14_10)) ((E_iret pr_14 f14_11))) (tq ((E_iload (x := l2) rfl f14_12)) (tq ((E_sw f14_13)) (sw_c (by decide) (tq ((E_aload (v := s0) rfl (isBA k0) f14_52)) (tq ((G8002 f14_53)) (rf_c fun p6 => ite_c ((E_iret pr_14 f14_56)) rfl))) (sw_c (by decide) (tq ((E_aload (v := s0) rfl (isBA k0) f14_57)) (tq ((G8001 f14_58)) (rf_c fun p5 => ite_c ((E_iret pr_14 f14_61)) rfl))) (sw_c (by decide) (tq ((E_aload (v := s0) rfl (isBA k0) f14_62)) (tq ((G8003 f14_63)) (rf_c fun p4 => ite_c ((E_iret pr_14 f14_66)) rfl))) (sw_c (by decide) (tq ((E_aload (v := s0) rfl (isBA k0) f14_67)) (tq ((G8004 f14_68)) (rf_c fun p3 => ite_c ((E_iret pr_14 f14_71)) rfl))) (sw_c (by decide) (tq ((E_aload (v := s0) rfl (isBA k0) f14_72)) ((E_callV pn_15 pc_15 rfl rfl (Nat.le_of_ble_eq_true rfl) f14_73))) (sw_c (by decide) (tq ((E_aload (v := s0) rfl (isBA k0) f14_77)) (tq ((G8005 f14_78)) (rf_c fun p1 => ite_c (tq ((E_if_eq f14_81)) (ite_c (tq ((E_iconst (x := (0)) (by decide) f14_88)) ((E_iret pr_14 f14_89))) (tq ((E_iconst (x := (1)) (by decide) f14_84)) (tq ((E_goto f14_85)) ((E_iret pr_14 f14_89)))))) rfl))) (tq ((E_iload (x := l2) rfl f14_90)) (tq ((E_iconst (x := (10)) (by decide) f14_91)) (tq ((E_iconst (x := (17)) (by decide) f14_93)) ((E_callS pn_10 rfl rfl (Nat.le_of_ble_eq_true rfl) (Nat.le_of_ble_eq_true rfl) f14_95))))))))))))))))
theorem t14_76 {X : XX} {d : Nat} {sz sl : Nat} {sh : Nat → Nat × Nat} {R : Nat → Nat → Option Nat} {I : Nat → Nat → Int32} {J : Nat → Nat → Int64} {s0 : Int32} : exe X d 14 76 [dm, dm, dm, dm] [Value.int s0] (sz, sl, sh, R, I, J) =
    some (some (Value.int s0), (sz, sl, sh, R, I, J)) :=
  (E_iret pr_14 f14_76)
theorem t14_98 {X : XX} {d : Nat} {sz sl : Nat} {sh : Nat → Nat × Nat} {R : Nat → Nat → Option Nat} {I : Nat → Nat → Int32} {J : Nat → Nat → Int64} {l2 : Int32} {l3 : Value} (h3 : isB l3 = true) {s0 : Int32} : exe X d 14 98 [dm, dm, Value.int l2, l3] [Value.int s0] (sz, sl, sh, R, I, J) =
    (if s0 = 0 then some (some (Value.int (-1)), (sz, sl, sh, R, I, J)) else (rf (l3) fun p1 => if sh p1 = (15, 0) then ((ev X d 16 [Value.ref p1, Value.int (l2 - (10))] (sz, sl, sh, R, I, J)).bind fun q => exe X d 14 109 [dm, dm, dm, dm] (q.1.toList ++ []) q.2) else none)) :=
  tq ((E_if_eq f14_98)) (ite_c (tq ((E_iconst (x := (-1)) (by decide) f14_112)) ((E_iret pr_14 f14_113))) (tq ((E_aload (v := l3) rfl (isBA h3) f14_101)) (tq ((E_iload (x := l2) rfl f14_102)) (tq ((E_iconst (x := (10)) (by decide) f14_103)) (tq ((E_isub f14_105)) ((E_callV pn_16 pc_16 rfl rfl (Nat.le_of_ble_eq_true rfl) f14_106)))))))
theorem t14_109 {X : XX} {d : Nat} {sz sl : Nat} {sh : Nat → Nat × Nat} {R : Nat → Nat → Option Nat} {I : Nat → Nat → Int32} {J : Nat → Nat → Int64} {s0 : Int32} : exe X d 14 109 [dm, dm, dm, dm] [Value.int s0] (sz, sl, sh, R, I, J) =
    some (some (Value.int s0), (sz, sl, sh, R, I, J)) :=
  tq ((E_goto f14_109)) ((E_iret pr_14 f14_113))
theorem n14 {X : XX} {d : Nat} {h : HP} {a0 : Int32} {a1 : Int32} : ev X (d + 1) 14 [Value.ref 0, Value.int a0, Value.int a1] h = exe X d 14 0 [Value.ref 0, Value.int a0, Value.int a1, dm] [] h := ev_exe (Nat.le_of_ble_eq_true rfl)
theorem f15_0 : fr 15 0 = some (.aload 0, 1, [], []) := by decide +kernel
theorem f15_1 : fr 15 1 = some (.getfield 8000, 3, [], []) := by decide +kernel
theorem f15_4 : fr 15 4 = some (.ifnonnull 11, 3, [0], []) := by decide +kernel
theorem f15_7 : fr 15 7 = some (.iconst 0, 1, [], []) := by decide +kernel
theorem f15_8 : fr 15 8 = some (.goto 26, 3, [], []) := by decide +kernel
theorem f15_11 : fr 15 11 = some (.aload 0, 1, [], []) := by decide +kernel
theorem f15_12 : fr 15 12 = some (.getfield 8004, 3, [], []) := by decide +kernel
theorem f15_15 : fr 15 15 = some (.aload 0, 1, [0], []) := by decide +kernel
theorem f15_16 : fr 15 16 = some (.getfield 8000, 3, [], []) := by decide +kernel
theorem f15_19 : fr 15 19 = some (.getfield 8004, 3, [], []) := by decide +kernel
theorem f15_22 : fr 15 22 = some (.isub, 1, [], []) := by decide +kernel
theorem f15_23 : fr 15 23 = some (.fneg, 3, [], []) := by decide +kernel
theorem f15_26 : fr 15 26 = some (.ireturn, 1, [], []) := by decide +kernel
theorem t15_0 {X : XX} {d : Nat} {sz sl : Nat} {sh : Nat → Nat × Nat} {R : Nat → Nat → Option Nat} {I : Nat → Nat → Int32} {J : Nat → Nat → Int64} {l0 : Nat} (h0 : sh l0 = (15, 0)) : exe X d 15 0 [Value.ref l0] [] (sz, sl, sh, R, I, J) =
    (nn ((rfv (R l0 0))) (some (some (Value.int (0)), (sz, sl, sh, R, I, J))) ((rf ((rfv (R l0 0))) fun p1 => if sh p1 = (15, 0) then some (some (Value.int (if 0 ≤ ((I l0 4) - (I p1 4)) then ((I l0 4) - (I p1 4)) else 0 - ((I l0 4) - (I p1 4)))), (sz, sl, sh, R, I, J)) else none))) :=
  tq ((E_aload (v := Value.ref l0) rfl rfl f15_0)) (tq (tq ((G8000 f15_1)) (if_pos h0)) (tq ((E_ifnonnull f15_4)) (nn_c (tq ((E_iconst (x := (0)) (by decide) f15_7)) (tq ((E_goto f15_8)) ((E_iret pr_15 f15_26)))) (tq ((E_aload (v := Value.ref l0) rfl rfl f15_11)) (tq (tq ((G8004 f15_12)) (if_pos h0)) (tq ((E_aload (v := Value.ref l0) rfl rfl f15_15)) (tq (tq ((G8000 f15_16)) (if_pos h0)) (tq ((G8004 f15_19)) (rf_c fun p1 => ite_c (tq ((E_isub f15_22)) (tq ((E_fneg (Nat.le_of_ble_eq_true rfl) f15_23)) ((E_iret pr_15 f15_26)))) rfl)))))))))
theorem n15 {X : XX} {d : Nat} {h : HP} {l0 : Nat} : ev X (d + 1) 15 [Value.ref l0] h = exe X d 15 0 [Value.ref l0] [] h := ev_exe (Nat.le_of_ble_eq_true rfl)
theorem f16_0 : fr 16 0 = some (.iload 1, 1, [], []) := by decide +kernel
theorem f16_1 : fr 16 1 = some (.ifCond .lt 22, 3, [], [0, 1]) := by decide +kernel
theorem f16_4 : fr 16 4 = some (.iload 1, 1, [], []) := by decide +kernel
theorem f16_5 : fr 16 5 = some (.aload 0, 1, [], []) := by decide +kernel
theorem f16_6 : fr 16 6 = some (.getfield 8006, 3, [], []) := by decide +kernel
theorem f16_9 : fr 16 9 = some (.arraylength, 1, [], []) := by decide +kernel
theorem f16_10 : fr 16 10 = some (.if_icmp .ge 22, 3, [], [0, 1]) := by decide +kernel
theorem f16_13 : fr 16 13 = some (.aload 0, 1, [0], []) := by decide +kernel
theorem f16_14 : fr 16 14 = some (.getfield 8006, 3, [], []) := by decide +kernel
theorem f16_17 : fr 16 17 = some (.iload 1, 1, [1], []) := by decide +kernel
theorem f16_18 : fr 16 18 = some (.iaload, 1, [], []) := by decide +kernel
theorem f16_19 : fr 16 19 = some (.goto 23, 3, [], []) := by decide +kernel
theorem f16_22 : fr 16 22 = some (.iconst 0, 1, [], []) := by decide +kernel
theorem f16_23 : fr 16 23 = some (.ireturn, 1, [], []) := by decide +kernel
theorem t16_0 {X : XX} {d : Nat} {sz sl : Nat} {sh : Nat → Nat × Nat} {R : Nat → Nat → Option Nat} {I : Nat → Nat → Int32} {J : Nat → Nat → Int64} {l0 : Nat} (h0 : sh l0 = (15, 0)) {l1 : Int32} : exe X d 16 0 [Value.ref l0, Value.int l1] [] (sz, sl, sh, R, I, J) =
    (if l1 < 0 then some (some (Value.int (0)), (sz, sl, sh, R, I, J)) else (rf ((rfv (R l0 6))) fun p1 => (if (sh p1).1 < 7 then (if (Int32.ofNat (sh p1).2) ≤ l1 then some (some (Value.int (0)), (sz, sl, sh, R, I, J)) else (rf ((rfv (R l0 6))) fun p2 => (if (sh p2).1 = 0 ∧ inb l1 (sh p2).2 then some (some (Value.int (I p2 l1.toNatClampNeg)), (sz, sl, sh, R, I, J)) else none))) else none))) :=
  tq ((E_iload (x := l1) rfl f16_0)) (tq ((E_if_lt f16_1)) (ite_c (tq ((E_iconst (x := (0)) (by decide) f16_22)) ((E_iret pr_16 f16_23))) (tq ((E_iload (x := l1) rfl f16_4)) (tq ((E_aload (v := Value.ref l0) rfl rfl f16_5)) (tq (tq ((G8006 f16_6)) (if_pos h0)) (tq (E_lenB (isB_rfv _) f16_9) (rf_c fun p1 => ite_c (tq ((E_ic_ge f16_10)) (ite_c (tq ((E_iconst (x := (0)) (by decide) f16_22)) ((E_iret pr_16 f16_23))) (tq ((E_aload (v := Value.ref l0) rfl rfl f16_13)) (tq (tq ((G8006 f16_14)) (if_pos h0)) (tq ((E_iload (x := l1) rfl f16_17)) (tq ((E_ialdB (isB_rfv _) f16_18)) (rf_c fun p2 => ite_c (tq ((E_goto f16_19)) ((E_iret pr_16 f16_23))) rfl))))))) rfl)))))))
theorem n16 {X : XX} {d : Nat} {h : HP} {l0 : Nat} {a0 : Int32} : ev X (d + 1) 16 [Value.ref l0, Value.int a0] h = exe X d 16 0 [Value.ref l0, Value.int a0] [] h := ev_exe (Nat.le_of_ble_eq_true rfl)
theorem f17_0 : fr 17 0 = some (.aload 0, 1, [], []) := by decide +kernel
theorem f17_1 : fr 17 1 = some (.iload 1, 1, [], []) := by decide +kernel
theorem f17_2 : fr 17 2 = some (.invokevirtual 18, 3, [], []) := by decide +kernel
theorem f17_5 : fr 17 5 = some (.ifnull 18, 3, [], [0, 1, 2]) := by decide +kernel
theorem f17_8 : fr 17 8 = some (.iload 2, 1, [], []) := by decide +kernel
theorem f17_9 : fr 17 9 = some (.iconst 0, 1, [], []) := by decide +kernel
theorem f17_10 : fr 17 10 = some (.iconst 99999, 2, [], []) := by decide +kernel
theorem f17_12 : fr 17 12 = some (.invokestatic 10, 3, [], []) := by decide +kernel
theorem f17_15 : fr 17 15 = some (.ifCond .ne 20, 3, [0, 1, 2], []) := by decide +kernel
theorem f17_18 : fr 17 18 = some (.iconst (-1), 1, [], []) := by decide +kernel
theorem f17_19 : fr 17 19 = some (.ireturn, 1, [], []) := by decide +kernel
theorem f17_20 : fr 17 20 = some (.aload 0, 1, [0], []) := by decide +kernel
theorem f17_21 : fr 17 21 = some (.iload 1, 1, [1], []) := by decide +kernel
theorem f17_22 : fr 17 22 = some (.iload 2, 1, [2], []) := by decide +kernel
theorem f17_23 : fr 17 23 = some (.invokevirtual 19, 3, [], []) := by decide +kernel
theorem f17_26 : fr 17 26 = some (.ireturn, 1, [], []) := by decide +kernel
theorem t17_0 {X : XX} {d : Nat} {sz sl : Nat} {sh : Nat → Nat × Nat} {R : Nat → Nat → Option Nat} {I : Nat → Nat → Int32} {J : Nat → Nat → Int64} (hS : SF sh R) {l1 : Int32} {l2 : Int32} : exe X d 17 0 [Value.ref 0, Value.int l1, Value.int l2] [] (sz, sl, sh, R, I, J) =
    ((ev X d 18 [Value.ref 0, Value.int l1] (sz, sl, sh, R, I, J)).bind fun q => exe X d 17 5 [Value.ref 0, Value.int l1, Value.int l2] (q.1.toList ++ []) q.2) :=
  tq ((E_aload (v := Value.ref 0) rfl rfl f17_0)) (tq ((E_iload (x := l1) rfl f17_1)) ((tq ((E_callV pn_18 pc_18 rfl rfl (Nat.le_of_ble_eq_true rfl) f17_2)) (if_pos (zS0 hS)))))
theorem t17_5 {X : XX} {d : Nat} {sz sl : Nat} {sh : Nat → Nat × Nat} {R : Nat → Nat → Option Nat} {I : Nat → Nat → Int32} {J : Nat → Nat → Int64} {l1 : Int32} {l2 : Int32} {s0 : Value} (k0 : isB s0 = true) : exe X d 17 5 [Value.ref 0, Value.int l1, Value.int l2] [s0] (sz, sl, sh, R, I, J) =
    (nn (s0) (some (some (Value.int (-1)), (sz, sl, sh, R, I, J))) (((ev X d 10 [Value.int l2, Value.int (0), Value.int (99999)] (sz, sl, sh, R, I, J)).bind fun q => exe X d 17 15 [Value.ref 0, Value.int l1, Value.int l2] (q.1.toList ++ []) q.2))) :=
  tq ((E_ifnull f17_5)) (nn_c (tq ((E_iconst (x := (-1)) (by decide) f17_18)) ((E_iret pr_17 f17_19))) (tq ((E_iload (x := l2) rfl f17_8)) (tq ((E_iconst (x := (0)) (by decide) f17_9)) (tq ((E_iconst (x := (99999)) (by decide) f17_10)) ((E_callS pn_10 rfl rfl (Nat.le_of_ble_eq_true rfl) (Nat.le_of_ble_eq_true rfl) f17_12))))))
theorem t17_15 {X : XX} {d : Nat} {sz sl : Nat} {sh : Nat → Nat × Nat} {R : Nat → Nat → Option Nat} {I : Nat → Nat → Int32} {J : Nat → Nat → Int64} (hS : SF sh R) {l1 : Int32} {l2 : Int32} {s0 : Int32} : exe X d 17 15 [Value.ref 0, Value.int l1, Value.int l2] [Value.int s0] (sz, sl, sh, R, I, J) =
    (if ¬ s0 = 0 then ((ev X d 19 [Value.ref 0, Value.int l1, Value.int l2] (sz, sl, sh, R, I, J)).bind fun q => exe X d 17 26 [dm, dm, dm] (q.1.toList ++ []) q.2) else some (some (Value.int (-1)), (sz, sl, sh, R, I, J))) :=
  tq ((E_if_ne f17_15)) (ite_c (tq ((E_aload (v := Value.ref 0) rfl rfl f17_20)) (tq ((E_iload (x := l1) rfl f17_21)) (tq ((E_iload (x := l2) rfl f17_22)) ((tq ((E_callV pn_19 pc_19 rfl rfl (Nat.le_of_ble_eq_true rfl) f17_23)) (if_pos (zS0 hS))))))) (tq ((E_iconst (x := (-1)) (by decide) f17_18)) ((E_iret pr_17 f17_19))))
theorem t17_26 {X : XX} {d : Nat} {sz sl : Nat} {sh : Nat → Nat × Nat} {R : Nat → Nat → Option Nat} {I : Nat → Nat → Int32} {J : Nat → Nat → Int64} {s0 : Int32} : exe X d 17 26 [dm, dm, dm] [Value.int s0] (sz, sl, sh, R, I, J) =
    some (some (Value.int s0), (sz, sl, sh, R, I, J)) :=
  (E_iret pr_17 f17_26)
theorem n17 {X : XX} {d : Nat} {h : HP} {a0 : Int32} {a1 : Int32} : ev X (d + 1) 17 [Value.ref 0, Value.int a0, Value.int a1] h = exe X d 17 0 [Value.ref 0, Value.int a0, Value.int a1] [] h := ev_exe (Nat.le_of_ble_eq_true rfl)
theorem f18_0 : fr 18 0 = some (.iload 1, 1, [], []) := by decide +kernel
theorem f18_1 : fr 18 1 = some (.ifCond .lt 24, 3, [], [0, 1]) := by decide +kernel
theorem f18_4 : fr 18 4 = some (.iload 1, 1, [], []) := by decide +kernel
theorem f18_5 : fr 18 5 = some (.iconst 10, 2, [], []) := by decide +kernel
theorem f18_7 : fr 18 7 = some (.irem, 1, [], []) := by decide +kernel
theorem f18_8 : fr 18 8 = some (.iconst 8, 2, [], []) := by decide +kernel
theorem f18_10 : fr 18 10 = some (.if_icmp .ge 24, 3, [], [0, 1]) := by decide +kernel
theorem f18_13 : fr 18 13 = some (.aload 0, 1, [0], []) := by decide +kernel
theorem f18_14 : fr 18 14 = some (.iload 1, 1, [1], []) := by decide +kernel
theorem f18_15 : fr 18 15 = some (.iconst 10, 2, [], []) := by decide +kernel
theorem f18_17 : fr 18 17 = some (.idiv, 1, [], []) := by decide +kernel
theorem f18_18 : fr 18 18 = some (.invokevirtual 12, 3, [], []) := by decide +kernel
theorem f18_21 : fr 18 21 = some (.goto 25, 3, [], []) := by decide +kernel
theorem f18_24 : fr 18 24 = some (.aconst_null, 1, [], []) := by decide +kernel
theorem f18_25 : fr 18 25 = some (.areturn, 1, [], []) := by decide +kernel
theorem t18_0 {X : XX} {d : Nat} {sz sl : Nat} {sh : Nat → Nat × Nat} {R : Nat → Nat → Option Nat} {I : Nat → Nat → Int32} {J : Nat → Nat → Int64} (hS : SF sh R) {l1 : Int32} : exe X d 18 0 [Value.ref 0, Value.int l1] [] (sz, sl, sh, R, I, J) =
    (if l1 < 0 then some (some (Value.null), (sz, sl, sh, R, I, J)) else (if (8) ≤ (l1 - l1 / (10) * (10)) then some (some (Value.null), (sz, sl, sh, R, I, J)) else ((ev X d 12 [Value.ref 0, Value.int (l1 / (10))] (sz, sl, sh, R, I, J)).bind fun q => exe X d 18 21 [dm, dm] (q.1.toList ++ []) q.2))) :=
  tq ((E_iload (x := l1) rfl f18_0)) (tq ((E_if_lt f18_1)) (ite_c (tq ((E_null f18_24)) (tq (E_aret pr_18 f18_25) (if_pos rfl))) (tq ((E_iload (x := l1) rfl f18_4)) (tq ((E_iconst (x := (10)) (by decide) f18_5)) (tq ((E_irem (by decide) f18_7)) (tq ((E_iconst (x := (8)) (by decide) f18_8)) (tq ((E_ic_ge f18_10)) (ite_c (tq ((E_null f18_24)) (tq (E_aret pr_18 f18_25) (if_pos rfl))) (tq ((E_aload (v := Value.ref 0) rfl rfl f18_13)) (tq ((E_iload (x := l1) rfl f18_14)) (tq ((E_iconst (x := (10)) (by decide) f18_15)) (tq ((E_idiv (by decide) f18_17)) ((tq ((E_callV pn_12 pc_12 rfl rfl (Nat.le_of_ble_eq_true rfl) f18_18)) (if_pos (zS0 hS))))))))))))))))
theorem t18_21 {X : XX} {d : Nat} {sz sl : Nat} {sh : Nat → Nat × Nat} {R : Nat → Nat → Option Nat} {I : Nat → Nat → Int32} {J : Nat → Nat → Int64} {s0 : Value} (k0 : isB s0 = true) : exe X d 18 21 [dm, dm] [s0] (sz, sl, sh, R, I, J) =
    some (some (s0), (sz, sl, sh, R, I, J)) :=
  tq ((E_goto f18_21)) (tq (E_aret pr_18 f18_25) (if_pos k0))
theorem n18 {X : XX} {d : Nat} {h : HP} {a0 : Int32} : ev X (d + 1) 18 [Value.ref 0, Value.int a0] h = exe X d 18 0 [Value.ref 0, Value.int a0] [] h := ev_exe (Nat.le_of_ble_eq_true rfl)
theorem f19_0 : fr 19 0 = some (.aload 0, 1, [], []) := by decide +kernel
theorem f19_1 : fr 19 1 = some (.iload 1, 1, [], []) := by decide +kernel
theorem f19_2 : fr 19 2 = some (.iload 2, 1, [], []) := by decide +kernel
theorem f19_3 : fr 19 3 = some (.invokevirtual 20, 3, [], []) := by decide +kernel
theorem f19_6 : fr 19 6 = some (.istore 3, 1, [], []) := by decide +kernel
theorem f19_7 : fr 19 7 = some (.iload 3, 1, [], []) := by decide +kernel
theorem f19_8 : fr 19 8 = some (.iload 2, 1, [], []) := by decide +kernel
theorem f19_9 : fr 19 9 = some (.if_icmp .eq 22, 3, [], [0, 1, 2]) := by decide +kernel
theorem f19_12 : fr 19 12 = some (.aload 0, 1, [0], []) := by decide +kernel
theorem f19_13 : fr 19 13 = some (.getfield 10, 3, [], []) := by decide +kernel
theorem f19_16 : fr 19 16 = some (.iload 1, 1, [1], []) := by decide +kernel
theorem f19_17 : fr 19 17 = some (.iload 3, 1, [], []) := by decide +kernel
theorem f19_18 : fr 19 18 = some (.iload 2, 1, [2], []) := by decide +kernel
theorem f19_19 : fr 19 19 = some (.invokevirtual 22, 3, [], []) := by decide +kernel
theorem f19_22 : fr 19 22 = some (.iload 3, 1, [3], []) := by decide +kernel
theorem f19_23 : fr 19 23 = some (.ireturn, 1, [], []) := by decide +kernel
theorem t19_0 {X : XX} {d : Nat} {sz sl : Nat} {sh : Nat → Nat × Nat} {R : Nat → Nat → Option Nat} {I : Nat → Nat → Int32} {J : Nat → Nat → Int64} (hS : SF sh R) {l1 : Int32} {l2 : Int32} : exe X d 19 0 [Value.ref 0, Value.int l1, Value.int l2, dm] [] (sz, sl, sh, R, I, J) =
    ((ev X d 20 [Value.ref 0, Value.int l1, Value.int l2] (sz, sl, sh, R, I, J)).bind fun q => exe X d 19 6 [Value.ref 0, Value.int l1, Value.int l2, dm] (q.1.toList ++ []) q.2) :=
  tq ((E_aload (v := Value.ref 0) rfl rfl f19_0)) (tq ((E_iload (x := l1) rfl f19_1)) (tq ((E_iload (x := l2) rfl f19_2)) ((tq ((E_callV pn_20 pc_20 rfl rfl (Nat.le_of_ble_eq_true rfl) f19_3)) (if_pos (zS0 hS))))))
theorem t19_6 {X : XX} {d : Nat} {sz sl : Nat} {sh : Nat → Nat × Nat} {R : Nat → Nat → Option Nat} {I : Nat → Nat → Int32} {J : Nat → Nat → Int64} (hS : SF sh R) {l1 : Int32} {l2 : Int32} {s0 : Int32} : exe X d 19 6 [Value.ref 0, Value.int l1, Value.int l2, dm] [Value.int s0] (sz, sl, sh, R, I, J) =
    (if s0 = l2 then exe X d 19 22 [dm, dm, dm, Value.int s0] [] (sz, sl, sh, R, I, J) else ((ev X d 22 [Value.ref 17, Value.int l1, Value.int s0, Value.int l2] (sz, sl, sh, R, I, J)).bind fun q => exe X d 19 22 [dm, dm, dm, Value.int s0] (q.1.toList ++ []) q.2)) :=
  tq ((E_istore rfl f19_6)) (tq ((E_iload (x := s0) rfl f19_7)) (tq ((E_iload (x := l2) rfl f19_8)) (tq ((E_ic_eq f19_9)) (ite_c (rfl) (tq ((E_aload (v := Value.ref 0) rfl rfl f19_12)) (tq (tq ((G10 f19_13)) (if_pos (zS0 hS))) (tq (exe_R (zR0_10 hS)) (tq ((E_iload (x := l1) rfl f19_16)) (tq ((E_iload (x := s0) rfl f19_17)) (tq ((E_iload (x := l2) rfl f19_18)) ((tq ((E_callV pn_22 pc_22 rfl rfl (Nat.le_of_ble_eq_true rfl) f19_19)) (if_pos (zS17 hS))))))))))))))
theorem t19_22 {X : XX} {d : Nat} {sz sl : Nat} {sh : Nat → Nat × Nat} {R : Nat → Nat → Option Nat} {I : Nat → Nat → Int32} {J : Nat → Nat → Int64} {l3 : Int32} : exe X d 19 22 [dm, dm, dm, Value.int l3] [] (sz, sl, sh, R, I, J) =
    some (some (Value.int l3), (sz, sl, sh, R, I, J)) :=
  tq ((E_iload (x := l3) rfl f19_22)) ((E_iret pr_19 f19_23))
theorem n19 {X : XX} {d : Nat} {h : HP} {a0 : Int32} {a1 : Int32} : ev X (d + 1) 19 [Value.ref 0, Value.int a0, Value.int a1] h = exe X d 19 0 [Value.ref 0, Value.int a0, Value.int a1, dm] [] h := ev_exe (Nat.le_of_ble_eq_true rfl)
theorem f20_0 : fr 20 0 = some (.aload 0, 1, [0], []) := by decide +kernel
theorem f20_1 : fr 20 1 = some (.iload 1, 1, [], []) := by decide +kernel
theorem f20_2 : fr 20 2 = some (.iconst 10, 2, [], []) := by decide +kernel
theorem f20_4 : fr 20 4 = some (.idiv, 1, [], []) := by decide +kernel
theorem f20_5 : fr 20 5 = some (.invokevirtual 12, 3, [], []) := by decide +kernel
theorem f20_8 : fr 20 8 = some (.astore 3, 1, [], []) := by decide +kernel
theorem f20_9 : fr 20 9 = some (.aload 3, 1, [], []) := by decide +kernel
theorem f20_10 : fr 20 10 = some (.ifnonnull 17, 3, [1, 2, 3], []) := by decide +kernel
theorem f20_13 : fr 20 13 = some (.iconst (-1), 1, [], []) := by decide +kernel
theorem f20_14 : fr 20 14 = some (.goto 26, 3, [], []) := by decide +kernel
theorem f20_17 : fr 20 17 = some (.aload 3, 1, [3], []) := by decide +kernel
theorem f20_18 : fr 20 18 = some (.iload 1, 1, [1], []) := by decide +kernel
theorem f20_19 : fr 20 19 = some (.iconst 10, 2, [], []) := by decide +kernel
theorem f20_21 : fr 20 21 = some (.irem, 1, [], []) := by decide +kernel
theorem f20_22 : fr 20 22 = some (.iload 2, 1, [2], []) := by decide +kernel
theorem f20_23 : fr 20 23 = some (.invokevirtual 21, 3, [], []) := by decide +kernel
theorem f20_26 : fr 20 26 = some (.ireturn, 1, [], []) := by decide +kernel
theorem t20_0 {X : XX} {d : Nat} {sz sl : Nat} {sh : Nat → Nat × Nat} {R : Nat → Nat → Option Nat} {I : Nat → Nat → Int32} {J : Nat → Nat → Int64} (hS : SF sh R) {l1 : Int32} {l2 : Int32} : exe X d 20 0 [Value.ref 0, Value.int l1, Value.int l2, dm] [] (sz, sl, sh, R, I, J) =
    ((ev X d 12 [Value.ref 0, Value.int (l1 / (10))] (sz, sl, sh, R, I, J)).bind fun q => exe X d 20 8 [dm, Value.int l1, Value.int l2, dm] (q.1.toList ++ []) q.2) :=
  tq ((E_aload (v := Value.ref 0) rfl rfl f20_0)) (tq ((E_iload (x := l1) rfl f20_1)) (tq ((E_iconst (x := (10)) (by decide) f20_2)) (tq ((E_idiv (by decide) f20_4)) ((tq ((E_callV pn_12 pc_12 rfl rfl (Nat.le_of_ble_eq_true rfl) f20_5)) (if_pos (zS0 hS)))))))
theorem t20_8 {X : XX} {d : Nat} {sz sl : Nat} {sh : Nat → Nat × Nat} {R : Nat → Nat → Option Nat} {I : Nat → Nat → Int32} {J : Nat → Nat → Int64} {l1 : Int32} {l2 : Int32} {s0 : Value} (k0 : isB s0 = true) : exe X d 20 8 [dm, Value.int l1, Value.int l2, dm] [s0] (sz, sl, sh, R, I, J) =
    (nn (s0) (exe X d 20 26 [dm, dm, dm, dm] [Value.int (-1)] (sz, sl, sh, R, I, J)) ((rf (s0) fun p1 => if sh p1 = (15, 0) then ((ev X d 21 [Value.ref p1, Value.int (l1 - l1 / (10) * (10)), Value.int l2] (sz, sl, sh, R, I, J)).bind fun q => exe X d 20 26 [dm, dm, dm, dm] (q.1.toList ++ []) q.2) else none))) :=
  tq ((E_astore k0 rfl f20_8)) (tq ((E_aload (v := s0) rfl (isBA k0) f20_9)) (tq ((E_ifnonnull f20_10)) (nn_c (tq ((E_iconst (x := (-1)) (by decide) f20_13)) ((E_goto f20_14))) (tq ((E_aload (v := s0) rfl (isBA k0) f20_17)) (tq ((E_iload (x := l1) rfl f20_18)) (tq ((E_iconst (x := (10)) (by decide) f20_19)) (tq ((E_irem (by decide) f20_21)) (tq ((E_iload (x := l2) rfl f20_22)) ((E_callV pn_21 pc_21 rfl rfl (Nat.le_of_ble_eq_true rfl) f20_23))))))))))
theorem t20_26 {X : XX} {d : Nat} {sz sl : Nat} {sh : Nat → Nat × Nat} {R : Nat → Nat → Option Nat} {I : Nat → Nat → Int32} {J : Nat → Nat → Int64} {s0 : Int32} : exe X d 20 26 [dm, dm, dm, dm] [Value.int s0] (sz, sl, sh, R, I, J) =
    some (some (Value.int s0), (sz, sl, sh, R, I, J)) :=
  (E_iret pr_20 f20_26)
theorem n20 {X : XX} {d : Nat} {h : HP} {a0 : Int32} {a1 : Int32} : ev X (d + 1) 20 [Value.ref 0, Value.int a0, Value.int a1] h = exe X d 20 0 [Value.ref 0, Value.int a0, Value.int a1, dm] [] h := ev_exe (Nat.le_of_ble_eq_true rfl)
theorem f21_0 : fr 21 0 = some (.iconst 0, 1, [], []) := by decide +kernel
theorem f21_1 : fr 21 1 = some (.istore 3, 1, [], []) := by decide +kernel
theorem f21_2 : fr 21 2 = some (.iload 1, 1, [], []) := by decide +kernel
theorem f21_3 : fr 21 3 = some (.iconst 8, 2, [], []) := by decide +kernel
theorem f21_5 : fr 21 5 = some (.if_icmp .ne 21, 3, [1, 3], []) := by decide +kernel
theorem f21_8 : fr 21 8 = some (.aload 0, 1, [], []) := by decide +kernel
theorem f21_9 : fr 21 9 = some (.getfield 8002, 3, [], []) := by decide +kernel
theorem f21_12 : fr 21 12 = some (.istore 3, 1, [], []) := by decide +kernel
theorem f21_13 : fr 21 13 = some (.aload 0, 1, [0], []) := by decide +kernel
theorem f21_14 : fr 21 14 = some (.iload 2, 1, [2], []) := by decide +kernel
theorem f21_15 : fr 21 15 = some (.putfield 8002, 3, [], []) := by decide +kernel
theorem f21_18 : fr 21 18 = some (.goto 67, 3, [], []) := by decide +kernel
theorem f21_21 : fr 21 21 = some (.iload 1, 1, [], []) := by decide +kernel
theorem f21_22 : fr 21 22 = some (.iconst 9, 2, [], []) := by decide +kernel
theorem f21_24 : fr 21 24 = some (.if_icmp .ne 40, 3, [1, 3], []) := by decide +kernel
theorem f21_27 : fr 21 27 = some (.aload 0, 1, [], []) := by decide +kernel
theorem f21_28 : fr 21 28 = some (.getfield 8004, 3, [], []) := by decide +kernel
theorem f21_31 : fr 21 31 = some (.istore 3, 1, [], []) := by decide +kernel
theorem f21_32 : fr 21 32 = some (.aload 0, 1, [0], []) := by decide +kernel
theorem f21_33 : fr 21 33 = some (.iload 2, 1, [2], []) := by decide +kernel
theorem f21_34 : fr 21 34 = some (.putfield 8004, 3, [], []) := by decide +kernel
theorem f21_37 : fr 21 37 = some (.goto 67, 3, [], []) := by decide +kernel
theorem f21_40 : fr 21 40 = some (.iload 1, 1, [], []) := by decide +kernel
theorem f21_41 : fr 21 41 = some (.ifCond .lt 67, 3, [], [0, 1, 2]) := by decide +kernel
theorem f21_44 : fr 21 44 = some (.iload 1, 1, [], []) := by decide +kernel
theorem f21_45 : fr 21 45 = some (.aload 0, 1, [], []) := by decide +kernel
theorem f21_46 : fr 21 46 = some (.getfield 8006, 3, [], []) := by decide +kernel
theorem f21_49 : fr 21 49 = some (.arraylength, 1, [], []) := by decide +kernel
theorem f21_50 : fr 21 50 = some (.if_icmp .ge 67, 3, [3], [0, 1, 2]) := by decide +kernel
theorem f21_53 : fr 21 53 = some (.aload 0, 1, [], []) := by decide +kernel
theorem f21_54 : fr 21 54 = some (.getfield 8006, 3, [], []) := by decide +kernel
theorem f21_57 : fr 21 57 = some (.iload 1, 1, [], []) := by decide +kernel
theorem f21_58 : fr 21 58 = some (.iaload, 1, [], []) := by decide +kernel
theorem f21_59 : fr 21 59 = some (.istore 3, 1, [], []) := by decide +kernel
theorem f21_60 : fr 21 60 = some (.aload 0, 1, [0], []) := by decide +kernel
theorem f21_61 : fr 21 61 = some (.getfield 8006, 3, [], []) := by decide +kernel
theorem f21_64 : fr 21 64 = some (.iload 1, 1, [1], []) := by decide +kernel
theorem f21_65 : fr 21 65 = some (.iload 2, 1, [2], []) := by decide +kernel
theorem f21_66 : fr 21 66 = some (.iastore, 1, [], []) := by decide +kernel
theorem f21_67 : fr 21 67 = some (.iload 3, 1, [3], []) := by decide +kernel
theorem f21_68 : fr 21 68 = some (.ireturn, 1, [], []) := by decide +kernel
theorem t21_0 {X : XX} {d : Nat} {sz sl : Nat} {sh : Nat → Nat × Nat} {R : Nat → Nat → Option Nat} {I : Nat → Nat → Int32} {J : Nat → Nat → Int64} {l0 : Nat} (h0 : sh l0 = (15, 0)) {l1 : Int32} {l2 : Int32} : exe X d 21 0 [Value.ref l0, Value.int l1, Value.int l2, dm] [] (sz, sl, sh, R, I, J) =
    (if ¬ l1 = (8) then (if ¬ l1 = (9) then (if l1 < 0 then some (some (Value.int (0)), (sz, sl, sh, R, I, J)) else (rf ((rfv (R l0 6))) fun p1 => (if (sh p1).1 < 7 then (if (Int32.ofNat (sh p1).2) ≤ l1 then some (some (Value.int (0)), (sz, sl, sh, R, I, J)) else (rf ((rfv (R l0 6))) fun p2 => (if (sh p2).1 = 0 ∧ inb l1 (sh p2).2 then (rf ((rfv (R l0 6))) fun p3 => (if (sh p3).1 = 0 ∧ inb l1 (sh p3).2 then some (some (Value.int (I p2 l1.toNatClampNeg)), (sz, sl, sh, R, (u2 I p3 l1.toNatClampNeg l2), J)) else none)) else none))) else none))) else some (some (Value.int (I l0 4)), (sz, sl, sh, R, (u2 I l0 4 l2), J))) else some (some (Value.int (I l0 2)), (sz, sl, sh, R, (u2 I l0 2 l2), J))) :=
  tq ((E_iconst (x := (0)) (by decide) f21_0)) (tq ((E_istore rfl f21_1)) (tq ((E_iload (x := l1) rfl f21_2)) (tq ((E_iconst (x := (8)) (by decide) f21_3)) (tq ((E_ic_ne f21_5)) (ite_c (tq ((E_iload (x := l1) rfl f21_21)) (tq ((E_iconst (x := (9)) (by decide) f21_22)) (tq ((E_ic_ne f21_24)) (ite_c (tq ((E_iload (x := l1) rfl f21_40)) (tq ((E_if_lt f21_41)) (ite_c (tq ((E_iload (x := (0)) rfl f21_67)) ((E_iret pr_21 f21_68))) (tq ((E_iload (x := l1) rfl f21_44)) (tq ((E_aload (v := Value.ref l0) rfl rfl f21_45)) (tq (tq ((G8006 f21_46)) (if_pos h0)) (tq (E_lenB (isB_rfv _) f21_49) (rf_c fun p1 => ite_c (tq ((E_ic_ge f21_50)) (ite_c (tq ((E_iload (x := (0)) rfl f21_67)) ((E_iret pr_21 f21_68))) (tq ((E_aload (v := Value.ref l0) rfl rfl f21_53)) (tq (tq ((G8006 f21_54)) (if_pos h0)) (tq ((E_iload (x := l1) rfl f21_57)) (tq ((E_ialdB (isB_rfv _) f21_58)) (rf_c fun p2 => ite_c (tq ((E_istore rfl f21_59)) (tq ((E_aload (v := Value.ref l0) rfl rfl f21_60)) (tq (tq ((G8006 f21_61)) (if_pos h0)) (tq ((E_iload (x := l1) rfl f21_64)) (tq ((E_iload (x := l2) rfl f21_65)) (tq ((E_iast f21_66)) (rf_c fun p3 => ite_c (tq ((E_iload (x := (I p2 l1.toNatClampNeg)) rfl f21_67)) ((E_iret pr_21 f21_68))) rfl))))))) rfl))))))) rfl)))))))) (tq ((E_aload (v := Value.ref l0) rfl rfl f21_27)) (tq (tq ((G8004 f21_28)) (if_pos h0)) (tq ((E_istore rfl f21_31)) (tq ((E_aload (v := Value.ref l0) rfl rfl f21_32)) (tq ((E_iload (x := l2) rfl f21_33)) (tq (tq ((P8004 f21_34)) (if_pos h0)) (tq ((E_goto f21_37)) (tq ((E_iload (x := (I l0 4)) rfl f21_67)) ((E_iret pr_21 f21_68)))))))))))))) (tq ((E_aload (v := Value.ref l0) rfl rfl f21_8)) (tq (tq ((G8002 f21_9)) (if_pos h0)) (tq ((E_istore rfl f21_12)) (tq ((E_aload (v := Value.ref l0) rfl rfl f21_13)) (tq ((E_iload (x := l2) rfl f21_14)) (tq (tq ((P8002 f21_15)) (if_pos h0)) (tq ((E_goto f21_18)) (tq ((E_iload (x := (I l0 2)) rfl f21_67)) ((E_iret pr_21 f21_68)))))))))))))))
theorem n21 {X : XX} {d : Nat} {h : HP} {l0 : Nat} {a0 : Int32} {a1 : Int32} : ev X (d + 1) 21 [Value.ref l0, Value.int a0, Value.int a1] h = exe X d 21 0 [Value.ref l0, Value.int a0, Value.int a1, dm] [] h := ev_exe (Nat.le_of_ble_eq_true rfl)
theorem f22_0 : fr 22 0 = some (.aload 0, 1, [], []) := by decide +kernel
theorem f22_1 : fr 22 1 = some (.getfield 1003, 3, [], []) := by decide +kernel
theorem f22_4 : fr 22 4 = some (.iconst 40, 2, [], []) := by decide +kernel
theorem f22_6 : fr 22 6 = some (.if_icmp .lt 13, 3, [], []) := by decide +kernel
theorem f22_9 : fr 22 9 = some (.aload 0, 1, [], []) := by decide +kernel
theorem f22_10 : fr 22 10 = some (.invokevirtual 23, 3, [], []) := by decide +kernel
theorem f22_13 : fr 22 13 = some (.aload 0, 1, [], []) := by decide +kernel
theorem f22_14 : fr 22 14 = some (.getfield 1003, 3, [], []) := by decide +kernel
theorem f22_17 : fr 22 17 = some (.ifCond .lt 29, 3, [], [0, 1, 2, 3]) := by decide +kernel
theorem f22_20 : fr 22 20 = some (.aload 0, 1, [], []) := by decide +kernel
theorem f22_21 : fr 22 21 = some (.getfield 1003, 3, [], []) := by decide +kernel
theorem f22_24 : fr 22 24 = some (.iconst 40, 2, [], []) := by decide +kernel
theorem f22_26 : fr 22 26 = some (.if_icmp .lt 30, 3, [0, 1, 2, 3], []) := by decide +kernel
theorem f22_29 : fr 22 29 = some (.return_, 1, [], []) := by decide +kernel
theorem f22_30 : fr 22 30 = some (.aload 0, 1, [], []) := by decide +kernel
theorem f22_31 : fr 22 31 = some (.getfield 1000, 3, [], []) := by decide +kernel
theorem f22_34 : fr 22 34 = some (.aload 0, 1, [], []) := by decide +kernel
theorem f22_35 : fr 22 35 = some (.getfield 1003, 3, [], []) := by decide +kernel
theorem f22_38 : fr 22 38 = some (.iload 1, 1, [1], []) := by decide +kernel
theorem f22_39 : fr 22 39 = some (.iastore, 1, [], []) := by decide +kernel
theorem f22_40 : fr 22 40 = some (.aload 0, 1, [], []) := by decide +kernel
theorem f22_41 : fr 22 41 = some (.getfield 1001, 3, [], []) := by decide +kernel
theorem f22_44 : fr 22 44 = some (.aload 0, 1, [], []) := by decide +kernel
theorem f22_45 : fr 22 45 = some (.getfield 1003, 3, [], []) := by decide +kernel
theorem f22_48 : fr 22 48 = some (.iload 2, 1, [2], []) := by decide +kernel
theorem f22_49 : fr 22 49 = some (.iastore, 1, [], []) := by decide +kernel
theorem f22_50 : fr 22 50 = some (.aload 0, 1, [], []) := by decide +kernel
theorem f22_51 : fr 22 51 = some (.getfield 1002, 3, [], []) := by decide +kernel
theorem f22_54 : fr 22 54 = some (.aload 0, 1, [], []) := by decide +kernel
theorem f22_55 : fr 22 55 = some (.getfield 1003, 3, [], []) := by decide +kernel
theorem f22_58 : fr 22 58 = some (.iload 3, 1, [3], []) := by decide +kernel
theorem f22_59 : fr 22 59 = some (.iastore, 1, [], []) := by decide +kernel
theorem f22_60 : fr 22 60 = some (.aload 0, 1, [], []) := by decide +kernel
theorem f22_61 : fr 22 61 = some (.dup, 1, [], []) := by decide +kernel
theorem f22_62 : fr 22 62 = some (.getfield 1003, 3, [], []) := by decide +kernel
theorem f22_65 : fr 22 65 = some (.iconst 1, 1, [], []) := by decide +kernel
theorem f22_66 : fr 22 66 = some (.iadd, 1, [], []) := by decide +kernel
theorem f22_67 : fr 22 67 = some (.putfield 1003, 3, [], []) := by decide +kernel
theorem f22_70 : fr 22 70 = some (.aload 0, 1, [], []) := by decide +kernel
theorem f22_71 : fr 22 71 = some (.aload 0, 1, [0], []) := by decide +kernel
theorem f22_72 : fr 22 72 = some (.getfield 1003, 3, [], []) := by decide +kernel
theorem f22_75 : fr 22 75 = some (.putfield 1004, 3, [], []) := by decide +kernel
theorem f22_78 : fr 22 78 = some (.return_, 1, [], []) := by decide +kernel
theorem t22_0 {X : XX} {d : Nat} {sz sl : Nat} {sh : Nat → Nat × Nat} {R : Nat → Nat → Option Nat} {I : Nat → Nat → Int32} {J : Nat → Nat → Int64} (hS : SF sh R) {l1 : Int32} {l2 : Int32} {l3 : Int32} : exe X d 22 0 [Value.ref 17, Value.int l1, Value.int l2, Value.int l3] [] (sz, sl, sh, R, I, J) =
    (if (I 17 3) < (40) then exe X d 22 13 [Value.ref 17, Value.int l1, Value.int l2, Value.int l3] [] (sz, sl, sh, R, I, J) else ((ev X d 23 [Value.ref 17] (sz, sl, sh, R, I, J)).bind fun q => exe X d 22 13 [Value.ref 17, Value.int l1, Value.int l2, Value.int l3] (q.1.toList ++ []) q.2)) :=
  tq ((E_aload (v := Value.ref 17) rfl rfl f22_0)) (tq (tq ((G1003 f22_1)) (if_pos (zS17 hS))) (tq ((E_iconst (x := (40)) (by decide) f22_4)) (tq ((E_ic_lt f22_6)) (ite_c (rfl) (tq ((E_aload (v := Value.ref 17) rfl rfl f22_9)) ((tq ((E_callV pn_23 pc_23 rfl rfl (Nat.le_of_ble_eq_true rfl) f22_10)) (if_pos (zS17 hS)))))))))
theorem t22_13 {X : XX} {d : Nat} {sz sl : Nat} {sh : Nat → Nat × Nat} {R : Nat → Nat → Option Nat} {I : Nat → Nat → Int32} {J : Nat → Nat → Int64} (hS : SF sh R) {l1 : Int32} {l2 : Int32} {l3 : Int32} : exe X d 22 13 [Value.ref 17, Value.int l1, Value.int l2, Value.int l3] [] (sz, sl, sh, R, I, J) =
    (if (I 17 3) < 0 then some (none, (sz, sl, sh, R, I, J)) else (if (I 17 3) < (40) then (if inb (I 17 3) 40 then (if inb (I 17 3) 40 then (if inb (I 17 3) 40 then some (none, (sz, sl, sh, R, (u2 (u2 (u2 (u2 (u2 I 18 (I 17 3).toNatClampNeg l1) 19 (I 17 3).toNatClampNeg l2) 20 (I 17 3).toNatClampNeg l3) 17 3 ((I 17 3) + (1))) 17 4 ((I 17 3) + (1))), J)) else none) else none) else none) else some (none, (sz, sl, sh, R, I, J)))) :=
  tq ((E_aload (v := Value.ref 17) rfl rfl f22_13)) (tq (tq ((G1003 f22_14)) (if_pos (zS17 hS))) (tq ((E_if_lt f22_17)) (ite_c ((E_vret pr_22 f22_29)) (tq ((E_aload (v := Value.ref 17) rfl rfl f22_20)) (tq (tq ((G1003 f22_21)) (if_pos (zS17 hS))) (tq ((E_iconst (x := (40)) (by decide) f22_24)) (tq ((E_ic_lt f22_26)) (ite_c (tq ((E_aload (v := Value.ref 17) rfl rfl f22_30)) (tq (tq ((G1000 f22_31)) (if_pos (zS17 hS))) (tq (exe_R (zR17_0 hS)) (tq ((E_aload (v := Value.ref 17) rfl rfl f22_34)) (tq (tq ((G1003 f22_35)) (if_pos (zS17 hS))) (tq ((E_iload (x := l1) rfl f22_38)) (tq (tq ((E_iast f22_39)) (ite_ar (zS18 hS))) (ite_c (tq ((E_aload (v := Value.ref 17) rfl rfl f22_40)) (tq (tq ((G1001 f22_41)) (if_pos (zS17 hS))) (tq (exe_R (zR17_1 hS)) (tq ((E_aload (v := Value.ref 17) rfl rfl f22_44)) (tq (tq (tq ((G1003 f22_45)) (if_pos (zS17 hS))) (exe_i (u2_pa (by decide)))) (tq ((E_iload (x := l2) rfl f22_48)) (tq (tq ((E_iast f22_49)) (ite_ar (zS19 hS))) (ite_c (tq ((E_aload (v := Value.ref 17) rfl rfl f22_50)) (tq (tq ((G1002 f22_51)) (if_pos (zS17 hS))) (tq (exe_R (zR17_2 hS)) (tq ((E_aload (v := Value.ref 17) rfl rfl f22_54)) (tq (tq (tq ((G1003 f22_55)) (if_pos (zS17 hS))) (exe_i (tq (u2_pa (by decide)) (u2_pa (by decide))))) (tq ((E_iload (x := l3) rfl f22_58)) (tq (tq ((E_iast f22_59)) (ite_ar (zS20 hS))) (ite_c (tq ((E_aload (v := Value.ref 17) rfl rfl f22_60)) (tq ((E_dup rfl f22_61)) (tq (tq (tq ((G1003 f22_62)) (if_pos (zS17 hS))) (exe_i (tq (u2_pa (by decide)) (tq (u2_pa (by decide)) (u2_pa (by decide)))))) (tq ((E_iconst (x := (1)) (by decide) f22_65)) (tq ((E_iadd f22_66)) (tq (tq ((P1003 f22_67)) (if_pos (zS17 hS))) (tq ((E_aload (v := Value.ref 17) rfl rfl f22_70)) (tq ((E_aload (v := Value.ref 17) rfl rfl f22_71)) (tq (tq (tq ((G1003 f22_72)) (if_pos (zS17 hS))) (exe_i (u2_at0))) (tq (tq ((P1004 f22_75)) (if_pos (zS17 hS))) ((E_vret pr_22 f22_78)))))))))))) rfl)))))))) rfl)))))))) rfl)))))))) ((E_vret pr_22 f22_29))))))))))
theorem n22 {X : XX} {d : Nat} {h : HP} {a0 : Int32} {a1 : Int32} {a2 : Int32} : ev X (d + 1) 22 [Value.ref 17, Value.int a0, Value.int a1, Value.int a2] h = exe X d 22 0 [Value.ref 17, Value.int a0, Value.int a1, Value.int a2] [] h := ev_exe (Nat.le_of_ble_eq_true rfl)
theorem f23_0 : fr 23 0 = some (.aload 0, 1, [], []) := by decide +kernel
theorem f23_1 : fr 23 1 = some (.getfield 1000, 3, [], []) := by decide +kernel
theorem f23_4 : fr 23 4 = some (.iconst 1, 1, [], []) := by decide +kernel
theorem f23_5 : fr 23 5 = some (.aload 0, 1, [], []) := by decide +kernel
theorem f23_6 : fr 23 6 = some (.getfield 1000, 3, [], []) := by decide +kernel
theorem f23_9 : fr 23 9 = some (.iconst 0, 1, [], []) := by decide +kernel
theorem f23_10 : fr 23 10 = some (.iconst 39, 2, [], []) := by decide +kernel
theorem f23_12 : fr 23 12 = some (.monitorenter, 3, [], []) := by decide +kernel
theorem f23_15 : fr 23 15 = some (.aload 0, 1, [], []) := by decide +kernel
theorem f23_16 : fr 23 16 = some (.getfield 1001, 3, [], []) := by decide +kernel
theorem f23_19 : fr 23 19 = some (.iconst 1, 1, [], []) := by decide +kernel
theorem f23_20 : fr 23 20 = some (.aload 0, 1, [], []) := by decide +kernel
theorem f23_21 : fr 23 21 = some (.getfield 1001, 3, [], []) := by decide +kernel
theorem f23_24 : fr 23 24 = some (.iconst 0, 1, [], []) := by decide +kernel
theorem f23_25 : fr 23 25 = some (.iconst 39, 2, [], []) := by decide +kernel
theorem f23_27 : fr 23 27 = some (.monitorenter, 3, [], []) := by decide +kernel
theorem f23_30 : fr 23 30 = some (.aload 0, 1, [], []) := by decide +kernel
theorem f23_31 : fr 23 31 = some (.getfield 1002, 3, [], []) := by decide +kernel
theorem f23_34 : fr 23 34 = some (.iconst 1, 1, [], []) := by decide +kernel
theorem f23_35 : fr 23 35 = some (.aload 0, 1, [], []) := by decide +kernel
theorem f23_36 : fr 23 36 = some (.getfield 1002, 3, [], []) := by decide +kernel
theorem f23_39 : fr 23 39 = some (.iconst 0, 1, [], []) := by decide +kernel
theorem f23_40 : fr 23 40 = some (.iconst 39, 2, [], []) := by decide +kernel
theorem f23_42 : fr 23 42 = some (.monitorenter, 3, [], []) := by decide +kernel
theorem f23_45 : fr 23 45 = some (.aload 0, 1, [0], []) := by decide +kernel
theorem f23_46 : fr 23 46 = some (.iconst 39, 2, [], []) := by decide +kernel
theorem f23_48 : fr 23 48 = some (.putfield 1003, 3, [], []) := by decide +kernel
theorem f23_51 : fr 23 51 = some (.return_, 1, [], []) := by decide +kernel
theorem t23_0 {X : XX} {d : Nat} {sz sl : Nat} {sh : Nat → Nat × Nat} {R : Nat → Nat → Option Nat} {I : Nat → Nat → Int32} {J : Nat → Nat → Int64} (hS : SF sh R)  : exe X d 23 0 [Value.ref 17] [] (sz, sl, sh, R, I, J) =
    (if ((¬ ((1) : Int32) < 0 ∧ ¬ ((0) : Int32) < 0 ∧ ¬ ((39) : Int32) < 0) ∧ 1 + 39 ≤ (sh 18).2 ∧ 0 + 39 ≤ (sh 18).2) then (if (sh 18).1 = 0 ∧ (sh 18).1 = 0 then exe X d 23 15 [Value.ref 17] [] (sz, sl, sh, R, (ur I 18 (va_cpy (I 18) (I 18) 1 0 39)), J) else if (sh 18).1 = 1 ∧ (sh 18).1 = 1 then exe X d 23 15 [Value.ref 17] [] (sz, sl, sh, R, I, (ur J 18 (va_cpy (J 18) (J 18) 1 0 39))) else none) else none) :=
  tq ((E_aload (v := Value.ref 17) rfl rfl f23_0)) (tq (tq ((G1000 f23_1)) (if_pos (zS17 hS))) (tq (exe_R (zR17_0 hS)) (tq ((E_iconst (x := (1)) (by decide) f23_4)) (tq ((E_aload (v := Value.ref 17) rfl rfl f23_5)) (tq (tq ((G1000 f23_6)) (if_pos (zS17 hS))) (tq (exe_R (zR17_0 hS)) (tq ((E_iconst (x := (0)) (by decide) f23_9)) (tq ((E_iconst (x := (39)) (by decide) f23_10)) ((E_copy (Nat.le_of_ble_eq_true rfl) f23_12))))))))))
theorem t23_15 {X : XX} {d : Nat} {sz sl : Nat} {sh : Nat → Nat × Nat} {R : Nat → Nat → Option Nat} {I : Nat → Nat → Int32} {J : Nat → Nat → Int64} (hS : SF sh R)  : exe X d 23 15 [Value.ref 17] [] (sz, sl, sh, R, I, J) =
    (if ((¬ ((1) : Int32) < 0 ∧ ¬ ((0) : Int32) < 0 ∧ ¬ ((39) : Int32) < 0) ∧ 1 + 39 ≤ (sh 19).2 ∧ 0 + 39 ≤ (sh 19).2) then (if (sh 19).1 = 0 ∧ (sh 19).1 = 0 then exe X d 23 30 [Value.ref 17] [] (sz, sl, sh, R, (ur I 19 (va_cpy (I 19) (I 19) 1 0 39)), J) else if (sh 19).1 = 1 ∧ (sh 19).1 = 1 then exe X d 23 30 [Value.ref 17] [] (sz, sl, sh, R, I, (ur J 19 (va_cpy (J 19) (J 19) 1 0 39))) else none) else none) :=
  tq ((E_aload (v := Value.ref 17) rfl rfl f23_15)) (tq (tq ((G1001 f23_16)) (if_pos (zS17 hS))) (tq (exe_R (zR17_1 hS)) (tq ((E_iconst (x := (1)) (by decide) f23_19)) (tq ((E_aload (v := Value.ref 17) rfl rfl f23_20)) (tq (tq ((G1001 f23_21)) (if_pos (zS17 hS))) (tq (exe_R (zR17_1 hS)) (tq ((E_iconst (x := (0)) (by decide) f23_24)) (tq ((E_iconst (x := (39)) (by decide) f23_25)) ((E_copy (Nat.le_of_ble_eq_true rfl) f23_27))))))))))
theorem t23_30 {X : XX} {d : Nat} {sz sl : Nat} {sh : Nat → Nat × Nat} {R : Nat → Nat → Option Nat} {I : Nat → Nat → Int32} {J : Nat → Nat → Int64} (hS : SF sh R)  : exe X d 23 30 [Value.ref 17] [] (sz, sl, sh, R, I, J) =
    (if ((¬ ((1) : Int32) < 0 ∧ ¬ ((0) : Int32) < 0 ∧ ¬ ((39) : Int32) < 0) ∧ 1 + 39 ≤ (sh 20).2 ∧ 0 + 39 ≤ (sh 20).2) then (if (sh 20).1 = 0 ∧ (sh 20).1 = 0 then exe X d 23 45 [Value.ref 17] [] (sz, sl, sh, R, (ur I 20 (va_cpy (I 20) (I 20) 1 0 39)), J) else if (sh 20).1 = 1 ∧ (sh 20).1 = 1 then exe X d 23 45 [Value.ref 17] [] (sz, sl, sh, R, I, (ur J 20 (va_cpy (J 20) (J 20) 1 0 39))) else none) else none) :=
  tq ((E_aload (v := Value.ref 17) rfl rfl f23_30)) (tq (tq ((G1002 f23_31)) (if_pos (zS17 hS))) (tq (exe_R (zR17_2 hS)) (tq ((E_iconst (x := (1)) (by decide) f23_34)) (tq ((E_aload (v := Value.ref 17) rfl rfl f23_35)) (tq (tq ((G1002 f23_36)) (if_pos (zS17 hS))) (tq (exe_R (zR17_2 hS)) (tq ((E_iconst (x := (0)) (by decide) f23_39)) (tq ((E_iconst (x := (39)) (by decide) f23_40)) ((E_copy (Nat.le_of_ble_eq_true rfl) f23_42))))))))))
theorem t23_45 {X : XX} {d : Nat} {sz sl : Nat} {sh : Nat → Nat × Nat} {R : Nat → Nat → Option Nat} {I : Nat → Nat → Int32} {J : Nat → Nat → Int64} (hS : SF sh R)  : exe X d 23 45 [Value.ref 17] [] (sz, sl, sh, R, I, J) =
    some (none, (sz, sl, sh, R, (u2 I 17 3 (39)), J)) :=
  tq ((E_aload (v := Value.ref 17) rfl rfl f23_45)) (tq ((E_iconst (x := (39)) (by decide) f23_46)) (tq (tq ((P1003 f23_48)) (if_pos (zS17 hS))) ((E_vret pr_23 f23_51))))
theorem n23 {X : XX} {d : Nat} {h : HP}  : ev X (d + 1) 23 [Value.ref 17] h = exe X d 23 0 [Value.ref 17] [] h := ev_exe (Nat.le_of_ble_eq_true rfl)
theorem f24_0 : fr 24 0 = some (.aload 0, 1, [], []) := by decide +kernel
theorem f24_1 : fr 24 1 = some (.iload 1, 1, [], []) := by decide +kernel
theorem f24_2 : fr 24 2 = some (.invokevirtual 12, 3, [], []) := by decide +kernel
theorem f24_5 : fr 24 5 = some (.ifnull 36, 3, [], [0, 1, 2, 3]) := by decide +kernel
theorem f24_8 : fr 24 8 = some (.iload 2, 1, [], []) := by decide +kernel
theorem f24_9 : fr 24 9 = some (.iconst 0, 1, [], []) := by decide +kernel
theorem f24_10 : fr 24 10 = some (.iconst 1, 1, [], []) := by decide +kernel
theorem f24_11 : fr 24 11 = some (.invokestatic 10, 3, [], []) := by decide +kernel
theorem f24_14 : fr 24 14 = some (.ifCond .eq 36, 3, [], [0, 1, 2, 3]) := by decide +kernel
theorem f24_17 : fr 24 17 = some (.iload 3, 1, [], []) := by decide +kernel
theorem f24_18 : fr 24 18 = some (.iconst 1, 1, [], []) := by decide +kernel
theorem f24_19 : fr 24 19 = some (.iload 2, 1, [], []) := by decide +kernel
theorem f24_20 : fr 24 20 = some (.ifCond .ne 28, 3, [], []) := by decide +kernel
theorem f24_23 : fr 24 23 = some (.iconst 9, 2, [], []) := by decide +kernel
theorem f24_25 : fr 24 25 = some (.goto 30, 3, [], []) := by decide +kernel
theorem f24_28 : fr 24 28 = some (.iconst 99, 2, [], []) := by decide +kernel
theorem f24_30 : fr 24 30 = some (.invokestatic 10, 3, [], []) := by decide +kernel
theorem f24_33 : fr 24 33 = some (.ifCond .ne 38, 3, [0, 1, 2, 3], []) := by decide +kernel
theorem f24_36 : fr 24 36 = some (.iconst (-1), 1, [], []) := by decide +kernel
theorem f24_37 : fr 24 37 = some (.ireturn, 1, [], []) := by decide +kernel
theorem f24_38 : fr 24 38 = some (.aload 0, 1, [0], []) := by decide +kernel
theorem f24_39 : fr 24 39 = some (.iconst 10, 2, [], []) := by decide +kernel
theorem f24_41 : fr 24 41 = some (.iload 1, 1, [1], []) := by decide +kernel
theorem f24_42 : fr 24 42 = some (.imul, 1, [], []) := by decide +kernel
theorem f24_43 : fr 24 43 = some (.iload 2, 1, [2], []) := by decide +kernel
theorem f24_44 : fr 24 44 = some (.ifCond .ne 52, 3, [], []) := by decide +kernel
theorem f24_47 : fr 24 47 = some (.iconst 8, 2, [], []) := by decide +kernel
theorem f24_49 : fr 24 49 = some (.goto 54, 3, [], []) := by decide +kernel
theorem f24_52 : fr 24 52 = some (.iconst 9, 2, [], []) := by decide +kernel
theorem f24_54 : fr 24 54 = some (.iadd, 1, [], []) := by decide +kernel
theorem f24_55 : fr 24 55 = some (.iload 3, 1, [3], []) := by decide +kernel
theorem f24_56 : fr 24 56 = some (.invokevirtual 19, 3, [], []) := by decide +kernel
theorem f24_59 : fr 24 59 = some (.ireturn, 1, [], []) := by decide +kernel
theorem t24_0 {X : XX} {d : Nat} {sz sl : Nat} {sh : Nat → Nat × Nat} {R : Nat → Nat → Option Nat} {I : Nat → Nat → Int32} {J : Nat → Nat → Int64} (hS : SF sh R) {l1 : Int32} {l2 : Int32} {l3 : Int32} : exe X d 24 0 [Value.ref 0, Value.int l1, Value.int l2, Value.int l3] [] (sz, sl, sh, R, I, J) =
    ((ev X d 12 [Value.ref 0, Value.int l1] (sz, sl, sh, R, I, J)).bind fun q => exe X d 24 5 [Value.ref 0, Value.int l1, Value.int l2, Value.int l3] (q.1.toList ++ []) q.2) :=
  tq ((E_aload (v := Value.ref 0) rfl rfl f24_0)) (tq ((E_iload (x := l1) rfl f24_1)) ((tq ((E_callV pn_12 pc_12 rfl rfl (Nat.le_of_ble_eq_true rfl) f24_2)) (if_pos (zS0 hS)))))
theorem t24_5 {X : XX} {d : Nat} {sz sl : Nat} {sh : Nat → Nat × Nat} {R : Nat → Nat → Option Nat} {I : Nat → Nat → Int32} {J : Nat → Nat → Int64} {l1 : Int32} {l2 : Int32} {l3 : Int32} {s0 : Value} (k0 : isB s0 = true) : exe X d 24 5 [Value.ref 0, Value.int l1, Value.int l2, Value.int l3] [s0] (sz, sl, sh, R, I, J) =
    (nn (s0) (some (some (Value.int (-1)), (sz, sl, sh, R, I, J))) (((ev X d 10 [Value.int l2, Value.int (0), Value.int (1)] (sz, sl, sh, R, I, J)).bind fun q => exe X d 24 14 [Value.ref 0, Value.int l1, Value.int l2, Value.int l3] (q.1.toList ++ []) q.2))) :=
  tq ((E_ifnull f24_5)) (nn_c (tq ((E_iconst (x := (-1)) (by decide) f24_36)) ((E_iret pr_24 f24_37))) (tq ((E_iload (x := l2) rfl f24_8)) (tq ((E_iconst (x := (0)) (by decide) f24_9)) (tq ((E_iconst (x := (1)) (by decide) f24_10)) ((E_callS pn_10 rfl rfl (Nat.le_of_ble_eq_true rfl) (Nat.le_of_ble_eq_true rfl) f24_11))))))
theorem t24_14 {X : XX} {d : Nat} {sz sl : Nat} {sh : Nat → Nat × Nat} {R : Nat → Nat → Option Nat} {I : Nat → Nat → Int32} {J : Nat → Nat → Int64} {l1 : Int32} {l2 : Int32} {l3 : Int32} {s0 : Int32} : exe X d 24 14 [Value.ref 0, Value.int l1, Value.int l2, Value.int l3] [Value.int s0] (sz, sl, sh, R, I, J) =
    (if s0 = 0 then some (some (Value.int (-1)), (sz, sl, sh, R, I, J)) else (if ¬ l2 = 0 then ((ev X d 10 [Value.int l3, Value.int (1), Value.int (99)] (sz, sl, sh, R, I, J)).bind fun q => exe X d 24 33 [Value.ref 0, Value.int l1, Value.int l2, Value.int l3] (q.1.toList ++ []) q.2) else ((ev X d 10 [Value.int l3, Value.int (1), Value.int (9)] (sz, sl, sh, R, I, J)).bind fun q => exe X d 24 33 [Value.ref 0, Value.int l1, Value.int l2, Value.int l3] (q.1.toList ++ []) q.2))) :=
  tq ((E_if_eq f24_14)) (ite_c (tq ((E_iconst (x := (-1)) (by decide) f24_36)) ((E_iret pr_24 f24_37))) (tq ((E_iload (x := l3) rfl f24_17)) (tq ((E_iconst (x := (1)) (by decide) f24_18)) (tq ((E_iload (x := l2) rfl f24_19)) (tq ((E_if_ne f24_20)) (ite_c (tq ((E_iconst (x := (99)) (by decide) f24_28)) ((E_callS pn_10 rfl rfl (Nat.le_of_ble_eq_true rfl) (Nat.le_of_ble_eq_true rfl) f24_30))) (tq ((E_iconst (x := (9)) (by decide) f24_23)) (tq ((E_goto f24_25)) ((E_callS pn_10 rfl rfl (Nat.le_of_ble_eq_true rfl) (Nat.le_of_ble_eq_true rfl) f24_30))))))))))
theorem t24_33 {X : XX} {d : Nat} {sz sl : Nat} {sh : Nat → Nat × Nat} {R : Nat → Nat → Option Nat} {I : Nat → Nat → Int32} {J : Nat → Nat → Int64} (hS : SF sh R) {l1 : Int32} {l2 : Int32} {l3 : Int32} {s0 : Int32} : exe X d 24 33 [Value.ref 0, Value.int l1, Value.int l2, Value.int l3] [Value.int s0] (sz, sl, sh, R, I, J) =
    (if ¬ s0 = 0 then (if ¬ l2 = 0 then ((ev X d 19 [Value.ref 0, Value.int (((10) * l1) + (9)), Value.int l3] (sz, sl, sh, R, I, J)).bind fun q => exe X d 24 59 [dm, dm, dm, dm] (q.1.toList ++ []) q.2) else ((ev X d 19 [Value.ref 0, Value.int (((10) * l1) + (8)), Value.int l3] (sz, sl, sh, R, I, J)).bind fun q => exe X d 24 59 [dm, dm, dm, dm] (q.1.toList ++ []) q.2)) else some (some (Value.int (-1)), (sz, sl, sh, R, I, J))) :=
  tq ((E_if_ne f24_33)) (ite_c (tq ((E_aload (v := Value.ref 0) rfl rfl f24_38)) (tq ((E_iconst (x := (10)) (by decide) f24_39)) (tq ((E_iload (x := l1) rfl f24_41)) (tq ((E_imul f24_42)) (tq ((E_iload (x := l2) rfl f24_43)) (tq ((E_if_ne f24_44)) (ite_c (tq ((E_iconst (x := (9)) (by decide) f24_52)) (tq ((E_iadd f24_54)) (tq ((E_iload (x := l3) rfl f24_55)) ((tq ((E_callV pn_19 pc_19 rfl rfl (Nat.le_of_ble_eq_true rfl) f24_56)) (if_pos (zS0 hS))))))) (tq ((E_iconst (x := (8)) (by decide) f24_47)) (tq ((E_goto f24_49)) (tq ((E_iadd f24_54)) (tq ((E_iload (x := l3) rfl f24_55)) ((tq ((E_callV pn_19 pc_19 rfl rfl (Nat.le_of_ble_eq_true rfl) f24_56)) (if_pos (zS0 hS))))))))))))))) (tq ((E_iconst (x := (-1)) (by decide) f24_36)) ((E_iret pr_24 f24_37))))
theorem t24_59 {X : XX} {d : Nat} {sz sl : Nat} {sh : Nat → Nat × Nat} {R : Nat → Nat → Option Nat} {I : Nat → Nat → Int32} {J : Nat → Nat → Int64} {s0 : Int32} : exe X d 24 59 [dm, dm, dm, dm] [Value.int s0] (sz, sl, sh, R, I, J) =
    some (some (Value.int s0), (sz, sl, sh, R, I, J)) :=
  (E_iret pr_24 f24_59)
theorem n24 {X : XX} {d : Nat} {h : HP} {a0 : Int32} {a1 : Int32} {a2 : Int32} : ev X (d + 1) 24 [Value.ref 0, Value.int a0, Value.int a1, Value.int a2] h = exe X d 24 0 [Value.ref 0, Value.int a0, Value.int a1, Value.int a2] [] h := ev_exe (Nat.le_of_ble_eq_true rfl)
