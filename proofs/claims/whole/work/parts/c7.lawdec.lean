theorem d_law_0 : decode code 0 = .ok (.new 7, 3) := by decide +kernel
theorem d_law_3 : decode code 3 = .ok (.dup, 1) := by decide +kernel
theorem d_law_4 : decode code 4 = .ok (.invokespecial 9, 3) := by decide +kernel
theorem d_law_7 : decode code 7 = .ok (.astore_n 1, 1) := by decide +kernel
theorem d_law_8 : decode code 8 = .ok (.new 10, 3) := by decide +kernel
theorem d_law_11 : decode code 11 = .ok (.dup, 1) := by decide +kernel
theorem d_law_12 : decode code 12 = .ok (.invokespecial 12, 3) := by decide +kernel
theorem d_law_15 : decode code 15 = .ok (.astore_n 2, 1) := by decide +kernel
theorem d_law_16 : decode code 16 = .ok (.iconst 0, 1) := by decide +kernel
theorem d_law_17 : decode code 17 = .ok (.istore_n 3, 1) := by decide +kernel
theorem d_law_18 : decode code 18 = .ok (.iload_n 3, 1) := by decide +kernel
theorem d_law_19 : decode code 19 = .ok (.aload_n 0, 1) := by decide +kernel
theorem d_law_20 : decode code 20 = .ok (.arraylength, 1) := by decide +kernel
theorem d_law_21 : decode code 21 = .ok (.bipush 6, 2) := by decide +kernel
theorem d_law_23 : decode code 23 = .ok (.isub, 1) := by decide +kernel
theorem d_law_24 : decode code 24 = .ok (.if_icmp .gt 1038, 3) := by decide +kernel
theorem d_law_27 : decode code 27 = .ok (.aload_n 0, 1) := by decide +kernel
theorem d_law_28 : decode code 28 = .ok (.iload_n 3, 1) := by decide +kernel
theorem d_law_29 : decode code 29 = .ok (.iaload, 1) := by decide +kernel
theorem d_law_30 : decode code 30 = .ok (.bipush 63, 2) := by decide +kernel
theorem d_law_32 : decode code 32 = .ok (.iand, 1) := by decide +kernel
theorem d_law_33 : decode code 33 = .ok (.tableswitch 1023 0 34 #[155, 218, 241, 254, 277, 300, 343, 376, 409, 442, 475, 509, 542, 565, 579, 602, 615, 638, 661, 684, 707, 720, 733, 756, 789, 822, 855, 878, 901, 914, 937, 951, 964, 987, 1000], 155) := by decide +kernel
theorem d_law_188 : decode code 188 = .ok (.aload_n 1, 1) := by decide +kernel
theorem d_law_189 : decode code 189 = .ok (.aload_n 0, 1) := by decide +kernel
theorem d_law_190 : decode code 190 = .ok (.iload_n 3, 1) := by decide +kernel
theorem d_law_191 : decode code 191 = .ok (.iconst 1, 1) := by decide +kernel
theorem d_law_192 : decode code 192 = .ok (.iadd, 1) := by decide +kernel
theorem d_law_193 : decode code 193 = .ok (.iaload, 1) := by decide +kernel
theorem d_law_194 : decode code 194 = .ok (.aload_n 0, 1) := by decide +kernel
theorem d_law_195 : decode code 195 = .ok (.iload_n 3, 1) := by decide +kernel
theorem d_law_196 : decode code 196 = .ok (.iconst 2, 1) := by decide +kernel
theorem d_law_197 : decode code 197 = .ok (.iadd, 1) := by decide +kernel
theorem d_law_198 : decode code 198 = .ok (.iaload, 1) := by decide +kernel
theorem d_law_199 : decode code 199 = .ok (.aload_n 0, 1) := by decide +kernel
theorem d_law_200 : decode code 200 = .ok (.iload_n 3, 1) := by decide +kernel
theorem d_law_201 : decode code 201 = .ok (.iconst 3, 1) := by decide +kernel
theorem d_law_202 : decode code 202 = .ok (.iadd, 1) := by decide +kernel
theorem d_law_203 : decode code 203 = .ok (.iaload, 1) := by decide +kernel
theorem d_law_204 : decode code 204 = .ok (.aload_n 0, 1) := by decide +kernel
theorem d_law_205 : decode code 205 = .ok (.iload_n 3, 1) := by decide +kernel
theorem d_law_206 : decode code 206 = .ok (.iconst 4, 1) := by decide +kernel
theorem d_law_207 : decode code 207 = .ok (.iadd, 1) := by decide +kernel
theorem d_law_208 : decode code 208 = .ok (.iaload, 1) := by decide +kernel
theorem d_law_209 : decode code 209 = .ok (.aload_n 0, 1) := by decide +kernel
theorem d_law_210 : decode code 210 = .ok (.iload_n 3, 1) := by decide +kernel
theorem d_law_211 : decode code 211 = .ok (.iconst 5, 1) := by decide +kernel
theorem d_law_212 : decode code 212 = .ok (.iadd, 1) := by decide +kernel
theorem d_law_213 : decode code 213 = .ok (.iaload, 1) := by decide +kernel
theorem d_law_214 : decode code 214 = .ok (.invokevirtual 13, 3) := by decide +kernel
theorem d_law_217 : decode code 217 = .ok (.aload_n 2, 1) := by decide +kernel
theorem d_law_218 : decode code 218 = .ok (.aload_n 0, 1) := by decide +kernel
theorem d_law_219 : decode code 219 = .ok (.iload_n 3, 1) := by decide +kernel
theorem d_law_220 : decode code 220 = .ok (.iconst 1, 1) := by decide +kernel
theorem d_law_221 : decode code 221 = .ok (.iadd, 1) := by decide +kernel
theorem d_law_222 : decode code 222 = .ok (.iaload, 1) := by decide +kernel
theorem d_law_223 : decode code 223 = .ok (.aload_n 0, 1) := by decide +kernel
theorem d_law_224 : decode code 224 = .ok (.iload_n 3, 1) := by decide +kernel
theorem d_law_225 : decode code 225 = .ok (.iconst 2, 1) := by decide +kernel
theorem d_law_226 : decode code 226 = .ok (.iadd, 1) := by decide +kernel
theorem d_law_227 : decode code 227 = .ok (.iaload, 1) := by decide +kernel
theorem d_law_228 : decode code 228 = .ok (.aload_n 0, 1) := by decide +kernel
theorem d_law_229 : decode code 229 = .ok (.iload_n 3, 1) := by decide +kernel
theorem d_law_230 : decode code 230 = .ok (.iconst 3, 1) := by decide +kernel
theorem d_law_231 : decode code 231 = .ok (.iadd, 1) := by decide +kernel
theorem d_law_232 : decode code 232 = .ok (.iaload, 1) := by decide +kernel
theorem d_law_233 : decode code 233 = .ok (.aload_n 0, 1) := by decide +kernel
theorem d_law_234 : decode code 234 = .ok (.iload_n 3, 1) := by decide +kernel
theorem d_law_235 : decode code 235 = .ok (.iconst 4, 1) := by decide +kernel
theorem d_law_236 : decode code 236 = .ok (.iadd, 1) := by decide +kernel
theorem d_law_237 : decode code 237 = .ok (.iaload, 1) := by decide +kernel
theorem d_law_238 : decode code 238 = .ok (.aload_n 0, 1) := by decide +kernel
theorem d_law_239 : decode code 239 = .ok (.iload_n 3, 1) := by decide +kernel
theorem d_law_240 : decode code 240 = .ok (.iconst 5, 1) := by decide +kernel
theorem d_law_241 : decode code 241 = .ok (.iadd, 1) := by decide +kernel
theorem d_law_242 : decode code 242 = .ok (.iaload, 1) := by decide +kernel
theorem d_law_243 : decode code 243 = .ok (.invokevirtual 17, 3) := by decide +kernel
theorem d_law_246 : decode code 246 = .ok (.if_icmp .eq 810, 3) := by decide +kernel
theorem d_law_249 : decode code 249 = .ok (.iconst 0, 1) := by decide +kernel
theorem d_law_250 : decode code 250 = .ok (.ireturn, 1) := by decide +kernel
theorem d_law_251 : decode code 251 = .ok (.aload_n 1, 1) := by decide +kernel
theorem d_law_252 : decode code 252 = .ok (.aload_n 0, 1) := by decide +kernel
theorem d_law_253 : decode code 253 = .ok (.iload_n 3, 1) := by decide +kernel
theorem d_law_254 : decode code 254 = .ok (.iconst 1, 1) := by decide +kernel
theorem d_law_255 : decode code 255 = .ok (.iadd, 1) := by decide +kernel
theorem d_law_256 : decode code 256 = .ok (.iaload, 1) := by decide +kernel
theorem d_law_257 : decode code 257 = .ok (.invokevirtual 18, 3) := by decide +kernel
theorem d_law_260 : decode code 260 = .ok (.aload_n 2, 1) := by decide +kernel
theorem d_law_261 : decode code 261 = .ok (.aload_n 0, 1) := by decide +kernel
theorem d_law_262 : decode code 262 = .ok (.iload_n 3, 1) := by decide +kernel
theorem d_law_263 : decode code 263 = .ok (.iconst 1, 1) := by decide +kernel
theorem d_law_264 : decode code 264 = .ok (.iadd, 1) := by decide +kernel
theorem d_law_265 : decode code 265 = .ok (.iaload, 1) := by decide +kernel
theorem d_law_266 : decode code 266 = .ok (.invokevirtual 22, 3) := by decide +kernel
theorem d_law_269 : decode code 269 = .ok (.if_icmp .eq 787, 3) := by decide +kernel
theorem d_law_272 : decode code 272 = .ok (.iconst 0, 1) := by decide +kernel
theorem d_law_273 : decode code 273 = .ok (.ireturn, 1) := by decide +kernel
theorem d_law_274 : decode code 274 = .ok (.aload_n 1, 1) := by decide +kernel
theorem d_law_275 : decode code 275 = .ok (.invokevirtual 23, 3) := by decide +kernel
theorem d_law_278 : decode code 278 = .ok (.aload_n 2, 1) := by decide +kernel
theorem d_law_279 : decode code 279 = .ok (.invokevirtual 27, 3) := by decide +kernel
theorem d_law_282 : decode code 282 = .ok (.if_icmp .eq 774, 3) := by decide +kernel
theorem d_law_285 : decode code 285 = .ok (.iconst 0, 1) := by decide +kernel
theorem d_law_286 : decode code 286 = .ok (.ireturn, 1) := by decide +kernel
theorem d_law_287 : decode code 287 = .ok (.aload_n 1, 1) := by decide +kernel
theorem d_law_288 : decode code 288 = .ok (.aload_n 0, 1) := by decide +kernel
theorem d_law_289 : decode code 289 = .ok (.iload_n 3, 1) := by decide +kernel
theorem d_law_290 : decode code 290 = .ok (.iconst 1, 1) := by decide +kernel
theorem d_law_291 : decode code 291 = .ok (.iadd, 1) := by decide +kernel
theorem d_law_292 : decode code 292 = .ok (.iaload, 1) := by decide +kernel
theorem d_law_293 : decode code 293 = .ok (.invokevirtual 28, 3) := by decide +kernel
theorem d_law_296 : decode code 296 = .ok (.aload_n 2, 1) := by decide +kernel
theorem d_law_297 : decode code 297 = .ok (.aload_n 0, 1) := by decide +kernel
theorem d_law_298 : decode code 298 = .ok (.iload_n 3, 1) := by decide +kernel
theorem d_law_299 : decode code 299 = .ok (.iconst 1, 1) := by decide +kernel
theorem d_law_300 : decode code 300 = .ok (.iadd, 1) := by decide +kernel
theorem d_law_301 : decode code 301 = .ok (.iaload, 1) := by decide +kernel
theorem d_law_302 : decode code 302 = .ok (.invokevirtual 32, 3) := by decide +kernel
theorem d_law_305 : decode code 305 = .ok (.if_icmp .eq 751, 3) := by decide +kernel
theorem d_law_308 : decode code 308 = .ok (.iconst 0, 1) := by decide +kernel
theorem d_law_309 : decode code 309 = .ok (.ireturn, 1) := by decide +kernel
theorem d_law_310 : decode code 310 = .ok (.aload_n 1, 1) := by decide +kernel
theorem d_law_311 : decode code 311 = .ok (.aload_n 0, 1) := by decide +kernel
theorem d_law_312 : decode code 312 = .ok (.iload_n 3, 1) := by decide +kernel
theorem d_law_313 : decode code 313 = .ok (.iconst 1, 1) := by decide +kernel
theorem d_law_314 : decode code 314 = .ok (.iadd, 1) := by decide +kernel
theorem d_law_315 : decode code 315 = .ok (.iaload, 1) := by decide +kernel
theorem d_law_316 : decode code 316 = .ok (.invokevirtual 33, 3) := by decide +kernel
theorem d_law_319 : decode code 319 = .ok (.aload_n 2, 1) := by decide +kernel
theorem d_law_320 : decode code 320 = .ok (.aload_n 0, 1) := by decide +kernel
theorem d_law_321 : decode code 321 = .ok (.iload_n 3, 1) := by decide +kernel
theorem d_law_322 : decode code 322 = .ok (.iconst 1, 1) := by decide +kernel
theorem d_law_323 : decode code 323 = .ok (.iadd, 1) := by decide +kernel
theorem d_law_324 : decode code 324 = .ok (.iaload, 1) := by decide +kernel
theorem d_law_325 : decode code 325 = .ok (.invokevirtual 36, 3) := by decide +kernel
theorem d_law_328 : decode code 328 = .ok (.if_icmp .eq 728, 3) := by decide +kernel
theorem d_law_331 : decode code 331 = .ok (.iconst 0, 1) := by decide +kernel
theorem d_law_332 : decode code 332 = .ok (.ireturn, 1) := by decide +kernel
theorem d_law_333 : decode code 333 = .ok (.aload_n 1, 1) := by decide +kernel
theorem d_law_334 : decode code 334 = .ok (.aload_n 0, 1) := by decide +kernel
theorem d_law_335 : decode code 335 = .ok (.iload_n 3, 1) := by decide +kernel
theorem d_law_336 : decode code 336 = .ok (.iconst 1, 1) := by decide +kernel
theorem d_law_337 : decode code 337 = .ok (.iadd, 1) := by decide +kernel
theorem d_law_338 : decode code 338 = .ok (.iaload, 1) := by decide +kernel
theorem d_law_339 : decode code 339 = .ok (.aload_n 0, 1) := by decide +kernel
theorem d_law_340 : decode code 340 = .ok (.iload_n 3, 1) := by decide +kernel
theorem d_law_341 : decode code 341 = .ok (.iconst 2, 1) := by decide +kernel
theorem d_law_342 : decode code 342 = .ok (.iadd, 1) := by decide +kernel
theorem d_law_343 : decode code 343 = .ok (.iaload, 1) := by decide +kernel
theorem d_law_344 : decode code 344 = .ok (.aload_n 0, 1) := by decide +kernel
theorem d_law_345 : decode code 345 = .ok (.iload_n 3, 1) := by decide +kernel
theorem d_law_346 : decode code 346 = .ok (.iconst 3, 1) := by decide +kernel
theorem d_law_347 : decode code 347 = .ok (.iadd, 1) := by decide +kernel
theorem d_law_348 : decode code 348 = .ok (.iaload, 1) := by decide +kernel
theorem d_law_349 : decode code 349 = .ok (.invokevirtual 37, 3) := by decide +kernel
theorem d_law_352 : decode code 352 = .ok (.aload_n 2, 1) := by decide +kernel
theorem d_law_353 : decode code 353 = .ok (.aload_n 0, 1) := by decide +kernel
theorem d_law_354 : decode code 354 = .ok (.iload_n 3, 1) := by decide +kernel
theorem d_law_355 : decode code 355 = .ok (.iconst 1, 1) := by decide +kernel
theorem d_law_356 : decode code 356 = .ok (.iadd, 1) := by decide +kernel
theorem d_law_357 : decode code 357 = .ok (.iaload, 1) := by decide +kernel
theorem d_law_358 : decode code 358 = .ok (.aload_n 0, 1) := by decide +kernel
theorem d_law_359 : decode code 359 = .ok (.iload_n 3, 1) := by decide +kernel
theorem d_law_360 : decode code 360 = .ok (.iconst 2, 1) := by decide +kernel
theorem d_law_361 : decode code 361 = .ok (.iadd, 1) := by decide +kernel
theorem d_law_362 : decode code 362 = .ok (.iaload, 1) := by decide +kernel
theorem d_law_363 : decode code 363 = .ok (.aload_n 0, 1) := by decide +kernel
theorem d_law_364 : decode code 364 = .ok (.iload_n 3, 1) := by decide +kernel
theorem d_law_365 : decode code 365 = .ok (.iconst 3, 1) := by decide +kernel
theorem d_law_366 : decode code 366 = .ok (.iadd, 1) := by decide +kernel
theorem d_law_367 : decode code 367 = .ok (.iaload, 1) := by decide +kernel
theorem d_law_368 : decode code 368 = .ok (.invokevirtual 41, 3) := by decide +kernel
theorem d_law_371 : decode code 371 = .ok (.if_icmp .eq 685, 3) := by decide +kernel
theorem d_law_374 : decode code 374 = .ok (.iconst 0, 1) := by decide +kernel
theorem d_law_375 : decode code 375 = .ok (.ireturn, 1) := by decide +kernel
theorem d_law_376 : decode code 376 = .ok (.aload_n 1, 1) := by decide +kernel
theorem d_law_377 : decode code 377 = .ok (.aload_n 0, 1) := by decide +kernel
theorem d_law_378 : decode code 378 = .ok (.iload_n 3, 1) := by decide +kernel
theorem d_law_379 : decode code 379 = .ok (.iconst 1, 1) := by decide +kernel
theorem d_law_380 : decode code 380 = .ok (.iadd, 1) := by decide +kernel
theorem d_law_381 : decode code 381 = .ok (.iaload, 1) := by decide +kernel
theorem d_law_382 : decode code 382 = .ok (.aload_n 0, 1) := by decide +kernel
theorem d_law_383 : decode code 383 = .ok (.iload_n 3, 1) := by decide +kernel
theorem d_law_384 : decode code 384 = .ok (.iconst 2, 1) := by decide +kernel
theorem d_law_385 : decode code 385 = .ok (.iadd, 1) := by decide +kernel
theorem d_law_386 : decode code 386 = .ok (.iaload, 1) := by decide +kernel
theorem d_law_387 : decode code 387 = .ok (.invokevirtual 42, 3) := by decide +kernel
theorem d_law_390 : decode code 390 = .ok (.aload_n 2, 1) := by decide +kernel
theorem d_law_391 : decode code 391 = .ok (.aload_n 0, 1) := by decide +kernel
theorem d_law_392 : decode code 392 = .ok (.iload_n 3, 1) := by decide +kernel
theorem d_law_393 : decode code 393 = .ok (.iconst 1, 1) := by decide +kernel
theorem d_law_394 : decode code 394 = .ok (.iadd, 1) := by decide +kernel
theorem d_law_395 : decode code 395 = .ok (.iaload, 1) := by decide +kernel
theorem d_law_396 : decode code 396 = .ok (.aload_n 0, 1) := by decide +kernel
theorem d_law_397 : decode code 397 = .ok (.iload_n 3, 1) := by decide +kernel
theorem d_law_398 : decode code 398 = .ok (.iconst 2, 1) := by decide +kernel
theorem d_law_399 : decode code 399 = .ok (.iadd, 1) := by decide +kernel
theorem d_law_400 : decode code 400 = .ok (.iaload, 1) := by decide +kernel
theorem d_law_401 : decode code 401 = .ok (.invokevirtual 46, 3) := by decide +kernel
theorem d_law_404 : decode code 404 = .ok (.if_icmp .eq 652, 3) := by decide +kernel
theorem d_law_407 : decode code 407 = .ok (.iconst 0, 1) := by decide +kernel
theorem d_law_408 : decode code 408 = .ok (.ireturn, 1) := by decide +kernel
theorem d_law_409 : decode code 409 = .ok (.aload_n 1, 1) := by decide +kernel
theorem d_law_410 : decode code 410 = .ok (.aload_n 0, 1) := by decide +kernel
theorem d_law_411 : decode code 411 = .ok (.iload_n 3, 1) := by decide +kernel
theorem d_law_412 : decode code 412 = .ok (.iconst 1, 1) := by decide +kernel
theorem d_law_413 : decode code 413 = .ok (.iadd, 1) := by decide +kernel
theorem d_law_414 : decode code 414 = .ok (.iaload, 1) := by decide +kernel
theorem d_law_415 : decode code 415 = .ok (.aload_n 0, 1) := by decide +kernel
theorem d_law_416 : decode code 416 = .ok (.iload_n 3, 1) := by decide +kernel
theorem d_law_417 : decode code 417 = .ok (.iconst 2, 1) := by decide +kernel
theorem d_law_418 : decode code 418 = .ok (.iadd, 1) := by decide +kernel
theorem d_law_419 : decode code 419 = .ok (.iaload, 1) := by decide +kernel
theorem d_law_420 : decode code 420 = .ok (.invokevirtual 47, 3) := by decide +kernel
theorem d_law_423 : decode code 423 = .ok (.aload_n 2, 1) := by decide +kernel
theorem d_law_424 : decode code 424 = .ok (.aload_n 0, 1) := by decide +kernel
theorem d_law_425 : decode code 425 = .ok (.iload_n 3, 1) := by decide +kernel
theorem d_law_426 : decode code 426 = .ok (.iconst 1, 1) := by decide +kernel
theorem d_law_427 : decode code 427 = .ok (.iadd, 1) := by decide +kernel
theorem d_law_428 : decode code 428 = .ok (.iaload, 1) := by decide +kernel
theorem d_law_429 : decode code 429 = .ok (.aload_n 0, 1) := by decide +kernel
theorem d_law_430 : decode code 430 = .ok (.iload_n 3, 1) := by decide +kernel
theorem d_law_431 : decode code 431 = .ok (.iconst 2, 1) := by decide +kernel
theorem d_law_432 : decode code 432 = .ok (.iadd, 1) := by decide +kernel
theorem d_law_433 : decode code 433 = .ok (.iaload, 1) := by decide +kernel
theorem d_law_434 : decode code 434 = .ok (.invokevirtual 50, 3) := by decide +kernel
theorem d_law_437 : decode code 437 = .ok (.if_icmp .eq 619, 3) := by decide +kernel
theorem d_law_440 : decode code 440 = .ok (.iconst 0, 1) := by decide +kernel
theorem d_law_441 : decode code 441 = .ok (.ireturn, 1) := by decide +kernel
theorem d_law_442 : decode code 442 = .ok (.aload_n 1, 1) := by decide +kernel
theorem d_law_443 : decode code 443 = .ok (.aload_n 0, 1) := by decide +kernel
theorem d_law_444 : decode code 444 = .ok (.iload_n 3, 1) := by decide +kernel
theorem d_law_445 : decode code 445 = .ok (.iconst 1, 1) := by decide +kernel
theorem d_law_446 : decode code 446 = .ok (.iadd, 1) := by decide +kernel
theorem d_law_447 : decode code 447 = .ok (.iaload, 1) := by decide +kernel
theorem d_law_448 : decode code 448 = .ok (.aload_n 0, 1) := by decide +kernel
theorem d_law_449 : decode code 449 = .ok (.iload_n 3, 1) := by decide +kernel
theorem d_law_450 : decode code 450 = .ok (.iconst 2, 1) := by decide +kernel
theorem d_law_451 : decode code 451 = .ok (.iadd, 1) := by decide +kernel
theorem d_law_452 : decode code 452 = .ok (.iaload, 1) := by decide +kernel
theorem d_law_453 : decode code 453 = .ok (.invokevirtual 51, 3) := by decide +kernel
theorem d_law_456 : decode code 456 = .ok (.aload_n 2, 1) := by decide +kernel
theorem d_law_457 : decode code 457 = .ok (.aload_n 0, 1) := by decide +kernel
theorem d_law_458 : decode code 458 = .ok (.iload_n 3, 1) := by decide +kernel
theorem d_law_459 : decode code 459 = .ok (.iconst 1, 1) := by decide +kernel
theorem d_law_460 : decode code 460 = .ok (.iadd, 1) := by decide +kernel
theorem d_law_461 : decode code 461 = .ok (.iaload, 1) := by decide +kernel
theorem d_law_462 : decode code 462 = .ok (.aload_n 0, 1) := by decide +kernel
theorem d_law_463 : decode code 463 = .ok (.iload_n 3, 1) := by decide +kernel
theorem d_law_464 : decode code 464 = .ok (.iconst 2, 1) := by decide +kernel
theorem d_law_465 : decode code 465 = .ok (.iadd, 1) := by decide +kernel
theorem d_law_466 : decode code 466 = .ok (.iaload, 1) := by decide +kernel
theorem d_law_467 : decode code 467 = .ok (.invokevirtual 54, 3) := by decide +kernel
theorem d_law_470 : decode code 470 = .ok (.if_icmp .eq 586, 3) := by decide +kernel
theorem d_law_473 : decode code 473 = .ok (.iconst 0, 1) := by decide +kernel
theorem d_law_474 : decode code 474 = .ok (.ireturn, 1) := by decide +kernel
theorem d_law_475 : decode code 475 = .ok (.aload_n 1, 1) := by decide +kernel
theorem d_law_476 : decode code 476 = .ok (.aload_n 0, 1) := by decide +kernel
theorem d_law_477 : decode code 477 = .ok (.iload_n 3, 1) := by decide +kernel
theorem d_law_478 : decode code 478 = .ok (.iconst 1, 1) := by decide +kernel
theorem d_law_479 : decode code 479 = .ok (.iadd, 1) := by decide +kernel
theorem d_law_480 : decode code 480 = .ok (.iaload, 1) := by decide +kernel
theorem d_law_481 : decode code 481 = .ok (.aload_n 0, 1) := by decide +kernel
theorem d_law_482 : decode code 482 = .ok (.iload_n 3, 1) := by decide +kernel
theorem d_law_483 : decode code 483 = .ok (.iconst 2, 1) := by decide +kernel
theorem d_law_484 : decode code 484 = .ok (.iadd, 1) := by decide +kernel
theorem d_law_485 : decode code 485 = .ok (.iaload, 1) := by decide +kernel
theorem d_law_486 : decode code 486 = .ok (.invokevirtual 55, 3) := by decide +kernel
theorem d_law_489 : decode code 489 = .ok (.aload_n 2, 1) := by decide +kernel
theorem d_law_490 : decode code 490 = .ok (.aload_n 0, 1) := by decide +kernel
theorem d_law_491 : decode code 491 = .ok (.iload_n 3, 1) := by decide +kernel
theorem d_law_492 : decode code 492 = .ok (.iconst 1, 1) := by decide +kernel
theorem d_law_493 : decode code 493 = .ok (.iadd, 1) := by decide +kernel
theorem d_law_494 : decode code 494 = .ok (.iaload, 1) := by decide +kernel
theorem d_law_495 : decode code 495 = .ok (.aload_n 0, 1) := by decide +kernel
theorem d_law_496 : decode code 496 = .ok (.iload_n 3, 1) := by decide +kernel
theorem d_law_497 : decode code 497 = .ok (.iconst 2, 1) := by decide +kernel
theorem d_law_498 : decode code 498 = .ok (.iadd, 1) := by decide +kernel
theorem d_law_499 : decode code 499 = .ok (.iaload, 1) := by decide +kernel
theorem d_law_500 : decode code 500 = .ok (.invokevirtual 58, 3) := by decide +kernel
theorem d_law_503 : decode code 503 = .ok (.if_icmp .eq 553, 3) := by decide +kernel
theorem d_law_506 : decode code 506 = .ok (.iconst 0, 1) := by decide +kernel
theorem d_law_507 : decode code 507 = .ok (.ireturn, 1) := by decide +kernel
theorem d_law_508 : decode code 508 = .ok (.aload_n 1, 1) := by decide +kernel
theorem d_law_509 : decode code 509 = .ok (.aload_n 0, 1) := by decide +kernel
theorem d_law_510 : decode code 510 = .ok (.iload_n 3, 1) := by decide +kernel
theorem d_law_511 : decode code 511 = .ok (.iconst 1, 1) := by decide +kernel
theorem d_law_512 : decode code 512 = .ok (.iadd, 1) := by decide +kernel
theorem d_law_513 : decode code 513 = .ok (.iaload, 1) := by decide +kernel
theorem d_law_514 : decode code 514 = .ok (.aload_n 0, 1) := by decide +kernel
theorem d_law_515 : decode code 515 = .ok (.iload_n 3, 1) := by decide +kernel
theorem d_law_516 : decode code 516 = .ok (.iconst 2, 1) := by decide +kernel
theorem d_law_517 : decode code 517 = .ok (.iadd, 1) := by decide +kernel
theorem d_law_518 : decode code 518 = .ok (.iaload, 1) := by decide +kernel
theorem d_law_519 : decode code 519 = .ok (.invokevirtual 59, 3) := by decide +kernel
theorem d_law_522 : decode code 522 = .ok (.aload_n 2, 1) := by decide +kernel
theorem d_law_523 : decode code 523 = .ok (.aload_n 0, 1) := by decide +kernel
theorem d_law_524 : decode code 524 = .ok (.iload_n 3, 1) := by decide +kernel
theorem d_law_525 : decode code 525 = .ok (.iconst 1, 1) := by decide +kernel
theorem d_law_526 : decode code 526 = .ok (.iadd, 1) := by decide +kernel
theorem d_law_527 : decode code 527 = .ok (.iaload, 1) := by decide +kernel
theorem d_law_528 : decode code 528 = .ok (.aload_n 0, 1) := by decide +kernel
theorem d_law_529 : decode code 529 = .ok (.iload_n 3, 1) := by decide +kernel
theorem d_law_530 : decode code 530 = .ok (.iconst 2, 1) := by decide +kernel
theorem d_law_531 : decode code 531 = .ok (.iadd, 1) := by decide +kernel
theorem d_law_532 : decode code 532 = .ok (.iaload, 1) := by decide +kernel
theorem d_law_533 : decode code 533 = .ok (.invokevirtual 63, 3) := by decide +kernel
theorem d_law_536 : decode code 536 = .ok (.lcmp, 1) := by decide +kernel
theorem d_law_537 : decode code 537 = .ok (.ifCond .eq 519, 3) := by decide +kernel
theorem d_law_540 : decode code 540 = .ok (.iconst 0, 1) := by decide +kernel
theorem d_law_541 : decode code 541 = .ok (.ireturn, 1) := by decide +kernel
theorem d_law_542 : decode code 542 = .ok (.aload_n 1, 1) := by decide +kernel
theorem d_law_543 : decode code 543 = .ok (.aload_n 0, 1) := by decide +kernel
theorem d_law_544 : decode code 544 = .ok (.iload_n 3, 1) := by decide +kernel
theorem d_law_545 : decode code 545 = .ok (.iconst 1, 1) := by decide +kernel
theorem d_law_546 : decode code 546 = .ok (.iadd, 1) := by decide +kernel
theorem d_law_547 : decode code 547 = .ok (.iaload, 1) := by decide +kernel
theorem d_law_548 : decode code 548 = .ok (.aload_n 0, 1) := by decide +kernel
theorem d_law_549 : decode code 549 = .ok (.iload_n 3, 1) := by decide +kernel
theorem d_law_550 : decode code 550 = .ok (.iconst 2, 1) := by decide +kernel
theorem d_law_551 : decode code 551 = .ok (.iadd, 1) := by decide +kernel
theorem d_law_552 : decode code 552 = .ok (.iaload, 1) := by decide +kernel
theorem d_law_553 : decode code 553 = .ok (.invokevirtual 64, 3) := by decide +kernel
theorem d_law_556 : decode code 556 = .ok (.aload_n 2, 1) := by decide +kernel
theorem d_law_557 : decode code 557 = .ok (.aload_n 0, 1) := by decide +kernel
theorem d_law_558 : decode code 558 = .ok (.iload_n 3, 1) := by decide +kernel
theorem d_law_559 : decode code 559 = .ok (.iconst 1, 1) := by decide +kernel
theorem d_law_560 : decode code 560 = .ok (.iadd, 1) := by decide +kernel
theorem d_law_561 : decode code 561 = .ok (.iaload, 1) := by decide +kernel
theorem d_law_562 : decode code 562 = .ok (.aload_n 0, 1) := by decide +kernel
theorem d_law_563 : decode code 563 = .ok (.iload_n 3, 1) := by decide +kernel
theorem d_law_564 : decode code 564 = .ok (.iconst 2, 1) := by decide +kernel
theorem d_law_565 : decode code 565 = .ok (.iadd, 1) := by decide +kernel
theorem d_law_566 : decode code 566 = .ok (.iaload, 1) := by decide +kernel
theorem d_law_567 : decode code 567 = .ok (.invokevirtual 67, 3) := by decide +kernel
theorem d_law_570 : decode code 570 = .ok (.if_icmp .eq 486, 3) := by decide +kernel
theorem d_law_573 : decode code 573 = .ok (.iconst 0, 1) := by decide +kernel
theorem d_law_574 : decode code 574 = .ok (.ireturn, 1) := by decide +kernel
theorem d_law_575 : decode code 575 = .ok (.aload_n 1, 1) := by decide +kernel
theorem d_law_576 : decode code 576 = .ok (.aload_n 0, 1) := by decide +kernel
theorem d_law_577 : decode code 577 = .ok (.iload_n 3, 1) := by decide +kernel
theorem d_law_578 : decode code 578 = .ok (.iconst 1, 1) := by decide +kernel
theorem d_law_579 : decode code 579 = .ok (.iadd, 1) := by decide +kernel
theorem d_law_580 : decode code 580 = .ok (.iaload, 1) := by decide +kernel
theorem d_law_581 : decode code 581 = .ok (.invokevirtual 68, 3) := by decide +kernel
theorem d_law_584 : decode code 584 = .ok (.aload_n 2, 1) := by decide +kernel
theorem d_law_585 : decode code 585 = .ok (.aload_n 0, 1) := by decide +kernel
theorem d_law_586 : decode code 586 = .ok (.iload_n 3, 1) := by decide +kernel
theorem d_law_587 : decode code 587 = .ok (.iconst 1, 1) := by decide +kernel
theorem d_law_588 : decode code 588 = .ok (.iadd, 1) := by decide +kernel
theorem d_law_589 : decode code 589 = .ok (.iaload, 1) := by decide +kernel
theorem d_law_590 : decode code 590 = .ok (.invokevirtual 71, 3) := by decide +kernel
theorem d_law_593 : decode code 593 = .ok (.if_icmp .eq 463, 3) := by decide +kernel
theorem d_law_596 : decode code 596 = .ok (.iconst 0, 1) := by decide +kernel
theorem d_law_597 : decode code 597 = .ok (.ireturn, 1) := by decide +kernel
theorem d_law_598 : decode code 598 = .ok (.aload_n 1, 1) := by decide +kernel
theorem d_law_599 : decode code 599 = .ok (.invokevirtual 72, 3) := by decide +kernel
theorem d_law_602 : decode code 602 = .ok (.aload_n 2, 1) := by decide +kernel
theorem d_law_603 : decode code 603 = .ok (.invokevirtual 76, 3) := by decide +kernel
theorem d_law_606 : decode code 606 = .ok (.lcmp, 1) := by decide +kernel
theorem d_law_607 : decode code 607 = .ok (.ifCond .eq 449, 3) := by decide +kernel
theorem d_law_610 : decode code 610 = .ok (.iconst 0, 1) := by decide +kernel
theorem d_law_611 : decode code 611 = .ok (.ireturn, 1) := by decide +kernel
theorem d_law_612 : decode code 612 = .ok (.aload_n 1, 1) := by decide +kernel
theorem d_law_613 : decode code 613 = .ok (.aload_n 0, 1) := by decide +kernel
theorem d_law_614 : decode code 614 = .ok (.iload_n 3, 1) := by decide +kernel
theorem d_law_615 : decode code 615 = .ok (.iconst 1, 1) := by decide +kernel
theorem d_law_616 : decode code 616 = .ok (.iadd, 1) := by decide +kernel
theorem d_law_617 : decode code 617 = .ok (.iaload, 1) := by decide +kernel
theorem d_law_618 : decode code 618 = .ok (.invokevirtual 77, 3) := by decide +kernel
theorem d_law_621 : decode code 621 = .ok (.aload_n 2, 1) := by decide +kernel
theorem d_law_622 : decode code 622 = .ok (.aload_n 0, 1) := by decide +kernel
theorem d_law_623 : decode code 623 = .ok (.iload_n 3, 1) := by decide +kernel
theorem d_law_624 : decode code 624 = .ok (.iconst 1, 1) := by decide +kernel
theorem d_law_625 : decode code 625 = .ok (.iadd, 1) := by decide +kernel
theorem d_law_626 : decode code 626 = .ok (.iaload, 1) := by decide +kernel
theorem d_law_627 : decode code 627 = .ok (.invokevirtual 80, 3) := by decide +kernel
theorem d_law_630 : decode code 630 = .ok (.if_icmp .eq 426, 3) := by decide +kernel
theorem d_law_633 : decode code 633 = .ok (.iconst 0, 1) := by decide +kernel
theorem d_law_634 : decode code 634 = .ok (.ireturn, 1) := by decide +kernel
theorem d_law_635 : decode code 635 = .ok (.aload_n 1, 1) := by decide +kernel
theorem d_law_636 : decode code 636 = .ok (.invokevirtual 81, 3) := by decide +kernel
theorem d_law_639 : decode code 639 = .ok (.aload_n 2, 1) := by decide +kernel
theorem d_law_640 : decode code 640 = .ok (.invokevirtual 84, 3) := by decide +kernel
theorem d_law_643 : decode code 643 = .ok (.if_icmp .eq 413, 3) := by decide +kernel
theorem d_law_646 : decode code 646 = .ok (.iconst 0, 1) := by decide +kernel
theorem d_law_647 : decode code 647 = .ok (.ireturn, 1) := by decide +kernel
theorem d_law_648 : decode code 648 = .ok (.aload_n 1, 1) := by decide +kernel
theorem d_law_649 : decode code 649 = .ok (.aload_n 0, 1) := by decide +kernel
theorem d_law_650 : decode code 650 = .ok (.iload_n 3, 1) := by decide +kernel
theorem d_law_651 : decode code 651 = .ok (.iconst 1, 1) := by decide +kernel
theorem d_law_652 : decode code 652 = .ok (.iadd, 1) := by decide +kernel
theorem d_law_653 : decode code 653 = .ok (.iaload, 1) := by decide +kernel
theorem d_law_654 : decode code 654 = .ok (.invokevirtual 85, 3) := by decide +kernel
theorem d_law_657 : decode code 657 = .ok (.aload_n 2, 1) := by decide +kernel
theorem d_law_658 : decode code 658 = .ok (.aload_n 0, 1) := by decide +kernel
theorem d_law_659 : decode code 659 = .ok (.iload_n 3, 1) := by decide +kernel
theorem d_law_660 : decode code 660 = .ok (.iconst 1, 1) := by decide +kernel
theorem d_law_661 : decode code 661 = .ok (.iadd, 1) := by decide +kernel
theorem d_law_662 : decode code 662 = .ok (.iaload, 1) := by decide +kernel
theorem d_law_663 : decode code 663 = .ok (.invokevirtual 88, 3) := by decide +kernel
theorem d_law_666 : decode code 666 = .ok (.if_icmp .eq 390, 3) := by decide +kernel
theorem d_law_669 : decode code 669 = .ok (.iconst 0, 1) := by decide +kernel
theorem d_law_670 : decode code 670 = .ok (.ireturn, 1) := by decide +kernel
theorem d_law_671 : decode code 671 = .ok (.aload_n 1, 1) := by decide +kernel
theorem d_law_672 : decode code 672 = .ok (.aload_n 0, 1) := by decide +kernel
theorem d_law_673 : decode code 673 = .ok (.iload_n 3, 1) := by decide +kernel
theorem d_law_674 : decode code 674 = .ok (.iconst 1, 1) := by decide +kernel
theorem d_law_675 : decode code 675 = .ok (.iadd, 1) := by decide +kernel
theorem d_law_676 : decode code 676 = .ok (.iaload, 1) := by decide +kernel
theorem d_law_677 : decode code 677 = .ok (.invokevirtual 89, 3) := by decide +kernel
theorem d_law_680 : decode code 680 = .ok (.aload_n 2, 1) := by decide +kernel
theorem d_law_681 : decode code 681 = .ok (.aload_n 0, 1) := by decide +kernel
theorem d_law_682 : decode code 682 = .ok (.iload_n 3, 1) := by decide +kernel
theorem d_law_683 : decode code 683 = .ok (.iconst 1, 1) := by decide +kernel
theorem d_law_684 : decode code 684 = .ok (.iadd, 1) := by decide +kernel
theorem d_law_685 : decode code 685 = .ok (.iaload, 1) := by decide +kernel
theorem d_law_686 : decode code 686 = .ok (.invokevirtual 92, 3) := by decide +kernel
theorem d_law_689 : decode code 689 = .ok (.if_icmp .eq 367, 3) := by decide +kernel
theorem d_law_692 : decode code 692 = .ok (.iconst 0, 1) := by decide +kernel
theorem d_law_693 : decode code 693 = .ok (.ireturn, 1) := by decide +kernel
theorem d_law_694 : decode code 694 = .ok (.aload_n 1, 1) := by decide +kernel
theorem d_law_695 : decode code 695 = .ok (.aload_n 0, 1) := by decide +kernel
theorem d_law_696 : decode code 696 = .ok (.iload_n 3, 1) := by decide +kernel
theorem d_law_697 : decode code 697 = .ok (.iconst 1, 1) := by decide +kernel
theorem d_law_698 : decode code 698 = .ok (.iadd, 1) := by decide +kernel
theorem d_law_699 : decode code 699 = .ok (.iaload, 1) := by decide +kernel
theorem d_law_700 : decode code 700 = .ok (.invokevirtual 93, 3) := by decide +kernel
theorem d_law_703 : decode code 703 = .ok (.aload_n 2, 1) := by decide +kernel
theorem d_law_704 : decode code 704 = .ok (.aload_n 0, 1) := by decide +kernel
theorem d_law_705 : decode code 705 = .ok (.iload_n 3, 1) := by decide +kernel
theorem d_law_706 : decode code 706 = .ok (.iconst 1, 1) := by decide +kernel
theorem d_law_707 : decode code 707 = .ok (.iadd, 1) := by decide +kernel
theorem d_law_708 : decode code 708 = .ok (.iaload, 1) := by decide +kernel
theorem d_law_709 : decode code 709 = .ok (.invokevirtual 96, 3) := by decide +kernel
theorem d_law_712 : decode code 712 = .ok (.if_icmp .eq 344, 3) := by decide +kernel
theorem d_law_715 : decode code 715 = .ok (.iconst 0, 1) := by decide +kernel
theorem d_law_716 : decode code 716 = .ok (.ireturn, 1) := by decide +kernel
theorem d_law_717 : decode code 717 = .ok (.aload_n 1, 1) := by decide +kernel
theorem d_law_718 : decode code 718 = .ok (.aload_n 0, 1) := by decide +kernel
theorem d_law_719 : decode code 719 = .ok (.iload_n 3, 1) := by decide +kernel
theorem d_law_720 : decode code 720 = .ok (.iconst 1, 1) := by decide +kernel
theorem d_law_721 : decode code 721 = .ok (.iadd, 1) := by decide +kernel
theorem d_law_722 : decode code 722 = .ok (.iaload, 1) := by decide +kernel
theorem d_law_723 : decode code 723 = .ok (.invokevirtual 97, 3) := by decide +kernel
theorem d_law_726 : decode code 726 = .ok (.aload_n 2, 1) := by decide +kernel
theorem d_law_727 : decode code 727 = .ok (.aload_n 0, 1) := by decide +kernel
theorem d_law_728 : decode code 728 = .ok (.iload_n 3, 1) := by decide +kernel
theorem d_law_729 : decode code 729 = .ok (.iconst 1, 1) := by decide +kernel
theorem d_law_730 : decode code 730 = .ok (.iadd, 1) := by decide +kernel
theorem d_law_731 : decode code 731 = .ok (.iaload, 1) := by decide +kernel
theorem d_law_732 : decode code 732 = .ok (.invokevirtual 100, 3) := by decide +kernel
theorem d_law_735 : decode code 735 = .ok (.if_icmp .eq 321, 3) := by decide +kernel
theorem d_law_738 : decode code 738 = .ok (.iconst 0, 1) := by decide +kernel
theorem d_law_739 : decode code 739 = .ok (.ireturn, 1) := by decide +kernel
theorem d_law_740 : decode code 740 = .ok (.aload_n 1, 1) := by decide +kernel
theorem d_law_741 : decode code 741 = .ok (.invokevirtual 101, 3) := by decide +kernel
theorem d_law_744 : decode code 744 = .ok (.aload_n 2, 1) := by decide +kernel
theorem d_law_745 : decode code 745 = .ok (.invokevirtual 104, 3) := by decide +kernel
theorem d_law_748 : decode code 748 = .ok (.if_icmp .eq 308, 3) := by decide +kernel
theorem d_law_751 : decode code 751 = .ok (.iconst 0, 1) := by decide +kernel
theorem d_law_752 : decode code 752 = .ok (.ireturn, 1) := by decide +kernel
theorem d_law_753 : decode code 753 = .ok (.aload_n 1, 1) := by decide +kernel
theorem d_law_754 : decode code 754 = .ok (.invokevirtual 105, 3) := by decide +kernel
theorem d_law_757 : decode code 757 = .ok (.aload_n 2, 1) := by decide +kernel
theorem d_law_758 : decode code 758 = .ok (.invokevirtual 108, 3) := by decide +kernel
theorem d_law_761 : decode code 761 = .ok (.if_icmp .eq 295, 3) := by decide +kernel
theorem d_law_764 : decode code 764 = .ok (.iconst 0, 1) := by decide +kernel
theorem d_law_765 : decode code 765 = .ok (.ireturn, 1) := by decide +kernel
theorem d_law_766 : decode code 766 = .ok (.aload_n 1, 1) := by decide +kernel
theorem d_law_767 : decode code 767 = .ok (.aload_n 0, 1) := by decide +kernel
theorem d_law_768 : decode code 768 = .ok (.iload_n 3, 1) := by decide +kernel
theorem d_law_769 : decode code 769 = .ok (.iconst 1, 1) := by decide +kernel
theorem d_law_770 : decode code 770 = .ok (.iadd, 1) := by decide +kernel
theorem d_law_771 : decode code 771 = .ok (.iaload, 1) := by decide +kernel
theorem d_law_772 : decode code 772 = .ok (.invokevirtual 109, 3) := by decide +kernel
theorem d_law_775 : decode code 775 = .ok (.aload_n 2, 1) := by decide +kernel
theorem d_law_776 : decode code 776 = .ok (.aload_n 0, 1) := by decide +kernel
theorem d_law_777 : decode code 777 = .ok (.iload_n 3, 1) := by decide +kernel
theorem d_law_778 : decode code 778 = .ok (.iconst 1, 1) := by decide +kernel
theorem d_law_779 : decode code 779 = .ok (.iadd, 1) := by decide +kernel
theorem d_law_780 : decode code 780 = .ok (.iaload, 1) := by decide +kernel
theorem d_law_781 : decode code 781 = .ok (.invokevirtual 112, 3) := by decide +kernel
theorem d_law_784 : decode code 784 = .ok (.if_icmp .eq 272, 3) := by decide +kernel
theorem d_law_787 : decode code 787 = .ok (.iconst 0, 1) := by decide +kernel
theorem d_law_788 : decode code 788 = .ok (.ireturn, 1) := by decide +kernel
theorem d_law_789 : decode code 789 = .ok (.aload_n 1, 1) := by decide +kernel
theorem d_law_790 : decode code 790 = .ok (.aload_n 0, 1) := by decide +kernel
theorem d_law_791 : decode code 791 = .ok (.iload_n 3, 1) := by decide +kernel
theorem d_law_792 : decode code 792 = .ok (.iconst 1, 1) := by decide +kernel
theorem d_law_793 : decode code 793 = .ok (.iadd, 1) := by decide +kernel
theorem d_law_794 : decode code 794 = .ok (.iaload, 1) := by decide +kernel
theorem d_law_795 : decode code 795 = .ok (.aload_n 0, 1) := by decide +kernel
theorem d_law_796 : decode code 796 = .ok (.iload_n 3, 1) := by decide +kernel
theorem d_law_797 : decode code 797 = .ok (.iconst 2, 1) := by decide +kernel
theorem d_law_798 : decode code 798 = .ok (.iadd, 1) := by decide +kernel
theorem d_law_799 : decode code 799 = .ok (.iaload, 1) := by decide +kernel
theorem d_law_800 : decode code 800 = .ok (.invokevirtual 113, 3) := by decide +kernel
theorem d_law_803 : decode code 803 = .ok (.aload_n 2, 1) := by decide +kernel
theorem d_law_804 : decode code 804 = .ok (.aload_n 0, 1) := by decide +kernel
theorem d_law_805 : decode code 805 = .ok (.iload_n 3, 1) := by decide +kernel
theorem d_law_806 : decode code 806 = .ok (.iconst 1, 1) := by decide +kernel
theorem d_law_807 : decode code 807 = .ok (.iadd, 1) := by decide +kernel
theorem d_law_808 : decode code 808 = .ok (.iaload, 1) := by decide +kernel
theorem d_law_809 : decode code 809 = .ok (.aload_n 0, 1) := by decide +kernel
theorem d_law_810 : decode code 810 = .ok (.iload_n 3, 1) := by decide +kernel
theorem d_law_811 : decode code 811 = .ok (.iconst 2, 1) := by decide +kernel
theorem d_law_812 : decode code 812 = .ok (.iadd, 1) := by decide +kernel
theorem d_law_813 : decode code 813 = .ok (.iaload, 1) := by decide +kernel
theorem d_law_814 : decode code 814 = .ok (.invokevirtual 116, 3) := by decide +kernel
theorem d_law_817 : decode code 817 = .ok (.if_icmp .eq 239, 3) := by decide +kernel
theorem d_law_820 : decode code 820 = .ok (.iconst 0, 1) := by decide +kernel
theorem d_law_821 : decode code 821 = .ok (.ireturn, 1) := by decide +kernel
theorem d_law_822 : decode code 822 = .ok (.aload_n 1, 1) := by decide +kernel
theorem d_law_823 : decode code 823 = .ok (.aload_n 0, 1) := by decide +kernel
theorem d_law_824 : decode code 824 = .ok (.iload_n 3, 1) := by decide +kernel
theorem d_law_825 : decode code 825 = .ok (.iconst 1, 1) := by decide +kernel
theorem d_law_826 : decode code 826 = .ok (.iadd, 1) := by decide +kernel
theorem d_law_827 : decode code 827 = .ok (.iaload, 1) := by decide +kernel
theorem d_law_828 : decode code 828 = .ok (.aload_n 0, 1) := by decide +kernel
theorem d_law_829 : decode code 829 = .ok (.iload_n 3, 1) := by decide +kernel
theorem d_law_830 : decode code 830 = .ok (.iconst 2, 1) := by decide +kernel
theorem d_law_831 : decode code 831 = .ok (.iadd, 1) := by decide +kernel
theorem d_law_832 : decode code 832 = .ok (.iaload, 1) := by decide +kernel
theorem d_law_833 : decode code 833 = .ok (.invokevirtual 117, 3) := by decide +kernel
theorem d_law_836 : decode code 836 = .ok (.aload_n 2, 1) := by decide +kernel
theorem d_law_837 : decode code 837 = .ok (.aload_n 0, 1) := by decide +kernel
theorem d_law_838 : decode code 838 = .ok (.iload_n 3, 1) := by decide +kernel
theorem d_law_839 : decode code 839 = .ok (.iconst 1, 1) := by decide +kernel
theorem d_law_840 : decode code 840 = .ok (.iadd, 1) := by decide +kernel
theorem d_law_841 : decode code 841 = .ok (.iaload, 1) := by decide +kernel
theorem d_law_842 : decode code 842 = .ok (.aload_n 0, 1) := by decide +kernel
theorem d_law_843 : decode code 843 = .ok (.iload_n 3, 1) := by decide +kernel
theorem d_law_844 : decode code 844 = .ok (.iconst 2, 1) := by decide +kernel
theorem d_law_845 : decode code 845 = .ok (.iadd, 1) := by decide +kernel
theorem d_law_846 : decode code 846 = .ok (.iaload, 1) := by decide +kernel
theorem d_law_847 : decode code 847 = .ok (.invokevirtual 121, 3) := by decide +kernel
theorem d_law_850 : decode code 850 = .ok (.if_icmp .eq 206, 3) := by decide +kernel
theorem d_law_853 : decode code 853 = .ok (.iconst 0, 1) := by decide +kernel
theorem d_law_854 : decode code 854 = .ok (.ireturn, 1) := by decide +kernel
theorem d_law_855 : decode code 855 = .ok (.aload_n 1, 1) := by decide +kernel
theorem d_law_856 : decode code 856 = .ok (.aload_n 0, 1) := by decide +kernel
theorem d_law_857 : decode code 857 = .ok (.iload_n 3, 1) := by decide +kernel
theorem d_law_858 : decode code 858 = .ok (.iconst 1, 1) := by decide +kernel
theorem d_law_859 : decode code 859 = .ok (.iadd, 1) := by decide +kernel
theorem d_law_860 : decode code 860 = .ok (.iaload, 1) := by decide +kernel
theorem d_law_861 : decode code 861 = .ok (.aload_n 0, 1) := by decide +kernel
theorem d_law_862 : decode code 862 = .ok (.iload_n 3, 1) := by decide +kernel
theorem d_law_863 : decode code 863 = .ok (.iconst 2, 1) := by decide +kernel
theorem d_law_864 : decode code 864 = .ok (.iadd, 1) := by decide +kernel
theorem d_law_865 : decode code 865 = .ok (.iaload, 1) := by decide +kernel
theorem d_law_866 : decode code 866 = .ok (.invokevirtual 122, 3) := by decide +kernel
theorem d_law_869 : decode code 869 = .ok (.aload_n 2, 1) := by decide +kernel
theorem d_law_870 : decode code 870 = .ok (.aload_n 0, 1) := by decide +kernel
theorem d_law_871 : decode code 871 = .ok (.iload_n 3, 1) := by decide +kernel
theorem d_law_872 : decode code 872 = .ok (.iconst 1, 1) := by decide +kernel
theorem d_law_873 : decode code 873 = .ok (.iadd, 1) := by decide +kernel
theorem d_law_874 : decode code 874 = .ok (.iaload, 1) := by decide +kernel
theorem d_law_875 : decode code 875 = .ok (.aload_n 0, 1) := by decide +kernel
theorem d_law_876 : decode code 876 = .ok (.iload_n 3, 1) := by decide +kernel
theorem d_law_877 : decode code 877 = .ok (.iconst 2, 1) := by decide +kernel
theorem d_law_878 : decode code 878 = .ok (.iadd, 1) := by decide +kernel
theorem d_law_879 : decode code 879 = .ok (.iaload, 1) := by decide +kernel
theorem d_law_880 : decode code 880 = .ok (.invokevirtual 125, 3) := by decide +kernel
theorem d_law_883 : decode code 883 = .ok (.if_icmp .eq 173, 3) := by decide +kernel
theorem d_law_886 : decode code 886 = .ok (.iconst 0, 1) := by decide +kernel
theorem d_law_887 : decode code 887 = .ok (.ireturn, 1) := by decide +kernel
theorem d_law_888 : decode code 888 = .ok (.aload_n 1, 1) := by decide +kernel
theorem d_law_889 : decode code 889 = .ok (.aload_n 0, 1) := by decide +kernel
theorem d_law_890 : decode code 890 = .ok (.iload_n 3, 1) := by decide +kernel
theorem d_law_891 : decode code 891 = .ok (.iconst 1, 1) := by decide +kernel
theorem d_law_892 : decode code 892 = .ok (.iadd, 1) := by decide +kernel
theorem d_law_893 : decode code 893 = .ok (.iaload, 1) := by decide +kernel
theorem d_law_894 : decode code 894 = .ok (.invokevirtual 126, 3) := by decide +kernel
theorem d_law_897 : decode code 897 = .ok (.aload_n 2, 1) := by decide +kernel
theorem d_law_898 : decode code 898 = .ok (.aload_n 0, 1) := by decide +kernel
theorem d_law_899 : decode code 899 = .ok (.iload_n 3, 1) := by decide +kernel
theorem d_law_900 : decode code 900 = .ok (.iconst 1, 1) := by decide +kernel
theorem d_law_901 : decode code 901 = .ok (.iadd, 1) := by decide +kernel
theorem d_law_902 : decode code 902 = .ok (.iaload, 1) := by decide +kernel
theorem d_law_903 : decode code 903 = .ok (.invokevirtual 129, 3) := by decide +kernel
theorem d_law_906 : decode code 906 = .ok (.if_icmp .eq 150, 3) := by decide +kernel
theorem d_law_909 : decode code 909 = .ok (.iconst 0, 1) := by decide +kernel
theorem d_law_910 : decode code 910 = .ok (.ireturn, 1) := by decide +kernel
theorem d_law_911 : decode code 911 = .ok (.aload_n 1, 1) := by decide +kernel
theorem d_law_912 : decode code 912 = .ok (.aload_n 0, 1) := by decide +kernel
theorem d_law_913 : decode code 913 = .ok (.iload_n 3, 1) := by decide +kernel
theorem d_law_914 : decode code 914 = .ok (.iconst 1, 1) := by decide +kernel
theorem d_law_915 : decode code 915 = .ok (.iadd, 1) := by decide +kernel
theorem d_law_916 : decode code 916 = .ok (.iaload, 1) := by decide +kernel
theorem d_law_917 : decode code 917 = .ok (.invokevirtual 130, 3) := by decide +kernel
theorem d_law_920 : decode code 920 = .ok (.aload_n 2, 1) := by decide +kernel
theorem d_law_921 : decode code 921 = .ok (.aload_n 0, 1) := by decide +kernel
theorem d_law_922 : decode code 922 = .ok (.iload_n 3, 1) := by decide +kernel
theorem d_law_923 : decode code 923 = .ok (.iconst 1, 1) := by decide +kernel
theorem d_law_924 : decode code 924 = .ok (.iadd, 1) := by decide +kernel
theorem d_law_925 : decode code 925 = .ok (.iaload, 1) := by decide +kernel
theorem d_law_926 : decode code 926 = .ok (.invokevirtual 133, 3) := by decide +kernel
theorem d_law_929 : decode code 929 = .ok (.if_icmp .eq 127, 3) := by decide +kernel
theorem d_law_932 : decode code 932 = .ok (.iconst 0, 1) := by decide +kernel
theorem d_law_933 : decode code 933 = .ok (.ireturn, 1) := by decide +kernel
theorem d_law_934 : decode code 934 = .ok (.aload_n 1, 1) := by decide +kernel
theorem d_law_935 : decode code 935 = .ok (.invokevirtual 134, 3) := by decide +kernel
theorem d_law_938 : decode code 938 = .ok (.aload_n 2, 1) := by decide +kernel
theorem d_law_939 : decode code 939 = .ok (.invokevirtual 138, 3) := by decide +kernel
theorem d_law_942 : decode code 942 = .ok (.if_icmp .eq 114, 3) := by decide +kernel
theorem d_law_945 : decode code 945 = .ok (.iconst 0, 1) := by decide +kernel
theorem d_law_946 : decode code 946 = .ok (.ireturn, 1) := by decide +kernel
theorem d_law_947 : decode code 947 = .ok (.aload_n 1, 1) := by decide +kernel
theorem d_law_948 : decode code 948 = .ok (.aload_n 0, 1) := by decide +kernel
theorem d_law_949 : decode code 949 = .ok (.iload_n 3, 1) := by decide +kernel
theorem d_law_950 : decode code 950 = .ok (.iconst 1, 1) := by decide +kernel
theorem d_law_951 : decode code 951 = .ok (.iadd, 1) := by decide +kernel
theorem d_law_952 : decode code 952 = .ok (.iaload, 1) := by decide +kernel
theorem d_law_953 : decode code 953 = .ok (.invokevirtual 139, 3) := by decide +kernel
theorem d_law_956 : decode code 956 = .ok (.aload_n 2, 1) := by decide +kernel
theorem d_law_957 : decode code 957 = .ok (.aload_n 0, 1) := by decide +kernel
theorem d_law_958 : decode code 958 = .ok (.iload_n 3, 1) := by decide +kernel
theorem d_law_959 : decode code 959 = .ok (.iconst 1, 1) := by decide +kernel
theorem d_law_960 : decode code 960 = .ok (.iadd, 1) := by decide +kernel
theorem d_law_961 : decode code 961 = .ok (.iaload, 1) := by decide +kernel
theorem d_law_962 : decode code 962 = .ok (.invokevirtual 142, 3) := by decide +kernel
theorem d_law_965 : decode code 965 = .ok (.if_icmp .eq 91, 3) := by decide +kernel
theorem d_law_968 : decode code 968 = .ok (.iconst 0, 1) := by decide +kernel
theorem d_law_969 : decode code 969 = .ok (.ireturn, 1) := by decide +kernel
theorem d_law_970 : decode code 970 = .ok (.aload_n 1, 1) := by decide +kernel
theorem d_law_971 : decode code 971 = .ok (.invokevirtual 143, 3) := by decide +kernel
theorem d_law_974 : decode code 974 = .ok (.aload_n 2, 1) := by decide +kernel
theorem d_law_975 : decode code 975 = .ok (.invokevirtual 146, 3) := by decide +kernel
theorem d_law_978 : decode code 978 = .ok (.lcmp, 1) := by decide +kernel
theorem d_law_979 : decode code 979 = .ok (.ifCond .eq 77, 3) := by decide +kernel
theorem d_law_982 : decode code 982 = .ok (.iconst 0, 1) := by decide +kernel
theorem d_law_983 : decode code 983 = .ok (.ireturn, 1) := by decide +kernel
theorem d_law_984 : decode code 984 = .ok (.aload_n 1, 1) := by decide +kernel
theorem d_law_985 : decode code 985 = .ok (.invokevirtual 147, 3) := by decide +kernel
theorem d_law_988 : decode code 988 = .ok (.aload_n 2, 1) := by decide +kernel
theorem d_law_989 : decode code 989 = .ok (.invokevirtual 150, 3) := by decide +kernel
theorem d_law_992 : decode code 992 = .ok (.if_icmp .eq 64, 3) := by decide +kernel
theorem d_law_995 : decode code 995 = .ok (.iconst 0, 1) := by decide +kernel
theorem d_law_996 : decode code 996 = .ok (.ireturn, 1) := by decide +kernel
theorem d_law_997 : decode code 997 = .ok (.aload_n 1, 1) := by decide +kernel
theorem d_law_998 : decode code 998 = .ok (.aload_n 0, 1) := by decide +kernel
theorem d_law_999 : decode code 999 = .ok (.iload_n 3, 1) := by decide +kernel
theorem d_law_1000 : decode code 1000 = .ok (.iconst 1, 1) := by decide +kernel
theorem d_law_1001 : decode code 1001 = .ok (.iadd, 1) := by decide +kernel
theorem d_law_1002 : decode code 1002 = .ok (.iaload, 1) := by decide +kernel
theorem d_law_1003 : decode code 1003 = .ok (.invokevirtual 151, 3) := by decide +kernel
theorem d_law_1006 : decode code 1006 = .ok (.aload_n 2, 1) := by decide +kernel
theorem d_law_1007 : decode code 1007 = .ok (.aload_n 0, 1) := by decide +kernel
theorem d_law_1008 : decode code 1008 = .ok (.iload_n 3, 1) := by decide +kernel
theorem d_law_1009 : decode code 1009 = .ok (.iconst 1, 1) := by decide +kernel
theorem d_law_1010 : decode code 1010 = .ok (.iadd, 1) := by decide +kernel
theorem d_law_1011 : decode code 1011 = .ok (.iaload, 1) := by decide +kernel
theorem d_law_1012 : decode code 1012 = .ok (.invokevirtual 154, 3) := by decide +kernel
theorem d_law_1015 : decode code 1015 = .ok (.if_icmp .eq 41, 3) := by decide +kernel
theorem d_law_1018 : decode code 1018 = .ok (.iconst 0, 1) := by decide +kernel
theorem d_law_1019 : decode code 1019 = .ok (.ireturn, 1) := by decide +kernel
theorem d_law_1020 : decode code 1020 = .ok (.aload_n 1, 1) := by decide +kernel
theorem d_law_1021 : decode code 1021 = .ok (.invokevirtual 155, 3) := by decide +kernel
theorem d_law_1024 : decode code 1024 = .ok (.aload_n 2, 1) := by decide +kernel
theorem d_law_1025 : decode code 1025 = .ok (.invokevirtual 158, 3) := by decide +kernel
theorem d_law_1028 : decode code 1028 = .ok (.if_icmp .eq 28, 3) := by decide +kernel
theorem d_law_1031 : decode code 1031 = .ok (.iconst 0, 1) := by decide +kernel
theorem d_law_1032 : decode code 1032 = .ok (.ireturn, 1) := by decide +kernel
theorem d_law_1033 : decode code 1033 = .ok (.aload_n 1, 1) := by decide +kernel
theorem d_law_1034 : decode code 1034 = .ok (.aload_n 0, 1) := by decide +kernel
theorem d_law_1035 : decode code 1035 = .ok (.iload_n 3, 1) := by decide +kernel
theorem d_law_1036 : decode code 1036 = .ok (.iconst 1, 1) := by decide +kernel
theorem d_law_1037 : decode code 1037 = .ok (.iadd, 1) := by decide +kernel
theorem d_law_1038 : decode code 1038 = .ok (.iaload, 1) := by decide +kernel
theorem d_law_1039 : decode code 1039 = .ok (.invokevirtual 159, 3) := by decide +kernel
theorem d_law_1042 : decode code 1042 = .ok (.aload_n 2, 1) := by decide +kernel
theorem d_law_1043 : decode code 1043 = .ok (.aload_n 0, 1) := by decide +kernel
theorem d_law_1044 : decode code 1044 = .ok (.iload_n 3, 1) := by decide +kernel
theorem d_law_1045 : decode code 1045 = .ok (.iconst 1, 1) := by decide +kernel
theorem d_law_1046 : decode code 1046 = .ok (.iadd, 1) := by decide +kernel
theorem d_law_1047 : decode code 1047 = .ok (.iaload, 1) := by decide +kernel
theorem d_law_1048 : decode code 1048 = .ok (.invokevirtual 162, 3) := by decide +kernel
theorem d_law_1051 : decode code 1051 = .ok (.if_icmp .eq 5, 3) := by decide +kernel
theorem d_law_1054 : decode code 1054 = .ok (.iconst 0, 1) := by decide +kernel
theorem d_law_1055 : decode code 1055 = .ok (.ireturn, 1) := by decide +kernel
theorem d_law_1056 : decode code 1056 = .ok (.iinc 3 6, 3) := by decide +kernel
theorem d_law_1059 : decode code 1059 = .ok (.goto (-1041), 3) := by decide +kernel
theorem d_law_1062 : decode code 1062 = .ok (.iconst 1, 1) := by decide +kernel
theorem d_law_1063 : decode code 1063 = .ok (.ireturn, 1) := by decide +kernel
theorem w_698 : Cond.methodLink "DearLettersLaw" 13 ⟨"DearLetters", "feed", "(IIIII)I"⟩ ∈ z_tbl := z_tbl_in (List.mem_of_getElem? (i := 698) (by decide +kernel)) rfl
theorem w_701 : Cond.code ⟨"DearLetters", "feed", "(IIIII)I"⟩ prog_1_method_2_code 6 (Option.some FieldType.int) ∈ z_tbl := z_tbl_in (List.mem_of_getElem? (i := 701) (by decide +kernel)) rfl
theorem w_699 : Cond.instanceMethod ⟨"DearLetters", "feed", "(IIIII)I"⟩ ∈ z_tbl := z_tbl_in (List.mem_of_getElem? (i := 699) (by decide +kernel)) rfl
theorem w_700 : Cond.selects "DearLetters" ⟨"DearLetters", "feed", "(IIIII)I"⟩ ⟨"DearLetters", "feed", "(IIIII)I"⟩ ∈ z_tbl := z_tbl_in (List.mem_of_getElem? (i := 700) (by decide +kernel)) rfl
theorem lkl_13 : z_LV "DearLettersLaw" 13 11 mX11_feed 5 := ⟨⟨w_698, w_154, w_701, ⟨by decide, by decide, by decide +kernel⟩, by decide⟩, by decide, w_699, w_700⟩
theorem w_1640 : Cond.methodLink "DearLettersLaw" 17 ⟨"DearLettersModel", "feed", "(IIIII)I"⟩ ∈ z_tbl := z_tbl_in (List.mem_of_getElem? (i := 1640) (by decide +kernel)) rfl
theorem w_1643 : Cond.code ⟨"DearLettersModel", "feed", "(IIIII)I"⟩ prog_14_method_3_code 8 (Option.some FieldType.int) ∈ z_tbl := z_tbl_in (List.mem_of_getElem? (i := 1643) (by decide +kernel)) rfl
theorem w_1641 : Cond.instanceMethod ⟨"DearLettersModel", "feed", "(IIIII)I"⟩ ∈ z_tbl := z_tbl_in (List.mem_of_getElem? (i := 1641) (by decide +kernel)) rfl
theorem w_1642 : Cond.selects "DearLettersModel" ⟨"DearLettersModel", "feed", "(IIIII)I"⟩ ⟨"DearLettersModel", "feed", "(IIIII)I"⟩ ∈ z_tbl := z_tbl_in (List.mem_of_getElem? (i := 1642) (by decide +kernel)) rfl
theorem lkl_17 : z_LV "DearLettersLaw" 17 12 mX12_feed 5 := ⟨⟨w_1640, w_171, w_1643, ⟨by decide, by decide, by decide +kernel⟩, by decide⟩, by decide, w_1641, w_1642⟩
theorem w_710 : Cond.methodLink "DearLettersLaw" 18 ⟨"DearLetters", "end", "(I)Z"⟩ ∈ z_tbl := z_tbl_in (List.mem_of_getElem? (i := 710) (by decide +kernel)) rfl
theorem w_713 : Cond.code ⟨"DearLetters", "end", "(I)Z"⟩ prog_1_method_3_code 2 (Option.some FieldType.boolean) ∈ z_tbl := z_tbl_in (List.mem_of_getElem? (i := 713) (by decide +kernel)) rfl
theorem w_711 : Cond.instanceMethod ⟨"DearLetters", "end", "(I)Z"⟩ ∈ z_tbl := z_tbl_in (List.mem_of_getElem? (i := 711) (by decide +kernel)) rfl
theorem w_712 : Cond.selects "DearLetters" ⟨"DearLetters", "end", "(I)Z"⟩ ⟨"DearLetters", "end", "(I)Z"⟩ ∈ z_tbl := z_tbl_in (List.mem_of_getElem? (i := 712) (by decide +kernel)) rfl
theorem lkl_18 : z_LV "DearLettersLaw" 18 11 mX11_end 1 := ⟨⟨w_710, w_154, w_713, ⟨by decide, by decide, by decide +kernel⟩, by decide⟩, by decide, w_711, w_712⟩
theorem w_1644 : Cond.methodLink "DearLettersLaw" 22 ⟨"DearLettersModel", "end", "(I)Z"⟩ ∈ z_tbl := z_tbl_in (List.mem_of_getElem? (i := 1644) (by decide +kernel)) rfl
theorem w_1647 : Cond.code ⟨"DearLettersModel", "end", "(I)Z"⟩ prog_14_method_4_code 2 (Option.some FieldType.boolean) ∈ z_tbl := z_tbl_in (List.mem_of_getElem? (i := 1647) (by decide +kernel)) rfl
theorem w_1645 : Cond.instanceMethod ⟨"DearLettersModel", "end", "(I)Z"⟩ ∈ z_tbl := z_tbl_in (List.mem_of_getElem? (i := 1645) (by decide +kernel)) rfl
theorem w_1646 : Cond.selects "DearLettersModel" ⟨"DearLettersModel", "end", "(I)Z"⟩ ⟨"DearLettersModel", "end", "(I)Z"⟩ ∈ z_tbl := z_tbl_in (List.mem_of_getElem? (i := 1646) (by decide +kernel)) rfl
theorem lkl_22 : z_LV "DearLettersLaw" 22 12 mX12_end 1 := ⟨⟨w_1644, w_171, w_1647, ⟨by decide, by decide, by decide +kernel⟩, by decide⟩, by decide, w_1645, w_1646⟩
theorem w_718 : Cond.methodLink "DearLettersLaw" 23 ⟨"DearLetters", "heap", "()I"⟩ ∈ z_tbl := z_tbl_in (List.mem_of_getElem? (i := 718) (by decide +kernel)) rfl
theorem w_721 : Cond.code ⟨"DearLetters", "heap", "()I"⟩ prog_1_method_4_code 3 (Option.some FieldType.int) ∈ z_tbl := z_tbl_in (List.mem_of_getElem? (i := 721) (by decide +kernel)) rfl
theorem w_719 : Cond.instanceMethod ⟨"DearLetters", "heap", "()I"⟩ ∈ z_tbl := z_tbl_in (List.mem_of_getElem? (i := 719) (by decide +kernel)) rfl
theorem w_720 : Cond.selects "DearLetters" ⟨"DearLetters", "heap", "()I"⟩ ⟨"DearLetters", "heap", "()I"⟩ ∈ z_tbl := z_tbl_in (List.mem_of_getElem? (i := 720) (by decide +kernel)) rfl
theorem lkl_23 : z_LV "DearLettersLaw" 23 11 mX11_heap 0 := ⟨⟨w_718, w_154, w_721, ⟨by decide, by decide, by decide +kernel⟩, by decide⟩, by decide, w_719, w_720⟩
theorem w_1648 : Cond.methodLink "DearLettersLaw" 27 ⟨"DearLettersModel", "heap", "()I"⟩ ∈ z_tbl := z_tbl_in (List.mem_of_getElem? (i := 1648) (by decide +kernel)) rfl
theorem w_1651 : Cond.code ⟨"DearLettersModel", "heap", "()I"⟩ prog_14_method_31_code 2 (Option.some FieldType.int) ∈ z_tbl := z_tbl_in (List.mem_of_getElem? (i := 1651) (by decide +kernel)) rfl
theorem w_1649 : Cond.instanceMethod ⟨"DearLettersModel", "heap", "()I"⟩ ∈ z_tbl := z_tbl_in (List.mem_of_getElem? (i := 1649) (by decide +kernel)) rfl
theorem w_1650 : Cond.selects "DearLettersModel" ⟨"DearLettersModel", "heap", "()I"⟩ ⟨"DearLettersModel", "heap", "()I"⟩ ∈ z_tbl := z_tbl_in (List.mem_of_getElem? (i := 1650) (by decide +kernel)) rfl
theorem lkl_27 : z_LV "DearLettersLaw" 27 12 mX12_heap 0 := ⟨⟨w_1648, w_171, w_1651, ⟨by decide, by decide, by decide +kernel⟩, by decide⟩, by decide, w_1649, w_1650⟩
theorem w_879 : Cond.methodLink "DearLettersLaw" 28 ⟨"DearLetters", "fault", "(I)I"⟩ ∈ z_tbl := z_tbl_in (List.mem_of_getElem? (i := 879) (by decide +kernel)) rfl
theorem w_882 : Cond.code ⟨"DearLetters", "fault", "(I)I"⟩ prog_1_method_5_code 2 (Option.some FieldType.int) ∈ z_tbl := z_tbl_in (List.mem_of_getElem? (i := 882) (by decide +kernel)) rfl
theorem w_880 : Cond.instanceMethod ⟨"DearLetters", "fault", "(I)I"⟩ ∈ z_tbl := z_tbl_in (List.mem_of_getElem? (i := 880) (by decide +kernel)) rfl
theorem w_881 : Cond.selects "DearLetters" ⟨"DearLetters", "fault", "(I)I"⟩ ⟨"DearLetters", "fault", "(I)I"⟩ ∈ z_tbl := z_tbl_in (List.mem_of_getElem? (i := 881) (by decide +kernel)) rfl
theorem lkl_28 : z_LV "DearLettersLaw" 28 11 mX11_fault 1 := ⟨⟨w_879, w_154, w_882, ⟨by decide, by decide, by decide +kernel⟩, by decide⟩, by decide, w_880, w_881⟩
theorem w_1830 : Cond.methodLink "DearLettersLaw" 32 ⟨"DearLettersModel", "fault", "(I)I"⟩ ∈ z_tbl := z_tbl_in (List.mem_of_getElem? (i := 1830) (by decide +kernel)) rfl
theorem w_1833 : Cond.code ⟨"DearLettersModel", "fault", "(I)I"⟩ prog_14_method_33_code 2 (Option.some FieldType.int) ∈ z_tbl := z_tbl_in (List.mem_of_getElem? (i := 1833) (by decide +kernel)) rfl
theorem w_1831 : Cond.instanceMethod ⟨"DearLettersModel", "fault", "(I)I"⟩ ∈ z_tbl := z_tbl_in (List.mem_of_getElem? (i := 1831) (by decide +kernel)) rfl
theorem w_1832 : Cond.selects "DearLettersModel" ⟨"DearLettersModel", "fault", "(I)I"⟩ ⟨"DearLettersModel", "fault", "(I)I"⟩ ∈ z_tbl := z_tbl_in (List.mem_of_getElem? (i := 1832) (by decide +kernel)) rfl
theorem lkl_32 : z_LV "DearLettersLaw" 32 12 mX12_fault 1 := ⟨⟨w_1830, w_171, w_1833, ⟨by decide, by decide, by decide +kernel⟩, by decide⟩, by decide, w_1831, w_1832⟩
theorem w_883 : Cond.methodLink "DearLettersLaw" 33 ⟨"DearLetters", "has", "(I)I"⟩ ∈ z_tbl := z_tbl_in (List.mem_of_getElem? (i := 883) (by decide +kernel)) rfl
theorem w_886 : Cond.code ⟨"DearLetters", "has", "(I)I"⟩ prog_1_method_6_code 2 (Option.some FieldType.int) ∈ z_tbl := z_tbl_in (List.mem_of_getElem? (i := 886) (by decide +kernel)) rfl
theorem w_884 : Cond.instanceMethod ⟨"DearLetters", "has", "(I)I"⟩ ∈ z_tbl := z_tbl_in (List.mem_of_getElem? (i := 884) (by decide +kernel)) rfl
theorem w_885 : Cond.selects "DearLetters" ⟨"DearLetters", "has", "(I)I"⟩ ⟨"DearLetters", "has", "(I)I"⟩ ∈ z_tbl := z_tbl_in (List.mem_of_getElem? (i := 885) (by decide +kernel)) rfl
theorem lkl_33 : z_LV "DearLettersLaw" 33 11 mX11_has 1 := ⟨⟨w_883, w_154, w_886, ⟨by decide, by decide, by decide +kernel⟩, by decide⟩, by decide, w_884, w_885⟩
theorem w_1834 : Cond.methodLink "DearLettersLaw" 36 ⟨"DearLettersModel", "has", "(I)I"⟩ ∈ z_tbl := z_tbl_in (List.mem_of_getElem? (i := 1834) (by decide +kernel)) rfl
theorem w_1837 : Cond.code ⟨"DearLettersModel", "has", "(I)I"⟩ prog_14_method_66_code 2 (Option.some FieldType.int) ∈ z_tbl := z_tbl_in (List.mem_of_getElem? (i := 1837) (by decide +kernel)) rfl
theorem w_1835 : Cond.instanceMethod ⟨"DearLettersModel", "has", "(I)I"⟩ ∈ z_tbl := z_tbl_in (List.mem_of_getElem? (i := 1835) (by decide +kernel)) rfl
theorem w_1836 : Cond.selects "DearLettersModel" ⟨"DearLettersModel", "has", "(I)I"⟩ ⟨"DearLettersModel", "has", "(I)I"⟩ ∈ z_tbl := z_tbl_in (List.mem_of_getElem? (i := 1836) (by decide +kernel)) rfl
theorem lkl_36 : z_LV "DearLettersLaw" 36 12 mX12_has 1 := ⟨⟨w_1834, w_171, w_1837, ⟨by decide, by decide, by decide +kernel⟩, by decide⟩, by decide, w_1835, w_1836⟩
theorem w_906 : Cond.methodLink "DearLettersLaw" 37 ⟨"DearLetters", "letter", "(III)I"⟩ ∈ z_tbl := z_tbl_in (List.mem_of_getElem? (i := 906) (by decide +kernel)) rfl
theorem w_909 : Cond.code ⟨"DearLetters", "letter", "(III)I"⟩ prog_1_method_7_code 4 (Option.some FieldType.int) ∈ z_tbl := z_tbl_in (List.mem_of_getElem? (i := 909) (by decide +kernel)) rfl
theorem w_907 : Cond.instanceMethod ⟨"DearLetters", "letter", "(III)I"⟩ ∈ z_tbl := z_tbl_in (List.mem_of_getElem? (i := 907) (by decide +kernel)) rfl
theorem w_908 : Cond.selects "DearLetters" ⟨"DearLetters", "letter", "(III)I"⟩ ⟨"DearLetters", "letter", "(III)I"⟩ ∈ z_tbl := z_tbl_in (List.mem_of_getElem? (i := 908) (by decide +kernel)) rfl
theorem lkl_37 : z_LV "DearLettersLaw" 37 11 mX11_letter 3 := ⟨⟨w_906, w_154, w_909, ⟨by decide, by decide, by decide +kernel⟩, by decide⟩, by decide, w_907, w_908⟩
theorem w_1854 : Cond.methodLink "DearLettersLaw" 41 ⟨"DearLettersModel", "letter", "(III)I"⟩ ∈ z_tbl := z_tbl_in (List.mem_of_getElem? (i := 1854) (by decide +kernel)) rfl
theorem w_1857 : Cond.code ⟨"DearLettersModel", "letter", "(III)I"⟩ prog_14_method_67_code 9 (Option.some FieldType.int) ∈ z_tbl := z_tbl_in (List.mem_of_getElem? (i := 1857) (by decide +kernel)) rfl
theorem w_1855 : Cond.instanceMethod ⟨"DearLettersModel", "letter", "(III)I"⟩ ∈ z_tbl := z_tbl_in (List.mem_of_getElem? (i := 1855) (by decide +kernel)) rfl
theorem w_1856 : Cond.selects "DearLettersModel" ⟨"DearLettersModel", "letter", "(III)I"⟩ ⟨"DearLettersModel", "letter", "(III)I"⟩ ∈ z_tbl := z_tbl_in (List.mem_of_getElem? (i := 1856) (by decide +kernel)) rfl
theorem lkl_41 : z_LV "DearLettersLaw" 41 12 mX12_letter 3 := ⟨⟨w_1854, w_171, w_1857, ⟨by decide, by decide, by decide +kernel⟩, by decide⟩, by decide, w_1855, w_1856⟩
theorem w_910 : Cond.methodLink "DearLettersLaw" 42 ⟨"DearLetters", "mail", "(II)I"⟩ ∈ z_tbl := z_tbl_in (List.mem_of_getElem? (i := 910) (by decide +kernel)) rfl
theorem w_913 : Cond.code ⟨"DearLetters", "mail", "(II)I"⟩ prog_1_method_8_code 3 (Option.some FieldType.int) ∈ z_tbl := z_tbl_in (List.mem_of_getElem? (i := 913) (by decide +kernel)) rfl
theorem w_911 : Cond.instanceMethod ⟨"DearLetters", "mail", "(II)I"⟩ ∈ z_tbl := z_tbl_in (List.mem_of_getElem? (i := 911) (by decide +kernel)) rfl
theorem w_912 : Cond.selects "DearLetters" ⟨"DearLetters", "mail", "(II)I"⟩ ⟨"DearLetters", "mail", "(II)I"⟩ ∈ z_tbl := z_tbl_in (List.mem_of_getElem? (i := 912) (by decide +kernel)) rfl
theorem lkl_42 : z_LV "DearLettersLaw" 42 11 mX11_mail 2 := ⟨⟨w_910, w_154, w_913, ⟨by decide, by decide, by decide +kernel⟩, by decide⟩, by decide, w_911, w_912⟩
theorem w_1860 : Cond.methodLink "DearLettersLaw" 46 ⟨"DearLettersModel", "mail", "(II)I"⟩ ∈ z_tbl := z_tbl_in (List.mem_of_getElem? (i := 1860) (by decide +kernel)) rfl
theorem w_1863 : Cond.code ⟨"DearLettersModel", "mail", "(II)I"⟩ prog_14_method_68_code 3 (Option.some FieldType.int) ∈ z_tbl := z_tbl_in (List.mem_of_getElem? (i := 1863) (by decide +kernel)) rfl
theorem w_1861 : Cond.instanceMethod ⟨"DearLettersModel", "mail", "(II)I"⟩ ∈ z_tbl := z_tbl_in (List.mem_of_getElem? (i := 1861) (by decide +kernel)) rfl
theorem w_1862 : Cond.selects "DearLettersModel" ⟨"DearLettersModel", "mail", "(II)I"⟩ ⟨"DearLettersModel", "mail", "(II)I"⟩ ∈ z_tbl := z_tbl_in (List.mem_of_getElem? (i := 1862) (by decide +kernel)) rfl
theorem lkl_46 : z_LV "DearLettersLaw" 46 12 mX12_mail 2 := ⟨⟨w_1860, w_171, w_1863, ⟨by decide, by decide, by decide +kernel⟩, by decide⟩, by decide, w_1861, w_1862⟩
theorem w_922 : Cond.methodLink "DearLettersLaw" 47 ⟨"DearLetters", "gift", "(II)I"⟩ ∈ z_tbl := z_tbl_in (List.mem_of_getElem? (i := 922) (by decide +kernel)) rfl
theorem w_925 : Cond.code ⟨"DearLetters", "gift", "(II)I"⟩ prog_1_method_9_code 3 (Option.some FieldType.int) ∈ z_tbl := z_tbl_in (List.mem_of_getElem? (i := 925) (by decide +kernel)) rfl
theorem w_923 : Cond.instanceMethod ⟨"DearLetters", "gift", "(II)I"⟩ ∈ z_tbl := z_tbl_in (List.mem_of_getElem? (i := 923) (by decide +kernel)) rfl
theorem w_924 : Cond.selects "DearLetters" ⟨"DearLetters", "gift", "(II)I"⟩ ⟨"DearLetters", "gift", "(II)I"⟩ ∈ z_tbl := z_tbl_in (List.mem_of_getElem? (i := 924) (by decide +kernel)) rfl
theorem lkl_47 : z_LV "DearLettersLaw" 47 11 mX11_gift 2 := ⟨⟨w_922, w_154, w_925, ⟨by decide, by decide, by decide +kernel⟩, by decide⟩, by decide, w_923, w_924⟩
theorem w_1888 : Cond.methodLink "DearLettersLaw" 50 ⟨"DearLettersModel", "gift", "(II)I"⟩ ∈ z_tbl := z_tbl_in (List.mem_of_getElem? (i := 1888) (by decide +kernel)) rfl
theorem w_1891 : Cond.code ⟨"DearLettersModel", "gift", "(II)I"⟩ prog_14_method_69_code 3 (Option.some FieldType.int) ∈ z_tbl := z_tbl_in (List.mem_of_getElem? (i := 1891) (by decide +kernel)) rfl
theorem w_1889 : Cond.instanceMethod ⟨"DearLettersModel", "gift", "(II)I"⟩ ∈ z_tbl := z_tbl_in (List.mem_of_getElem? (i := 1889) (by decide +kernel)) rfl
theorem w_1890 : Cond.selects "DearLettersModel" ⟨"DearLettersModel", "gift", "(II)I"⟩ ⟨"DearLettersModel", "gift", "(II)I"⟩ ∈ z_tbl := z_tbl_in (List.mem_of_getElem? (i := 1890) (by decide +kernel)) rfl
theorem lkl_50 : z_LV "DearLettersLaw" 50 12 mX12_gift 2 := ⟨⟨w_1888, w_171, w_1891, ⟨by decide, by decide, by decide +kernel⟩, by decide⟩, by decide, w_1889, w_1890⟩
theorem w_930 : Cond.methodLink "DearLettersLaw" 51 ⟨"DearLetters", "helper", "(II)I"⟩ ∈ z_tbl := z_tbl_in (List.mem_of_getElem? (i := 930) (by decide +kernel)) rfl
theorem w_933 : Cond.code ⟨"DearLetters", "helper", "(II)I"⟩ prog_1_method_10_code 3 (Option.some FieldType.int) ∈ z_tbl := z_tbl_in (List.mem_of_getElem? (i := 933) (by decide +kernel)) rfl
theorem w_931 : Cond.instanceMethod ⟨"DearLetters", "helper", "(II)I"⟩ ∈ z_tbl := z_tbl_in (List.mem_of_getElem? (i := 931) (by decide +kernel)) rfl
theorem w_932 : Cond.selects "DearLetters" ⟨"DearLetters", "helper", "(II)I"⟩ ⟨"DearLetters", "helper", "(II)I"⟩ ∈ z_tbl := z_tbl_in (List.mem_of_getElem? (i := 932) (by decide +kernel)) rfl
theorem lkl_51 : z_LV "DearLettersLaw" 51 11 mX11_helper 2 := ⟨⟨w_930, w_154, w_933, ⟨by decide, by decide, by decide +kernel⟩, by decide⟩, by decide, w_931, w_932⟩
theorem w_1896 : Cond.methodLink "DearLettersLaw" 54 ⟨"DearLettersModel", "helper", "(II)I"⟩ ∈ z_tbl := z_tbl_in (List.mem_of_getElem? (i := 1896) (by decide +kernel)) rfl
theorem w_1899 : Cond.code ⟨"DearLettersModel", "helper", "(II)I"⟩ prog_14_method_70_code 5 (Option.some FieldType.int) ∈ z_tbl := z_tbl_in (List.mem_of_getElem? (i := 1899) (by decide +kernel)) rfl
theorem w_1897 : Cond.instanceMethod ⟨"DearLettersModel", "helper", "(II)I"⟩ ∈ z_tbl := z_tbl_in (List.mem_of_getElem? (i := 1897) (by decide +kernel)) rfl
theorem w_1898 : Cond.selects "DearLettersModel" ⟨"DearLettersModel", "helper", "(II)I"⟩ ⟨"DearLettersModel", "helper", "(II)I"⟩ ∈ z_tbl := z_tbl_in (List.mem_of_getElem? (i := 1898) (by decide +kernel)) rfl
theorem lkl_54 : z_LV "DearLettersLaw" 54 12 mX12_helper 2 := ⟨⟨w_1896, w_171, w_1899, ⟨by decide, by decide, by decide +kernel⟩, by decide⟩, by decide, w_1897, w_1898⟩
theorem w_942 : Cond.methodLink "DearLettersLaw" 55 ⟨"DearLetters", "takes", "(II)I"⟩ ∈ z_tbl := z_tbl_in (List.mem_of_getElem? (i := 942) (by decide +kernel)) rfl
theorem w_945 : Cond.code ⟨"DearLetters", "takes", "(II)I"⟩ prog_1_method_11_code 3 (Option.some FieldType.int) ∈ z_tbl := z_tbl_in (List.mem_of_getElem? (i := 945) (by decide +kernel)) rfl
theorem w_943 : Cond.instanceMethod ⟨"DearLetters", "takes", "(II)I"⟩ ∈ z_tbl := z_tbl_in (List.mem_of_getElem? (i := 943) (by decide +kernel)) rfl
theorem w_944 : Cond.selects "DearLetters" ⟨"DearLetters", "takes", "(II)I"⟩ ⟨"DearLetters", "takes", "(II)I"⟩ ∈ z_tbl := z_tbl_in (List.mem_of_getElem? (i := 944) (by decide +kernel)) rfl
theorem lkl_55 : z_LV "DearLettersLaw" 55 11 mX11_takes 2 := ⟨⟨w_942, w_154, w_945, ⟨by decide, by decide, by decide +kernel⟩, by decide⟩, by decide, w_943, w_944⟩
theorem w_1904 : Cond.methodLink "DearLettersLaw" 58 ⟨"DearLettersModel", "takes", "(II)I"⟩ ∈ z_tbl := z_tbl_in (List.mem_of_getElem? (i := 1904) (by decide +kernel)) rfl
theorem w_1907 : Cond.code ⟨"DearLettersModel", "takes", "(II)I"⟩ prog_14_method_71_code 3 (Option.some FieldType.int) ∈ z_tbl := z_tbl_in (List.mem_of_getElem? (i := 1907) (by decide +kernel)) rfl
theorem w_1905 : Cond.instanceMethod ⟨"DearLettersModel", "takes", "(II)I"⟩ ∈ z_tbl := z_tbl_in (List.mem_of_getElem? (i := 1905) (by decide +kernel)) rfl
theorem w_1906 : Cond.selects "DearLettersModel" ⟨"DearLettersModel", "takes", "(II)I"⟩ ⟨"DearLettersModel", "takes", "(II)I"⟩ ∈ z_tbl := z_tbl_in (List.mem_of_getElem? (i := 1906) (by decide +kernel)) rfl
theorem lkl_58 : z_LV "DearLettersLaw" 58 12 mX12_takes 2 := ⟨⟨w_1904, w_171, w_1907, ⟨by decide, by decide, by decide +kernel⟩, by decide⟩, by decide, w_1905, w_1906⟩
theorem w_991 : Cond.methodLink "DearLettersLaw" 59 ⟨"DearLetters", "warmth", "(II)J"⟩ ∈ z_tbl := z_tbl_in (List.mem_of_getElem? (i := 991) (by decide +kernel)) rfl
theorem w_994 : Cond.code ⟨"DearLetters", "warmth", "(II)J"⟩ prog_1_method_12_code 3 (Option.some FieldType.long) ∈ z_tbl := z_tbl_in (List.mem_of_getElem? (i := 994) (by decide +kernel)) rfl
theorem w_992 : Cond.instanceMethod ⟨"DearLetters", "warmth", "(II)J"⟩ ∈ z_tbl := z_tbl_in (List.mem_of_getElem? (i := 992) (by decide +kernel)) rfl
theorem w_993 : Cond.selects "DearLetters" ⟨"DearLetters", "warmth", "(II)J"⟩ ⟨"DearLetters", "warmth", "(II)J"⟩ ∈ z_tbl := z_tbl_in (List.mem_of_getElem? (i := 993) (by decide +kernel)) rfl
theorem lkl_59 : z_LV "DearLettersLaw" 59 11 mX11_warmth 2 := ⟨⟨w_991, w_154, w_994, ⟨by decide, by decide, by decide +kernel⟩, by decide⟩, by decide, w_992, w_993⟩
theorem w_1937 : Cond.methodLink "DearLettersLaw" 63 ⟨"DearLettersModel", "warmth", "(II)J"⟩ ∈ z_tbl := z_tbl_in (List.mem_of_getElem? (i := 1937) (by decide +kernel)) rfl
theorem w_1940 : Cond.code ⟨"DearLettersModel", "warmth", "(II)J"⟩ prog_14_method_72_code 3 (Option.some FieldType.long) ∈ z_tbl := z_tbl_in (List.mem_of_getElem? (i := 1940) (by decide +kernel)) rfl
theorem w_1938 : Cond.instanceMethod ⟨"DearLettersModel", "warmth", "(II)J"⟩ ∈ z_tbl := z_tbl_in (List.mem_of_getElem? (i := 1938) (by decide +kernel)) rfl
theorem w_1939 : Cond.selects "DearLettersModel" ⟨"DearLettersModel", "warmth", "(II)J"⟩ ⟨"DearLettersModel", "warmth", "(II)J"⟩ ∈ z_tbl := z_tbl_in (List.mem_of_getElem? (i := 1939) (by decide +kernel)) rfl
theorem lkl_63 : z_LV "DearLettersLaw" 63 12 mX12_warmth 2 := ⟨⟨w_1937, w_171, w_1940, ⟨by decide, by decide, by decide +kernel⟩, by decide⟩, by decide, w_1938, w_1939⟩
theorem w_1000 : Cond.methodLink "DearLettersLaw" 64 ⟨"DearLetters", "can", "(II)I"⟩ ∈ z_tbl := z_tbl_in (List.mem_of_getElem? (i := 1000) (by decide +kernel)) rfl
theorem w_1003 : Cond.code ⟨"DearLetters", "can", "(II)I"⟩ prog_1_method_13_code 3 (Option.some FieldType.int) ∈ z_tbl := z_tbl_in (List.mem_of_getElem? (i := 1003) (by decide +kernel)) rfl
theorem w_1001 : Cond.instanceMethod ⟨"DearLetters", "can", "(II)I"⟩ ∈ z_tbl := z_tbl_in (List.mem_of_getElem? (i := 1001) (by decide +kernel)) rfl
theorem w_1002 : Cond.selects "DearLetters" ⟨"DearLetters", "can", "(II)I"⟩ ⟨"DearLetters", "can", "(II)I"⟩ ∈ z_tbl := z_tbl_in (List.mem_of_getElem? (i := 1002) (by decide +kernel)) rfl
theorem lkl_64 : z_LV "DearLettersLaw" 64 11 mX11_can 2 := ⟨⟨w_1000, w_154, w_1003, ⟨by decide, by decide, by decide +kernel⟩, by decide⟩, by decide, w_1001, w_1002⟩
theorem w_1946 : Cond.methodLink "DearLettersLaw" 67 ⟨"DearLettersModel", "can", "(II)I"⟩ ∈ z_tbl := z_tbl_in (List.mem_of_getElem? (i := 1946) (by decide +kernel)) rfl
theorem w_1949 : Cond.code ⟨"DearLettersModel", "can", "(II)I"⟩ prog_14_method_73_code 3 (Option.some FieldType.int) ∈ z_tbl := z_tbl_in (List.mem_of_getElem? (i := 1949) (by decide +kernel)) rfl
theorem w_1947 : Cond.instanceMethod ⟨"DearLettersModel", "can", "(II)I"⟩ ∈ z_tbl := z_tbl_in (List.mem_of_getElem? (i := 1947) (by decide +kernel)) rfl
theorem w_1948 : Cond.selects "DearLettersModel" ⟨"DearLettersModel", "can", "(II)I"⟩ ⟨"DearLettersModel", "can", "(II)I"⟩ ∈ z_tbl := z_tbl_in (List.mem_of_getElem? (i := 1948) (by decide +kernel)) rfl
theorem lkl_67 : z_LV "DearLettersLaw" 67 12 mX12_can 2 := ⟨⟨w_1946, w_171, w_1949, ⟨by decide, by decide, by decide +kernel⟩, by decide⟩, by decide, w_1947, w_1948⟩
theorem w_1009 : Cond.methodLink "DearLettersLaw" 68 ⟨"DearLetters", "warmest", "(I)I"⟩ ∈ z_tbl := z_tbl_in (List.mem_of_getElem? (i := 1009) (by decide +kernel)) rfl
theorem w_1012 : Cond.code ⟨"DearLetters", "warmest", "(I)I"⟩ prog_1_method_14_code 2 (Option.some FieldType.int) ∈ z_tbl := z_tbl_in (List.mem_of_getElem? (i := 1012) (by decide +kernel)) rfl
theorem w_1010 : Cond.instanceMethod ⟨"DearLetters", "warmest", "(I)I"⟩ ∈ z_tbl := z_tbl_in (List.mem_of_getElem? (i := 1010) (by decide +kernel)) rfl
theorem w_1011 : Cond.selects "DearLetters" ⟨"DearLetters", "warmest", "(I)I"⟩ ⟨"DearLetters", "warmest", "(I)I"⟩ ∈ z_tbl := z_tbl_in (List.mem_of_getElem? (i := 1011) (by decide +kernel)) rfl
theorem lkl_68 : z_LV "DearLettersLaw" 68 11 mX11_warmest 1 := ⟨⟨w_1009, w_154, w_1012, ⟨by decide, by decide, by decide +kernel⟩, by decide⟩, by decide, w_1010, w_1011⟩
theorem w_1958 : Cond.methodLink "DearLettersLaw" 71 ⟨"DearLettersModel", "warmest", "(I)I"⟩ ∈ z_tbl := z_tbl_in (List.mem_of_getElem? (i := 1958) (by decide +kernel)) rfl
theorem w_1961 : Cond.code ⟨"DearLettersModel", "warmest", "(I)I"⟩ prog_14_method_74_code 3 (Option.some FieldType.int) ∈ z_tbl := z_tbl_in (List.mem_of_getElem? (i := 1961) (by decide +kernel)) rfl
theorem w_1959 : Cond.instanceMethod ⟨"DearLettersModel", "warmest", "(I)I"⟩ ∈ z_tbl := z_tbl_in (List.mem_of_getElem? (i := 1959) (by decide +kernel)) rfl
theorem w_1960 : Cond.selects "DearLettersModel" ⟨"DearLettersModel", "warmest", "(I)I"⟩ ⟨"DearLettersModel", "warmest", "(I)I"⟩ ∈ z_tbl := z_tbl_in (List.mem_of_getElem? (i := 1960) (by decide +kernel)) rfl
theorem lkl_71 : z_LV "DearLettersLaw" 71 12 mX12_warmest 1 := ⟨⟨w_1958, w_171, w_1961, ⟨by decide, by decide, by decide +kernel⟩, by decide⟩, by decide, w_1959, w_1960⟩
theorem w_1050 : Cond.methodLink "DearLettersLaw" 72 ⟨"DearLetters", "warms", "()J"⟩ ∈ z_tbl := z_tbl_in (List.mem_of_getElem? (i := 1050) (by decide +kernel)) rfl
theorem w_1053 : Cond.code ⟨"DearLetters", "warms", "()J"⟩ prog_1_method_15_code 1 (Option.some FieldType.long) ∈ z_tbl := z_tbl_in (List.mem_of_getElem? (i := 1053) (by decide +kernel)) rfl
theorem w_1051 : Cond.instanceMethod ⟨"DearLetters", "warms", "()J"⟩ ∈ z_tbl := z_tbl_in (List.mem_of_getElem? (i := 1051) (by decide +kernel)) rfl
theorem w_1052 : Cond.selects "DearLetters" ⟨"DearLetters", "warms", "()J"⟩ ⟨"DearLetters", "warms", "()J"⟩ ∈ z_tbl := z_tbl_in (List.mem_of_getElem? (i := 1052) (by decide +kernel)) rfl
theorem lkl_72 : z_LV "DearLettersLaw" 72 11 mX11_warms 0 := ⟨⟨w_1050, w_154, w_1053, ⟨by decide, by decide, by decide +kernel⟩, by decide⟩, by decide, w_1051, w_1052⟩
theorem w_1986 : Cond.methodLink "DearLettersLaw" 76 ⟨"DearLettersModel", "warms", "()J"⟩ ∈ z_tbl := z_tbl_in (List.mem_of_getElem? (i := 1986) (by decide +kernel)) rfl
theorem w_1989 : Cond.code ⟨"DearLettersModel", "warms", "()J"⟩ prog_14_method_75_code 1 (Option.some FieldType.long) ∈ z_tbl := z_tbl_in (List.mem_of_getElem? (i := 1989) (by decide +kernel)) rfl
theorem w_1987 : Cond.instanceMethod ⟨"DearLettersModel", "warms", "()J"⟩ ∈ z_tbl := z_tbl_in (List.mem_of_getElem? (i := 1987) (by decide +kernel)) rfl
theorem w_1988 : Cond.selects "DearLettersModel" ⟨"DearLettersModel", "warms", "()J"⟩ ⟨"DearLettersModel", "warms", "()J"⟩ ∈ z_tbl := z_tbl_in (List.mem_of_getElem? (i := 1988) (by decide +kernel)) rfl
theorem lkl_76 : z_LV "DearLettersLaw" 76 12 mX12_warms 0 := ⟨⟨w_1986, w_171, w_1989, ⟨by decide, by decide, by decide +kernel⟩, by decide⟩, by decide, w_1987, w_1988⟩
theorem w_1054 : Cond.methodLink "DearLettersLaw" 77 ⟨"DearLetters", "later", "(I)I"⟩ ∈ z_tbl := z_tbl_in (List.mem_of_getElem? (i := 1054) (by decide +kernel)) rfl
theorem w_1057 : Cond.code ⟨"DearLetters", "later", "(I)I"⟩ prog_1_method_16_code 3 (Option.some FieldType.int) ∈ z_tbl := z_tbl_in (List.mem_of_getElem? (i := 1057) (by decide +kernel)) rfl
theorem w_1055 : Cond.instanceMethod ⟨"DearLetters", "later", "(I)I"⟩ ∈ z_tbl := z_tbl_in (List.mem_of_getElem? (i := 1055) (by decide +kernel)) rfl
theorem w_1056 : Cond.selects "DearLetters" ⟨"DearLetters", "later", "(I)I"⟩ ⟨"DearLetters", "later", "(I)I"⟩ ∈ z_tbl := z_tbl_in (List.mem_of_getElem? (i := 1056) (by decide +kernel)) rfl
theorem lkl_77 : z_LV "DearLettersLaw" 77 11 mX11_later 1 := ⟨⟨w_1054, w_154, w_1057, ⟨by decide, by decide, by decide +kernel⟩, by decide⟩, by decide, w_1055, w_1056⟩
theorem w_1990 : Cond.methodLink "DearLettersLaw" 80 ⟨"DearLettersModel", "later", "(I)I"⟩ ∈ z_tbl := z_tbl_in (List.mem_of_getElem? (i := 1990) (by decide +kernel)) rfl
theorem w_1993 : Cond.code ⟨"DearLettersModel", "later", "(I)I"⟩ prog_14_method_76_code 3 (Option.some FieldType.int) ∈ z_tbl := z_tbl_in (List.mem_of_getElem? (i := 1993) (by decide +kernel)) rfl
theorem w_1991 : Cond.instanceMethod ⟨"DearLettersModel", "later", "(I)I"⟩ ∈ z_tbl := z_tbl_in (List.mem_of_getElem? (i := 1991) (by decide +kernel)) rfl
theorem w_1992 : Cond.selects "DearLettersModel" ⟨"DearLettersModel", "later", "(I)I"⟩ ⟨"DearLettersModel", "later", "(I)I"⟩ ∈ z_tbl := z_tbl_in (List.mem_of_getElem? (i := 1992) (by decide +kernel)) rfl
theorem lkl_80 : z_LV "DearLettersLaw" 80 12 mX12_later 1 := ⟨⟨w_1990, w_171, w_1993, ⟨by decide, by decide, by decide +kernel⟩, by decide⟩, by decide, w_1991, w_1992⟩
theorem w_1067 : Cond.methodLink "DearLettersLaw" 81 ⟨"DearLetters", "finished", "()I"⟩ ∈ z_tbl := z_tbl_in (List.mem_of_getElem? (i := 1067) (by decide +kernel)) rfl
theorem w_1070 : Cond.code ⟨"DearLetters", "finished", "()I"⟩ prog_1_method_17_code 3 (Option.some FieldType.int) ∈ z_tbl := z_tbl_in (List.mem_of_getElem? (i := 1070) (by decide +kernel)) rfl
theorem w_1068 : Cond.instanceMethod ⟨"DearLetters", "finished", "()I"⟩ ∈ z_tbl := z_tbl_in (List.mem_of_getElem? (i := 1068) (by decide +kernel)) rfl
theorem w_1069 : Cond.selects "DearLetters" ⟨"DearLetters", "finished", "()I"⟩ ⟨"DearLetters", "finished", "()I"⟩ ∈ z_tbl := z_tbl_in (List.mem_of_getElem? (i := 1069) (by decide +kernel)) rfl
theorem lkl_81 : z_LV "DearLettersLaw" 81 11 mX11_finished 0 := ⟨⟨w_1067, w_154, w_1070, ⟨by decide, by decide, by decide +kernel⟩, by decide⟩, by decide, w_1068, w_1069⟩
theorem w_2018 : Cond.methodLink "DearLettersLaw" 84 ⟨"DearLettersModel", "finished", "()I"⟩ ∈ z_tbl := z_tbl_in (List.mem_of_getElem? (i := 2018) (by decide +kernel)) rfl
theorem w_2021 : Cond.code ⟨"DearLettersModel", "finished", "()I"⟩ prog_14_method_77_code 3 (Option.some FieldType.int) ∈ z_tbl := z_tbl_in (List.mem_of_getElem? (i := 2021) (by decide +kernel)) rfl
theorem w_2019 : Cond.instanceMethod ⟨"DearLettersModel", "finished", "()I"⟩ ∈ z_tbl := z_tbl_in (List.mem_of_getElem? (i := 2019) (by decide +kernel)) rfl
theorem w_2020 : Cond.selects "DearLettersModel" ⟨"DearLettersModel", "finished", "()I"⟩ ⟨"DearLettersModel", "finished", "()I"⟩ ∈ z_tbl := z_tbl_in (List.mem_of_getElem? (i := 2020) (by decide +kernel)) rfl
theorem lkl_84 : z_LV "DearLettersLaw" 84 12 mX12_finished 0 := ⟨⟨w_2018, w_171, w_2021, ⟨by decide, by decide, by decide +kernel⟩, by decide⟩, by decide, w_2019, w_2020⟩
theorem w_1072 : Cond.methodLink "DearLettersLaw" 85 ⟨"DearLetters", "sheets", "(I)I"⟩ ∈ z_tbl := z_tbl_in (List.mem_of_getElem? (i := 1072) (by decide +kernel)) rfl
theorem w_1075 : Cond.code ⟨"DearLetters", "sheets", "(I)I"⟩ prog_1_method_18_code 2 (Option.some FieldType.int) ∈ z_tbl := z_tbl_in (List.mem_of_getElem? (i := 1075) (by decide +kernel)) rfl
theorem w_1073 : Cond.instanceMethod ⟨"DearLetters", "sheets", "(I)I"⟩ ∈ z_tbl := z_tbl_in (List.mem_of_getElem? (i := 1073) (by decide +kernel)) rfl
theorem w_1074 : Cond.selects "DearLetters" ⟨"DearLetters", "sheets", "(I)I"⟩ ⟨"DearLetters", "sheets", "(I)I"⟩ ∈ z_tbl := z_tbl_in (List.mem_of_getElem? (i := 1074) (by decide +kernel)) rfl
theorem lkl_85 : z_LV "DearLettersLaw" 85 11 mX11_sheets 1 := ⟨⟨w_1072, w_154, w_1075, ⟨by decide, by decide, by decide +kernel⟩, by decide⟩, by decide, w_1073, w_1074⟩
theorem w_2022 : Cond.methodLink "DearLettersLaw" 88 ⟨"DearLettersModel", "sheets", "(I)I"⟩ ∈ z_tbl := z_tbl_in (List.mem_of_getElem? (i := 2022) (by decide +kernel)) rfl
theorem w_2025 : Cond.code ⟨"DearLettersModel", "sheets", "(I)I"⟩ prog_14_method_80_code 3 (Option.some FieldType.int) ∈ z_tbl := z_tbl_in (List.mem_of_getElem? (i := 2025) (by decide +kernel)) rfl
theorem w_2023 : Cond.instanceMethod ⟨"DearLettersModel", "sheets", "(I)I"⟩ ∈ z_tbl := z_tbl_in (List.mem_of_getElem? (i := 2023) (by decide +kernel)) rfl
theorem w_2024 : Cond.selects "DearLettersModel" ⟨"DearLettersModel", "sheets", "(I)I"⟩ ⟨"DearLettersModel", "sheets", "(I)I"⟩ ∈ z_tbl := z_tbl_in (List.mem_of_getElem? (i := 2024) (by decide +kernel)) rfl
theorem lkl_88 : z_LV "DearLettersLaw" 88 12 mX12_sheets 1 := ⟨⟨w_2022, w_171, w_2025, ⟨by decide, by decide, by decide +kernel⟩, by decide⟩, by decide, w_2023, w_2024⟩
theorem w_1090 : Cond.methodLink "DearLettersLaw" 89 ⟨"DearLetters", "shared", "(I)I"⟩ ∈ z_tbl := z_tbl_in (List.mem_of_getElem? (i := 1090) (by decide +kernel)) rfl
theorem w_1093 : Cond.code ⟨"DearLetters", "shared", "(I)I"⟩ prog_1_method_19_code 2 (Option.some FieldType.int) ∈ z_tbl := z_tbl_in (List.mem_of_getElem? (i := 1093) (by decide +kernel)) rfl
theorem w_1091 : Cond.instanceMethod ⟨"DearLetters", "shared", "(I)I"⟩ ∈ z_tbl := z_tbl_in (List.mem_of_getElem? (i := 1091) (by decide +kernel)) rfl
theorem w_1092 : Cond.selects "DearLetters" ⟨"DearLetters", "shared", "(I)I"⟩ ⟨"DearLetters", "shared", "(I)I"⟩ ∈ z_tbl := z_tbl_in (List.mem_of_getElem? (i := 1092) (by decide +kernel)) rfl
theorem lkl_89 : z_LV "DearLettersLaw" 89 11 mX11_shared 1 := ⟨⟨w_1090, w_154, w_1093, ⟨by decide, by decide, by decide +kernel⟩, by decide⟩, by decide, w_1091, w_1092⟩
theorem w_2034 : Cond.methodLink "DearLettersLaw" 92 ⟨"DearLettersModel", "shared", "(I)I"⟩ ∈ z_tbl := z_tbl_in (List.mem_of_getElem? (i := 2034) (by decide +kernel)) rfl
theorem w_2037 : Cond.code ⟨"DearLettersModel", "shared", "(I)I"⟩ prog_14_method_83_code 5 (Option.some FieldType.int) ∈ z_tbl := z_tbl_in (List.mem_of_getElem? (i := 2037) (by decide +kernel)) rfl
theorem w_2035 : Cond.instanceMethod ⟨"DearLettersModel", "shared", "(I)I"⟩ ∈ z_tbl := z_tbl_in (List.mem_of_getElem? (i := 2035) (by decide +kernel)) rfl
theorem w_2036 : Cond.selects "DearLettersModel" ⟨"DearLettersModel", "shared", "(I)I"⟩ ⟨"DearLettersModel", "shared", "(I)I"⟩ ∈ z_tbl := z_tbl_in (List.mem_of_getElem? (i := 2036) (by decide +kernel)) rfl
theorem lkl_92 : z_LV "DearLettersLaw" 92 12 mX12_shared 1 := ⟨⟨w_2034, w_171, w_2037, ⟨by decide, by decide, by decide +kernel⟩, by decide⟩, by decide, w_2035, w_2036⟩
theorem w_1118 : Cond.methodLink "DearLettersLaw" 93 ⟨"DearLetters", "tell", "(I)I"⟩ ∈ z_tbl := z_tbl_in (List.mem_of_getElem? (i := 1118) (by decide +kernel)) rfl
theorem w_1121 : Cond.code ⟨"DearLetters", "tell", "(I)I"⟩ prog_1_method_20_code 4 (Option.some FieldType.int) ∈ z_tbl := z_tbl_in (List.mem_of_getElem? (i := 1121) (by decide +kernel)) rfl
theorem w_1119 : Cond.instanceMethod ⟨"DearLetters", "tell", "(I)I"⟩ ∈ z_tbl := z_tbl_in (List.mem_of_getElem? (i := 1119) (by decide +kernel)) rfl
theorem w_1120 : Cond.selects "DearLetters" ⟨"DearLetters", "tell", "(I)I"⟩ ⟨"DearLetters", "tell", "(I)I"⟩ ∈ z_tbl := z_tbl_in (List.mem_of_getElem? (i := 1120) (by decide +kernel)) rfl
theorem lkl_93 : z_LV "DearLettersLaw" 93 11 mX11_tell 1 := ⟨⟨w_1118, w_154, w_1121, ⟨by decide, by decide, by decide +kernel⟩, by decide⟩, by decide, w_1119, w_1120⟩
theorem w_2046 : Cond.methodLink "DearLettersLaw" 96 ⟨"DearLettersModel", "tell", "(I)I"⟩ ∈ z_tbl := z_tbl_in (List.mem_of_getElem? (i := 2046) (by decide +kernel)) rfl
theorem w_2049 : Cond.code ⟨"DearLettersModel", "tell", "(I)I"⟩ prog_14_method_85_code 4 (Option.some FieldType.int) ∈ z_tbl := z_tbl_in (List.mem_of_getElem? (i := 2049) (by decide +kernel)) rfl
theorem w_2047 : Cond.instanceMethod ⟨"DearLettersModel", "tell", "(I)I"⟩ ∈ z_tbl := z_tbl_in (List.mem_of_getElem? (i := 2047) (by decide +kernel)) rfl
theorem w_2048 : Cond.selects "DearLettersModel" ⟨"DearLettersModel", "tell", "(I)I"⟩ ⟨"DearLettersModel", "tell", "(I)I"⟩ ∈ z_tbl := z_tbl_in (List.mem_of_getElem? (i := 2048) (by decide +kernel)) rfl
theorem lkl_96 : z_LV "DearLettersLaw" 96 12 mX12_tell 1 := ⟨⟨w_2046, w_171, w_2049, ⟨by decide, by decide, by decide +kernel⟩, by decide⟩, by decide, w_2047, w_2048⟩
theorem w_1126 : Cond.methodLink "DearLettersLaw" 97 ⟨"DearLetters", "children", "(I)I"⟩ ∈ z_tbl := z_tbl_in (List.mem_of_getElem? (i := 1126) (by decide +kernel)) rfl
theorem w_1129 : Cond.code ⟨"DearLetters", "children", "(I)I"⟩ prog_1_method_21_code 2 (Option.some FieldType.int) ∈ z_tbl := z_tbl_in (List.mem_of_getElem? (i := 1129) (by decide +kernel)) rfl
theorem w_1127 : Cond.instanceMethod ⟨"DearLetters", "children", "(I)I"⟩ ∈ z_tbl := z_tbl_in (List.mem_of_getElem? (i := 1127) (by decide +kernel)) rfl
theorem w_1128 : Cond.selects "DearLetters" ⟨"DearLetters", "children", "(I)I"⟩ ⟨"DearLetters", "children", "(I)I"⟩ ∈ z_tbl := z_tbl_in (List.mem_of_getElem? (i := 1128) (by decide +kernel)) rfl
theorem lkl_97 : z_LV "DearLettersLaw" 97 11 mX11_children 1 := ⟨⟨w_1126, w_154, w_1129, ⟨by decide, by decide, by decide +kernel⟩, by decide⟩, by decide, w_1127, w_1128⟩
theorem w_2054 : Cond.methodLink "DearLettersLaw" 100 ⟨"DearLettersModel", "children", "(I)I"⟩ ∈ z_tbl := z_tbl_in (List.mem_of_getElem? (i := 2054) (by decide +kernel)) rfl
theorem w_2057 : Cond.code ⟨"DearLettersModel", "children", "(I)I"⟩ prog_14_method_88_code 7 (Option.some FieldType.int) ∈ z_tbl := z_tbl_in (List.mem_of_getElem? (i := 2057) (by decide +kernel)) rfl
theorem w_2055 : Cond.instanceMethod ⟨"DearLettersModel", "children", "(I)I"⟩ ∈ z_tbl := z_tbl_in (List.mem_of_getElem? (i := 2055) (by decide +kernel)) rfl
theorem w_2056 : Cond.selects "DearLettersModel" ⟨"DearLettersModel", "children", "(I)I"⟩ ⟨"DearLettersModel", "children", "(I)I"⟩ ∈ z_tbl := z_tbl_in (List.mem_of_getElem? (i := 2056) (by decide +kernel)) rfl
theorem lkl_100 : z_LV "DearLettersLaw" 100 12 mX12_children 1 := ⟨⟨w_2054, w_171, w_2057, ⟨by decide, by decide, by decide +kernel⟩, by decide⟩, by decide, w_2055, w_2056⟩
theorem w_1148 : Cond.methodLink "DearLettersLaw" 101 ⟨"DearLetters", "see", "()I"⟩ ∈ z_tbl := z_tbl_in (List.mem_of_getElem? (i := 1148) (by decide +kernel)) rfl
theorem w_1151 : Cond.code ⟨"DearLetters", "see", "()I"⟩ prog_1_method_22_code 4 (Option.some FieldType.int) ∈ z_tbl := z_tbl_in (List.mem_of_getElem? (i := 1151) (by decide +kernel)) rfl
theorem w_1149 : Cond.instanceMethod ⟨"DearLetters", "see", "()I"⟩ ∈ z_tbl := z_tbl_in (List.mem_of_getElem? (i := 1149) (by decide +kernel)) rfl
theorem w_1150 : Cond.selects "DearLetters" ⟨"DearLetters", "see", "()I"⟩ ⟨"DearLetters", "see", "()I"⟩ ∈ z_tbl := z_tbl_in (List.mem_of_getElem? (i := 1150) (by decide +kernel)) rfl
theorem lkl_101 : z_LV "DearLettersLaw" 101 11 mX11_see 0 := ⟨⟨w_1148, w_154, w_1151, ⟨by decide, by decide, by decide +kernel⟩, by decide⟩, by decide, w_1149, w_1150⟩
theorem w_2066 : Cond.methodLink "DearLettersLaw" 104 ⟨"DearLettersModel", "see", "()I"⟩ ∈ z_tbl := z_tbl_in (List.mem_of_getElem? (i := 2066) (by decide +kernel)) rfl
theorem w_2069 : Cond.code ⟨"DearLettersModel", "see", "()I"⟩ prog_14_method_90_code 4 (Option.some FieldType.int) ∈ z_tbl := z_tbl_in (List.mem_of_getElem? (i := 2069) (by decide +kernel)) rfl
theorem w_2067 : Cond.instanceMethod ⟨"DearLettersModel", "see", "()I"⟩ ∈ z_tbl := z_tbl_in (List.mem_of_getElem? (i := 2067) (by decide +kernel)) rfl
theorem w_2068 : Cond.selects "DearLettersModel" ⟨"DearLettersModel", "see", "()I"⟩ ⟨"DearLettersModel", "see", "()I"⟩ ∈ z_tbl := z_tbl_in (List.mem_of_getElem? (i := 2068) (by decide +kernel)) rfl
theorem lkl_104 : z_LV "DearLettersLaw" 104 12 mX12_see 0 := ⟨⟨w_2066, w_171, w_2069, ⟨by decide, by decide, by decide +kernel⟩, by decide⟩, by decide, w_2067, w_2068⟩
theorem w_1160 : Cond.methodLink "DearLettersLaw" 105 ⟨"DearLetters", "whose", "()I"⟩ ∈ z_tbl := z_tbl_in (List.mem_of_getElem? (i := 1160) (by decide +kernel)) rfl
theorem lkl_105 : z_LV "DearLettersLaw" 105 11 mX11_whose 0 := ⟨⟨w_1160, w_154, w_1163, ⟨by decide, by decide, by decide +kernel⟩, by decide⟩, by decide, w_1161, w_1162⟩
theorem w_2074 : Cond.methodLink "DearLettersLaw" 108 ⟨"DearLettersModel", "whose", "()I"⟩ ∈ z_tbl := z_tbl_in (List.mem_of_getElem? (i := 2074) (by decide +kernel)) rfl
theorem lkl_108 : z_LV "DearLettersLaw" 108 12 mX12_whose 0 := ⟨⟨w_2074, w_171, w_2077, ⟨by decide, by decide, by decide +kernel⟩, by decide⟩, by decide, w_2075, w_2076⟩
theorem w_1168 : Cond.methodLink "DearLettersLaw" 109 ⟨"DearLetters", "watched", "(I)I"⟩ ∈ z_tbl := z_tbl_in (List.mem_of_getElem? (i := 1168) (by decide +kernel)) rfl
theorem w_1171 : Cond.code ⟨"DearLetters", "watched", "(I)I"⟩ prog_1_method_24_code 8 (Option.some FieldType.int) ∈ z_tbl := z_tbl_in (List.mem_of_getElem? (i := 1171) (by decide +kernel)) rfl
theorem w_1169 : Cond.instanceMethod ⟨"DearLetters", "watched", "(I)I"⟩ ∈ z_tbl := z_tbl_in (List.mem_of_getElem? (i := 1169) (by decide +kernel)) rfl
theorem w_1170 : Cond.selects "DearLetters" ⟨"DearLetters", "watched", "(I)I"⟩ ⟨"DearLetters", "watched", "(I)I"⟩ ∈ z_tbl := z_tbl_in (List.mem_of_getElem? (i := 1170) (by decide +kernel)) rfl
theorem lkl_109 : z_LV "DearLettersLaw" 109 11 mX11_watched 1 := ⟨⟨w_1168, w_154, w_1171, ⟨by decide, by decide, by decide +kernel⟩, by decide⟩, by decide, w_1169, w_1170⟩
theorem w_2082 : Cond.methodLink "DearLettersLaw" 112 ⟨"DearLettersModel", "watched", "(I)I"⟩ ∈ z_tbl := z_tbl_in (List.mem_of_getElem? (i := 2082) (by decide +kernel)) rfl
theorem w_2085 : Cond.code ⟨"DearLettersModel", "watched", "(I)I"⟩ prog_14_method_94_code 7 (Option.some FieldType.int) ∈ z_tbl := z_tbl_in (List.mem_of_getElem? (i := 2085) (by decide +kernel)) rfl
theorem w_2083 : Cond.instanceMethod ⟨"DearLettersModel", "watched", "(I)I"⟩ ∈ z_tbl := z_tbl_in (List.mem_of_getElem? (i := 2083) (by decide +kernel)) rfl
theorem w_2084 : Cond.selects "DearLettersModel" ⟨"DearLettersModel", "watched", "(I)I"⟩ ⟨"DearLettersModel", "watched", "(I)I"⟩ ∈ z_tbl := z_tbl_in (List.mem_of_getElem? (i := 2084) (by decide +kernel)) rfl
theorem lkl_112 : z_LV "DearLettersLaw" 112 12 mX12_watched 1 := ⟨⟨w_2082, w_171, w_2085, ⟨by decide, by decide, by decide +kernel⟩, by decide⟩, by decide, w_2083, w_2084⟩
theorem w_1182 : Cond.methodLink "DearLettersLaw" 113 ⟨"DearLetters", "answer", "(II)I"⟩ ∈ z_tbl := z_tbl_in (List.mem_of_getElem? (i := 1182) (by decide +kernel)) rfl
theorem w_1185 : Cond.code ⟨"DearLetters", "answer", "(II)I"⟩ prog_1_method_25_code 4 (Option.some FieldType.int) ∈ z_tbl := z_tbl_in (List.mem_of_getElem? (i := 1185) (by decide +kernel)) rfl
theorem w_1183 : Cond.instanceMethod ⟨"DearLetters", "answer", "(II)I"⟩ ∈ z_tbl := z_tbl_in (List.mem_of_getElem? (i := 1183) (by decide +kernel)) rfl
theorem w_1184 : Cond.selects "DearLetters" ⟨"DearLetters", "answer", "(II)I"⟩ ⟨"DearLetters", "answer", "(II)I"⟩ ∈ z_tbl := z_tbl_in (List.mem_of_getElem? (i := 1184) (by decide +kernel)) rfl
theorem lkl_113 : z_LV "DearLettersLaw" 113 11 mX11_answer 2 := ⟨⟨w_1182, w_154, w_1185, ⟨by decide, by decide, by decide +kernel⟩, by decide⟩, by decide, w_1183, w_1184⟩
theorem w_2095 : Cond.methodLink "DearLettersLaw" 116 ⟨"DearLettersModel", "answer", "(II)I"⟩ ∈ z_tbl := z_tbl_in (List.mem_of_getElem? (i := 2095) (by decide +kernel)) rfl
theorem w_2098 : Cond.code ⟨"DearLettersModel", "answer", "(II)I"⟩ prog_14_method_97_code 4 (Option.some FieldType.int) ∈ z_tbl := z_tbl_in (List.mem_of_getElem? (i := 2098) (by decide +kernel)) rfl
theorem w_2096 : Cond.instanceMethod ⟨"DearLettersModel", "answer", "(II)I"⟩ ∈ z_tbl := z_tbl_in (List.mem_of_getElem? (i := 2096) (by decide +kernel)) rfl
theorem w_2097 : Cond.selects "DearLettersModel" ⟨"DearLettersModel", "answer", "(II)I"⟩ ⟨"DearLettersModel", "answer", "(II)I"⟩ ∈ z_tbl := z_tbl_in (List.mem_of_getElem? (i := 2097) (by decide +kernel)) rfl
theorem lkl_116 : z_LV "DearLettersLaw" 116 12 mX12_answer 2 := ⟨⟨w_2095, w_171, w_2098, ⟨by decide, by decide, by decide +kernel⟩, by decide⟩, by decide, w_2096, w_2097⟩
theorem w_1190 : Cond.methodLink "DearLettersLaw" 117 ⟨"DearLetters", "sheet", "(II)Z"⟩ ∈ z_tbl := z_tbl_in (List.mem_of_getElem? (i := 1190) (by decide +kernel)) rfl
theorem w_1193 : Cond.code ⟨"DearLetters", "sheet", "(II)Z"⟩ prog_1_method_26_code 3 (Option.some FieldType.boolean) ∈ z_tbl := z_tbl_in (List.mem_of_getElem? (i := 1193) (by decide +kernel)) rfl
theorem w_1191 : Cond.instanceMethod ⟨"DearLetters", "sheet", "(II)Z"⟩ ∈ z_tbl := z_tbl_in (List.mem_of_getElem? (i := 1191) (by decide +kernel)) rfl
theorem w_1192 : Cond.selects "DearLetters" ⟨"DearLetters", "sheet", "(II)Z"⟩ ⟨"DearLetters", "sheet", "(II)Z"⟩ ∈ z_tbl := z_tbl_in (List.mem_of_getElem? (i := 1192) (by decide +kernel)) rfl
theorem lkl_117 : z_LV "DearLettersLaw" 117 11 mX11_sheet 2 := ⟨⟨w_1190, w_154, w_1193, ⟨by decide, by decide, by decide +kernel⟩, by decide⟩, by decide, w_1191, w_1192⟩
theorem w_2103 : Cond.methodLink "DearLettersLaw" 121 ⟨"DearLettersModel", "sheet", "(II)Z"⟩ ∈ z_tbl := z_tbl_in (List.mem_of_getElem? (i := 2103) (by decide +kernel)) rfl
theorem w_2106 : Cond.code ⟨"DearLettersModel", "sheet", "(II)Z"⟩ prog_14_method_99_code 3 (Option.some FieldType.boolean) ∈ z_tbl := z_tbl_in (List.mem_of_getElem? (i := 2106) (by decide +kernel)) rfl
theorem w_2104 : Cond.instanceMethod ⟨"DearLettersModel", "sheet", "(II)Z"⟩ ∈ z_tbl := z_tbl_in (List.mem_of_getElem? (i := 2104) (by decide +kernel)) rfl
theorem w_2105 : Cond.selects "DearLettersModel" ⟨"DearLettersModel", "sheet", "(II)Z"⟩ ⟨"DearLettersModel", "sheet", "(II)Z"⟩ ∈ z_tbl := z_tbl_in (List.mem_of_getElem? (i := 2105) (by decide +kernel)) rfl
theorem lkl_121 : z_LV "DearLettersLaw" 121 12 mX12_sheet 2 := ⟨⟨w_2103, w_171, w_2106, ⟨by decide, by decide, by decide +kernel⟩, by decide⟩, by decide, w_2104, w_2105⟩
theorem w_1199 : Cond.methodLink "DearLettersLaw" 122 ⟨"DearLetters", "give", "(II)I"⟩ ∈ z_tbl := z_tbl_in (List.mem_of_getElem? (i := 1199) (by decide +kernel)) rfl
theorem w_1202 : Cond.code ⟨"DearLetters", "give", "(II)I"⟩ prog_1_method_27_code 3 (Option.some FieldType.int) ∈ z_tbl := z_tbl_in (List.mem_of_getElem? (i := 1202) (by decide +kernel)) rfl
theorem w_1200 : Cond.instanceMethod ⟨"DearLetters", "give", "(II)I"⟩ ∈ z_tbl := z_tbl_in (List.mem_of_getElem? (i := 1200) (by decide +kernel)) rfl
theorem w_1201 : Cond.selects "DearLetters" ⟨"DearLetters", "give", "(II)I"⟩ ⟨"DearLetters", "give", "(II)I"⟩ ∈ z_tbl := z_tbl_in (List.mem_of_getElem? (i := 1201) (by decide +kernel)) rfl
theorem lkl_122 : z_LV "DearLettersLaw" 122 11 mX11_give 2 := ⟨⟨w_1199, w_154, w_1202, ⟨by decide, by decide, by decide +kernel⟩, by decide⟩, by decide, w_1200, w_1201⟩
theorem w_2112 : Cond.methodLink "DearLettersLaw" 125 ⟨"DearLettersModel", "give", "(II)I"⟩ ∈ z_tbl := z_tbl_in (List.mem_of_getElem? (i := 2112) (by decide +kernel)) rfl
theorem w_2115 : Cond.code ⟨"DearLettersModel", "give", "(II)I"⟩ prog_14_method_100_code 3 (Option.some FieldType.int) ∈ z_tbl := z_tbl_in (List.mem_of_getElem? (i := 2115) (by decide +kernel)) rfl
theorem w_2113 : Cond.instanceMethod ⟨"DearLettersModel", "give", "(II)I"⟩ ∈ z_tbl := z_tbl_in (List.mem_of_getElem? (i := 2113) (by decide +kernel)) rfl
theorem w_2114 : Cond.selects "DearLettersModel" ⟨"DearLettersModel", "give", "(II)I"⟩ ⟨"DearLettersModel", "give", "(II)I"⟩ ∈ z_tbl := z_tbl_in (List.mem_of_getElem? (i := 2114) (by decide +kernel)) rfl
theorem lkl_125 : z_LV "DearLettersLaw" 125 12 mX12_give 2 := ⟨⟨w_2112, w_171, w_2115, ⟨by decide, by decide, by decide +kernel⟩, by decide⟩, by decide, w_2113, w_2114⟩
theorem w_1203 : Cond.methodLink "DearLettersLaw" 126 ⟨"DearLetters", "evenings", "(I)I"⟩ ∈ z_tbl := z_tbl_in (List.mem_of_getElem? (i := 1203) (by decide +kernel)) rfl
theorem w_1206 : Cond.code ⟨"DearLetters", "evenings", "(I)I"⟩ prog_1_method_28_code 4 (Option.some FieldType.int) ∈ z_tbl := z_tbl_in (List.mem_of_getElem? (i := 1206) (by decide +kernel)) rfl
theorem w_1204 : Cond.instanceMethod ⟨"DearLetters", "evenings", "(I)I"⟩ ∈ z_tbl := z_tbl_in (List.mem_of_getElem? (i := 1204) (by decide +kernel)) rfl
theorem w_1205 : Cond.selects "DearLetters" ⟨"DearLetters", "evenings", "(I)I"⟩ ⟨"DearLetters", "evenings", "(I)I"⟩ ∈ z_tbl := z_tbl_in (List.mem_of_getElem? (i := 1205) (by decide +kernel)) rfl
theorem lkl_126 : z_LV "DearLettersLaw" 126 11 mX11_evenings 1 := ⟨⟨w_1203, w_154, w_1206, ⟨by decide, by decide, by decide +kernel⟩, by decide⟩, by decide, w_1204, w_1205⟩
theorem w_2116 : Cond.methodLink "DearLettersLaw" 129 ⟨"DearLettersModel", "evenings", "(I)I"⟩ ∈ z_tbl := z_tbl_in (List.mem_of_getElem? (i := 2116) (by decide +kernel)) rfl
theorem w_2119 : Cond.code ⟨"DearLettersModel", "evenings", "(I)I"⟩ prog_14_method_101_code 4 (Option.some FieldType.int) ∈ z_tbl := z_tbl_in (List.mem_of_getElem? (i := 2119) (by decide +kernel)) rfl
theorem w_2117 : Cond.instanceMethod ⟨"DearLettersModel", "evenings", "(I)I"⟩ ∈ z_tbl := z_tbl_in (List.mem_of_getElem? (i := 2117) (by decide +kernel)) rfl
theorem w_2118 : Cond.selects "DearLettersModel" ⟨"DearLettersModel", "evenings", "(I)I"⟩ ⟨"DearLettersModel", "evenings", "(I)I"⟩ ∈ z_tbl := z_tbl_in (List.mem_of_getElem? (i := 2118) (by decide +kernel)) rfl
theorem lkl_129 : z_LV "DearLettersLaw" 129 12 mX12_evenings 1 := ⟨⟨w_2116, w_171, w_2119, ⟨by decide, by decide, by decide +kernel⟩, by decide⟩, by decide, w_2117, w_2118⟩
theorem w_1211 : Cond.methodLink "DearLettersLaw" 130 ⟨"DearLetters", "chance", "(I)I"⟩ ∈ z_tbl := z_tbl_in (List.mem_of_getElem? (i := 1211) (by decide +kernel)) rfl
theorem w_1214 : Cond.code ⟨"DearLetters", "chance", "(I)I"⟩ prog_1_method_29_code 4 (Option.some FieldType.int) ∈ z_tbl := z_tbl_in (List.mem_of_getElem? (i := 1214) (by decide +kernel)) rfl
theorem w_1212 : Cond.instanceMethod ⟨"DearLetters", "chance", "(I)I"⟩ ∈ z_tbl := z_tbl_in (List.mem_of_getElem? (i := 1212) (by decide +kernel)) rfl
theorem w_1213 : Cond.selects "DearLetters" ⟨"DearLetters", "chance", "(I)I"⟩ ⟨"DearLetters", "chance", "(I)I"⟩ ∈ z_tbl := z_tbl_in (List.mem_of_getElem? (i := 1213) (by decide +kernel)) rfl
theorem lkl_130 : z_LV "DearLettersLaw" 130 11 mX11_chance 1 := ⟨⟨w_1211, w_154, w_1214, ⟨by decide, by decide, by decide +kernel⟩, by decide⟩, by decide, w_1212, w_1213⟩
theorem w_2124 : Cond.methodLink "DearLettersLaw" 133 ⟨"DearLettersModel", "chance", "(I)I"⟩ ∈ z_tbl := z_tbl_in (List.mem_of_getElem? (i := 2124) (by decide +kernel)) rfl
theorem w_2127 : Cond.code ⟨"DearLettersModel", "chance", "(I)I"⟩ prog_14_method_104_code 5 (Option.some FieldType.int) ∈ z_tbl := z_tbl_in (List.mem_of_getElem? (i := 2127) (by decide +kernel)) rfl
theorem w_2125 : Cond.instanceMethod ⟨"DearLettersModel", "chance", "(I)I"⟩ ∈ z_tbl := z_tbl_in (List.mem_of_getElem? (i := 2125) (by decide +kernel)) rfl
theorem w_2126 : Cond.selects "DearLettersModel" ⟨"DearLettersModel", "chance", "(I)I"⟩ ⟨"DearLettersModel", "chance", "(I)I"⟩ ∈ z_tbl := z_tbl_in (List.mem_of_getElem? (i := 2126) (by decide +kernel)) rfl
theorem lkl_133 : z_LV "DearLettersLaw" 133 12 mX12_chance 1 := ⟨⟨w_2124, w_171, w_2127, ⟨by decide, by decide, by decide +kernel⟩, by decide⟩, by decide, w_2125, w_2126⟩
theorem w_1226 : Cond.methodLink "DearLettersLaw" 134 ⟨"DearLetters", "undo", "()Z"⟩ ∈ z_tbl := z_tbl_in (List.mem_of_getElem? (i := 1226) (by decide +kernel)) rfl
theorem w_1229 : Cond.code ⟨"DearLetters", "undo", "()Z"⟩ prog_1_method_30_code 1 (Option.some FieldType.boolean) ∈ z_tbl := z_tbl_in (List.mem_of_getElem? (i := 1229) (by decide +kernel)) rfl
theorem w_1227 : Cond.instanceMethod ⟨"DearLetters", "undo", "()Z"⟩ ∈ z_tbl := z_tbl_in (List.mem_of_getElem? (i := 1227) (by decide +kernel)) rfl
theorem w_1228 : Cond.selects "DearLetters" ⟨"DearLetters", "undo", "()Z"⟩ ⟨"DearLetters", "undo", "()Z"⟩ ∈ z_tbl := z_tbl_in (List.mem_of_getElem? (i := 1228) (by decide +kernel)) rfl
theorem lkl_134 : z_LV "DearLettersLaw" 134 11 mX11_undo 0 := ⟨⟨w_1226, w_154, w_1229, ⟨by decide, by decide, by decide +kernel⟩, by decide⟩, by decide, w_1227, w_1228⟩
theorem w_2091 : Cond.methodLink "DearLettersLaw" 138 ⟨"DearLettersModel", "undo", "()Z"⟩ ∈ z_tbl := z_tbl_in (List.mem_of_getElem? (i := 2091) (by decide +kernel)) rfl
theorem w_2094 : Cond.code ⟨"DearLettersModel", "undo", "()Z"⟩ prog_14_method_96_code 2 (Option.some FieldType.boolean) ∈ z_tbl := z_tbl_in (List.mem_of_getElem? (i := 2094) (by decide +kernel)) rfl
theorem w_2092 : Cond.instanceMethod ⟨"DearLettersModel", "undo", "()Z"⟩ ∈ z_tbl := z_tbl_in (List.mem_of_getElem? (i := 2092) (by decide +kernel)) rfl
theorem w_2093 : Cond.selects "DearLettersModel" ⟨"DearLettersModel", "undo", "()Z"⟩ ⟨"DearLettersModel", "undo", "()Z"⟩ ∈ z_tbl := z_tbl_in (List.mem_of_getElem? (i := 2093) (by decide +kernel)) rfl
theorem lkl_138 : z_LV "DearLettersLaw" 138 12 mX12_undo 0 := ⟨⟨w_2091, w_171, w_2094, ⟨by decide, by decide, by decide +kernel⟩, by decide⟩, by decide, w_2092, w_2093⟩
theorem w_1230 : Cond.methodLink "DearLettersLaw" 139 ⟨"DearLetters", "seed", "(I)Z"⟩ ∈ z_tbl := z_tbl_in (List.mem_of_getElem? (i := 1230) (by decide +kernel)) rfl
theorem w_1233 : Cond.code ⟨"DearLetters", "seed", "(I)Z"⟩ prog_1_method_31_code 2 (Option.some FieldType.boolean) ∈ z_tbl := z_tbl_in (List.mem_of_getElem? (i := 1233) (by decide +kernel)) rfl
theorem w_1231 : Cond.instanceMethod ⟨"DearLetters", "seed", "(I)Z"⟩ ∈ z_tbl := z_tbl_in (List.mem_of_getElem? (i := 1231) (by decide +kernel)) rfl
theorem w_1232 : Cond.selects "DearLetters" ⟨"DearLetters", "seed", "(I)Z"⟩ ⟨"DearLetters", "seed", "(I)Z"⟩ ∈ z_tbl := z_tbl_in (List.mem_of_getElem? (i := 1232) (by decide +kernel)) rfl
theorem lkl_139 : z_LV "DearLettersLaw" 139 11 mX11_seed 1 := ⟨⟨w_1230, w_154, w_1233, ⟨by decide, by decide, by decide +kernel⟩, by decide⟩, by decide, w_1231, w_1232⟩
theorem w_2120 : Cond.methodLink "DearLettersLaw" 142 ⟨"DearLettersModel", "seed", "(I)Z"⟩ ∈ z_tbl := z_tbl_in (List.mem_of_getElem? (i := 2120) (by decide +kernel)) rfl
theorem w_2123 : Cond.code ⟨"DearLettersModel", "seed", "(I)Z"⟩ prog_14_method_102_code 2 (Option.some FieldType.boolean) ∈ z_tbl := z_tbl_in (List.mem_of_getElem? (i := 2123) (by decide +kernel)) rfl
theorem w_2121 : Cond.instanceMethod ⟨"DearLettersModel", "seed", "(I)Z"⟩ ∈ z_tbl := z_tbl_in (List.mem_of_getElem? (i := 2121) (by decide +kernel)) rfl
theorem w_2122 : Cond.selects "DearLettersModel" ⟨"DearLettersModel", "seed", "(I)Z"⟩ ⟨"DearLettersModel", "seed", "(I)Z"⟩ ∈ z_tbl := z_tbl_in (List.mem_of_getElem? (i := 2122) (by decide +kernel)) rfl
theorem lkl_142 : z_LV "DearLettersLaw" 142 12 mX12_seed 1 := ⟨⟨w_2120, w_171, w_2123, ⟨by decide, by decide, by decide +kernel⟩, by decide⟩, by decide, w_2121, w_2122⟩
theorem w_1234 : Cond.methodLink "DearLettersLaw" 143 ⟨"DearLetters", "ask", "()J"⟩ ∈ z_tbl := z_tbl_in (List.mem_of_getElem? (i := 1234) (by decide +kernel)) rfl
theorem w_1237 : Cond.code ⟨"DearLetters", "ask", "()J"⟩ prog_1_method_32_code 2 (Option.some FieldType.long) ∈ z_tbl := z_tbl_in (List.mem_of_getElem? (i := 1237) (by decide +kernel)) rfl
theorem w_1235 : Cond.instanceMethod ⟨"DearLetters", "ask", "()J"⟩ ∈ z_tbl := z_tbl_in (List.mem_of_getElem? (i := 1235) (by decide +kernel)) rfl
theorem w_1236 : Cond.selects "DearLetters" ⟨"DearLetters", "ask", "()J"⟩ ⟨"DearLetters", "ask", "()J"⟩ ∈ z_tbl := z_tbl_in (List.mem_of_getElem? (i := 1236) (by decide +kernel)) rfl
theorem lkl_143 : z_LV "DearLettersLaw" 143 11 mX11_ask 0 := ⟨⟨w_1234, w_154, w_1237, ⟨by decide, by decide, by decide +kernel⟩, by decide⟩, by decide, w_1235, w_1236⟩
theorem w_2136 : Cond.methodLink "DearLettersLaw" 146 ⟨"DearLettersModel", "ask", "()J"⟩ ∈ z_tbl := z_tbl_in (List.mem_of_getElem? (i := 2136) (by decide +kernel)) rfl
theorem w_2139 : Cond.code ⟨"DearLettersModel", "ask", "()J"⟩ prog_14_method_133_code 3 (Option.some FieldType.long) ∈ z_tbl := z_tbl_in (List.mem_of_getElem? (i := 2139) (by decide +kernel)) rfl
theorem w_2137 : Cond.instanceMethod ⟨"DearLettersModel", "ask", "()J"⟩ ∈ z_tbl := z_tbl_in (List.mem_of_getElem? (i := 2137) (by decide +kernel)) rfl
theorem w_2138 : Cond.selects "DearLettersModel" ⟨"DearLettersModel", "ask", "()J"⟩ ⟨"DearLettersModel", "ask", "()J"⟩ ∈ z_tbl := z_tbl_in (List.mem_of_getElem? (i := 2138) (by decide +kernel)) rfl
theorem lkl_146 : z_LV "DearLettersLaw" 146 12 mX12_ask 0 := ⟨⟨w_2136, w_171, w_2139, ⟨by decide, by decide, by decide +kernel⟩, by decide⟩, by decide, w_2137, w_2138⟩
theorem w_1282 : Cond.methodLink "DearLettersLaw" 147 ⟨"DearLetters", "image", "()I"⟩ ∈ z_tbl := z_tbl_in (List.mem_of_getElem? (i := 1282) (by decide +kernel)) rfl
theorem w_1285 : Cond.code ⟨"DearLetters", "image", "()I"⟩ prog_1_method_33_code 3 (Option.some FieldType.int) ∈ z_tbl := z_tbl_in (List.mem_of_getElem? (i := 1285) (by decide +kernel)) rfl
theorem w_1283 : Cond.instanceMethod ⟨"DearLetters", "image", "()I"⟩ ∈ z_tbl := z_tbl_in (List.mem_of_getElem? (i := 1283) (by decide +kernel)) rfl
theorem w_1284 : Cond.selects "DearLetters" ⟨"DearLetters", "image", "()I"⟩ ⟨"DearLetters", "image", "()I"⟩ ∈ z_tbl := z_tbl_in (List.mem_of_getElem? (i := 1284) (by decide +kernel)) rfl
theorem lkl_147 : z_LV "DearLettersLaw" 147 11 mX11_image 0 := ⟨⟨w_1282, w_154, w_1285, ⟨by decide, by decide, by decide +kernel⟩, by decide⟩, by decide, w_1283, w_1284⟩
theorem w_2177 : Cond.methodLink "DearLettersLaw" 150 ⟨"DearLettersModel", "image", "()I"⟩ ∈ z_tbl := z_tbl_in (List.mem_of_getElem? (i := 2177) (by decide +kernel)) rfl
theorem w_2180 : Cond.code ⟨"DearLettersModel", "image", "()I"⟩ prog_14_method_136_code 2 (Option.some FieldType.int) ∈ z_tbl := z_tbl_in (List.mem_of_getElem? (i := 2180) (by decide +kernel)) rfl
theorem w_2178 : Cond.instanceMethod ⟨"DearLettersModel", "image", "()I"⟩ ∈ z_tbl := z_tbl_in (List.mem_of_getElem? (i := 2178) (by decide +kernel)) rfl
theorem w_2179 : Cond.selects "DearLettersModel" ⟨"DearLettersModel", "image", "()I"⟩ ⟨"DearLettersModel", "image", "()I"⟩ ∈ z_tbl := z_tbl_in (List.mem_of_getElem? (i := 2179) (by decide +kernel)) rfl
theorem lkl_150 : z_LV "DearLettersLaw" 150 12 mX12_image 0 := ⟨⟨w_2177, w_171, w_2180, ⟨by decide, by decide, by decide +kernel⟩, by decide⟩, by decide, w_2178, w_2179⟩
theorem w_1289 : Cond.methodLink "DearLettersLaw" 151 ⟨"DearLetters", "octet", "(I)I"⟩ ∈ z_tbl := z_tbl_in (List.mem_of_getElem? (i := 1289) (by decide +kernel)) rfl
theorem w_1292 : Cond.code ⟨"DearLetters", "octet", "(I)I"⟩ prog_1_method_34_code 2 (Option.some FieldType.int) ∈ z_tbl := z_tbl_in (List.mem_of_getElem? (i := 1292) (by decide +kernel)) rfl
theorem w_1290 : Cond.instanceMethod ⟨"DearLetters", "octet", "(I)I"⟩ ∈ z_tbl := z_tbl_in (List.mem_of_getElem? (i := 1290) (by decide +kernel)) rfl
theorem w_1291 : Cond.selects "DearLetters" ⟨"DearLetters", "octet", "(I)I"⟩ ⟨"DearLetters", "octet", "(I)I"⟩ ∈ z_tbl := z_tbl_in (List.mem_of_getElem? (i := 1291) (by decide +kernel)) rfl
theorem lkl_151 : z_LV "DearLettersLaw" 151 11 mX11_octet 1 := ⟨⟨w_1289, w_154, w_1292, ⟨by decide, by decide, by decide +kernel⟩, by decide⟩, by decide, w_1290, w_1291⟩
theorem w_2188 : Cond.methodLink "DearLettersLaw" 154 ⟨"DearLettersModel", "octet", "(I)I"⟩ ∈ z_tbl := z_tbl_in (List.mem_of_getElem? (i := 2188) (by decide +kernel)) rfl
theorem w_2191 : Cond.code ⟨"DearLettersModel", "octet", "(I)I"⟩ prog_14_method_137_code 2 (Option.some FieldType.int) ∈ z_tbl := z_tbl_in (List.mem_of_getElem? (i := 2191) (by decide +kernel)) rfl
theorem w_2189 : Cond.instanceMethod ⟨"DearLettersModel", "octet", "(I)I"⟩ ∈ z_tbl := z_tbl_in (List.mem_of_getElem? (i := 2189) (by decide +kernel)) rfl
theorem w_2190 : Cond.selects "DearLettersModel" ⟨"DearLettersModel", "octet", "(I)I"⟩ ⟨"DearLettersModel", "octet", "(I)I"⟩ ∈ z_tbl := z_tbl_in (List.mem_of_getElem? (i := 2190) (by decide +kernel)) rfl
theorem lkl_154 : z_LV "DearLettersLaw" 154 12 mX12_octet 1 := ⟨⟨w_2188, w_171, w_2191, ⟨by decide, by decide, by decide +kernel⟩, by decide⟩, by decide, w_2189, w_2190⟩
theorem w_1293 : Cond.methodLink "DearLettersLaw" 155 ⟨"DearLetters", "on", "()Z"⟩ ∈ z_tbl := z_tbl_in (List.mem_of_getElem? (i := 1293) (by decide +kernel)) rfl
theorem w_1296 : Cond.code ⟨"DearLetters", "on", "()Z"⟩ prog_1_method_35_code 3 (Option.some FieldType.boolean) ∈ z_tbl := z_tbl_in (List.mem_of_getElem? (i := 1296) (by decide +kernel)) rfl
theorem w_1294 : Cond.instanceMethod ⟨"DearLetters", "on", "()Z"⟩ ∈ z_tbl := z_tbl_in (List.mem_of_getElem? (i := 1294) (by decide +kernel)) rfl
theorem w_1295 : Cond.selects "DearLetters" ⟨"DearLetters", "on", "()Z"⟩ ⟨"DearLetters", "on", "()Z"⟩ ∈ z_tbl := z_tbl_in (List.mem_of_getElem? (i := 1295) (by decide +kernel)) rfl
theorem lkl_155 : z_LV "DearLettersLaw" 155 11 mX11_on 0 := ⟨⟨w_1293, w_154, w_1296, ⟨by decide, by decide, by decide +kernel⟩, by decide⟩, by decide, w_1294, w_1295⟩
theorem w_2192 : Cond.methodLink "DearLettersLaw" 158 ⟨"DearLettersModel", "on", "()Z"⟩ ∈ z_tbl := z_tbl_in (List.mem_of_getElem? (i := 2192) (by decide +kernel)) rfl
theorem w_2195 : Cond.code ⟨"DearLettersModel", "on", "()Z"⟩ prog_14_method_140_code 4 (Option.some FieldType.boolean) ∈ z_tbl := z_tbl_in (List.mem_of_getElem? (i := 2195) (by decide +kernel)) rfl
theorem w_2193 : Cond.instanceMethod ⟨"DearLettersModel", "on", "()Z"⟩ ∈ z_tbl := z_tbl_in (List.mem_of_getElem? (i := 2193) (by decide +kernel)) rfl
theorem w_2194 : Cond.selects "DearLettersModel" ⟨"DearLettersModel", "on", "()Z"⟩ ⟨"DearLettersModel", "on", "()Z"⟩ ∈ z_tbl := z_tbl_in (List.mem_of_getElem? (i := 2194) (by decide +kernel)) rfl
theorem lkl_158 : z_LV "DearLettersLaw" 158 12 mX12_on 0 := ⟨⟨w_2192, w_171, w_2195, ⟨by decide, by decide, by decide +kernel⟩, by decide⟩, by decide, w_2193, w_2194⟩
theorem w_1310 : Cond.methodLink "DearLettersLaw" 159 ⟨"DearLetters", "status", "(I)I"⟩ ∈ z_tbl := z_tbl_in (List.mem_of_getElem? (i := 1310) (by decide +kernel)) rfl
theorem w_1313 : Cond.code ⟨"DearLetters", "status", "(I)I"⟩ prog_1_method_36_code 2 (Option.some FieldType.int) ∈ z_tbl := z_tbl_in (List.mem_of_getElem? (i := 1313) (by decide +kernel)) rfl
theorem w_1311 : Cond.instanceMethod ⟨"DearLetters", "status", "(I)I"⟩ ∈ z_tbl := z_tbl_in (List.mem_of_getElem? (i := 1311) (by decide +kernel)) rfl
theorem w_1312 : Cond.selects "DearLetters" ⟨"DearLetters", "status", "(I)I"⟩ ⟨"DearLetters", "status", "(I)I"⟩ ∈ z_tbl := z_tbl_in (List.mem_of_getElem? (i := 1312) (by decide +kernel)) rfl
theorem lkl_159 : z_LV "DearLettersLaw" 159 11 mX11_status 1 := ⟨⟨w_1310, w_154, w_1313, ⟨by decide, by decide, by decide +kernel⟩, by decide⟩, by decide, w_1311, w_1312⟩
theorem w_2204 : Cond.methodLink "DearLettersLaw" 162 ⟨"DearLettersModel", "status", "(I)I"⟩ ∈ z_tbl := z_tbl_in (List.mem_of_getElem? (i := 2204) (by decide +kernel)) rfl
theorem w_2207 : Cond.code ⟨"DearLettersModel", "status", "(I)I"⟩ prog_14_method_141_code 2 (Option.some FieldType.int) ∈ z_tbl := z_tbl_in (List.mem_of_getElem? (i := 2207) (by decide +kernel)) rfl
theorem w_2205 : Cond.instanceMethod ⟨"DearLettersModel", "status", "(I)I"⟩ ∈ z_tbl := z_tbl_in (List.mem_of_getElem? (i := 2205) (by decide +kernel)) rfl
theorem w_2206 : Cond.selects "DearLettersModel" ⟨"DearLettersModel", "status", "(I)I"⟩ ⟨"DearLettersModel", "status", "(I)I"⟩ ∈ z_tbl := z_tbl_in (List.mem_of_getElem? (i := 2206) (by decide +kernel)) rfl
theorem lkl_162 : z_LV "DearLettersLaw" 162 12 mX12_status 1 := ⟨⟨w_2204, w_171, w_2207, ⟨by decide, by decide, by decide +kernel⟩, by decide⟩, by decide, w_2205, w_2206⟩
theorem w_174 : Cond.classLink "DearLettersLaw" 7 "DearLetters" ∈ z_tbl := z_tbl_in (List.mem_of_getElem? (i := 174) (by decide +kernel)) rfl
theorem w_175 : Cond.instantiable "DearLetters" 20 ∈ z_tbl := z_tbl_in (List.mem_of_getElem? (i := 175) (by decide +kernel)) rfl
theorem lnl_7 : z_LN "DearLettersLaw" 7 11 := ⟨by decide, w_174, w_175, w_154⟩
theorem w_1314 : Cond.classLink "DearLettersLaw" 10 "DearLettersModel" ∈ z_tbl := z_tbl_in (List.mem_of_getElem? (i := 1314) (by decide +kernel)) rfl
theorem w_1315 : Cond.instantiable "DearLettersModel" 106 ∈ z_tbl := z_tbl_in (List.mem_of_getElem? (i := 1315) (by decide +kernel)) rfl
theorem lnl_10 : z_LN "DearLettersLaw" 10 12 := ⟨by decide, w_1314, w_1315, w_171⟩
theorem w_176 : Cond.methodLink "DearLettersLaw" 9 ⟨"DearLetters", "<init>", "()V"⟩ ∈ z_tbl := z_tbl_in (List.mem_of_getElem? (i := 176) (by decide +kernel)) rfl
theorem w_178 : Cond.code ⟨"DearLetters", "<init>", "()V"⟩ prog_1_method_1_code 3 none ∈ z_tbl := z_tbl_in (List.mem_of_getElem? (i := 178) (by decide +kernel)) rfl
theorem w_177 : Cond.instanceMethod ⟨"DearLetters", "<init>", "()V"⟩ ∈ z_tbl := z_tbl_in (List.mem_of_getElem? (i := 177) (by decide +kernel)) rfl
theorem lil_9 : z_LI "DearLettersLaw" 9 mX11_init 0 := ⟨⟨w_176, w_154, w_178, ⟨by decide, by decide, by decide +kernel⟩, by decide⟩, rfl, rfl, w_177⟩
theorem w_1316 : Cond.methodLink "DearLettersLaw" 12 ⟨"DearLettersModel", "<init>", "()V"⟩ ∈ z_tbl := z_tbl_in (List.mem_of_getElem? (i := 1316) (by decide +kernel)) rfl
theorem w_1318 : Cond.code ⟨"DearLettersModel", "<init>", "()V"⟩ prog_14_method_1_code 1 none ∈ z_tbl := z_tbl_in (List.mem_of_getElem? (i := 1318) (by decide +kernel)) rfl
theorem w_1317 : Cond.instanceMethod ⟨"DearLettersModel", "<init>", "()V"⟩ ∈ z_tbl := z_tbl_in (List.mem_of_getElem? (i := 1317) (by decide +kernel)) rfl
theorem lil_12 : z_LI "DearLettersLaw" 12 mX12_init 0 := ⟨⟨w_1316, w_171, w_1318, ⟨by decide, by decide, by decide +kernel⟩, by decide⟩, rfl, rfl, w_1317⟩
