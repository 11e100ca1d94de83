/-! the law: its instructions, 1 -/
theorem dlaw_16 : decode code 16 = .ok (.iconst 0, 1) := by decide +kernel
theorem dlaw_17 : decode code 17 = .ok (.istore_n 3, 1) := by decide +kernel
theorem dlaw_18 : decode code 18 = .ok (.iload_n 3, 1) := by decide +kernel
theorem dlaw_19 : decode code 19 = .ok (.aload_n 0, 1) := by decide +kernel
theorem dlaw_20 : decode code 20 = .ok (.arraylength, 1) := by decide +kernel
theorem dlaw_21 : decode code 21 = .ok (.bipush 6, 2) := by decide +kernel
theorem dlaw_23 : decode code 23 = .ok (.isub, 1) := by decide +kernel
theorem dlaw_24 : decode code 24 = .ok (.if_icmp .gt 1302, 3) := by decide +kernel
theorem dlaw_27 : decode code 27 = .ok (.aload_n 0, 1) := by decide +kernel
theorem dlaw_28 : decode code 28 = .ok (.iload_n 3, 1) := by decide +kernel
theorem dlaw_29 : decode code 29 = .ok (.iaload, 1) := by decide +kernel
theorem dlaw_30 : decode code 30 = .ok (.bipush 63, 2) := by decide +kernel
theorem dlaw_32 : decode code 32 = .ok (.iand, 1) := by decide +kernel
theorem dlaw_33 : decode code 33 = .ok (.tableswitch 1287 0 35 #[159, 192, 215, 248, 281, 344, 377, 410, 433, 466, 509, 542, 585, 608, 641, 684, 727, 770, 793, 816, 859, 892, 935, 948, 971, 994, 1007, 1030, 1063, 1086, 1099, 1112, 1125, 1158, 1201, 1264], 159) := by decide +kernel
theorem dlaw_192 : decode code 192 = .ok (.aload_n 1, 1) := by decide +kernel
theorem dlaw_193 : decode code 193 = .ok (.aload_n 0, 1) := by decide +kernel
theorem dlaw_194 : decode code 194 = .ok (.iload_n 3, 1) := by decide +kernel
theorem dlaw_195 : decode code 195 = .ok (.iconst 1, 1) := by decide +kernel
theorem dlaw_196 : decode code 196 = .ok (.iadd, 1) := by decide +kernel
theorem dlaw_197 : decode code 197 = .ok (.iaload, 1) := by decide +kernel
theorem dlaw_198 : decode code 198 = .ok (.aload_n 0, 1) := by decide +kernel
theorem dlaw_199 : decode code 199 = .ok (.iload_n 3, 1) := by decide +kernel
theorem dlaw_200 : decode code 200 = .ok (.iconst 2, 1) := by decide +kernel
theorem dlaw_201 : decode code 201 = .ok (.iadd, 1) := by decide +kernel
theorem dlaw_202 : decode code 202 = .ok (.iaload, 1) := by decide +kernel
theorem dlaw_203 : decode code 203 = .ok (.invokevirtual 13, 3) := by decide +kernel
theorem dlaw_206 : decode code 206 = .ok (.aload_n 2, 1) := by decide +kernel
theorem dlaw_207 : decode code 207 = .ok (.aload_n 0, 1) := by decide +kernel
theorem dlaw_208 : decode code 208 = .ok (.iload_n 3, 1) := by decide +kernel
theorem dlaw_209 : decode code 209 = .ok (.iconst 1, 1) := by decide +kernel
theorem dlaw_210 : decode code 210 = .ok (.iadd, 1) := by decide +kernel
theorem dlaw_211 : decode code 211 = .ok (.iaload, 1) := by decide +kernel
theorem dlaw_212 : decode code 212 = .ok (.aload_n 0, 1) := by decide +kernel
theorem dlaw_213 : decode code 213 = .ok (.iload_n 3, 1) := by decide +kernel
theorem dlaw_214 : decode code 214 = .ok (.iconst 2, 1) := by decide +kernel
theorem dlaw_215 : decode code 215 = .ok (.iadd, 1) := by decide +kernel
theorem dlaw_216 : decode code 216 = .ok (.iaload, 1) := by decide +kernel
theorem dlaw_217 : decode code 217 = .ok (.invokevirtual 17, 3) := by decide +kernel
theorem dlaw_220 : decode code 220 = .ok (.if_icmp .eq 1100, 3) := by decide +kernel
theorem dlaw_225 : decode code 225 = .ok (.aload_n 1, 1) := by decide +kernel
theorem dlaw_226 : decode code 226 = .ok (.aload_n 0, 1) := by decide +kernel
theorem dlaw_227 : decode code 227 = .ok (.iload_n 3, 1) := by decide +kernel
theorem dlaw_228 : decode code 228 = .ok (.iconst 1, 1) := by decide +kernel
theorem dlaw_229 : decode code 229 = .ok (.iadd, 1) := by decide +kernel
theorem dlaw_230 : decode code 230 = .ok (.iaload, 1) := by decide +kernel
theorem dlaw_231 : decode code 231 = .ok (.invokevirtual 18, 3) := by decide +kernel
theorem dlaw_234 : decode code 234 = .ok (.aload_n 2, 1) := by decide +kernel
theorem dlaw_235 : decode code 235 = .ok (.aload_n 0, 1) := by decide +kernel
theorem dlaw_236 : decode code 236 = .ok (.iload_n 3, 1) := by decide +kernel
theorem dlaw_237 : decode code 237 = .ok (.iconst 1, 1) := by decide +kernel
theorem dlaw_238 : decode code 238 = .ok (.iadd, 1) := by decide +kernel
theorem dlaw_239 : decode code 239 = .ok (.iaload, 1) := by decide +kernel
theorem dlaw_240 : decode code 240 = .ok (.invokevirtual 22, 3) := by decide +kernel
theorem dlaw_243 : decode code 243 = .ok (.if_icmp .eq 1077, 3) := by decide +kernel
theorem dlaw_248 : decode code 248 = .ok (.aload_n 1, 1) := by decide +kernel
theorem dlaw_249 : decode code 249 = .ok (.aload_n 0, 1) := by decide +kernel
theorem dlaw_250 : decode code 250 = .ok (.iload_n 3, 1) := by decide +kernel
theorem dlaw_251 : decode code 251 = .ok (.iconst 1, 1) := by decide +kernel
theorem dlaw_252 : decode code 252 = .ok (.iadd, 1) := by decide +kernel
theorem dlaw_253 : decode code 253 = .ok (.iaload, 1) := by decide +kernel
theorem dlaw_254 : decode code 254 = .ok (.aload_n 0, 1) := by decide +kernel
theorem dlaw_255 : decode code 255 = .ok (.iload_n 3, 1) := by decide +kernel
theorem dlaw_256 : decode code 256 = .ok (.iconst 2, 1) := by decide +kernel
theorem dlaw_257 : decode code 257 = .ok (.iadd, 1) := by decide +kernel
theorem dlaw_258 : decode code 258 = .ok (.iaload, 1) := by decide +kernel
theorem dlaw_259 : decode code 259 = .ok (.invokevirtual 23, 3) := by decide +kernel
theorem dlaw_262 : decode code 262 = .ok (.aload_n 2, 1) := by decide +kernel
theorem dlaw_263 : decode code 263 = .ok (.aload_n 0, 1) := by decide +kernel
theorem dlaw_264 : decode code 264 = .ok (.iload_n 3, 1) := by decide +kernel
theorem dlaw_265 : decode code 265 = .ok (.iconst 1, 1) := by decide +kernel
theorem dlaw_266 : decode code 266 = .ok (.iadd, 1) := by decide +kernel
theorem dlaw_267 : decode code 267 = .ok (.iaload, 1) := by decide +kernel
theorem dlaw_268 : decode code 268 = .ok (.aload_n 0, 1) := by decide +kernel
theorem dlaw_269 : decode code 269 = .ok (.iload_n 3, 1) := by decide +kernel
theorem dlaw_270 : decode code 270 = .ok (.iconst 2, 1) := by decide +kernel
theorem dlaw_271 : decode code 271 = .ok (.iadd, 1) := by decide +kernel
theorem dlaw_272 : decode code 272 = .ok (.iaload, 1) := by decide +kernel
theorem dlaw_273 : decode code 273 = .ok (.invokevirtual 26, 3) := by decide +kernel
theorem dlaw_276 : decode code 276 = .ok (.if_icmp .eq 1044, 3) := by decide +kernel
theorem dlaw_281 : decode code 281 = .ok (.aload_n 1, 1) := by decide +kernel
theorem dlaw_282 : decode code 282 = .ok (.aload_n 0, 1) := by decide +kernel
theorem dlaw_283 : decode code 283 = .ok (.iload_n 3, 1) := by decide +kernel
theorem dlaw_284 : decode code 284 = .ok (.iconst 1, 1) := by decide +kernel
theorem dlaw_285 : decode code 285 = .ok (.iadd, 1) := by decide +kernel
theorem dlaw_286 : decode code 286 = .ok (.iaload, 1) := by decide +kernel
theorem dlaw_287 : decode code 287 = .ok (.aload_n 0, 1) := by decide +kernel
theorem dlaw_288 : decode code 288 = .ok (.iload_n 3, 1) := by decide +kernel
theorem dlaw_289 : decode code 289 = .ok (.iconst 2, 1) := by decide +kernel
theorem dlaw_290 : decode code 290 = .ok (.iadd, 1) := by decide +kernel
theorem dlaw_291 : decode code 291 = .ok (.iaload, 1) := by decide +kernel
theorem dlaw_292 : decode code 292 = .ok (.invokevirtual 27, 3) := by decide +kernel
theorem dlaw_295 : decode code 295 = .ok (.aload_n 2, 1) := by decide +kernel
theorem dlaw_296 : decode code 296 = .ok (.aload_n 0, 1) := by decide +kernel
theorem dlaw_297 : decode code 297 = .ok (.iload_n 3, 1) := by decide +kernel
theorem dlaw_298 : decode code 298 = .ok (.iconst 1, 1) := by decide +kernel
theorem dlaw_299 : decode code 299 = .ok (.iadd, 1) := by decide +kernel
theorem dlaw_300 : decode code 300 = .ok (.iaload, 1) := by decide +kernel
theorem dlaw_301 : decode code 301 = .ok (.aload_n 0, 1) := by decide +kernel
theorem dlaw_302 : decode code 302 = .ok (.iload_n 3, 1) := by decide +kernel
theorem dlaw_303 : decode code 303 = .ok (.iconst 2, 1) := by decide +kernel
theorem dlaw_304 : decode code 304 = .ok (.iadd, 1) := by decide +kernel
theorem dlaw_305 : decode code 305 = .ok (.iaload, 1) := by decide +kernel
theorem dlaw_306 : decode code 306 = .ok (.invokevirtual 30, 3) := by decide +kernel
theorem dlaw_309 : decode code 309 = .ok (.if_icmp .eq 1011, 3) := by decide +kernel
theorem dlaw_314 : decode code 314 = .ok (.aload_n 1, 1) := by decide +kernel
theorem dlaw_315 : decode code 315 = .ok (.aload_n 0, 1) := by decide +kernel
theorem dlaw_316 : decode code 316 = .ok (.iload_n 3, 1) := by decide +kernel
theorem dlaw_317 : decode code 317 = .ok (.iconst 1, 1) := by decide +kernel
theorem dlaw_318 : decode code 318 = .ok (.iadd, 1) := by decide +kernel
theorem dlaw_319 : decode code 319 = .ok (.iaload, 1) := by decide +kernel
theorem dlaw_320 : decode code 320 = .ok (.aload_n 0, 1) := by decide +kernel
theorem dlaw_321 : decode code 321 = .ok (.iload_n 3, 1) := by decide +kernel
theorem dlaw_322 : decode code 322 = .ok (.iconst 2, 1) := by decide +kernel
theorem dlaw_323 : decode code 323 = .ok (.iadd, 1) := by decide +kernel
theorem dlaw_324 : decode code 324 = .ok (.iaload, 1) := by decide +kernel
theorem dlaw_325 : decode code 325 = .ok (.aload_n 0, 1) := by decide +kernel
theorem dlaw_326 : decode code 326 = .ok (.iload_n 3, 1) := by decide +kernel
theorem dlaw_327 : decode code 327 = .ok (.iconst 3, 1) := by decide +kernel
theorem dlaw_328 : decode code 328 = .ok (.iadd, 1) := by decide +kernel
theorem dlaw_329 : decode code 329 = .ok (.iaload, 1) := by decide +kernel
theorem dlaw_330 : decode code 330 = .ok (.aload_n 0, 1) := by decide +kernel
theorem dlaw_331 : decode code 331 = .ok (.iload_n 3, 1) := by decide +kernel
theorem dlaw_332 : decode code 332 = .ok (.iconst 4, 1) := by decide +kernel
theorem dlaw_333 : decode code 333 = .ok (.iadd, 1) := by decide +kernel
theorem dlaw_334 : decode code 334 = .ok (.iaload, 1) := by decide +kernel
theorem dlaw_335 : decode code 335 = .ok (.aload_n 0, 1) := by decide +kernel
theorem dlaw_336 : decode code 336 = .ok (.iload_n 3, 1) := by decide +kernel
theorem dlaw_337 : decode code 337 = .ok (.iconst 5, 1) := by decide +kernel
theorem dlaw_338 : decode code 338 = .ok (.iadd, 1) := by decide +kernel
theorem dlaw_339 : decode code 339 = .ok (.iaload, 1) := by decide +kernel
theorem dlaw_340 : decode code 340 = .ok (.invokevirtual 31, 3) := by decide +kernel
theorem dlaw_343 : decode code 343 = .ok (.aload_n 2, 1) := by decide +kernel
theorem dlaw_344 : decode code 344 = .ok (.aload_n 0, 1) := by decide +kernel
theorem dlaw_345 : decode code 345 = .ok (.iload_n 3, 1) := by decide +kernel
theorem dlaw_346 : decode code 346 = .ok (.iconst 1, 1) := by decide +kernel
theorem dlaw_347 : decode code 347 = .ok (.iadd, 1) := by decide +kernel
theorem dlaw_348 : decode code 348 = .ok (.iaload, 1) := by decide +kernel
theorem dlaw_349 : decode code 349 = .ok (.aload_n 0, 1) := by decide +kernel
theorem dlaw_350 : decode code 350 = .ok (.iload_n 3, 1) := by decide +kernel
theorem dlaw_351 : decode code 351 = .ok (.iconst 2, 1) := by decide +kernel
theorem dlaw_352 : decode code 352 = .ok (.iadd, 1) := by decide +kernel
theorem dlaw_353 : decode code 353 = .ok (.iaload, 1) := by decide +kernel
theorem dlaw_354 : decode code 354 = .ok (.aload_n 0, 1) := by decide +kernel
theorem dlaw_355 : decode code 355 = .ok (.iload_n 3, 1) := by decide +kernel
theorem dlaw_356 : decode code 356 = .ok (.iconst 3, 1) := by decide +kernel
theorem dlaw_357 : decode code 357 = .ok (.iadd, 1) := by decide +kernel
theorem dlaw_358 : decode code 358 = .ok (.iaload, 1) := by decide +kernel
theorem dlaw_359 : decode code 359 = .ok (.aload_n 0, 1) := by decide +kernel
theorem dlaw_360 : decode code 360 = .ok (.iload_n 3, 1) := by decide +kernel
theorem dlaw_361 : decode code 361 = .ok (.iconst 4, 1) := by decide +kernel
theorem dlaw_362 : decode code 362 = .ok (.iadd, 1) := by decide +kernel
theorem dlaw_363 : decode code 363 = .ok (.iaload, 1) := by decide +kernel
theorem dlaw_364 : decode code 364 = .ok (.aload_n 0, 1) := by decide +kernel
theorem dlaw_365 : decode code 365 = .ok (.iload_n 3, 1) := by decide +kernel
theorem dlaw_366 : decode code 366 = .ok (.iconst 5, 1) := by decide +kernel
theorem dlaw_367 : decode code 367 = .ok (.iadd, 1) := by decide +kernel
theorem dlaw_368 : decode code 368 = .ok (.iaload, 1) := by decide +kernel
theorem dlaw_369 : decode code 369 = .ok (.invokevirtual 35, 3) := by decide +kernel
theorem dlaw_372 : decode code 372 = .ok (.if_icmp .eq 948, 3) := by decide +kernel
theorem dlaw_377 : decode code 377 = .ok (.aload_n 1, 1) := by decide +kernel
theorem dlaw_378 : decode code 378 = .ok (.aload_n 0, 1) := by decide +kernel
theorem dlaw_379 : decode code 379 = .ok (.iload_n 3, 1) := by decide +kernel
theorem dlaw_380 : decode code 380 = .ok (.iconst 1, 1) := by decide +kernel
theorem dlaw_381 : decode code 381 = .ok (.iadd, 1) := by decide +kernel
theorem dlaw_382 : decode code 382 = .ok (.iaload, 1) := by decide +kernel
theorem dlaw_383 : decode code 383 = .ok (.aload_n 0, 1) := by decide +kernel
theorem dlaw_384 : decode code 384 = .ok (.iload_n 3, 1) := by decide +kernel
theorem dlaw_385 : decode code 385 = .ok (.iconst 2, 1) := by decide +kernel
theorem dlaw_386 : decode code 386 = .ok (.iadd, 1) := by decide +kernel
theorem dlaw_387 : decode code 387 = .ok (.iaload, 1) := by decide +kernel
theorem dlaw_388 : decode code 388 = .ok (.invokevirtual 36, 3) := by decide +kernel
theorem dlaw_391 : decode code 391 = .ok (.aload_n 2, 1) := by decide +kernel
theorem dlaw_392 : decode code 392 = .ok (.aload_n 0, 1) := by decide +kernel
theorem dlaw_393 : decode code 393 = .ok (.iload_n 3, 1) := by decide +kernel
theorem dlaw_394 : decode code 394 = .ok (.iconst 1, 1) := by decide +kernel
theorem dlaw_395 : decode code 395 = .ok (.iadd, 1) := by decide +kernel
theorem dlaw_396 : decode code 396 = .ok (.iaload, 1) := by decide +kernel
theorem dlaw_397 : decode code 397 = .ok (.aload_n 0, 1) := by decide +kernel
theorem dlaw_398 : decode code 398 = .ok (.iload_n 3, 1) := by decide +kernel
theorem dlaw_399 : decode code 399 = .ok (.iconst 2, 1) := by decide +kernel
theorem dlaw_400 : decode code 400 = .ok (.iadd, 1) := by decide +kernel
theorem dlaw_401 : decode code 401 = .ok (.iaload, 1) := by decide +kernel
theorem dlaw_402 : decode code 402 = .ok (.invokevirtual 39, 3) := by decide +kernel
theorem dlaw_405 : decode code 405 = .ok (.if_icmp .eq 915, 3) := by decide +kernel
theorem dlaw_410 : decode code 410 = .ok (.aload_n 1, 1) := by decide +kernel
theorem dlaw_411 : decode code 411 = .ok (.aload_n 0, 1) := by decide +kernel
theorem dlaw_412 : decode code 412 = .ok (.iload_n 3, 1) := by decide +kernel
theorem dlaw_413 : decode code 413 = .ok (.iconst 1, 1) := by decide +kernel
theorem dlaw_414 : decode code 414 = .ok (.iadd, 1) := by decide +kernel
theorem dlaw_415 : decode code 415 = .ok (.iaload, 1) := by decide +kernel
theorem dlaw_416 : decode code 416 = .ok (.aload_n 0, 1) := by decide +kernel
theorem dlaw_417 : decode code 417 = .ok (.iload_n 3, 1) := by decide +kernel
theorem dlaw_418 : decode code 418 = .ok (.iconst 2, 1) := by decide +kernel
theorem dlaw_419 : decode code 419 = .ok (.iadd, 1) := by decide +kernel
theorem dlaw_420 : decode code 420 = .ok (.iaload, 1) := by decide +kernel
theorem dlaw_421 : decode code 421 = .ok (.invokevirtual 40, 3) := by decide +kernel
theorem dlaw_424 : decode code 424 = .ok (.aload_n 2, 1) := by decide +kernel
theorem dlaw_425 : decode code 425 = .ok (.aload_n 0, 1) := by decide +kernel
theorem dlaw_426 : decode code 426 = .ok (.iload_n 3, 1) := by decide +kernel
theorem dlaw_427 : decode code 427 = .ok (.iconst 1, 1) := by decide +kernel
theorem dlaw_428 : decode code 428 = .ok (.iadd, 1) := by decide +kernel
theorem dlaw_429 : decode code 429 = .ok (.iaload, 1) := by decide +kernel
theorem dlaw_430 : decode code 430 = .ok (.aload_n 0, 1) := by decide +kernel
theorem dlaw_431 : decode code 431 = .ok (.iload_n 3, 1) := by decide +kernel
theorem dlaw_432 : decode code 432 = .ok (.iconst 2, 1) := by decide +kernel
theorem dlaw_433 : decode code 433 = .ok (.iadd, 1) := by decide +kernel
theorem dlaw_434 : decode code 434 = .ok (.iaload, 1) := by decide +kernel
theorem dlaw_435 : decode code 435 = .ok (.invokevirtual 43, 3) := by decide +kernel
theorem dlaw_438 : decode code 438 = .ok (.if_icmp .eq 882, 3) := by decide +kernel
theorem dlaw_443 : decode code 443 = .ok (.aload_n 1, 1) := by decide +kernel
theorem dlaw_444 : decode code 444 = .ok (.aload_n 0, 1) := by decide +kernel
theorem dlaw_445 : decode code 445 = .ok (.iload_n 3, 1) := by decide +kernel
theorem dlaw_446 : decode code 446 = .ok (.iconst 1, 1) := by decide +kernel
theorem dlaw_447 : decode code 447 = .ok (.iadd, 1) := by decide +kernel
theorem dlaw_448 : decode code 448 = .ok (.iaload, 1) := by decide +kernel
