theorem zL_0 : zat mLaw 0 = some (.new 7, 3) := by decide +kernel
theorem zL_3 : zat mLaw 3 = some (.dup, 1) := by decide +kernel
theorem zL_4 : zat mLaw 4 = some (.invokespecial 9, 3) := by decide +kernel
theorem zL_7 : zat mLaw 7 = some (.astore_n 1, 1) := by decide +kernel
theorem zL_8 : zat mLaw 8 = some (.new 10, 3) := by decide +kernel
theorem zL_11 : zat mLaw 11 = some (.dup, 1) := by decide +kernel
theorem zL_12 : zat mLaw 12 = some (.invokespecial 12, 3) := by decide +kernel
theorem zL_15 : zat mLaw 15 = some (.astore_n 2, 1) := by decide +kernel
theorem zL_16 : zat mLaw 16 = some (.iconst 0, 1) := by decide +kernel
theorem zL_17 : zat mLaw 17 = some (.istore_n 3, 1) := by decide +kernel
theorem zL_18 : zat mLaw 18 = some (.iload_n 3, 1) := by decide +kernel
theorem zL_19 : zat mLaw 19 = some (.aload_n 0, 1) := by decide +kernel
theorem zL_20 : zat mLaw 20 = some (.arraylength, 1) := by decide +kernel
theorem zL_21 : zat mLaw 21 = some (.bipush 6, 2) := by decide +kernel
theorem zL_23 : zat mLaw 23 = some (.isub, 1) := by decide +kernel
theorem zL_24 : zat mLaw 24 = some (.if_icmp .gt 1074, 3) := by decide +kernel
theorem zL_27 : zat mLaw 27 = some (.aload_n 0, 1) := by decide +kernel
theorem zL_28 : zat mLaw 28 = some (.iload_n 3, 1) := by decide +kernel
theorem zL_29 : zat mLaw 29 = some (.iaload, 1) := by decide +kernel
theorem zL_30 : zat mLaw 30 = some (.bipush 63, 2) := by decide +kernel
theorem zL_32 : zat mLaw 32 = some (.iand, 1) := by decide +kernel
theorem zL_33 : zat mLaw 33 = some (.tableswitch 1059 0 32 #[147, 180, 203, 256, 289, 322, 345, 358, 381, 394, 427, 440, 453, 476, 489, 502, 515, 528, 551, 585, 629, 652, 665, 698, 711, 724, 767, 790, 823, 846, 889, 962, 996], 147) := by decide +kernel
theorem zL_180 : zat mLaw 180 = some (.aload_n 1, 1) := by decide +kernel
theorem zL_181 : zat mLaw 181 = some (.aload_n 0, 1) := by decide +kernel
theorem zL_182 : zat mLaw 182 = some (.iload_n 3, 1) := by decide +kernel
theorem zL_183 : zat mLaw 183 = some (.iconst 1, 1) := by decide +kernel
theorem zL_184 : zat mLaw 184 = some (.iadd, 1) := by decide +kernel
theorem zL_185 : zat mLaw 185 = some (.iaload, 1) := by decide +kernel
theorem zL_186 : zat mLaw 186 = some (.aload_n 0, 1) := by decide +kernel
theorem zL_187 : zat mLaw 187 = some (.iload_n 3, 1) := by decide +kernel
theorem zL_188 : zat mLaw 188 = some (.iconst 2, 1) := by decide +kernel
theorem zL_189 : zat mLaw 189 = some (.iadd, 1) := by decide +kernel
theorem zL_190 : zat mLaw 190 = some (.iaload, 1) := by decide +kernel
theorem zL_191 : zat mLaw 191 = some (.invokevirtual 13, 3) := by decide +kernel
theorem zL_194 : zat mLaw 194 = some (.aload_n 2, 1) := by decide +kernel
theorem zL_195 : zat mLaw 195 = some (.aload_n 0, 1) := by decide +kernel
theorem zL_196 : zat mLaw 196 = some (.iload_n 3, 1) := by decide +kernel
theorem zL_197 : zat mLaw 197 = some (.iconst 1, 1) := by decide +kernel
theorem zL_198 : zat mLaw 198 = some (.iadd, 1) := by decide +kernel
theorem zL_199 : zat mLaw 199 = some (.iaload, 1) := by decide +kernel
theorem zL_200 : zat mLaw 200 = some (.aload_n 0, 1) := by decide +kernel
theorem zL_201 : zat mLaw 201 = some (.iload_n 3, 1) := by decide +kernel
theorem zL_202 : zat mLaw 202 = some (.iconst 2, 1) := by decide +kernel
theorem zL_203 : zat mLaw 203 = some (.iadd, 1) := by decide +kernel
theorem zL_204 : zat mLaw 204 = some (.iaload, 1) := by decide +kernel
theorem zL_205 : zat mLaw 205 = some (.invokevirtual 17, 3) := by decide +kernel
theorem zL_208 : zat mLaw 208 = some (.if_icmp .eq 884, 3) := by decide +kernel
theorem zL_211 : zat mLaw 211 = some (.iconst 0, 1) := by decide +kernel
theorem zL_212 : zat mLaw 212 = some (.ireturn, 1) := by decide +kernel
theorem zL_213 : zat mLaw 213 = some (.aload_n 1, 1) := by decide +kernel
theorem zL_214 : zat mLaw 214 = some (.aload_n 0, 1) := by decide +kernel
theorem zL_215 : zat mLaw 215 = some (.iload_n 3, 1) := by decide +kernel
theorem zL_216 : zat mLaw 216 = some (.iconst 1, 1) := by decide +kernel
theorem zL_217 : zat mLaw 217 = some (.iadd, 1) := by decide +kernel
theorem zL_218 : zat mLaw 218 = some (.iaload, 1) := by decide +kernel
theorem zL_219 : zat mLaw 219 = some (.invokevirtual 18, 3) := by decide +kernel
theorem zL_222 : zat mLaw 222 = some (.aload_n 2, 1) := by decide +kernel
theorem zL_223 : zat mLaw 223 = some (.aload_n 0, 1) := by decide +kernel
theorem zL_224 : zat mLaw 224 = some (.iload_n 3, 1) := by decide +kernel
theorem zL_225 : zat mLaw 225 = some (.iconst 1, 1) := by decide +kernel
theorem zL_226 : zat mLaw 226 = some (.iadd, 1) := by decide +kernel
theorem zL_227 : zat mLaw 227 = some (.iaload, 1) := by decide +kernel
theorem zL_228 : zat mLaw 228 = some (.invokevirtual 22, 3) := by decide +kernel
theorem zL_231 : zat mLaw 231 = some (.if_icmp .eq 861, 3) := by decide +kernel
theorem zL_234 : zat mLaw 234 = some (.iconst 0, 1) := by decide +kernel
theorem zL_235 : zat mLaw 235 = some (.ireturn, 1) := by decide +kernel
theorem zL_236 : zat mLaw 236 = some (.aload_n 1, 1) := by decide +kernel
theorem zL_237 : zat mLaw 237 = some (.aload_n 0, 1) := by decide +kernel
theorem zL_238 : zat mLaw 238 = some (.iload_n 3, 1) := by decide +kernel
theorem zL_239 : zat mLaw 239 = some (.iconst 1, 1) := by decide +kernel
theorem zL_240 : zat mLaw 240 = some (.iadd, 1) := by decide +kernel
theorem zL_241 : zat mLaw 241 = some (.iaload, 1) := by decide +kernel
theorem zL_242 : zat mLaw 242 = some (.aload_n 0, 1) := by decide +kernel
theorem zL_243 : zat mLaw 243 = some (.iload_n 3, 1) := by decide +kernel
theorem zL_244 : zat mLaw 244 = some (.iconst 2, 1) := by decide +kernel
theorem zL_245 : zat mLaw 245 = some (.iadd, 1) := by decide +kernel
theorem zL_246 : zat mLaw 246 = some (.iaload, 1) := by decide +kernel
theorem zL_247 : zat mLaw 247 = some (.aload_n 0, 1) := by decide +kernel
theorem zL_248 : zat mLaw 248 = some (.iload_n 3, 1) := by decide +kernel
theorem zL_249 : zat mLaw 249 = some (.iconst 3, 1) := by decide +kernel
theorem zL_250 : zat mLaw 250 = some (.iadd, 1) := by decide +kernel
theorem zL_251 : zat mLaw 251 = some (.iaload, 1) := by decide +kernel
theorem zL_252 : zat mLaw 252 = some (.aload_n 0, 1) := by decide +kernel
theorem zL_253 : zat mLaw 253 = some (.iload_n 3, 1) := by decide +kernel
theorem zL_254 : zat mLaw 254 = some (.iconst 4, 1) := by decide +kernel
theorem zL_255 : zat mLaw 255 = some (.iadd, 1) := by decide +kernel
theorem zL_256 : zat mLaw 256 = some (.iaload, 1) := by decide +kernel
theorem zL_257 : zat mLaw 257 = some (.invokevirtual 23, 3) := by decide +kernel
theorem zL_260 : zat mLaw 260 = some (.aload_n 2, 1) := by decide +kernel
theorem zL_261 : zat mLaw 261 = some (.aload_n 0, 1) := by decide +kernel
theorem zL_262 : zat mLaw 262 = some (.iload_n 3, 1) := by decide +kernel
theorem zL_263 : zat mLaw 263 = some (.iconst 1, 1) := by decide +kernel
theorem zL_264 : zat mLaw 264 = some (.iadd, 1) := by decide +kernel
theorem zL_265 : zat mLaw 265 = some (.iaload, 1) := by decide +kernel
theorem zL_266 : zat mLaw 266 = some (.aload_n 0, 1) := by decide +kernel
theorem zL_267 : zat mLaw 267 = some (.iload_n 3, 1) := by decide +kernel
theorem zL_268 : zat mLaw 268 = some (.iconst 2, 1) := by decide +kernel
theorem zL_269 : zat mLaw 269 = some (.iadd, 1) := by decide +kernel
theorem zL_270 : zat mLaw 270 = some (.iaload, 1) := by decide +kernel
theorem zL_271 : zat mLaw 271 = some (.aload_n 0, 1) := by decide +kernel
theorem zL_272 : zat mLaw 272 = some (.iload_n 3, 1) := by decide +kernel
theorem zL_273 : zat mLaw 273 = some (.iconst 3, 1) := by decide +kernel
theorem zL_274 : zat mLaw 274 = some (.iadd, 1) := by decide +kernel
theorem zL_275 : zat mLaw 275 = some (.iaload, 1) := by decide +kernel
theorem zL_276 : zat mLaw 276 = some (.aload_n 0, 1) := by decide +kernel
theorem zL_277 : zat mLaw 277 = some (.iload_n 3, 1) := by decide +kernel
theorem zL_278 : zat mLaw 278 = some (.iconst 4, 1) := by decide +kernel
theorem zL_279 : zat mLaw 279 = some (.iadd, 1) := by decide +kernel
theorem zL_280 : zat mLaw 280 = some (.iaload, 1) := by decide +kernel
theorem zL_281 : zat mLaw 281 = some (.invokevirtual 27, 3) := by decide +kernel
theorem zL_284 : zat mLaw 284 = some (.if_icmp .eq 808, 3) := by decide +kernel
theorem zL_287 : zat mLaw 287 = some (.iconst 0, 1) := by decide +kernel
theorem zL_288 : zat mLaw 288 = some (.ireturn, 1) := by decide +kernel
theorem zL_289 : zat mLaw 289 = some (.aload_n 1, 1) := by decide +kernel
theorem zL_290 : zat mLaw 290 = some (.aload_n 0, 1) := by decide +kernel
theorem zL_291 : zat mLaw 291 = some (.iload_n 3, 1) := by decide +kernel
theorem zL_292 : zat mLaw 292 = some (.iconst 1, 1) := by decide +kernel
theorem zL_293 : zat mLaw 293 = some (.iadd, 1) := by decide +kernel
theorem zL_294 : zat mLaw 294 = some (.iaload, 1) := by decide +kernel
theorem zL_295 : zat mLaw 295 = some (.aload_n 0, 1) := by decide +kernel
theorem zL_296 : zat mLaw 296 = some (.iload_n 3, 1) := by decide +kernel
theorem zL_297 : zat mLaw 297 = some (.iconst 2, 1) := by decide +kernel
theorem zL_298 : zat mLaw 298 = some (.iadd, 1) := by decide +kernel
theorem zL_299 : zat mLaw 299 = some (.iaload, 1) := by decide +kernel
theorem zL_300 : zat mLaw 300 = some (.invokevirtual 28, 3) := by decide +kernel
theorem zL_303 : zat mLaw 303 = some (.aload_n 2, 1) := by decide +kernel
theorem zL_304 : zat mLaw 304 = some (.aload_n 0, 1) := by decide +kernel
theorem zL_305 : zat mLaw 305 = some (.iload_n 3, 1) := by decide +kernel
theorem zL_306 : zat mLaw 306 = some (.iconst 1, 1) := by decide +kernel
theorem zL_307 : zat mLaw 307 = some (.iadd, 1) := by decide +kernel
theorem zL_308 : zat mLaw 308 = some (.iaload, 1) := by decide +kernel
theorem zL_309 : zat mLaw 309 = some (.aload_n 0, 1) := by decide +kernel
theorem zL_310 : zat mLaw 310 = some (.iload_n 3, 1) := by decide +kernel
theorem zL_311 : zat mLaw 311 = some (.iconst 2, 1) := by decide +kernel
theorem zL_312 : zat mLaw 312 = some (.iadd, 1) := by decide +kernel
theorem zL_313 : zat mLaw 313 = some (.iaload, 1) := by decide +kernel
theorem zL_314 : zat mLaw 314 = some (.invokevirtual 31, 3) := by decide +kernel
theorem zL_317 : zat mLaw 317 = some (.if_icmp .eq 775, 3) := by decide +kernel
theorem zL_320 : zat mLaw 320 = some (.iconst 0, 1) := by decide +kernel
theorem zL_321 : zat mLaw 321 = some (.ireturn, 1) := by decide +kernel
theorem zL_322 : zat mLaw 322 = some (.aload_n 1, 1) := by decide +kernel
theorem zL_323 : zat mLaw 323 = some (.aload_n 0, 1) := by decide +kernel
theorem zL_324 : zat mLaw 324 = some (.iload_n 3, 1) := by decide +kernel
theorem zL_325 : zat mLaw 325 = some (.iconst 1, 1) := by decide +kernel
theorem zL_326 : zat mLaw 326 = some (.iadd, 1) := by decide +kernel
theorem zL_327 : zat mLaw 327 = some (.iaload, 1) := by decide +kernel
theorem zL_328 : zat mLaw 328 = some (.aload_n 0, 1) := by decide +kernel
theorem zL_329 : zat mLaw 329 = some (.iload_n 3, 1) := by decide +kernel
theorem zL_330 : zat mLaw 330 = some (.iconst 2, 1) := by decide +kernel
theorem zL_331 : zat mLaw 331 = some (.iadd, 1) := by decide +kernel
theorem zL_332 : zat mLaw 332 = some (.iaload, 1) := by decide +kernel
theorem zL_333 : zat mLaw 333 = some (.invokevirtual 32, 3) := by decide +kernel
theorem zL_336 : zat mLaw 336 = some (.aload_n 2, 1) := by decide +kernel
theorem zL_337 : zat mLaw 337 = some (.aload_n 0, 1) := by decide +kernel
theorem zL_338 : zat mLaw 338 = some (.iload_n 3, 1) := by decide +kernel
theorem zL_339 : zat mLaw 339 = some (.iconst 1, 1) := by decide +kernel
theorem zL_340 : zat mLaw 340 = some (.iadd, 1) := by decide +kernel
theorem zL_341 : zat mLaw 341 = some (.iaload, 1) := by decide +kernel
theorem zL_342 : zat mLaw 342 = some (.aload_n 0, 1) := by decide +kernel
theorem zL_343 : zat mLaw 343 = some (.iload_n 3, 1) := by decide +kernel
theorem zL_344 : zat mLaw 344 = some (.iconst 2, 1) := by decide +kernel
theorem zL_345 : zat mLaw 345 = some (.iadd, 1) := by decide +kernel
theorem zL_346 : zat mLaw 346 = some (.iaload, 1) := by decide +kernel
theorem zL_347 : zat mLaw 347 = some (.invokevirtual 35, 3) := by decide +kernel
theorem zL_350 : zat mLaw 350 = some (.if_icmp .eq 742, 3) := by decide +kernel
theorem zL_353 : zat mLaw 353 = some (.iconst 0, 1) := by decide +kernel
theorem zL_354 : zat mLaw 354 = some (.ireturn, 1) := by decide +kernel
theorem zL_355 : zat mLaw 355 = some (.aload_n 1, 1) := by decide +kernel
theorem zL_356 : zat mLaw 356 = some (.aload_n 0, 1) := by decide +kernel
theorem zL_357 : zat mLaw 357 = some (.iload_n 3, 1) := by decide +kernel
theorem zL_358 : zat mLaw 358 = some (.iconst 1, 1) := by decide +kernel
theorem zL_359 : zat mLaw 359 = some (.iadd, 1) := by decide +kernel
theorem zL_360 : zat mLaw 360 = some (.iaload, 1) := by decide +kernel
theorem zL_361 : zat mLaw 361 = some (.invokevirtual 36, 3) := by decide +kernel
theorem zL_364 : zat mLaw 364 = some (.aload_n 2, 1) := by decide +kernel
theorem zL_365 : zat mLaw 365 = some (.aload_n 0, 1) := by decide +kernel
theorem zL_366 : zat mLaw 366 = some (.iload_n 3, 1) := by decide +kernel
theorem zL_367 : zat mLaw 367 = some (.iconst 1, 1) := by decide +kernel
theorem zL_368 : zat mLaw 368 = some (.iadd, 1) := by decide +kernel
theorem zL_369 : zat mLaw 369 = some (.iaload, 1) := by decide +kernel
theorem zL_370 : zat mLaw 370 = some (.invokevirtual 39, 3) := by decide +kernel
theorem zL_373 : zat mLaw 373 = some (.if_icmp .eq 719, 3) := by decide +kernel
theorem zL_376 : zat mLaw 376 = some (.iconst 0, 1) := by decide +kernel
theorem zL_377 : zat mLaw 377 = some (.ireturn, 1) := by decide +kernel
theorem zL_378 : zat mLaw 378 = some (.aload_n 1, 1) := by decide +kernel
theorem zL_379 : zat mLaw 379 = some (.invokevirtual 40, 3) := by decide +kernel
theorem zL_382 : zat mLaw 382 = some (.aload_n 2, 1) := by decide +kernel
theorem zL_383 : zat mLaw 383 = some (.invokevirtual 44, 3) := by decide +kernel
theorem zL_386 : zat mLaw 386 = some (.if_icmp .eq 706, 3) := by decide +kernel
theorem zL_389 : zat mLaw 389 = some (.iconst 0, 1) := by decide +kernel
theorem zL_390 : zat mLaw 390 = some (.ireturn, 1) := by decide +kernel
theorem zL_391 : zat mLaw 391 = some (.aload_n 1, 1) := by decide +kernel
theorem zL_392 : zat mLaw 392 = some (.aload_n 0, 1) := by decide +kernel
theorem zL_393 : zat mLaw 393 = some (.iload_n 3, 1) := by decide +kernel
theorem zL_394 : zat mLaw 394 = some (.iconst 1, 1) := by decide +kernel
theorem zL_395 : zat mLaw 395 = some (.iadd, 1) := by decide +kernel
theorem zL_396 : zat mLaw 396 = some (.iaload, 1) := by decide +kernel
theorem zL_397 : zat mLaw 397 = some (.invokevirtual 45, 3) := by decide +kernel
theorem zL_400 : zat mLaw 400 = some (.aload_n 2, 1) := by decide +kernel
theorem zL_401 : zat mLaw 401 = some (.aload_n 0, 1) := by decide +kernel
theorem zL_402 : zat mLaw 402 = some (.iload_n 3, 1) := by decide +kernel
theorem zL_403 : zat mLaw 403 = some (.iconst 1, 1) := by decide +kernel
theorem zL_404 : zat mLaw 404 = some (.iadd, 1) := by decide +kernel
theorem zL_405 : zat mLaw 405 = some (.iaload, 1) := by decide +kernel
theorem zL_406 : zat mLaw 406 = some (.invokevirtual 48, 3) := by decide +kernel
theorem zL_409 : zat mLaw 409 = some (.if_icmp .eq 683, 3) := by decide +kernel
theorem zL_412 : zat mLaw 412 = some (.iconst 0, 1) := by decide +kernel
theorem zL_413 : zat mLaw 413 = some (.ireturn, 1) := by decide +kernel
theorem zL_414 : zat mLaw 414 = some (.aload_n 1, 1) := by decide +kernel
theorem zL_415 : zat mLaw 415 = some (.invokevirtual 49, 3) := by decide +kernel
theorem zL_418 : zat mLaw 418 = some (.aload_n 2, 1) := by decide +kernel
theorem zL_419 : zat mLaw 419 = some (.invokevirtual 52, 3) := by decide +kernel
theorem zL_422 : zat mLaw 422 = some (.if_icmp .eq 670, 3) := by decide +kernel
theorem zL_425 : zat mLaw 425 = some (.iconst 0, 1) := by decide +kernel
theorem zL_426 : zat mLaw 426 = some (.ireturn, 1) := by decide +kernel
theorem zL_427 : zat mLaw 427 = some (.aload_n 1, 1) := by decide +kernel
theorem zL_428 : zat mLaw 428 = some (.aload_n 0, 1) := by decide +kernel
theorem zL_429 : zat mLaw 429 = some (.iload_n 3, 1) := by decide +kernel
theorem zL_430 : zat mLaw 430 = some (.iconst 1, 1) := by decide +kernel
theorem zL_431 : zat mLaw 431 = some (.iadd, 1) := by decide +kernel
theorem zL_432 : zat mLaw 432 = some (.iaload, 1) := by decide +kernel
theorem zL_433 : zat mLaw 433 = some (.aload_n 0, 1) := by decide +kernel
theorem zL_434 : zat mLaw 434 = some (.iload_n 3, 1) := by decide +kernel
theorem zL_435 : zat mLaw 435 = some (.iconst 2, 1) := by decide +kernel
theorem zL_436 : zat mLaw 436 = some (.iadd, 1) := by decide +kernel
theorem zL_437 : zat mLaw 437 = some (.iaload, 1) := by decide +kernel
theorem zL_438 : zat mLaw 438 = some (.invokevirtual 53, 3) := by decide +kernel
theorem zL_441 : zat mLaw 441 = some (.aload_n 2, 1) := by decide +kernel
theorem zL_442 : zat mLaw 442 = some (.aload_n 0, 1) := by decide +kernel
theorem zL_443 : zat mLaw 443 = some (.iload_n 3, 1) := by decide +kernel
theorem zL_444 : zat mLaw 444 = some (.iconst 1, 1) := by decide +kernel
theorem zL_445 : zat mLaw 445 = some (.iadd, 1) := by decide +kernel
theorem zL_446 : zat mLaw 446 = some (.iaload, 1) := by decide +kernel
theorem zL_447 : zat mLaw 447 = some (.aload_n 0, 1) := by decide +kernel
theorem zL_448 : zat mLaw 448 = some (.iload_n 3, 1) := by decide +kernel
theorem zL_449 : zat mLaw 449 = some (.iconst 2, 1) := by decide +kernel
theorem zL_450 : zat mLaw 450 = some (.iadd, 1) := by decide +kernel
theorem zL_451 : zat mLaw 451 = some (.iaload, 1) := by decide +kernel
theorem zL_452 : zat mLaw 452 = some (.invokevirtual 56, 3) := by decide +kernel
theorem zL_455 : zat mLaw 455 = some (.if_icmp .eq 637, 3) := by decide +kernel
theorem zL_458 : zat mLaw 458 = some (.iconst 0, 1) := by decide +kernel
theorem zL_459 : zat mLaw 459 = some (.ireturn, 1) := by decide +kernel
theorem zL_460 : zat mLaw 460 = some (.aload_n 1, 1) := by decide +kernel
theorem zL_461 : zat mLaw 461 = some (.invokevirtual 57, 3) := by decide +kernel
theorem zL_464 : zat mLaw 464 = some (.aload_n 2, 1) := by decide +kernel
theorem zL_465 : zat mLaw 465 = some (.invokevirtual 60, 3) := by decide +kernel
theorem zL_468 : zat mLaw 468 = some (.if_icmp .eq 624, 3) := by decide +kernel
theorem zL_471 : zat mLaw 471 = some (.iconst 0, 1) := by decide +kernel
theorem zL_472 : zat mLaw 472 = some (.ireturn, 1) := by decide +kernel
theorem zL_473 : zat mLaw 473 = some (.aload_n 1, 1) := by decide +kernel
theorem zL_474 : zat mLaw 474 = some (.invokevirtual 61, 3) := by decide +kernel
theorem zL_477 : zat mLaw 477 = some (.aload_n 2, 1) := by decide +kernel
theorem zL_478 : zat mLaw 478 = some (.invokevirtual 64, 3) := by decide +kernel
theorem zL_481 : zat mLaw 481 = some (.if_icmp .eq 611, 3) := by decide +kernel
theorem zL_484 : zat mLaw 484 = some (.iconst 0, 1) := by decide +kernel
theorem zL_485 : zat mLaw 485 = some (.ireturn, 1) := by decide +kernel
theorem zL_486 : zat mLaw 486 = some (.aload_n 1, 1) := by decide +kernel
theorem zL_487 : zat mLaw 487 = some (.aload_n 0, 1) := by decide +kernel
theorem zL_488 : zat mLaw 488 = some (.iload_n 3, 1) := by decide +kernel
theorem zL_489 : zat mLaw 489 = some (.iconst 1, 1) := by decide +kernel
theorem zL_490 : zat mLaw 490 = some (.iadd, 1) := by decide +kernel
theorem zL_491 : zat mLaw 491 = some (.iaload, 1) := by decide +kernel
theorem zL_492 : zat mLaw 492 = some (.invokevirtual 65, 3) := by decide +kernel
theorem zL_495 : zat mLaw 495 = some (.aload_n 2, 1) := by decide +kernel
theorem zL_496 : zat mLaw 496 = some (.aload_n 0, 1) := by decide +kernel
theorem zL_497 : zat mLaw 497 = some (.iload_n 3, 1) := by decide +kernel
theorem zL_498 : zat mLaw 498 = some (.iconst 1, 1) := by decide +kernel
theorem zL_499 : zat mLaw 499 = some (.iadd, 1) := by decide +kernel
theorem zL_500 : zat mLaw 500 = some (.iaload, 1) := by decide +kernel
theorem zL_501 : zat mLaw 501 = some (.invokevirtual 68, 3) := by decide +kernel
theorem zL_504 : zat mLaw 504 = some (.if_icmp .eq 588, 3) := by decide +kernel
theorem zL_507 : zat mLaw 507 = some (.iconst 0, 1) := by decide +kernel
theorem zL_508 : zat mLaw 508 = some (.ireturn, 1) := by decide +kernel
theorem zL_509 : zat mLaw 509 = some (.aload_n 1, 1) := by decide +kernel
theorem zL_510 : zat mLaw 510 = some (.invokevirtual 69, 3) := by decide +kernel
theorem zL_513 : zat mLaw 513 = some (.aload_n 2, 1) := by decide +kernel
theorem zL_514 : zat mLaw 514 = some (.invokevirtual 72, 3) := by decide +kernel
theorem zL_517 : zat mLaw 517 = some (.if_icmp .eq 575, 3) := by decide +kernel
theorem zL_520 : zat mLaw 520 = some (.iconst 0, 1) := by decide +kernel
theorem zL_521 : zat mLaw 521 = some (.ireturn, 1) := by decide +kernel
theorem zL_522 : zat mLaw 522 = some (.aload_n 1, 1) := by decide +kernel
theorem zL_523 : zat mLaw 523 = some (.invokevirtual 73, 3) := by decide +kernel
theorem zL_526 : zat mLaw 526 = some (.aload_n 2, 1) := by decide +kernel
theorem zL_527 : zat mLaw 527 = some (.invokevirtual 76, 3) := by decide +kernel
theorem zL_530 : zat mLaw 530 = some (.if_icmp .eq 562, 3) := by decide +kernel
theorem zL_533 : zat mLaw 533 = some (.iconst 0, 1) := by decide +kernel
theorem zL_534 : zat mLaw 534 = some (.ireturn, 1) := by decide +kernel
theorem zL_535 : zat mLaw 535 = some (.aload_n 1, 1) := by decide +kernel
theorem zL_536 : zat mLaw 536 = some (.invokevirtual 77, 3) := by decide +kernel
theorem zL_539 : zat mLaw 539 = some (.aload_n 2, 1) := by decide +kernel
theorem zL_540 : zat mLaw 540 = some (.invokevirtual 80, 3) := by decide +kernel
theorem zL_543 : zat mLaw 543 = some (.if_icmp .eq 549, 3) := by decide +kernel
theorem zL_546 : zat mLaw 546 = some (.iconst 0, 1) := by decide +kernel
theorem zL_547 : zat mLaw 547 = some (.ireturn, 1) := by decide +kernel
theorem zL_548 : zat mLaw 548 = some (.aload_n 1, 1) := by decide +kernel
theorem zL_549 : zat mLaw 549 = some (.invokevirtual 81, 3) := by decide +kernel
theorem zL_552 : zat mLaw 552 = some (.aload_n 2, 1) := by decide +kernel
theorem zL_553 : zat mLaw 553 = some (.invokevirtual 84, 3) := by decide +kernel
theorem zL_556 : zat mLaw 556 = some (.if_icmp .eq 536, 3) := by decide +kernel
theorem zL_559 : zat mLaw 559 = some (.iconst 0, 1) := by decide +kernel
theorem zL_560 : zat mLaw 560 = some (.ireturn, 1) := by decide +kernel
theorem zL_561 : zat mLaw 561 = some (.aload_n 1, 1) := by decide +kernel
theorem zL_562 : zat mLaw 562 = some (.aload_n 0, 1) := by decide +kernel
theorem zL_563 : zat mLaw 563 = some (.iload_n 3, 1) := by decide +kernel
theorem zL_564 : zat mLaw 564 = some (.iconst 1, 1) := by decide +kernel
theorem zL_565 : zat mLaw 565 = some (.iadd, 1) := by decide +kernel
theorem zL_566 : zat mLaw 566 = some (.iaload, 1) := by decide +kernel
theorem zL_567 : zat mLaw 567 = some (.invokevirtual 85, 3) := by decide +kernel
theorem zL_570 : zat mLaw 570 = some (.aload_n 2, 1) := by decide +kernel
theorem zL_571 : zat mLaw 571 = some (.aload_n 0, 1) := by decide +kernel
theorem zL_572 : zat mLaw 572 = some (.iload_n 3, 1) := by decide +kernel
theorem zL_573 : zat mLaw 573 = some (.iconst 1, 1) := by decide +kernel
theorem zL_574 : zat mLaw 574 = some (.iadd, 1) := by decide +kernel
theorem zL_575 : zat mLaw 575 = some (.iaload, 1) := by decide +kernel
theorem zL_576 : zat mLaw 576 = some (.invokevirtual 88, 3) := by decide +kernel
theorem zL_579 : zat mLaw 579 = some (.if_icmp .eq 513, 3) := by decide +kernel
theorem zL_582 : zat mLaw 582 = some (.iconst 0, 1) := by decide +kernel
theorem zL_583 : zat mLaw 583 = some (.ireturn, 1) := by decide +kernel
theorem zL_584 : zat mLaw 584 = some (.aload_n 1, 1) := by decide +kernel
theorem zL_585 : zat mLaw 585 = some (.aload_n 0, 1) := by decide +kernel
theorem zL_586 : zat mLaw 586 = some (.iload_n 3, 1) := by decide +kernel
theorem zL_587 : zat mLaw 587 = some (.iconst 1, 1) := by decide +kernel
theorem zL_588 : zat mLaw 588 = some (.iadd, 1) := by decide +kernel
theorem zL_589 : zat mLaw 589 = some (.iaload, 1) := by decide +kernel
theorem zL_590 : zat mLaw 590 = some (.aload_n 0, 1) := by decide +kernel
theorem zL_591 : zat mLaw 591 = some (.iload_n 3, 1) := by decide +kernel
theorem zL_592 : zat mLaw 592 = some (.iconst 2, 1) := by decide +kernel
theorem zL_593 : zat mLaw 593 = some (.iadd, 1) := by decide +kernel
theorem zL_594 : zat mLaw 594 = some (.iaload, 1) := by decide +kernel
theorem zL_595 : zat mLaw 595 = some (.invokevirtual 89, 3) := by decide +kernel
theorem zL_598 : zat mLaw 598 = some (.aload_n 2, 1) := by decide +kernel
theorem zL_599 : zat mLaw 599 = some (.aload_n 0, 1) := by decide +kernel
theorem zL_600 : zat mLaw 600 = some (.iload_n 3, 1) := by decide +kernel
theorem zL_601 : zat mLaw 601 = some (.iconst 1, 1) := by decide +kernel
theorem zL_602 : zat mLaw 602 = some (.iadd, 1) := by decide +kernel
theorem zL_603 : zat mLaw 603 = some (.iaload, 1) := by decide +kernel
theorem zL_604 : zat mLaw 604 = some (.aload_n 0, 1) := by decide +kernel
theorem zL_605 : zat mLaw 605 = some (.iload_n 3, 1) := by decide +kernel
theorem zL_606 : zat mLaw 606 = some (.iconst 2, 1) := by decide +kernel
theorem zL_607 : zat mLaw 607 = some (.iadd, 1) := by decide +kernel
theorem zL_608 : zat mLaw 608 = some (.iaload, 1) := by decide +kernel
theorem zL_609 : zat mLaw 609 = some (.invokevirtual 93, 3) := by decide +kernel
theorem zL_612 : zat mLaw 612 = some (.lcmp, 1) := by decide +kernel
theorem zL_613 : zat mLaw 613 = some (.ifCond .eq 479, 3) := by decide +kernel
theorem zL_616 : zat mLaw 616 = some (.iconst 0, 1) := by decide +kernel
theorem zL_617 : zat mLaw 617 = some (.ireturn, 1) := by decide +kernel
theorem zL_618 : zat mLaw 618 = some (.aload_n 1, 1) := by decide +kernel
theorem zL_619 : zat mLaw 619 = some (.aload_n 0, 1) := by decide +kernel
theorem zL_620 : zat mLaw 620 = some (.iload_n 3, 1) := by decide +kernel
theorem zL_621 : zat mLaw 621 = some (.iconst 1, 1) := by decide +kernel
theorem zL_622 : zat mLaw 622 = some (.iadd, 1) := by decide +kernel
theorem zL_623 : zat mLaw 623 = some (.iaload, 1) := by decide +kernel
theorem zL_624 : zat mLaw 624 = some (.aload_n 0, 1) := by decide +kernel
theorem zL_625 : zat mLaw 625 = some (.iload_n 3, 1) := by decide +kernel
theorem zL_626 : zat mLaw 626 = some (.iconst 2, 1) := by decide +kernel
theorem zL_627 : zat mLaw 627 = some (.iadd, 1) := by decide +kernel
theorem zL_628 : zat mLaw 628 = some (.iaload, 1) := by decide +kernel
theorem zL_629 : zat mLaw 629 = some (.aload_n 0, 1) := by decide +kernel
theorem zL_630 : zat mLaw 630 = some (.iload_n 3, 1) := by decide +kernel
theorem zL_631 : zat mLaw 631 = some (.iconst 3, 1) := by decide +kernel
theorem zL_632 : zat mLaw 632 = some (.iadd, 1) := by decide +kernel
theorem zL_633 : zat mLaw 633 = some (.iaload, 1) := by decide +kernel
theorem zL_634 : zat mLaw 634 = some (.invokevirtual 94, 3) := by decide +kernel
theorem zL_637 : zat mLaw 637 = some (.aload_n 2, 1) := by decide +kernel
theorem zL_638 : zat mLaw 638 = some (.aload_n 0, 1) := by decide +kernel
theorem zL_639 : zat mLaw 639 = some (.iload_n 3, 1) := by decide +kernel
theorem zL_640 : zat mLaw 640 = some (.iconst 1, 1) := by decide +kernel
theorem zL_641 : zat mLaw 641 = some (.iadd, 1) := by decide +kernel
theorem zL_642 : zat mLaw 642 = some (.iaload, 1) := by decide +kernel
theorem zL_643 : zat mLaw 643 = some (.aload_n 0, 1) := by decide +kernel
theorem zL_644 : zat mLaw 644 = some (.iload_n 3, 1) := by decide +kernel
theorem zL_645 : zat mLaw 645 = some (.iconst 2, 1) := by decide +kernel
theorem zL_646 : zat mLaw 646 = some (.iadd, 1) := by decide +kernel
theorem zL_647 : zat mLaw 647 = some (.iaload, 1) := by decide +kernel
theorem zL_648 : zat mLaw 648 = some (.aload_n 0, 1) := by decide +kernel
theorem zL_649 : zat mLaw 649 = some (.iload_n 3, 1) := by decide +kernel
theorem zL_650 : zat mLaw 650 = some (.iconst 3, 1) := by decide +kernel
theorem zL_651 : zat mLaw 651 = some (.iadd, 1) := by decide +kernel
theorem zL_652 : zat mLaw 652 = some (.iaload, 1) := by decide +kernel
theorem zL_653 : zat mLaw 653 = some (.invokevirtual 98, 3) := by decide +kernel
theorem zL_656 : zat mLaw 656 = some (.lcmp, 1) := by decide +kernel
theorem zL_657 : zat mLaw 657 = some (.ifCond .eq 435, 3) := by decide +kernel
theorem zL_660 : zat mLaw 660 = some (.iconst 0, 1) := by decide +kernel
theorem zL_661 : zat mLaw 661 = some (.ireturn, 1) := by decide +kernel
theorem zL_662 : zat mLaw 662 = some (.aload_n 1, 1) := by decide +kernel
theorem zL_663 : zat mLaw 663 = some (.aload_n 0, 1) := by decide +kernel
theorem zL_664 : zat mLaw 664 = some (.iload_n 3, 1) := by decide +kernel
theorem zL_665 : zat mLaw 665 = some (.iconst 1, 1) := by decide +kernel
theorem zL_666 : zat mLaw 666 = some (.iadd, 1) := by decide +kernel
theorem zL_667 : zat mLaw 667 = some (.iaload, 1) := by decide +kernel
theorem zL_668 : zat mLaw 668 = some (.invokevirtual 99, 3) := by decide +kernel
theorem zL_671 : zat mLaw 671 = some (.aload_n 2, 1) := by decide +kernel
theorem zL_672 : zat mLaw 672 = some (.aload_n 0, 1) := by decide +kernel
theorem zL_673 : zat mLaw 673 = some (.iload_n 3, 1) := by decide +kernel
theorem zL_674 : zat mLaw 674 = some (.iconst 1, 1) := by decide +kernel
theorem zL_675 : zat mLaw 675 = some (.iadd, 1) := by decide +kernel
theorem zL_676 : zat mLaw 676 = some (.iaload, 1) := by decide +kernel
theorem zL_677 : zat mLaw 677 = some (.invokevirtual 102, 3) := by decide +kernel
theorem zL_680 : zat mLaw 680 = some (.if_icmp .eq 412, 3) := by decide +kernel
theorem zL_683 : zat mLaw 683 = some (.iconst 0, 1) := by decide +kernel
theorem zL_684 : zat mLaw 684 = some (.ireturn, 1) := by decide +kernel
theorem zL_685 : zat mLaw 685 = some (.aload_n 1, 1) := by decide +kernel
theorem zL_686 : zat mLaw 686 = some (.invokevirtual 103, 3) := by decide +kernel
theorem zL_689 : zat mLaw 689 = some (.aload_n 2, 1) := by decide +kernel
theorem zL_690 : zat mLaw 690 = some (.invokevirtual 106, 3) := by decide +kernel
theorem zL_693 : zat mLaw 693 = some (.if_icmp .eq 399, 3) := by decide +kernel
theorem zL_696 : zat mLaw 696 = some (.iconst 0, 1) := by decide +kernel
theorem zL_697 : zat mLaw 697 = some (.ireturn, 1) := by decide +kernel
theorem zL_698 : zat mLaw 698 = some (.aload_n 1, 1) := by decide +kernel
theorem zL_699 : zat mLaw 699 = some (.aload_n 0, 1) := by decide +kernel
theorem zL_700 : zat mLaw 700 = some (.iload_n 3, 1) := by decide +kernel
theorem zL_701 : zat mLaw 701 = some (.iconst 1, 1) := by decide +kernel
theorem zL_702 : zat mLaw 702 = some (.iadd, 1) := by decide +kernel
theorem zL_703 : zat mLaw 703 = some (.iaload, 1) := by decide +kernel
theorem zL_704 : zat mLaw 704 = some (.aload_n 0, 1) := by decide +kernel
theorem zL_705 : zat mLaw 705 = some (.iload_n 3, 1) := by decide +kernel
theorem zL_706 : zat mLaw 706 = some (.iconst 2, 1) := by decide +kernel
theorem zL_707 : zat mLaw 707 = some (.iadd, 1) := by decide +kernel
theorem zL_708 : zat mLaw 708 = some (.iaload, 1) := by decide +kernel
theorem zL_709 : zat mLaw 709 = some (.invokevirtual 107, 3) := by decide +kernel
theorem zL_712 : zat mLaw 712 = some (.aload_n 2, 1) := by decide +kernel
theorem zL_713 : zat mLaw 713 = some (.aload_n 0, 1) := by decide +kernel
theorem zL_714 : zat mLaw 714 = some (.iload_n 3, 1) := by decide +kernel
theorem zL_715 : zat mLaw 715 = some (.iconst 1, 1) := by decide +kernel
theorem zL_716 : zat mLaw 716 = some (.iadd, 1) := by decide +kernel
theorem zL_717 : zat mLaw 717 = some (.iaload, 1) := by decide +kernel
theorem zL_718 : zat mLaw 718 = some (.aload_n 0, 1) := by decide +kernel
theorem zL_719 : zat mLaw 719 = some (.iload_n 3, 1) := by decide +kernel
theorem zL_720 : zat mLaw 720 = some (.iconst 2, 1) := by decide +kernel
theorem zL_721 : zat mLaw 721 = some (.iadd, 1) := by decide +kernel
theorem zL_722 : zat mLaw 722 = some (.iaload, 1) := by decide +kernel
theorem zL_723 : zat mLaw 723 = some (.invokevirtual 110, 3) := by decide +kernel
theorem zL_726 : zat mLaw 726 = some (.if_icmp .eq 366, 3) := by decide +kernel
theorem zL_729 : zat mLaw 729 = some (.iconst 0, 1) := by decide +kernel
theorem zL_730 : zat mLaw 730 = some (.ireturn, 1) := by decide +kernel
theorem zL_731 : zat mLaw 731 = some (.aload_n 1, 1) := by decide +kernel
theorem zL_732 : zat mLaw 732 = some (.invokevirtual 111, 3) := by decide +kernel
theorem zL_735 : zat mLaw 735 = some (.aload_n 2, 1) := by decide +kernel
theorem zL_736 : zat mLaw 736 = some (.invokevirtual 114, 3) := by decide +kernel
theorem zL_739 : zat mLaw 739 = some (.if_icmp .eq 353, 3) := by decide +kernel
theorem zL_742 : zat mLaw 742 = some (.iconst 0, 1) := by decide +kernel
theorem zL_743 : zat mLaw 743 = some (.ireturn, 1) := by decide +kernel
theorem zL_744 : zat mLaw 744 = some (.aload_n 1, 1) := by decide +kernel
theorem zL_745 : zat mLaw 745 = some (.invokevirtual 115, 3) := by decide +kernel
theorem zL_748 : zat mLaw 748 = some (.aload_n 2, 1) := by decide +kernel
theorem zL_749 : zat mLaw 749 = some (.invokevirtual 118, 3) := by decide +kernel
theorem zL_752 : zat mLaw 752 = some (.if_icmp .eq 340, 3) := by decide +kernel
theorem zL_755 : zat mLaw 755 = some (.iconst 0, 1) := by decide +kernel
theorem zL_756 : zat mLaw 756 = some (.ireturn, 1) := by decide +kernel
theorem zL_757 : zat mLaw 757 = some (.aload_n 1, 1) := by decide +kernel
theorem zL_758 : zat mLaw 758 = some (.aload_n 0, 1) := by decide +kernel
theorem zL_759 : zat mLaw 759 = some (.iload_n 3, 1) := by decide +kernel
theorem zL_760 : zat mLaw 760 = some (.iconst 1, 1) := by decide +kernel
theorem zL_761 : zat mLaw 761 = some (.iadd, 1) := by decide +kernel
theorem zL_762 : zat mLaw 762 = some (.iaload, 1) := by decide +kernel
theorem zL_763 : zat mLaw 763 = some (.aload_n 0, 1) := by decide +kernel
theorem zL_764 : zat mLaw 764 = some (.iload_n 3, 1) := by decide +kernel
theorem zL_765 : zat mLaw 765 = some (.iconst 2, 1) := by decide +kernel
theorem zL_766 : zat mLaw 766 = some (.iadd, 1) := by decide +kernel
theorem zL_767 : zat mLaw 767 = some (.iaload, 1) := by decide +kernel
theorem zL_768 : zat mLaw 768 = some (.aload_n 0, 1) := by decide +kernel
theorem zL_769 : zat mLaw 769 = some (.iload_n 3, 1) := by decide +kernel
theorem zL_770 : zat mLaw 770 = some (.iconst 3, 1) := by decide +kernel
theorem zL_771 : zat mLaw 771 = some (.iadd, 1) := by decide +kernel
theorem zL_772 : zat mLaw 772 = some (.iaload, 1) := by decide +kernel
theorem zL_773 : zat mLaw 773 = some (.invokevirtual 119, 3) := by decide +kernel
theorem zL_776 : zat mLaw 776 = some (.aload_n 2, 1) := by decide +kernel
theorem zL_777 : zat mLaw 777 = some (.aload_n 0, 1) := by decide +kernel
theorem zL_778 : zat mLaw 778 = some (.iload_n 3, 1) := by decide +kernel
theorem zL_779 : zat mLaw 779 = some (.iconst 1, 1) := by decide +kernel
theorem zL_780 : zat mLaw 780 = some (.iadd, 1) := by decide +kernel
theorem zL_781 : zat mLaw 781 = some (.iaload, 1) := by decide +kernel
theorem zL_782 : zat mLaw 782 = some (.aload_n 0, 1) := by decide +kernel
theorem zL_783 : zat mLaw 783 = some (.iload_n 3, 1) := by decide +kernel
theorem zL_784 : zat mLaw 784 = some (.iconst 2, 1) := by decide +kernel
theorem zL_785 : zat mLaw 785 = some (.iadd, 1) := by decide +kernel
theorem zL_786 : zat mLaw 786 = some (.iaload, 1) := by decide +kernel
theorem zL_787 : zat mLaw 787 = some (.aload_n 0, 1) := by decide +kernel
theorem zL_788 : zat mLaw 788 = some (.iload_n 3, 1) := by decide +kernel
theorem zL_789 : zat mLaw 789 = some (.iconst 3, 1) := by decide +kernel
theorem zL_790 : zat mLaw 790 = some (.iadd, 1) := by decide +kernel
theorem zL_791 : zat mLaw 791 = some (.iaload, 1) := by decide +kernel
theorem zL_792 : zat mLaw 792 = some (.invokevirtual 123, 3) := by decide +kernel
theorem zL_795 : zat mLaw 795 = some (.if_icmp .eq 297, 3) := by decide +kernel
theorem zL_798 : zat mLaw 798 = some (.iconst 0, 1) := by decide +kernel
theorem zL_799 : zat mLaw 799 = some (.ireturn, 1) := by decide +kernel
theorem zL_800 : zat mLaw 800 = some (.aload_n 1, 1) := by decide +kernel
theorem zL_801 : zat mLaw 801 = some (.aload_n 0, 1) := by decide +kernel
theorem zL_802 : zat mLaw 802 = some (.iload_n 3, 1) := by decide +kernel
theorem zL_803 : zat mLaw 803 = some (.iconst 1, 1) := by decide +kernel
theorem zL_804 : zat mLaw 804 = some (.iadd, 1) := by decide +kernel
theorem zL_805 : zat mLaw 805 = some (.iaload, 1) := by decide +kernel
theorem zL_806 : zat mLaw 806 = some (.invokevirtual 124, 3) := by decide +kernel
theorem zL_809 : zat mLaw 809 = some (.aload_n 2, 1) := by decide +kernel
theorem zL_810 : zat mLaw 810 = some (.aload_n 0, 1) := by decide +kernel
theorem zL_811 : zat mLaw 811 = some (.iload_n 3, 1) := by decide +kernel
theorem zL_812 : zat mLaw 812 = some (.iconst 1, 1) := by decide +kernel
theorem zL_813 : zat mLaw 813 = some (.iadd, 1) := by decide +kernel
theorem zL_814 : zat mLaw 814 = some (.iaload, 1) := by decide +kernel
theorem zL_815 : zat mLaw 815 = some (.invokevirtual 127, 3) := by decide +kernel
theorem zL_818 : zat mLaw 818 = some (.if_icmp .eq 274, 3) := by decide +kernel
theorem zL_821 : zat mLaw 821 = some (.iconst 0, 1) := by decide +kernel
theorem zL_822 : zat mLaw 822 = some (.ireturn, 1) := by decide +kernel
theorem zL_823 : zat mLaw 823 = some (.aload_n 1, 1) := by decide +kernel
theorem zL_824 : zat mLaw 824 = some (.aload_n 0, 1) := by decide +kernel
theorem zL_825 : zat mLaw 825 = some (.iload_n 3, 1) := by decide +kernel
theorem zL_826 : zat mLaw 826 = some (.iconst 1, 1) := by decide +kernel
theorem zL_827 : zat mLaw 827 = some (.iadd, 1) := by decide +kernel
theorem zL_828 : zat mLaw 828 = some (.iaload, 1) := by decide +kernel
theorem zL_829 : zat mLaw 829 = some (.aload_n 0, 1) := by decide +kernel
theorem zL_830 : zat mLaw 830 = some (.iload_n 3, 1) := by decide +kernel
theorem zL_831 : zat mLaw 831 = some (.iconst 2, 1) := by decide +kernel
theorem zL_832 : zat mLaw 832 = some (.iadd, 1) := by decide +kernel
theorem zL_833 : zat mLaw 833 = some (.iaload, 1) := by decide +kernel
theorem zL_834 : zat mLaw 834 = some (.invokevirtual 128, 3) := by decide +kernel
theorem zL_837 : zat mLaw 837 = some (.aload_n 2, 1) := by decide +kernel
theorem zL_838 : zat mLaw 838 = some (.aload_n 0, 1) := by decide +kernel
theorem zL_839 : zat mLaw 839 = some (.iload_n 3, 1) := by decide +kernel
theorem zL_840 : zat mLaw 840 = some (.iconst 1, 1) := by decide +kernel
theorem zL_841 : zat mLaw 841 = some (.iadd, 1) := by decide +kernel
theorem zL_842 : zat mLaw 842 = some (.iaload, 1) := by decide +kernel
theorem zL_843 : zat mLaw 843 = some (.aload_n 0, 1) := by decide +kernel
theorem zL_844 : zat mLaw 844 = some (.iload_n 3, 1) := by decide +kernel
theorem zL_845 : zat mLaw 845 = some (.iconst 2, 1) := by decide +kernel
theorem zL_846 : zat mLaw 846 = some (.iadd, 1) := by decide +kernel
theorem zL_847 : zat mLaw 847 = some (.iaload, 1) := by decide +kernel
theorem zL_848 : zat mLaw 848 = some (.invokevirtual 131, 3) := by decide +kernel
theorem zL_851 : zat mLaw 851 = some (.if_icmp .eq 241, 3) := by decide +kernel
theorem zL_854 : zat mLaw 854 = some (.iconst 0, 1) := by decide +kernel
theorem zL_855 : zat mLaw 855 = some (.ireturn, 1) := by decide +kernel
theorem zL_856 : zat mLaw 856 = some (.aload_n 1, 1) := by decide +kernel
theorem zL_857 : zat mLaw 857 = some (.aload_n 0, 1) := by decide +kernel
theorem zL_858 : zat mLaw 858 = some (.iload_n 3, 1) := by decide +kernel
theorem zL_859 : zat mLaw 859 = some (.iconst 1, 1) := by decide +kernel
theorem zL_860 : zat mLaw 860 = some (.iadd, 1) := by decide +kernel
theorem zL_861 : zat mLaw 861 = some (.iaload, 1) := by decide +kernel
theorem zL_862 : zat mLaw 862 = some (.invokevirtual 132, 3) := by decide +kernel
theorem zL_865 : zat mLaw 865 = some (.aload_n 2, 1) := by decide +kernel
theorem zL_866 : zat mLaw 866 = some (.aload_n 0, 1) := by decide +kernel
theorem zL_867 : zat mLaw 867 = some (.iload_n 3, 1) := by decide +kernel
theorem zL_868 : zat mLaw 868 = some (.iconst 1, 1) := by decide +kernel
theorem zL_869 : zat mLaw 869 = some (.iadd, 1) := by decide +kernel
theorem zL_870 : zat mLaw 870 = some (.iaload, 1) := by decide +kernel
theorem zL_871 : zat mLaw 871 = some (.invokevirtual 135, 3) := by decide +kernel
theorem zL_874 : zat mLaw 874 = some (.if_icmp .eq 218, 3) := by decide +kernel
theorem zL_877 : zat mLaw 877 = some (.iconst 0, 1) := by decide +kernel
theorem zL_878 : zat mLaw 878 = some (.ireturn, 1) := by decide +kernel
theorem zL_879 : zat mLaw 879 = some (.aload_n 1, 1) := by decide +kernel
theorem zL_880 : zat mLaw 880 = some (.aload_n 0, 1) := by decide +kernel
theorem zL_881 : zat mLaw 881 = some (.iload_n 3, 1) := by decide +kernel
theorem zL_882 : zat mLaw 882 = some (.iconst 1, 1) := by decide +kernel
theorem zL_883 : zat mLaw 883 = some (.iadd, 1) := by decide +kernel
theorem zL_884 : zat mLaw 884 = some (.iaload, 1) := by decide +kernel
theorem zL_885 : zat mLaw 885 = some (.aload_n 0, 1) := by decide +kernel
theorem zL_886 : zat mLaw 886 = some (.iload_n 3, 1) := by decide +kernel
theorem zL_887 : zat mLaw 887 = some (.iconst 2, 1) := by decide +kernel
theorem zL_888 : zat mLaw 888 = some (.iadd, 1) := by decide +kernel
theorem zL_889 : zat mLaw 889 = some (.iaload, 1) := by decide +kernel
theorem zL_890 : zat mLaw 890 = some (.aload_n 0, 1) := by decide +kernel
theorem zL_891 : zat mLaw 891 = some (.iload_n 3, 1) := by decide +kernel
theorem zL_892 : zat mLaw 892 = some (.iconst 3, 1) := by decide +kernel
theorem zL_893 : zat mLaw 893 = some (.iadd, 1) := by decide +kernel
theorem zL_894 : zat mLaw 894 = some (.iaload, 1) := by decide +kernel
theorem zL_895 : zat mLaw 895 = some (.invokevirtual 136, 3) := by decide +kernel
theorem zL_898 : zat mLaw 898 = some (.aload_n 2, 1) := by decide +kernel
theorem zL_899 : zat mLaw 899 = some (.aload_n 0, 1) := by decide +kernel
theorem zL_900 : zat mLaw 900 = some (.iload_n 3, 1) := by decide +kernel
theorem zL_901 : zat mLaw 901 = some (.iconst 1, 1) := by decide +kernel
theorem zL_902 : zat mLaw 902 = some (.iadd, 1) := by decide +kernel
theorem zL_903 : zat mLaw 903 = some (.iaload, 1) := by decide +kernel
theorem zL_904 : zat mLaw 904 = some (.aload_n 0, 1) := by decide +kernel
theorem zL_905 : zat mLaw 905 = some (.iload_n 3, 1) := by decide +kernel
theorem zL_906 : zat mLaw 906 = some (.iconst 2, 1) := by decide +kernel
theorem zL_907 : zat mLaw 907 = some (.iadd, 1) := by decide +kernel
theorem zL_908 : zat mLaw 908 = some (.iaload, 1) := by decide +kernel
theorem zL_909 : zat mLaw 909 = some (.aload_n 0, 1) := by decide +kernel
theorem zL_910 : zat mLaw 910 = some (.iload_n 3, 1) := by decide +kernel
theorem zL_911 : zat mLaw 911 = some (.iconst 3, 1) := by decide +kernel
theorem zL_912 : zat mLaw 912 = some (.iadd, 1) := by decide +kernel
theorem zL_913 : zat mLaw 913 = some (.iaload, 1) := by decide +kernel
theorem zL_914 : zat mLaw 914 = some (.invokevirtual 139, 3) := by decide +kernel
theorem zL_917 : zat mLaw 917 = some (.if_icmp .eq 175, 3) := by decide +kernel
theorem zL_920 : zat mLaw 920 = some (.iconst 0, 1) := by decide +kernel
theorem zL_921 : zat mLaw 921 = some (.ireturn, 1) := by decide +kernel
theorem zL_922 : zat mLaw 922 = some (.aload_n 1, 1) := by decide +kernel
theorem zL_923 : zat mLaw 923 = some (.aload_n 0, 1) := by decide +kernel
theorem zL_924 : zat mLaw 924 = some (.iload_n 3, 1) := by decide +kernel
theorem zL_925 : zat mLaw 925 = some (.iconst 1, 1) := by decide +kernel
theorem zL_926 : zat mLaw 926 = some (.iadd, 1) := by decide +kernel
theorem zL_927 : zat mLaw 927 = some (.iaload, 1) := by decide +kernel
theorem zL_928 : zat mLaw 928 = some (.aload_n 0, 1) := by decide +kernel
theorem zL_929 : zat mLaw 929 = some (.iload_n 3, 1) := by decide +kernel
theorem zL_930 : zat mLaw 930 = some (.iconst 2, 1) := by decide +kernel
theorem zL_931 : zat mLaw 931 = some (.iadd, 1) := by decide +kernel
theorem zL_932 : zat mLaw 932 = some (.iaload, 1) := by decide +kernel
theorem zL_933 : zat mLaw 933 = some (.aload_n 0, 1) := by decide +kernel
theorem zL_934 : zat mLaw 934 = some (.iload_n 3, 1) := by decide +kernel
theorem zL_935 : zat mLaw 935 = some (.iconst 3, 1) := by decide +kernel
theorem zL_936 : zat mLaw 936 = some (.iadd, 1) := by decide +kernel
theorem zL_937 : zat mLaw 937 = some (.iaload, 1) := by decide +kernel
theorem zL_938 : zat mLaw 938 = some (.i2l, 1) := by decide +kernel
theorem zL_939 : zat mLaw 939 = some (.bipush 32, 2) := by decide +kernel
theorem zL_941 : zat mLaw 941 = some (.lshl, 1) := by decide +kernel
theorem zL_942 : zat mLaw 942 = some (.aload_n 0, 1) := by decide +kernel
theorem zL_943 : zat mLaw 943 = some (.iload_n 3, 1) := by decide +kernel
theorem zL_944 : zat mLaw 944 = some (.iconst 4, 1) := by decide +kernel
theorem zL_945 : zat mLaw 945 = some (.iadd, 1) := by decide +kernel
theorem zL_946 : zat mLaw 946 = some (.iaload, 1) := by decide +kernel
theorem zL_947 : zat mLaw 947 = some (.i2l, 1) := by decide +kernel
theorem zL_948 : zat mLaw 948 = some (.ldc2_w 140, 3) := by decide +kernel
theorem zL_951 : zat mLaw 951 = some (.land, 1) := by decide +kernel
theorem zL_952 : zat mLaw 952 = some (.lor, 1) := by decide +kernel
theorem zL_953 : zat mLaw 953 = some (.invokevirtual 142, 3) := by decide +kernel
theorem zL_956 : zat mLaw 956 = some (.aload_n 2, 1) := by decide +kernel
theorem zL_957 : zat mLaw 957 = some (.aload_n 0, 1) := by decide +kernel
theorem zL_958 : zat mLaw 958 = some (.iload_n 3, 1) := by decide +kernel
theorem zL_959 : zat mLaw 959 = some (.iconst 1, 1) := by decide +kernel
theorem zL_960 : zat mLaw 960 = some (.iadd, 1) := by decide +kernel
theorem zL_961 : zat mLaw 961 = some (.iaload, 1) := by decide +kernel
theorem zL_962 : zat mLaw 962 = some (.aload_n 0, 1) := by decide +kernel
theorem zL_963 : zat mLaw 963 = some (.iload_n 3, 1) := by decide +kernel
theorem zL_964 : zat mLaw 964 = some (.iconst 2, 1) := by decide +kernel
theorem zL_965 : zat mLaw 965 = some (.iadd, 1) := by decide +kernel
theorem zL_966 : zat mLaw 966 = some (.iaload, 1) := by decide +kernel
theorem zL_967 : zat mLaw 967 = some (.aload_n 0, 1) := by decide +kernel
theorem zL_968 : zat mLaw 968 = some (.iload_n 3, 1) := by decide +kernel
theorem zL_969 : zat mLaw 969 = some (.iconst 3, 1) := by decide +kernel
theorem zL_970 : zat mLaw 970 = some (.iadd, 1) := by decide +kernel
theorem zL_971 : zat mLaw 971 = some (.iaload, 1) := by decide +kernel
theorem zL_972 : zat mLaw 972 = some (.i2l, 1) := by decide +kernel
theorem zL_973 : zat mLaw 973 = some (.bipush 32, 2) := by decide +kernel
theorem zL_975 : zat mLaw 975 = some (.lshl, 1) := by decide +kernel
theorem zL_976 : zat mLaw 976 = some (.aload_n 0, 1) := by decide +kernel
theorem zL_977 : zat mLaw 977 = some (.iload_n 3, 1) := by decide +kernel
theorem zL_978 : zat mLaw 978 = some (.iconst 4, 1) := by decide +kernel
theorem zL_979 : zat mLaw 979 = some (.iadd, 1) := by decide +kernel
theorem zL_980 : zat mLaw 980 = some (.iaload, 1) := by decide +kernel
theorem zL_981 : zat mLaw 981 = some (.i2l, 1) := by decide +kernel
theorem zL_982 : zat mLaw 982 = some (.ldc2_w 140, 3) := by decide +kernel
theorem zL_985 : zat mLaw 985 = some (.land, 1) := by decide +kernel
theorem zL_986 : zat mLaw 986 = some (.lor, 1) := by decide +kernel
theorem zL_987 : zat mLaw 987 = some (.invokevirtual 146, 3) := by decide +kernel
theorem zL_990 : zat mLaw 990 = some (.if_icmp .eq 102, 3) := by decide +kernel
theorem zL_993 : zat mLaw 993 = some (.iconst 0, 1) := by decide +kernel
theorem zL_994 : zat mLaw 994 = some (.ireturn, 1) := by decide +kernel
theorem zL_995 : zat mLaw 995 = some (.aload_n 1, 1) := by decide +kernel
theorem zL_996 : zat mLaw 996 = some (.aload_n 0, 1) := by decide +kernel
theorem zL_997 : zat mLaw 997 = some (.iload_n 3, 1) := by decide +kernel
theorem zL_998 : zat mLaw 998 = some (.iconst 1, 1) := by decide +kernel
theorem zL_999 : zat mLaw 999 = some (.iadd, 1) := by decide +kernel
theorem zL_1000 : zat mLaw 1000 = some (.iaload, 1) := by decide +kernel
theorem zL_1001 : zat mLaw 1001 = some (.aload_n 0, 1) := by decide +kernel
theorem zL_1002 : zat mLaw 1002 = some (.iload_n 3, 1) := by decide +kernel
theorem zL_1003 : zat mLaw 1003 = some (.iconst 2, 1) := by decide +kernel
theorem zL_1004 : zat mLaw 1004 = some (.iadd, 1) := by decide +kernel
theorem zL_1005 : zat mLaw 1005 = some (.iaload, 1) := by decide +kernel
theorem zL_1006 : zat mLaw 1006 = some (.invokevirtual 147, 3) := by decide +kernel
theorem zL_1009 : zat mLaw 1009 = some (.aload_n 2, 1) := by decide +kernel
theorem zL_1010 : zat mLaw 1010 = some (.aload_n 0, 1) := by decide +kernel
theorem zL_1011 : zat mLaw 1011 = some (.iload_n 3, 1) := by decide +kernel
theorem zL_1012 : zat mLaw 1012 = some (.iconst 1, 1) := by decide +kernel
theorem zL_1013 : zat mLaw 1013 = some (.iadd, 1) := by decide +kernel
theorem zL_1014 : zat mLaw 1014 = some (.iaload, 1) := by decide +kernel
theorem zL_1015 : zat mLaw 1015 = some (.aload_n 0, 1) := by decide +kernel
theorem zL_1016 : zat mLaw 1016 = some (.iload_n 3, 1) := by decide +kernel
theorem zL_1017 : zat mLaw 1017 = some (.iconst 2, 1) := by decide +kernel
theorem zL_1018 : zat mLaw 1018 = some (.iadd, 1) := by decide +kernel
theorem zL_1019 : zat mLaw 1019 = some (.iaload, 1) := by decide +kernel
theorem zL_1020 : zat mLaw 1020 = some (.invokevirtual 150, 3) := by decide +kernel
theorem zL_1023 : zat mLaw 1023 = some (.lcmp, 1) := by decide +kernel
theorem zL_1024 : zat mLaw 1024 = some (.ifCond .eq 68, 3) := by decide +kernel
theorem zL_1027 : zat mLaw 1027 = some (.iconst 0, 1) := by decide +kernel
theorem zL_1028 : zat mLaw 1028 = some (.ireturn, 1) := by decide +kernel
theorem zL_1029 : zat mLaw 1029 = some (.aload_n 1, 1) := by decide +kernel
theorem zL_1030 : zat mLaw 1030 = some (.aload_n 0, 1) := by decide +kernel
theorem zL_1031 : zat mLaw 1031 = some (.iload_n 3, 1) := by decide +kernel
theorem zL_1032 : zat mLaw 1032 = some (.iconst 1, 1) := by decide +kernel
theorem zL_1033 : zat mLaw 1033 = some (.iadd, 1) := by decide +kernel
theorem zL_1034 : zat mLaw 1034 = some (.iaload, 1) := by decide +kernel
theorem zL_1035 : zat mLaw 1035 = some (.aload_n 0, 1) := by decide +kernel
theorem zL_1036 : zat mLaw 1036 = some (.iload_n 3, 1) := by decide +kernel
theorem zL_1037 : zat mLaw 1037 = some (.iconst 2, 1) := by decide +kernel
theorem zL_1038 : zat mLaw 1038 = some (.iadd, 1) := by decide +kernel
theorem zL_1039 : zat mLaw 1039 = some (.iaload, 1) := by decide +kernel
theorem zL_1040 : zat mLaw 1040 = some (.aload_n 0, 1) := by decide +kernel
theorem zL_1041 : zat mLaw 1041 = some (.iload_n 3, 1) := by decide +kernel
theorem zL_1042 : zat mLaw 1042 = some (.iconst 3, 1) := by decide +kernel
theorem zL_1043 : zat mLaw 1043 = some (.iadd, 1) := by decide +kernel
theorem zL_1044 : zat mLaw 1044 = some (.iaload, 1) := by decide +kernel
theorem zL_1045 : zat mLaw 1045 = some (.aload_n 0, 1) := by decide +kernel
theorem zL_1046 : zat mLaw 1046 = some (.iload_n 3, 1) := by decide +kernel
theorem zL_1047 : zat mLaw 1047 = some (.iconst 4, 1) := by decide +kernel
theorem zL_1048 : zat mLaw 1048 = some (.iadd, 1) := by decide +kernel
theorem zL_1049 : zat mLaw 1049 = some (.iaload, 1) := by decide +kernel
theorem zL_1050 : zat mLaw 1050 = some (.aload_n 0, 1) := by decide +kernel
theorem zL_1051 : zat mLaw 1051 = some (.iload_n 3, 1) := by decide +kernel
theorem zL_1052 : zat mLaw 1052 = some (.iconst 5, 1) := by decide +kernel
theorem zL_1053 : zat mLaw 1053 = some (.iadd, 1) := by decide +kernel
theorem zL_1054 : zat mLaw 1054 = some (.iaload, 1) := by decide +kernel
theorem zL_1055 : zat mLaw 1055 = some (.invokevirtual 151, 3) := by decide +kernel
theorem zL_1058 : zat mLaw 1058 = some (.aload_n 2, 1) := by decide +kernel
theorem zL_1059 : zat mLaw 1059 = some (.aload_n 0, 1) := by decide +kernel
theorem zL_1060 : zat mLaw 1060 = some (.iload_n 3, 1) := by decide +kernel
theorem zL_1061 : zat mLaw 1061 = some (.iconst 1, 1) := by decide +kernel
theorem zL_1062 : zat mLaw 1062 = some (.iadd, 1) := by decide +kernel
theorem zL_1063 : zat mLaw 1063 = some (.iaload, 1) := by decide +kernel
theorem zL_1064 : zat mLaw 1064 = some (.aload_n 0, 1) := by decide +kernel
theorem zL_1065 : zat mLaw 1065 = some (.iload_n 3, 1) := by decide +kernel
theorem zL_1066 : zat mLaw 1066 = some (.iconst 2, 1) := by decide +kernel
theorem zL_1067 : zat mLaw 1067 = some (.iadd, 1) := by decide +kernel
theorem zL_1068 : zat mLaw 1068 = some (.iaload, 1) := by decide +kernel
theorem zL_1069 : zat mLaw 1069 = some (.aload_n 0, 1) := by decide +kernel
theorem zL_1070 : zat mLaw 1070 = some (.iload_n 3, 1) := by decide +kernel
theorem zL_1071 : zat mLaw 1071 = some (.iconst 3, 1) := by decide +kernel
theorem zL_1072 : zat mLaw 1072 = some (.iadd, 1) := by decide +kernel
theorem zL_1073 : zat mLaw 1073 = some (.iaload, 1) := by decide +kernel
theorem zL_1074 : zat mLaw 1074 = some (.aload_n 0, 1) := by decide +kernel
theorem zL_1075 : zat mLaw 1075 = some (.iload_n 3, 1) := by decide +kernel
theorem zL_1076 : zat mLaw 1076 = some (.iconst 4, 1) := by decide +kernel
theorem zL_1077 : zat mLaw 1077 = some (.iadd, 1) := by decide +kernel
theorem zL_1078 : zat mLaw 1078 = some (.iaload, 1) := by decide +kernel
theorem zL_1079 : zat mLaw 1079 = some (.aload_n 0, 1) := by decide +kernel
theorem zL_1080 : zat mLaw 1080 = some (.iload_n 3, 1) := by decide +kernel
theorem zL_1081 : zat mLaw 1081 = some (.iconst 5, 1) := by decide +kernel
theorem zL_1082 : zat mLaw 1082 = some (.iadd, 1) := by decide +kernel
theorem zL_1083 : zat mLaw 1083 = some (.iaload, 1) := by decide +kernel
theorem zL_1084 : zat mLaw 1084 = some (.invokevirtual 155, 3) := by decide +kernel
theorem zL_1087 : zat mLaw 1087 = some (.if_icmp .eq 5, 3) := by decide +kernel
theorem zL_1090 : zat mLaw 1090 = some (.iconst 0, 1) := by decide +kernel
theorem zL_1091 : zat mLaw 1091 = some (.ireturn, 1) := by decide +kernel
theorem zL_1092 : zat mLaw 1092 = some (.iinc 3 6, 3) := by decide +kernel
theorem zL_1095 : zat mLaw 1095 = some (.goto (-1077), 3) := by decide +kernel
theorem zL_1098 : zat mLaw 1098 = some (.iconst 1, 1) := by decide +kernel
theorem zL_1099 : zat mLaw 1099 = some (.ireturn, 1) := by decide +kernel
theorem kLaw_13 : zlk "ThirdAlikeLaw" 13 mX7_town 2 := ⟨zinT 284 (by decide +kernel) rfl, zinT 1 (by decide +kernel) rfl, ⟨by decide, by decide, by decide +kernel⟩, by decide, cX7_town_in⟩
theorem kLaw_17 : zlk "ThirdAlikeLaw" 17 mX8_town 2 := ⟨zinT 868 (by decide +kernel) rfl, zinT 10 (by decide +kernel) rfl, ⟨by decide, by decide, by decide +kernel⟩, by decide, cX8_town_in⟩
theorem kLaw_18 : zlk "ThirdAlikeLaw" 18 mX7_neighbours 1 := ⟨zinT 289 (by decide +kernel) rfl, zinT 1 (by decide +kernel) rfl, ⟨by decide, by decide, by decide +kernel⟩, by decide, cX7_neighbours_in⟩
theorem kLaw_22 : zlk "ThirdAlikeLaw" 22 mX8_neighbours 1 := ⟨zinT 852 (by decide +kernel) rfl, zinT 10 (by decide +kernel) rfl, ⟨by decide, by decide, by decide +kernel⟩, by decide, cX8_neighbours_in⟩
theorem kLaw_23 : zlk "ThirdAlikeLaw" 23 mX7_person 4 := ⟨zinT 297 (by decide +kernel) rfl, zinT 1 (by decide +kernel) rfl, ⟨by decide, by decide, by decide +kernel⟩, by decide, cX7_person_in⟩
theorem kLaw_27 : zlk "ThirdAlikeLaw" 27 mX8_person 4 := ⟨zinT 872 (by decide +kernel) rfl, zinT 10 (by decide +kernel) rfl, ⟨by decide, by decide, by decide +kernel⟩, by decide, cX8_person_in⟩
theorem kLaw_28 : zlk "ThirdAlikeLaw" 28 mX7_of 2 := ⟨zinT 309 (by decide +kernel) rfl, zinT 1 (by decide +kernel) rfl, ⟨by decide, by decide, by decide +kernel⟩, by decide, cX7_of_in⟩
theorem kLaw_31 : zlk "ThirdAlikeLaw" 31 mX8_of 2 := ⟨zinT 952 (by decide +kernel) rfl, zinT 10 (by decide +kernel) rfl, ⟨by decide, by decide, by decide +kernel⟩, by decide, cX8_of_in⟩
theorem kLaw_32 : zlk "ThirdAlikeLaw" 32 mX7_put 2 := ⟨zinT 375 (by decide +kernel) rfl, zinT 1 (by decide +kernel) rfl, ⟨by decide, by decide, by decide +kernel⟩, by decide, cX7_put_in⟩
theorem kLaw_35 : zlk "ThirdAlikeLaw" 35 mX8_put 2 := ⟨zinT 880 (by decide +kernel) rfl, zinT 10 (by decide +kernel) rfl, ⟨by decide, by decide, by decide +kernel⟩, by decide, cX8_put_in⟩
theorem kLaw_36 : zlk "ThirdAlikeLaw" 36 mX7_feed 1 := ⟨zinT 379 (by decide +kernel) rfl, zinT 1 (by decide +kernel) rfl, ⟨by decide, by decide, by decide +kernel⟩, by decide, cX7_feed_in⟩
theorem kLaw_39 : zlk "ThirdAlikeLaw" 39 mX8_feed 1 := ⟨zinT 888 (by decide +kernel) rfl, zinT 10 (by decide +kernel) rfl, ⟨by decide, by decide, by decide +kernel⟩, by decide, cX8_feed_in⟩
theorem kLaw_40 : zlk "ThirdAlikeLaw" 40 mX7_street 0 := ⟨zinT 387 (by decide +kernel) rfl, zinT 1 (by decide +kernel) rfl, ⟨by decide, by decide, by decide +kernel⟩, by decide, cX7_street_in⟩
theorem kLaw_44 : zlk "ThirdAlikeLaw" 44 mX8_street 0 := ⟨zinT 892 (by decide +kernel) rfl, zinT 10 (by decide +kernel) rfl, ⟨by decide, by decide, by decide +kernel⟩, by decide, cX8_street_in⟩
theorem kLaw_45 : zlk "ThirdAlikeLaw" 45 mX7_told 1 := ⟨zinT 485 (by decide +kernel) rfl, zinT 1 (by decide +kernel) rfl, ⟨by decide, by decide, by decide +kernel⟩, by decide, cX7_told_in⟩
theorem kLaw_48 : zlk "ThirdAlikeLaw" 48 mX8_told 1 := ⟨zinT 1040 (by decide +kernel) rfl, zinT 10 (by decide +kernel) rfl, ⟨by decide, by decide, by decide +kernel⟩, by decide, cX8_told_in⟩
theorem kLaw_49 : zlk "ThirdAlikeLaw" 49 mX7_move 0 := ⟨zinT 511 (by decide +kernel) rfl, zinT 1 (by decide +kernel) rfl, ⟨by decide, by decide, by decide +kernel⟩, by decide, cX7_move_in⟩
theorem kLaw_52 : zlk "ThirdAlikeLaw" 52 mX8_move 0 := ⟨zinT 1052 (by decide +kernel) rfl, zinT 10 (by decide +kernel) rfl, ⟨by decide, by decide, by decide +kernel⟩, by decide, cX8_move_in⟩
theorem kLaw_53 : zlk "ThirdAlikeLaw" 53 mX7_run 2 := ⟨zinT 521 (by decide +kernel) rfl, zinT 1 (by decide +kernel) rfl, ⟨by decide, by decide, by decide +kernel⟩, by decide, cX7_run_in⟩
theorem kLaw_56 : zlk "ThirdAlikeLaw" 56 mX8_run 2 := ⟨zinT 1060 (by decide +kernel) rfl, zinT 10 (by decide +kernel) rfl, ⟨by decide, by decide, by decide +kernel⟩, by decide, cX8_run_in⟩
theorem kLaw_57 : zlk "ThirdAlikeLaw" 57 mX7_rest 0 := ⟨zinT 525 (by decide +kernel) rfl, zinT 1 (by decide +kernel) rfl, ⟨by decide, by decide, by decide +kernel⟩, by decide, cX7_rest_in⟩
theorem kLaw_60 : zlk "ThirdAlikeLaw" 60 mX8_rest 0 := ⟨zinT 1076 (by decide +kernel) rfl, zinT 10 (by decide +kernel) rfl, ⟨by decide, by decide, by decide +kernel⟩, by decide, cX8_rest_in⟩
theorem kLaw_61 : zlk "ThirdAlikeLaw" 61 mX7_again 0 := ⟨zinT 529 (by decide +kernel) rfl, zinT 1 (by decide +kernel) rfl, ⟨by decide, by decide, by decide +kernel⟩, by decide, cX7_again_in⟩
theorem kLaw_64 : zlk "ThirdAlikeLaw" 64 mX8_again 0 := ⟨zinT 1080 (by decide +kernel) rfl, zinT 10 (by decide +kernel) rfl, ⟨by decide, by decide, by decide +kernel⟩, by decide, cX8_again_in⟩
theorem kLaw_65 : zlk "ThirdAlikeLaw" 65 mX7_mixed 1 := ⟨zinT 537 (by decide +kernel) rfl, zinT 1 (by decide +kernel) rfl, ⟨by decide, by decide, by decide +kernel⟩, by decide, cX7_mixed_in⟩
theorem kLaw_68 : zlk "ThirdAlikeLaw" 68 mX8_mixed 1 := ⟨zinT 1088 (by decide +kernel) rfl, zinT 10 (by decide +kernel) rfl, ⟨by decide, by decide, by decide +kernel⟩, by decide, cX8_mixed_in⟩
theorem kLaw_69 : zlk "ThirdAlikeLaw" 69 mX7_few 0 := ⟨zinT 554 (by decide +kernel) rfl, zinT 1 (by decide +kernel) rfl, ⟨by decide, by decide, by decide +kernel⟩, by decide, cX7_few_in⟩
theorem kLaw_72 : zlk "ThirdAlikeLaw" 72 mX8_few 0 := ⟨zinT 1112 (by decide +kernel) rfl, zinT 10 (by decide +kernel) rfl, ⟨by decide, by decide, by decide +kernel⟩, by decide, cX8_few_in⟩
theorem kLaw_73 : zlk "ThirdAlikeLaw" 73 mX7_edge 0 := ⟨zinT 558 (by decide +kernel) rfl, zinT 1 (by decide +kernel) rfl, ⟨by decide, by decide, by decide +kernel⟩, by decide, cX7_edge_in⟩
theorem kLaw_76 : zlk "ThirdAlikeLaw" 76 mX8_edge 0 := ⟨zinT 1116 (by decide +kernel) rfl, zinT 10 (by decide +kernel) rfl, ⟨by decide, by decide, by decide +kernel⟩, by decide, cX8_edge_in⟩
theorem kLaw_77 : zlk "ThirdAlikeLaw" 77 mX7_begins 0 := ⟨zinT 563 (by decide +kernel) rfl, zinT 1 (by decide +kernel) rfl, ⟨by decide, by decide, by decide +kernel⟩, by decide, cX7_begins_in⟩
theorem kLaw_80 : zlk "ThirdAlikeLaw" 80 mX8_begins 0 := ⟨zinT 1120 (by decide +kernel) rfl, zinT 10 (by decide +kernel) rfl, ⟨by decide, by decide, by decide +kernel⟩, by decide, cX8_begins_in⟩
theorem kLaw_81 : zlk "ThirdAlikeLaw" 81 mX7_holds 0 := ⟨zinT 569 (by decide +kernel) rfl, zinT 1 (by decide +kernel) rfl, ⟨by decide, by decide, by decide +kernel⟩, by decide, cX7_holds_in⟩
theorem kLaw_84 : zlk "ThirdAlikeLaw" 84 mX8_holds 0 := ⟨zinT 1124 (by decide +kernel) rfl, zinT 10 (by decide +kernel) rfl, ⟨by decide, by decide, by decide +kernel⟩, by decide, cX8_holds_in⟩
theorem kLaw_85 : zlk "ThirdAlikeLaw" 85 mX7_before 1 := ⟨zinT 573 (by decide +kernel) rfl, zinT 1 (by decide +kernel) rfl, ⟨by decide, by decide, by decide +kernel⟩, by decide, cX7_before_in⟩
theorem kLaw_88 : zlk "ThirdAlikeLaw" 88 mX8_before 1 := ⟨zinT 1132 (by decide +kernel) rfl, zinT 10 (by decide +kernel) rfl, ⟨by decide, by decide, by decide +kernel⟩, by decide, cX8_before_in⟩
theorem kLaw_89 : zlk "ThirdAlikeLaw" 89 mX7_odds 2 := ⟨zinT 580 (by decide +kernel) rfl, zinT 1 (by decide +kernel) rfl, ⟨by decide, by decide, by decide +kernel⟩, by decide, cX7_odds_in⟩
theorem kLaw_93 : zlk "ThirdAlikeLaw" 93 mX8_odds 2 := ⟨zinT 1140 (by decide +kernel) rfl, zinT 10 (by decide +kernel) rfl, ⟨by decide, by decide, by decide +kernel⟩, by decide, cX8_odds_in⟩
theorem kLaw_94 : zlk "ThirdAlikeLaw" 94 mX7_quarter 3 := ⟨zinT 594 (by decide +kernel) rfl, zinT 1 (by decide +kernel) rfl, ⟨by decide, by decide, by decide +kernel⟩, by decide, cX7_quarter_in⟩
theorem kLaw_98 : zlk "ThirdAlikeLaw" 98 mX8_quarter 3 := ⟨zinT 1165 (by decide +kernel) rfl, zinT 10 (by decide +kernel) rfl, ⟨by decide, by decide, by decide +kernel⟩, by decide, cX8_quarter_in⟩
theorem kLaw_99 : zlk "ThirdAlikeLaw" 99 mX7_book 1 := ⟨zinT 598 (by decide +kernel) rfl, zinT 1 (by decide +kernel) rfl, ⟨by decide, by decide, by decide +kernel⟩, by decide, cX7_book_in⟩
theorem kLaw_102 : zlk "ThirdAlikeLaw" 102 mX8_book 1 := ⟨zinT 1169 (by decide +kernel) rfl, zinT 10 (by decide +kernel) rfl, ⟨by decide, by decide, by decide +kernel⟩, by decide, cX8_book_in⟩
theorem kLaw_103 : zlk "ThirdAlikeLaw" 103 mX7_looked 0 := ⟨zinT 602 (by decide +kernel) rfl, zinT 1 (by decide +kernel) rfl, ⟨by decide, by decide, by decide +kernel⟩, by decide, cX7_looked_in⟩
theorem kLaw_106 : zlk "ThirdAlikeLaw" 106 mX8_looked 0 := ⟨zinT 1173 (by decide +kernel) rfl, zinT 10 (by decide +kernel) rfl, ⟨by decide, by decide, by decide +kernel⟩, by decide, cX8_looked_in⟩
theorem kLaw_107 : zlk "ThirdAlikeLaw" 107 mX7_judge 2 := ⟨zinT 606 (by decide +kernel) rfl, zinT 1 (by decide +kernel) rfl, ⟨by decide, by decide, by decide +kernel⟩, by decide, cX7_judge_in⟩
theorem kLaw_110 : zlk "ThirdAlikeLaw" 110 mX8_judge 2 := ⟨zinT 1177 (by decide +kernel) rfl, zinT 10 (by decide +kernel) rfl, ⟨by decide, by decide, by decide +kernel⟩, by decide, cX8_judge_in⟩
theorem kLaw_111 : zlk "ThirdAlikeLaw" 111 mX7_image 0 := ⟨zinT 617 (by decide +kernel) rfl, zinT 1 (by decide +kernel) rfl, ⟨by decide, by decide, by decide +kernel⟩, by decide, cX7_image_in⟩
theorem kLaw_114 : zlk "ThirdAlikeLaw" 114 mX8_image 0 := ⟨zinT 1185 (by decide +kernel) rfl, zinT 10 (by decide +kernel) rfl, ⟨by decide, by decide, by decide +kernel⟩, by decide, cX8_image_in⟩
theorem kLaw_115 : zlk "ThirdAlikeLaw" 115 mX7_undo 0 := ⟨zinT 621 (by decide +kernel) rfl, zinT 1 (by decide +kernel) rfl, ⟨by decide, by decide, by decide +kernel⟩, by decide, cX7_undo_in⟩
theorem kLaw_118 : zlk "ThirdAlikeLaw" 118 mX8_undo 0 := ⟨zinT 1189 (by decide +kernel) rfl, zinT 10 (by decide +kernel) rfl, ⟨by decide, by decide, by decide +kernel⟩, by decide, cX8_undo_in⟩
theorem kLaw_119 : zlk "ThirdAlikeLaw" 119 mX7_act 3 := ⟨zinT 625 (by decide +kernel) rfl, zinT 1 (by decide +kernel) rfl, ⟨by decide, by decide, by decide +kernel⟩, by decide, cX7_act_in⟩
theorem kLaw_123 : zlk "ThirdAlikeLaw" 123 mX8_act 3 := ⟨zinT 1193 (by decide +kernel) rfl, zinT 10 (by decide +kernel) rfl, ⟨by decide, by decide, by decide +kernel⟩, by decide, cX8_act_in⟩
theorem kLaw_124 : zlk "ThirdAlikeLaw" 124 mX7_trace 1 := ⟨zinT 645 (by decide +kernel) rfl, zinT 1 (by decide +kernel) rfl, ⟨by decide, by decide, by decide +kernel⟩, by decide, cX7_trace_in⟩
theorem kLaw_127 : zlk "ThirdAlikeLaw" 127 mX8_trace 1 := ⟨zinT 1229 (by decide +kernel) rfl, zinT 10 (by decide +kernel) rfl, ⟨by decide, by decide, by decide +kernel⟩, by decide, cX8_trace_in⟩
theorem kLaw_128 : zlk "ThirdAlikeLaw" 128 mX7_taken 2 := ⟨zinT 649 (by decide +kernel) rfl, zinT 1 (by decide +kernel) rfl, ⟨by decide, by decide, by decide +kernel⟩, by decide, cX7_taken_in⟩
theorem kLaw_131 : zlk "ThirdAlikeLaw" 131 mX8_taken 2 := ⟨zinT 1233 (by decide +kernel) rfl, zinT 10 (by decide +kernel) rfl, ⟨by decide, by decide, by decide +kernel⟩, by decide, cX8_taken_in⟩
theorem kLaw_132 : zlk "ThirdAlikeLaw" 132 mX7_count 1 := ⟨zinT 655 (by decide +kernel) rfl, zinT 1 (by decide +kernel) rfl, ⟨by decide, by decide, by decide +kernel⟩, by decide, cX7_count_in⟩
theorem kLaw_135 : zlk "ThirdAlikeLaw" 135 mX8_count 1 := ⟨zinT 1237 (by decide +kernel) rfl, zinT 10 (by decide +kernel) rfl, ⟨by decide, by decide, by decide +kernel⟩, by decide, cX8_count_in⟩
theorem kLaw_136 : zlk "ThirdAlikeLaw" 136 mX7_tape 3 := ⟨zinT 659 (by decide +kernel) rfl, zinT 1 (by decide +kernel) rfl, ⟨by decide, by decide, by decide +kernel⟩, by decide, cX7_tape_in⟩
theorem kLaw_139 : zlk "ThirdAlikeLaw" 139 mX8_tape 3 := ⟨zinT 1241 (by decide +kernel) rfl, zinT 10 (by decide +kernel) rfl, ⟨by decide, by decide, by decide +kernel⟩, by decide, cX8_tape_in⟩
theorem kLaw_142 : zlk "ThirdAlikeLaw" 142 mX7_item 3 := ⟨zinT 667 (by decide +kernel) rfl, zinT 1 (by decide +kernel) rfl, ⟨by decide, by decide, by decide +kernel⟩, by decide, cX7_item_in⟩
theorem kLaw_146 : zlk "ThirdAlikeLaw" 146 mX8_item 3 := ⟨zinT 1245 (by decide +kernel) rfl, zinT 10 (by decide +kernel) rfl, ⟨by decide, by decide, by decide +kernel⟩, by decide, cX8_item_in⟩
theorem kLaw_147 : zlk "ThirdAlikeLaw" 147 mX7_read 2 := ⟨zinT 675 (by decide +kernel) rfl, zinT 1 (by decide +kernel) rfl, ⟨by decide, by decide, by decide +kernel⟩, by decide, cX7_read_in⟩
theorem kLaw_150 : zlk "ThirdAlikeLaw" 150 mX8_read 2 := ⟨zinT 1253 (by decide +kernel) rfl, zinT 10 (by decide +kernel) rfl, ⟨by decide, by decide, by decide +kernel⟩, by decide, cX8_read_in⟩
theorem kLaw_151 : zlk "ThirdAlikeLaw" 151 mX7_shift 5 := ⟨zinT 679 (by decide +kernel) rfl, zinT 1 (by decide +kernel) rfl, ⟨by decide, by decide, by decide +kernel⟩, by decide, cX7_shift_in⟩
theorem kLaw_155 : zlk "ThirdAlikeLaw" 155 mX8_shift 5 := ⟨zinT 1257 (by decide +kernel) rfl, zinT 10 (by decide +kernel) rfl, ⟨by decide, by decide, by decide +kernel⟩, by decide, cX8_shift_in⟩
/-- what the law's walk knows of its start, and where it goes -/
abbrev cxL (b L : Nat) (xs : Nat → Int32) (Y : ZW) : ZCx := (room_1, (600000, 7302249), fun args s => args = #[Value.ref b] ∧ va_X b L xs s s.heap ∧ b < s.heap.size ∧ (∀ q, zZ Y q → s.heap.size ≤ q) ∧ zex Y 30 = b, fun below args s => lw_Z below #[Value.ref b] s)
abbrev sx (xs : Nat → Int32) (j : Nat) : Int := (xs j).toInt
abbrev LL (i : Nat) : List ZV := [ZX 30, ZR 7 0, ZR 8 0, ZI (i : Int)]
section LAW
variable {Y : ZW} {b L : Nat} {xs : Nat → Int32} {pc i : Nat} {S : List ZV} {LS : List ZV} {g : ZG}
theorem zroomL {d : Nat} (h : d ≤ 100) : zroom (cxL b L xs Y) d := ⟨Nat.le_trans (by omega : d + 1 ≤ 2048) (Nat.le_of_ble_eq_true rfl), Nat.le_trans (by omega : 40 * d + 40 ≤ 84000) (Nat.le_of_ble_eq_true rfl), Nat.le_of_ble_eq_true rfl, Nat.le_of_ble_eq_true rfl⟩
theorem zs_wlen (hL : L ≤ 3072) (hT : zat mLaw pc = some (.arraylength, 1)) (kk : ZVV Y mLaw (cxL b L xs Y) (pc + 1) LS (ZI (L : Int) :: S) g) : ZVV Y mLaw (cxL b L xs Y) pc LS (ZX 30 :: S) g := by
  intro p l e s m args below meth c H locs ls F hX hH hS hLs hO
  obtain ⟨h1, h2, h3, h4, h5⟩ := id hX
  have hbA : ¬ zZ Y b := fun z => absurd (h4 b z) (Nat.not_le.mpr h3)
  have hk := kk p l e s m args below meth c H locs ls F hX hH hS hLs (zok_cons.mpr ⟨⟨by omega, by omega⟩, (zok_cons.mp hO).2⟩)
  have e1 : zval Y (ZI (L : Int)) = .int (Int32.ofNat L) := congrArg Value.int Int32.ofInt_eq_ofNat
  have e2 : zval Y (ZX 30) = .ref b := congrArg Value.ref h5
  rw [List.map_cons, e1] at hk
  rw [List.map_cons, e2]
  exact va_slen F.2.2.1 F.2.2.2.1 h2 h3 hbA hS (zfx_dec F hT) hk
theorem zs_wld {j : Int} (hT : zat mLaw pc = some (.iaload, 1)) (h0 : 0 ≤ j) (hj : j < (L : Nat)) (kk : ZVV Y mLaw (cxL b L xs Y) (pc + 1) LS (ZI (sx xs j.toNat) :: S) g) : ZVV Y mLaw (cxL b L xs Y) pc LS (ZI j :: ZX 30 :: S) g := by
  intro p l e s m args below meth c H locs ls F hX hH hS hLs hO
  obtain ⟨h1, h2, h3, h4, h5⟩ := id hX
  have hbA : ¬ zZ Y b := fun z => absurd (h4 b z) (Nat.not_le.mpr h3)
  have hO1 := zok_cons.mp hO
  have hO2 := zok_cons.mp hO1.2
  obtain ⟨hin, he⟩ := zI_in hO1.1 h0 hj
  have hr : -2147483648 ≤ sx xs j.toNat ∧ sx xs j.toNat < 2147483648 := ⟨Int32.le_toInt _, Int32.toInt_lt _⟩
  have hk := kk p l e s m args below meth c H locs ls F hX hH hS hLs (zok_cons.mpr ⟨hr, hO2.2⟩)
  have e1 : zval Y (ZI (sx xs j.toNat)) = .int (xs j.toNat) := congrArg Value.int (Int32.ofInt_toInt _)
  have e2 : zval Y (ZX 30) = .ref b := congrArg Value.ref h5
  rw [List.map_cons, e1] at hk
  rw [List.map_cons, List.map_cons, e2]
  refine va_sld F.2.2.1 F.2.2.2.1 h2 h3 hbA hS hin (zfx_dec F hT) ?_
  rw [he]
  exact hk
/-- a word of the call that is being read -/
theorem zs_arg {j : Nat} {n : Int} (h0 : zat mLaw pc = some (.aload_n 0, 1)) (h1 : zat mLaw (pc + 1) = some (.iload_n 3, 1)) (h2 : zat mLaw (pc + 2) = some (.iconst n, 1)) (h3 : zat mLaw (pc + 3) = some (.iadd, 1)) (h4 : zat mLaw (pc + 4) = some (.iaload, 1)) (hn : n = (j : Int)) (hj : j < 6) (hi : i + 6 ≤ L) (hL : L ≤ 3072) (kk : ZVV Y mLaw (cxL b L xs Y) (pc + 5) (LL i) (ZI (sx xs (i + j)) :: S) g) : ZVV Y mLaw (cxL b L xs Y) pc (LL i) S g := by
  refine zs_xload_n (j := 0) (i := 0) (q := 30) h0 rfl rfl (by decide) ?_
  refine zs_iload_n (j := 3) (i := 3) (x := (i : Int)) h1 rfl rfl ?_
  refine zs_iconst h2 (by omega) ?_
  refine zs_iadd_r h3 (by omega) ?_
  refine zs_wld h4 (by omega) (by omega) ?_
  have e : ((i : Int) + n).toNat = i + j := by omega
  rw [e]
  exact kk
theorem zs_eqI {M : ZM} {C : ZCx} {x y off : Int} (tgt : Nat) (e : x = y) (hT : zat M pc = some (.if_icmp .eq off, 3)) (ht : (pc : Int) + off = (tgt : Int)) (kk : ZVV Y M C tgt LS S g) : ZVV Y M C pc LS (ZI y :: ZI x :: S) g := zs_icmp_eq tgt hT ht (fun _ => kk) (fun h => absurd e h)
theorem zs_eqJ {M : ZM} {C : ZCx} {x y off : Int} (tgt : Nat) (e : x = y) (hT : zat M pc = some (.lcmp, 1)) (hT1 : zat M (pc + 1) = some (.ifCond .eq off, 3)) (ht : ((pc + 1 : Nat) : Int) + off = (tgt : Int)) (kk : ZVV Y M C tgt LS S g) : ZVV Y M C pc LS (ZJ y :: ZJ x :: S) g := by
  refine zs_lcmp hT ?_
  refine zs_if_eq tgt hT1 ht (fun _ => kk) (fun h => absurd ?_ h)
  rw [if_neg (by omega), if_pos e]
/-- the law's end -/
theorem zs_lawret (hT : zat mLaw pc = some (.ireturn, 1)) : ZVV Y mLaw (cxL b L xs Y) pc LS [ZI 1] g := by
  intro p l e s m args below meth c H locs ls F hX hH hS hLs hO
  obtain ⟨h1, h2, h3, h4, h5⟩ := id hX
  subst h1
  refine va_forget (fun q hq => h4 _ (hS.2.2 q hq)) ?_
  exact lw_ret F.2.2.1 F.2.2.2.1 F.2.2.2.2.2.1 F.2.2.2.2.2.2.1 (zfx_dec F hT)
end LAW
