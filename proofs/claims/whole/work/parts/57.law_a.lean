/-! the law's instructions -/
theorem dL_0 : decode cL_law 0 = .ok (.new 7, 3) := by decide +kernel
theorem dL_3 : decode cL_law 3 = .ok (.dup, 1) := by decide +kernel
theorem dL_4 : decode cL_law 4 = .ok (.invokespecial 9, 3) := by decide +kernel
theorem dL_7 : decode cL_law 7 = .ok (.astore_n 1, 1) := by decide +kernel
theorem dL_8 : decode cL_law 8 = .ok (.new 10, 3) := by decide +kernel
theorem dL_11 : decode cL_law 11 = .ok (.dup, 1) := by decide +kernel
theorem dL_12 : decode cL_law 12 = .ok (.invokespecial 12, 3) := by decide +kernel
theorem dL_15 : decode cL_law 15 = .ok (.astore_n 2, 1) := by decide +kernel
theorem dL_16 : decode cL_law 16 = .ok (.iconst 0, 1) := by decide +kernel
theorem dL_17 : decode cL_law 17 = .ok (.istore_n 3, 1) := by decide +kernel
theorem dL_18 : decode cL_law 18 = .ok (.iload_n 3, 1) := by decide +kernel
theorem dL_19 : decode cL_law 19 = .ok (.aload_n 0, 1) := by decide +kernel
theorem dL_20 : decode cL_law 20 = .ok (.arraylength, 1) := by decide +kernel
theorem dL_21 : decode cL_law 21 = .ok (.bipush 7, 2) := by decide +kernel
theorem dL_23 : decode cL_law 23 = .ok (.isub, 1) := by decide +kernel
theorem dL_24 : decode cL_law 24 = .ok (.if_icmp .gt 1543, 3) := by decide +kernel
theorem dL_27 : decode cL_law 27 = .ok (.aload_n 0, 1) := by decide +kernel
theorem dL_28 : decode cL_law 28 = .ok (.iload_n 3, 1) := by decide +kernel
theorem dL_29 : decode cL_law 29 = .ok (.iaload, 1) := by decide +kernel
theorem dL_30 : decode cL_law 30 = .ok (.bipush 63, 2) := by decide +kernel
theorem dL_32 : decode cL_law 32 = .ok (.iand, 1) := by decide +kernel
theorem dL_33 : decode cL_law 33 = .ok (.tableswitch 1528 0 36 #[163, 206, 249, 312, 335, 378, 411, 454, 517, 530, 543, 576, 609, 652, 727, 750, 793, 836, 879, 912, 935, 988, 1041, 1116, 1169, 1202, 1225, 1258, 1301, 1314, 1357, 1380, 1403, 1436, 1469, 1492, 1515], 163) := by decide +kernel
theorem dL_196 : decode cL_law 196 = .ok (.aload_n 1, 1) := by decide +kernel
theorem dL_197 : decode cL_law 197 = .ok (.aload_n 0, 1) := by decide +kernel
theorem dL_198 : decode cL_law 198 = .ok (.iload_n 3, 1) := by decide +kernel
theorem dL_199 : decode cL_law 199 = .ok (.iconst 1, 1) := by decide +kernel
theorem dL_200 : decode cL_law 200 = .ok (.iadd, 1) := by decide +kernel
theorem dL_201 : decode cL_law 201 = .ok (.iaload, 1) := by decide +kernel
theorem dL_202 : decode cL_law 202 = .ok (.aload_n 0, 1) := by decide +kernel
theorem dL_203 : decode cL_law 203 = .ok (.iload_n 3, 1) := by decide +kernel
theorem dL_204 : decode cL_law 204 = .ok (.iconst 2, 1) := by decide +kernel
theorem dL_205 : decode cL_law 205 = .ok (.iadd, 1) := by decide +kernel
theorem dL_206 : decode cL_law 206 = .ok (.iaload, 1) := by decide +kernel
theorem dL_207 : decode cL_law 207 = .ok (.aload_n 0, 1) := by decide +kernel
theorem dL_208 : decode cL_law 208 = .ok (.iload_n 3, 1) := by decide +kernel
theorem dL_209 : decode cL_law 209 = .ok (.iconst 3, 1) := by decide +kernel
theorem dL_210 : decode cL_law 210 = .ok (.iadd, 1) := by decide +kernel
theorem dL_211 : decode cL_law 211 = .ok (.iaload, 1) := by decide +kernel
theorem dL_212 : decode cL_law 212 = .ok (.invokevirtual 13, 3) := by decide +kernel
theorem dL_215 : decode cL_law 215 = .ok (.aload_n 2, 1) := by decide +kernel
theorem dL_216 : decode cL_law 216 = .ok (.aload_n 0, 1) := by decide +kernel
theorem dL_217 : decode cL_law 217 = .ok (.iload_n 3, 1) := by decide +kernel
theorem dL_218 : decode cL_law 218 = .ok (.iconst 1, 1) := by decide +kernel
theorem dL_219 : decode cL_law 219 = .ok (.iadd, 1) := by decide +kernel
theorem dL_220 : decode cL_law 220 = .ok (.iaload, 1) := by decide +kernel
theorem dL_221 : decode cL_law 221 = .ok (.aload_n 0, 1) := by decide +kernel
theorem dL_222 : decode cL_law 222 = .ok (.iload_n 3, 1) := by decide +kernel
theorem dL_223 : decode cL_law 223 = .ok (.iconst 2, 1) := by decide +kernel
theorem dL_224 : decode cL_law 224 = .ok (.iadd, 1) := by decide +kernel
theorem dL_225 : decode cL_law 225 = .ok (.iaload, 1) := by decide +kernel
theorem dL_226 : decode cL_law 226 = .ok (.aload_n 0, 1) := by decide +kernel
theorem dL_227 : decode cL_law 227 = .ok (.iload_n 3, 1) := by decide +kernel
theorem dL_228 : decode cL_law 228 = .ok (.iconst 3, 1) := by decide +kernel
theorem dL_229 : decode cL_law 229 = .ok (.iadd, 1) := by decide +kernel
theorem dL_230 : decode cL_law 230 = .ok (.iaload, 1) := by decide +kernel
theorem dL_231 : decode cL_law 231 = .ok (.invokevirtual 17, 3) := by decide +kernel
theorem dL_234 : decode cL_law 234 = .ok (.if_icmp .eq 1327, 3) := by decide +kernel
theorem dL_237 : decode cL_law 237 = .ok (.iconst 0, 1) := by decide +kernel
theorem dL_238 : decode cL_law 238 = .ok (.ireturn, 1) := by decide +kernel
theorem dL_239 : decode cL_law 239 = .ok (.aload_n 1, 1) := by decide +kernel
theorem dL_240 : decode cL_law 240 = .ok (.aload_n 0, 1) := by decide +kernel
theorem dL_241 : decode cL_law 241 = .ok (.iload_n 3, 1) := by decide +kernel
theorem dL_242 : decode cL_law 242 = .ok (.iconst 1, 1) := by decide +kernel
theorem dL_243 : decode cL_law 243 = .ok (.iadd, 1) := by decide +kernel
theorem dL_244 : decode cL_law 244 = .ok (.iaload, 1) := by decide +kernel
theorem dL_245 : decode cL_law 245 = .ok (.aload_n 0, 1) := by decide +kernel
theorem dL_246 : decode cL_law 246 = .ok (.iload_n 3, 1) := by decide +kernel
theorem dL_247 : decode cL_law 247 = .ok (.iconst 2, 1) := by decide +kernel
theorem dL_248 : decode cL_law 248 = .ok (.iadd, 1) := by decide +kernel
theorem dL_249 : decode cL_law 249 = .ok (.iaload, 1) := by decide +kernel
theorem dL_250 : decode cL_law 250 = .ok (.aload_n 0, 1) := by decide +kernel
theorem dL_251 : decode cL_law 251 = .ok (.iload_n 3, 1) := by decide +kernel
theorem dL_252 : decode cL_law 252 = .ok (.iconst 3, 1) := by decide +kernel
theorem dL_253 : decode cL_law 253 = .ok (.iadd, 1) := by decide +kernel
theorem dL_254 : decode cL_law 254 = .ok (.iaload, 1) := by decide +kernel
theorem dL_255 : decode cL_law 255 = .ok (.invokevirtual 18, 3) := by decide +kernel
theorem dL_258 : decode cL_law 258 = .ok (.aload_n 2, 1) := by decide +kernel
theorem dL_259 : decode cL_law 259 = .ok (.aload_n 0, 1) := by decide +kernel
theorem dL_260 : decode cL_law 260 = .ok (.iload_n 3, 1) := by decide +kernel
theorem dL_261 : decode cL_law 261 = .ok (.iconst 1, 1) := by decide +kernel
theorem dL_262 : decode cL_law 262 = .ok (.iadd, 1) := by decide +kernel
theorem dL_263 : decode cL_law 263 = .ok (.iaload, 1) := by decide +kernel
theorem dL_264 : decode cL_law 264 = .ok (.aload_n 0, 1) := by decide +kernel
theorem dL_265 : decode cL_law 265 = .ok (.iload_n 3, 1) := by decide +kernel
theorem dL_266 : decode cL_law 266 = .ok (.iconst 2, 1) := by decide +kernel
theorem dL_267 : decode cL_law 267 = .ok (.iadd, 1) := by decide +kernel
theorem dL_268 : decode cL_law 268 = .ok (.iaload, 1) := by decide +kernel
theorem dL_269 : decode cL_law 269 = .ok (.aload_n 0, 1) := by decide +kernel
theorem dL_270 : decode cL_law 270 = .ok (.iload_n 3, 1) := by decide +kernel
theorem dL_271 : decode cL_law 271 = .ok (.iconst 3, 1) := by decide +kernel
theorem dL_272 : decode cL_law 272 = .ok (.iadd, 1) := by decide +kernel
theorem dL_273 : decode cL_law 273 = .ok (.iaload, 1) := by decide +kernel
theorem dL_274 : decode cL_law 274 = .ok (.invokevirtual 21, 3) := by decide +kernel
theorem dL_277 : decode cL_law 277 = .ok (.if_icmp .eq 1284, 3) := by decide +kernel
theorem dL_280 : decode cL_law 280 = .ok (.iconst 0, 1) := by decide +kernel
theorem dL_281 : decode cL_law 281 = .ok (.ireturn, 1) := by decide +kernel
theorem dL_282 : decode cL_law 282 = .ok (.aload_n 1, 1) := by decide +kernel
theorem dL_283 : decode cL_law 283 = .ok (.aload_n 0, 1) := by decide +kernel
theorem dL_284 : decode cL_law 284 = .ok (.iload_n 3, 1) := by decide +kernel
theorem dL_285 : decode cL_law 285 = .ok (.iconst 1, 1) := by decide +kernel
theorem dL_286 : decode cL_law 286 = .ok (.iadd, 1) := by decide +kernel
theorem dL_287 : decode cL_law 287 = .ok (.iaload, 1) := by decide +kernel
theorem dL_288 : decode cL_law 288 = .ok (.aload_n 0, 1) := by decide +kernel
theorem dL_289 : decode cL_law 289 = .ok (.iload_n 3, 1) := by decide +kernel
theorem dL_290 : decode cL_law 290 = .ok (.iconst 2, 1) := by decide +kernel
theorem dL_291 : decode cL_law 291 = .ok (.iadd, 1) := by decide +kernel
theorem dL_292 : decode cL_law 292 = .ok (.iaload, 1) := by decide +kernel
theorem dL_293 : decode cL_law 293 = .ok (.aload_n 0, 1) := by decide +kernel
theorem dL_294 : decode cL_law 294 = .ok (.iload_n 3, 1) := by decide +kernel
theorem dL_295 : decode cL_law 295 = .ok (.iconst 3, 1) := by decide +kernel
theorem dL_296 : decode cL_law 296 = .ok (.iadd, 1) := by decide +kernel
theorem dL_297 : decode cL_law 297 = .ok (.iaload, 1) := by decide +kernel
theorem dL_298 : decode cL_law 298 = .ok (.aload_n 0, 1) := by decide +kernel
theorem dL_299 : decode cL_law 299 = .ok (.iload_n 3, 1) := by decide +kernel
theorem dL_300 : decode cL_law 300 = .ok (.iconst 4, 1) := by decide +kernel
theorem dL_301 : decode cL_law 301 = .ok (.iadd, 1) := by decide +kernel
theorem dL_302 : decode cL_law 302 = .ok (.iaload, 1) := by decide +kernel
theorem dL_303 : decode cL_law 303 = .ok (.aload_n 0, 1) := by decide +kernel
theorem dL_304 : decode cL_law 304 = .ok (.iload_n 3, 1) := by decide +kernel
theorem dL_305 : decode cL_law 305 = .ok (.iconst 5, 1) := by decide +kernel
theorem dL_306 : decode cL_law 306 = .ok (.iadd, 1) := by decide +kernel
theorem dL_307 : decode cL_law 307 = .ok (.iaload, 1) := by decide +kernel
theorem dL_308 : decode cL_law 308 = .ok (.invokevirtual 22, 3) := by decide +kernel
theorem dL_311 : decode cL_law 311 = .ok (.aload_n 2, 1) := by decide +kernel
theorem dL_312 : decode cL_law 312 = .ok (.aload_n 0, 1) := by decide +kernel
theorem dL_313 : decode cL_law 313 = .ok (.iload_n 3, 1) := by decide +kernel
theorem dL_314 : decode cL_law 314 = .ok (.iconst 1, 1) := by decide +kernel
theorem dL_315 : decode cL_law 315 = .ok (.iadd, 1) := by decide +kernel
theorem dL_316 : decode cL_law 316 = .ok (.iaload, 1) := by decide +kernel
theorem dL_317 : decode cL_law 317 = .ok (.aload_n 0, 1) := by decide +kernel
theorem dL_318 : decode cL_law 318 = .ok (.iload_n 3, 1) := by decide +kernel
theorem dL_319 : decode cL_law 319 = .ok (.iconst 2, 1) := by decide +kernel
theorem dL_320 : decode cL_law 320 = .ok (.iadd, 1) := by decide +kernel
theorem dL_321 : decode cL_law 321 = .ok (.iaload, 1) := by decide +kernel
theorem dL_322 : decode cL_law 322 = .ok (.aload_n 0, 1) := by decide +kernel
theorem dL_323 : decode cL_law 323 = .ok (.iload_n 3, 1) := by decide +kernel
theorem dL_324 : decode cL_law 324 = .ok (.iconst 3, 1) := by decide +kernel
theorem dL_325 : decode cL_law 325 = .ok (.iadd, 1) := by decide +kernel
theorem dL_326 : decode cL_law 326 = .ok (.iaload, 1) := by decide +kernel
theorem dL_327 : decode cL_law 327 = .ok (.aload_n 0, 1) := by decide +kernel
theorem dL_328 : decode cL_law 328 = .ok (.iload_n 3, 1) := by decide +kernel
theorem dL_329 : decode cL_law 329 = .ok (.iconst 4, 1) := by decide +kernel
theorem dL_330 : decode cL_law 330 = .ok (.iadd, 1) := by decide +kernel
theorem dL_331 : decode cL_law 331 = .ok (.iaload, 1) := by decide +kernel
theorem dL_332 : decode cL_law 332 = .ok (.aload_n 0, 1) := by decide +kernel
theorem dL_333 : decode cL_law 333 = .ok (.iload_n 3, 1) := by decide +kernel
theorem dL_334 : decode cL_law 334 = .ok (.iconst 5, 1) := by decide +kernel
theorem dL_335 : decode cL_law 335 = .ok (.iadd, 1) := by decide +kernel
theorem dL_336 : decode cL_law 336 = .ok (.iaload, 1) := by decide +kernel
theorem dL_337 : decode cL_law 337 = .ok (.invokevirtual 26, 3) := by decide +kernel
theorem dL_340 : decode cL_law 340 = .ok (.if_icmp .eq 1221, 3) := by decide +kernel
theorem dL_343 : decode cL_law 343 = .ok (.iconst 0, 1) := by decide +kernel
theorem dL_344 : decode cL_law 344 = .ok (.ireturn, 1) := by decide +kernel
theorem dL_345 : decode cL_law 345 = .ok (.aload_n 1, 1) := by decide +kernel
theorem dL_346 : decode cL_law 346 = .ok (.aload_n 0, 1) := by decide +kernel
theorem dL_347 : decode cL_law 347 = .ok (.iload_n 3, 1) := by decide +kernel
theorem dL_348 : decode cL_law 348 = .ok (.iconst 1, 1) := by decide +kernel
theorem dL_349 : decode cL_law 349 = .ok (.iadd, 1) := by decide +kernel
theorem dL_350 : decode cL_law 350 = .ok (.iaload, 1) := by decide +kernel
theorem dL_351 : decode cL_law 351 = .ok (.invokevirtual 27, 3) := by decide +kernel
theorem dL_354 : decode cL_law 354 = .ok (.aload_n 2, 1) := by decide +kernel
theorem dL_355 : decode cL_law 355 = .ok (.aload_n 0, 1) := by decide +kernel
theorem dL_356 : decode cL_law 356 = .ok (.iload_n 3, 1) := by decide +kernel
theorem dL_357 : decode cL_law 357 = .ok (.iconst 1, 1) := by decide +kernel
theorem dL_358 : decode cL_law 358 = .ok (.iadd, 1) := by decide +kernel
theorem dL_359 : decode cL_law 359 = .ok (.iaload, 1) := by decide +kernel
theorem dL_360 : decode cL_law 360 = .ok (.invokevirtual 31, 3) := by decide +kernel
theorem dL_363 : decode cL_law 363 = .ok (.if_icmp .eq 1198, 3) := by decide +kernel
theorem dL_366 : decode cL_law 366 = .ok (.iconst 0, 1) := by decide +kernel
theorem dL_367 : decode cL_law 367 = .ok (.ireturn, 1) := by decide +kernel
theorem dL_368 : decode cL_law 368 = .ok (.aload_n 1, 1) := by decide +kernel
theorem dL_369 : decode cL_law 369 = .ok (.aload_n 0, 1) := by decide +kernel
theorem dL_370 : decode cL_law 370 = .ok (.iload_n 3, 1) := by decide +kernel
theorem dL_371 : decode cL_law 371 = .ok (.iconst 1, 1) := by decide +kernel
theorem dL_372 : decode cL_law 372 = .ok (.iadd, 1) := by decide +kernel
theorem dL_373 : decode cL_law 373 = .ok (.iaload, 1) := by decide +kernel
theorem dL_374 : decode cL_law 374 = .ok (.aload_n 0, 1) := by decide +kernel
theorem dL_375 : decode cL_law 375 = .ok (.iload_n 3, 1) := by decide +kernel
theorem dL_376 : decode cL_law 376 = .ok (.iconst 2, 1) := by decide +kernel
theorem dL_377 : decode cL_law 377 = .ok (.iadd, 1) := by decide +kernel
theorem dL_378 : decode cL_law 378 = .ok (.iaload, 1) := by decide +kernel
theorem dL_379 : decode cL_law 379 = .ok (.aload_n 0, 1) := by decide +kernel
theorem dL_380 : decode cL_law 380 = .ok (.iload_n 3, 1) := by decide +kernel
theorem dL_381 : decode cL_law 381 = .ok (.iconst 3, 1) := by decide +kernel
theorem dL_382 : decode cL_law 382 = .ok (.iadd, 1) := by decide +kernel
theorem dL_383 : decode cL_law 383 = .ok (.iaload, 1) := by decide +kernel
theorem dL_384 : decode cL_law 384 = .ok (.invokevirtual 32, 3) := by decide +kernel
theorem dL_387 : decode cL_law 387 = .ok (.aload_n 2, 1) := by decide +kernel
theorem dL_388 : decode cL_law 388 = .ok (.aload_n 0, 1) := by decide +kernel
theorem dL_389 : decode cL_law 389 = .ok (.iload_n 3, 1) := by decide +kernel
theorem dL_390 : decode cL_law 390 = .ok (.iconst 1, 1) := by decide +kernel
theorem dL_391 : decode cL_law 391 = .ok (.iadd, 1) := by decide +kernel
theorem dL_392 : decode cL_law 392 = .ok (.iaload, 1) := by decide +kernel
theorem dL_393 : decode cL_law 393 = .ok (.aload_n 0, 1) := by decide +kernel
theorem dL_394 : decode cL_law 394 = .ok (.iload_n 3, 1) := by decide +kernel
theorem dL_395 : decode cL_law 395 = .ok (.iconst 2, 1) := by decide +kernel
theorem dL_396 : decode cL_law 396 = .ok (.iadd, 1) := by decide +kernel
theorem dL_397 : decode cL_law 397 = .ok (.iaload, 1) := by decide +kernel
theorem dL_398 : decode cL_law 398 = .ok (.aload_n 0, 1) := by decide +kernel
theorem dL_399 : decode cL_law 399 = .ok (.iload_n 3, 1) := by decide +kernel
theorem dL_400 : decode cL_law 400 = .ok (.iconst 3, 1) := by decide +kernel
theorem dL_401 : decode cL_law 401 = .ok (.iadd, 1) := by decide +kernel
theorem dL_402 : decode cL_law 402 = .ok (.iaload, 1) := by decide +kernel
theorem dL_403 : decode cL_law 403 = .ok (.invokevirtual 35, 3) := by decide +kernel
theorem dL_406 : decode cL_law 406 = .ok (.if_icmp .eq 1155, 3) := by decide +kernel
theorem dL_409 : decode cL_law 409 = .ok (.iconst 0, 1) := by decide +kernel
theorem dL_410 : decode cL_law 410 = .ok (.ireturn, 1) := by decide +kernel
theorem dL_411 : decode cL_law 411 = .ok (.aload_n 1, 1) := by decide +kernel
theorem dL_412 : decode cL_law 412 = .ok (.aload_n 0, 1) := by decide +kernel
theorem dL_413 : decode cL_law 413 = .ok (.iload_n 3, 1) := by decide +kernel
theorem dL_414 : decode cL_law 414 = .ok (.iconst 1, 1) := by decide +kernel
theorem dL_415 : decode cL_law 415 = .ok (.iadd, 1) := by decide +kernel
theorem dL_416 : decode cL_law 416 = .ok (.iaload, 1) := by decide +kernel
theorem dL_417 : decode cL_law 417 = .ok (.aload_n 0, 1) := by decide +kernel
theorem dL_418 : decode cL_law 418 = .ok (.iload_n 3, 1) := by decide +kernel
theorem dL_419 : decode cL_law 419 = .ok (.iconst 2, 1) := by decide +kernel
theorem dL_420 : decode cL_law 420 = .ok (.iadd, 1) := by decide +kernel
theorem dL_421 : decode cL_law 421 = .ok (.iaload, 1) := by decide +kernel
theorem dL_422 : decode cL_law 422 = .ok (.invokevirtual 36, 3) := by decide +kernel
theorem dL_425 : decode cL_law 425 = .ok (.aload_n 2, 1) := by decide +kernel
theorem dL_426 : decode cL_law 426 = .ok (.aload_n 0, 1) := by decide +kernel
theorem dL_427 : decode cL_law 427 = .ok (.iload_n 3, 1) := by decide +kernel
theorem dL_428 : decode cL_law 428 = .ok (.iconst 1, 1) := by decide +kernel
theorem dL_429 : decode cL_law 429 = .ok (.iadd, 1) := by decide +kernel
theorem dL_430 : decode cL_law 430 = .ok (.iaload, 1) := by decide +kernel
theorem dL_431 : decode cL_law 431 = .ok (.aload_n 0, 1) := by decide +kernel
theorem dL_432 : decode cL_law 432 = .ok (.iload_n 3, 1) := by decide +kernel
theorem dL_433 : decode cL_law 433 = .ok (.iconst 2, 1) := by decide +kernel
theorem dL_434 : decode cL_law 434 = .ok (.iadd, 1) := by decide +kernel
theorem dL_435 : decode cL_law 435 = .ok (.iaload, 1) := by decide +kernel
theorem dL_436 : decode cL_law 436 = .ok (.invokevirtual 40, 3) := by decide +kernel
theorem dL_439 : decode cL_law 439 = .ok (.if_icmp .eq 1122, 3) := by decide +kernel
theorem dL_442 : decode cL_law 442 = .ok (.iconst 0, 1) := by decide +kernel
theorem dL_443 : decode cL_law 443 = .ok (.ireturn, 1) := by decide +kernel
theorem dL_444 : decode cL_law 444 = .ok (.aload_n 1, 1) := by decide +kernel
theorem dL_445 : decode cL_law 445 = .ok (.aload_n 0, 1) := by decide +kernel
theorem dL_446 : decode cL_law 446 = .ok (.iload_n 3, 1) := by decide +kernel
theorem dL_447 : decode cL_law 447 = .ok (.iconst 1, 1) := by decide +kernel
theorem dL_448 : decode cL_law 448 = .ok (.iadd, 1) := by decide +kernel
theorem dL_449 : decode cL_law 449 = .ok (.iaload, 1) := by decide +kernel
theorem dL_450 : decode cL_law 450 = .ok (.aload_n 0, 1) := by decide +kernel
theorem dL_451 : decode cL_law 451 = .ok (.iload_n 3, 1) := by decide +kernel
theorem dL_452 : decode cL_law 452 = .ok (.iconst 2, 1) := by decide +kernel
theorem dL_453 : decode cL_law 453 = .ok (.iadd, 1) := by decide +kernel
theorem dL_454 : decode cL_law 454 = .ok (.iaload, 1) := by decide +kernel
theorem dL_455 : decode cL_law 455 = .ok (.aload_n 0, 1) := by decide +kernel
theorem dL_456 : decode cL_law 456 = .ok (.iload_n 3, 1) := by decide +kernel
theorem dL_457 : decode cL_law 457 = .ok (.iconst 3, 1) := by decide +kernel
theorem dL_458 : decode cL_law 458 = .ok (.iadd, 1) := by decide +kernel
theorem dL_459 : decode cL_law 459 = .ok (.iaload, 1) := by decide +kernel
theorem dL_460 : decode cL_law 460 = .ok (.invokevirtual 41, 3) := by decide +kernel
theorem dL_463 : decode cL_law 463 = .ok (.aload_n 2, 1) := by decide +kernel
theorem dL_464 : decode cL_law 464 = .ok (.aload_n 0, 1) := by decide +kernel
theorem dL_465 : decode cL_law 465 = .ok (.iload_n 3, 1) := by decide +kernel
theorem dL_466 : decode cL_law 466 = .ok (.iconst 1, 1) := by decide +kernel
theorem dL_467 : decode cL_law 467 = .ok (.iadd, 1) := by decide +kernel
theorem dL_468 : decode cL_law 468 = .ok (.iaload, 1) := by decide +kernel
theorem dL_469 : decode cL_law 469 = .ok (.aload_n 0, 1) := by decide +kernel
theorem dL_470 : decode cL_law 470 = .ok (.iload_n 3, 1) := by decide +kernel
theorem dL_471 : decode cL_law 471 = .ok (.iconst 2, 1) := by decide +kernel
theorem dL_472 : decode cL_law 472 = .ok (.iadd, 1) := by decide +kernel
theorem dL_473 : decode cL_law 473 = .ok (.iaload, 1) := by decide +kernel
theorem dL_474 : decode cL_law 474 = .ok (.aload_n 0, 1) := by decide +kernel
theorem dL_475 : decode cL_law 475 = .ok (.iload_n 3, 1) := by decide +kernel
theorem dL_476 : decode cL_law 476 = .ok (.iconst 3, 1) := by decide +kernel
theorem dL_477 : decode cL_law 477 = .ok (.iadd, 1) := by decide +kernel
theorem dL_478 : decode cL_law 478 = .ok (.iaload, 1) := by decide +kernel
theorem dL_479 : decode cL_law 479 = .ok (.invokevirtual 44, 3) := by decide +kernel
theorem dL_482 : decode cL_law 482 = .ok (.if_icmp .eq 1079, 3) := by decide +kernel
theorem dL_485 : decode cL_law 485 = .ok (.iconst 0, 1) := by decide +kernel
theorem dL_486 : decode cL_law 486 = .ok (.ireturn, 1) := by decide +kernel
theorem dL_487 : decode cL_law 487 = .ok (.aload_n 1, 1) := by decide +kernel
theorem dL_488 : decode cL_law 488 = .ok (.aload_n 0, 1) := by decide +kernel
theorem dL_489 : decode cL_law 489 = .ok (.iload_n 3, 1) := by decide +kernel
theorem dL_490 : decode cL_law 490 = .ok (.iconst 1, 1) := by decide +kernel
theorem dL_491 : decode cL_law 491 = .ok (.iadd, 1) := by decide +kernel
theorem dL_492 : decode cL_law 492 = .ok (.iaload, 1) := by decide +kernel
theorem dL_493 : decode cL_law 493 = .ok (.i2l, 1) := by decide +kernel
theorem dL_494 : decode cL_law 494 = .ok (.bipush 32, 2) := by decide +kernel
theorem dL_496 : decode cL_law 496 = .ok (.lshl, 1) := by decide +kernel
theorem dL_497 : decode cL_law 497 = .ok (.aload_n 0, 1) := by decide +kernel
theorem dL_498 : decode cL_law 498 = .ok (.iload_n 3, 1) := by decide +kernel
theorem dL_499 : decode cL_law 499 = .ok (.iconst 2, 1) := by decide +kernel
theorem dL_500 : decode cL_law 500 = .ok (.iadd, 1) := by decide +kernel
theorem dL_501 : decode cL_law 501 = .ok (.iaload, 1) := by decide +kernel
theorem dL_502 : decode cL_law 502 = .ok (.i2l, 1) := by decide +kernel
theorem dL_503 : decode cL_law 503 = .ok (.ldc2_w 45, 3) := by decide +kernel
theorem dL_506 : decode cL_law 506 = .ok (.land, 1) := by decide +kernel
theorem dL_507 : decode cL_law 507 = .ok (.lor, 1) := by decide +kernel
theorem dL_508 : decode cL_law 508 = .ok (.aload_n 0, 1) := by decide +kernel
theorem dL_509 : decode cL_law 509 = .ok (.iload_n 3, 1) := by decide +kernel
theorem dL_510 : decode cL_law 510 = .ok (.iconst 3, 1) := by decide +kernel
theorem dL_511 : decode cL_law 511 = .ok (.iadd, 1) := by decide +kernel
theorem dL_512 : decode cL_law 512 = .ok (.iaload, 1) := by decide +kernel
theorem dL_513 : decode cL_law 513 = .ok (.invokevirtual 47, 3) := by decide +kernel
theorem dL_516 : decode cL_law 516 = .ok (.aload_n 2, 1) := by decide +kernel
theorem dL_517 : decode cL_law 517 = .ok (.aload_n 0, 1) := by decide +kernel
theorem dL_518 : decode cL_law 518 = .ok (.iload_n 3, 1) := by decide +kernel
theorem dL_519 : decode cL_law 519 = .ok (.iconst 1, 1) := by decide +kernel
theorem dL_520 : decode cL_law 520 = .ok (.iadd, 1) := by decide +kernel
theorem dL_521 : decode cL_law 521 = .ok (.iaload, 1) := by decide +kernel
theorem dL_522 : decode cL_law 522 = .ok (.i2l, 1) := by decide +kernel
theorem dL_523 : decode cL_law 523 = .ok (.bipush 32, 2) := by decide +kernel
theorem dL_525 : decode cL_law 525 = .ok (.lshl, 1) := by decide +kernel
theorem dL_526 : decode cL_law 526 = .ok (.aload_n 0, 1) := by decide +kernel
theorem dL_527 : decode cL_law 527 = .ok (.iload_n 3, 1) := by decide +kernel
theorem dL_528 : decode cL_law 528 = .ok (.iconst 2, 1) := by decide +kernel
theorem dL_529 : decode cL_law 529 = .ok (.iadd, 1) := by decide +kernel
theorem dL_530 : decode cL_law 530 = .ok (.iaload, 1) := by decide +kernel
theorem dL_531 : decode cL_law 531 = .ok (.i2l, 1) := by decide +kernel
theorem dL_532 : decode cL_law 532 = .ok (.ldc2_w 45, 3) := by decide +kernel
theorem dL_535 : decode cL_law 535 = .ok (.land, 1) := by decide +kernel
theorem dL_536 : decode cL_law 536 = .ok (.lor, 1) := by decide +kernel
theorem dL_537 : decode cL_law 537 = .ok (.aload_n 0, 1) := by decide +kernel
theorem dL_538 : decode cL_law 538 = .ok (.iload_n 3, 1) := by decide +kernel
theorem dL_539 : decode cL_law 539 = .ok (.iconst 3, 1) := by decide +kernel
theorem dL_540 : decode cL_law 540 = .ok (.iadd, 1) := by decide +kernel
theorem dL_541 : decode cL_law 541 = .ok (.iaload, 1) := by decide +kernel
theorem dL_542 : decode cL_law 542 = .ok (.invokevirtual 51, 3) := by decide +kernel
theorem dL_545 : decode cL_law 545 = .ok (.if_icmp .eq 1016, 3) := by decide +kernel
theorem dL_548 : decode cL_law 548 = .ok (.iconst 0, 1) := by decide +kernel
theorem dL_549 : decode cL_law 549 = .ok (.ireturn, 1) := by decide +kernel
theorem dL_550 : decode cL_law 550 = .ok (.aload_n 1, 1) := by decide +kernel
theorem dL_551 : decode cL_law 551 = .ok (.invokevirtual 52, 3) := by decide +kernel
theorem dL_554 : decode cL_law 554 = .ok (.aload_n 2, 1) := by decide +kernel
theorem dL_555 : decode cL_law 555 = .ok (.invokevirtual 56, 3) := by decide +kernel
theorem dL_558 : decode cL_law 558 = .ok (.if_icmp .eq 1003, 3) := by decide +kernel
theorem dL_561 : decode cL_law 561 = .ok (.iconst 0, 1) := by decide +kernel
theorem dL_562 : decode cL_law 562 = .ok (.ireturn, 1) := by decide +kernel
theorem dL_563 : decode cL_law 563 = .ok (.aload_n 1, 1) := by decide +kernel
theorem dL_564 : decode cL_law 564 = .ok (.invokevirtual 57, 3) := by decide +kernel
theorem dL_567 : decode cL_law 567 = .ok (.aload_n 2, 1) := by decide +kernel
theorem dL_568 : decode cL_law 568 = .ok (.invokevirtual 60, 3) := by decide +kernel
theorem dL_571 : decode cL_law 571 = .ok (.if_icmp .eq 990, 3) := by decide +kernel
theorem dL_574 : decode cL_law 574 = .ok (.iconst 0, 1) := by decide +kernel
theorem dL_575 : decode cL_law 575 = .ok (.ireturn, 1) := by decide +kernel
theorem dL_576 : decode cL_law 576 = .ok (.aload_n 1, 1) := by decide +kernel
theorem dL_577 : decode cL_law 577 = .ok (.aload_n 0, 1) := by decide +kernel
theorem dL_578 : decode cL_law 578 = .ok (.iload_n 3, 1) := by decide +kernel
theorem dL_579 : decode cL_law 579 = .ok (.iconst 1, 1) := by decide +kernel
theorem dL_580 : decode cL_law 580 = .ok (.iadd, 1) := by decide +kernel
theorem dL_581 : decode cL_law 581 = .ok (.iaload, 1) := by decide +kernel
theorem dL_582 : decode cL_law 582 = .ok (.aload_n 0, 1) := by decide +kernel
theorem dL_583 : decode cL_law 583 = .ok (.iload_n 3, 1) := by decide +kernel
theorem dL_584 : decode cL_law 584 = .ok (.iconst 2, 1) := by decide +kernel
theorem dL_585 : decode cL_law 585 = .ok (.iadd, 1) := by decide +kernel
theorem dL_586 : decode cL_law 586 = .ok (.iaload, 1) := by decide +kernel
theorem dL_587 : decode cL_law 587 = .ok (.invokevirtual 61, 3) := by decide +kernel
theorem dL_590 : decode cL_law 590 = .ok (.aload_n 2, 1) := by decide +kernel
theorem dL_591 : decode cL_law 591 = .ok (.aload_n 0, 1) := by decide +kernel
theorem dL_592 : decode cL_law 592 = .ok (.iload_n 3, 1) := by decide +kernel
theorem dL_593 : decode cL_law 593 = .ok (.iconst 1, 1) := by decide +kernel
theorem dL_594 : decode cL_law 594 = .ok (.iadd, 1) := by decide +kernel
theorem dL_595 : decode cL_law 595 = .ok (.iaload, 1) := by decide +kernel
theorem dL_596 : decode cL_law 596 = .ok (.aload_n 0, 1) := by decide +kernel
theorem dL_597 : decode cL_law 597 = .ok (.iload_n 3, 1) := by decide +kernel
theorem dL_598 : decode cL_law 598 = .ok (.iconst 2, 1) := by decide +kernel
theorem dL_599 : decode cL_law 599 = .ok (.iadd, 1) := by decide +kernel
theorem dL_600 : decode cL_law 600 = .ok (.iaload, 1) := by decide +kernel
theorem dL_601 : decode cL_law 601 = .ok (.invokevirtual 64, 3) := by decide +kernel
theorem dL_604 : decode cL_law 604 = .ok (.if_icmp .eq 957, 3) := by decide +kernel
theorem dL_607 : decode cL_law 607 = .ok (.iconst 0, 1) := by decide +kernel
theorem dL_608 : decode cL_law 608 = .ok (.ireturn, 1) := by decide +kernel
theorem dL_609 : decode cL_law 609 = .ok (.aload_n 1, 1) := by decide +kernel
theorem dL_610 : decode cL_law 610 = .ok (.aload_n 0, 1) := by decide +kernel
theorem dL_611 : decode cL_law 611 = .ok (.iload_n 3, 1) := by decide +kernel
theorem dL_612 : decode cL_law 612 = .ok (.iconst 1, 1) := by decide +kernel
theorem dL_613 : decode cL_law 613 = .ok (.iadd, 1) := by decide +kernel
theorem dL_614 : decode cL_law 614 = .ok (.iaload, 1) := by decide +kernel
theorem dL_615 : decode cL_law 615 = .ok (.aload_n 0, 1) := by decide +kernel
theorem dL_616 : decode cL_law 616 = .ok (.iload_n 3, 1) := by decide +kernel
theorem dL_617 : decode cL_law 617 = .ok (.iconst 2, 1) := by decide +kernel
theorem dL_618 : decode cL_law 618 = .ok (.iadd, 1) := by decide +kernel
theorem dL_619 : decode cL_law 619 = .ok (.iaload, 1) := by decide +kernel
theorem dL_620 : decode cL_law 620 = .ok (.invokevirtual 65, 3) := by decide +kernel
theorem dL_623 : decode cL_law 623 = .ok (.aload_n 2, 1) := by decide +kernel
theorem dL_624 : decode cL_law 624 = .ok (.aload_n 0, 1) := by decide +kernel
theorem dL_625 : decode cL_law 625 = .ok (.iload_n 3, 1) := by decide +kernel
theorem dL_626 : decode cL_law 626 = .ok (.iconst 1, 1) := by decide +kernel
theorem dL_627 : decode cL_law 627 = .ok (.iadd, 1) := by decide +kernel
theorem dL_628 : decode cL_law 628 = .ok (.iaload, 1) := by decide +kernel
theorem dL_629 : decode cL_law 629 = .ok (.aload_n 0, 1) := by decide +kernel
theorem dL_630 : decode cL_law 630 = .ok (.iload_n 3, 1) := by decide +kernel
theorem dL_631 : decode cL_law 631 = .ok (.iconst 2, 1) := by decide +kernel
theorem dL_632 : decode cL_law 632 = .ok (.iadd, 1) := by decide +kernel
theorem dL_633 : decode cL_law 633 = .ok (.iaload, 1) := by decide +kernel
theorem dL_634 : decode cL_law 634 = .ok (.invokevirtual 68, 3) := by decide +kernel
