/-! ===== printed by program: decode rows, block rows of L ===== -/
theorem dL_law_18 : decode cL_law 18 = .ok (.iload_n 3, 1) := by decide +kernel
theorem dL_law_19 : decode cL_law 19 = .ok (.aload_n 0, 1) := by decide +kernel
theorem dL_law_20 : decode cL_law 20 = .ok (.arraylength, 1) := by decide +kernel
theorem dL_law_21 : decode cL_law 21 = .ok (.bipush 7, 2) := by decide +kernel
theorem dL_law_23 : decode cL_law 23 = .ok (.isub, 1) := by decide +kernel
theorem dL_law_24 : decode cL_law 24 = .ok (.if_icmp .gt 1345, 3) := by decide +kernel
theorem dL_law_27 : decode cL_law 27 = .ok (.aload_n 0, 1) := by decide +kernel
theorem dL_law_28 : decode cL_law 28 = .ok (.iload_n 3, 1) := by decide +kernel
theorem dL_law_29 : decode cL_law 29 = .ok (.iaload, 1) := by decide +kernel
theorem dL_law_30 : decode cL_law 30 = .ok (.bipush 31, 2) := by decide +kernel
theorem dL_law_32 : decode cL_law 32 = .ok (.iand, 1) := by decide +kernel
theorem dL_law_33 : decode cL_law 33 = .ok (.tableswitch 1330 0 31 #[143, 206, 219, 232, 245, 268, 301, 334, 357, 380, 403, 446, 515, 558, 571, 630, 673, 722, 785, 848, 881, 914, 947, 1039, 1109, 1162, 1202, 1225, 1258, 1271, 1284, 1307], 143) := by decide +kernel
theorem dL_law_176 : decode cL_law 176 = .ok (.aload_n 1, 1) := by decide +kernel
theorem dL_law_177 : decode cL_law 177 = .ok (.aload_n 0, 1) := by decide +kernel
theorem dL_law_178 : decode cL_law 178 = .ok (.iload_n 3, 1) := by decide +kernel
theorem dL_law_179 : decode cL_law 179 = .ok (.iconst 1, 1) := by decide +kernel
theorem dL_law_180 : decode cL_law 180 = .ok (.iadd, 1) := by decide +kernel
theorem dL_law_181 : decode cL_law 181 = .ok (.iaload, 1) := by decide +kernel
theorem dL_law_182 : decode cL_law 182 = .ok (.aload_n 0, 1) := by decide +kernel
theorem dL_law_183 : decode cL_law 183 = .ok (.iload_n 3, 1) := by decide +kernel
theorem dL_law_184 : decode cL_law 184 = .ok (.iconst 2, 1) := by decide +kernel
theorem dL_law_185 : decode cL_law 185 = .ok (.iadd, 1) := by decide +kernel
theorem dL_law_186 : decode cL_law 186 = .ok (.iaload, 1) := by decide +kernel
theorem dL_law_187 : decode cL_law 187 = .ok (.i2l, 1) := by decide +kernel
theorem dL_law_188 : decode cL_law 188 = .ok (.bipush 32, 2) := by decide +kernel
theorem dL_law_190 : decode cL_law 190 = .ok (.lshl, 1) := by decide +kernel
theorem dL_law_191 : decode cL_law 191 = .ok (.aload_n 0, 1) := by decide +kernel
theorem dL_law_192 : decode cL_law 192 = .ok (.iload_n 3, 1) := by decide +kernel
theorem dL_law_193 : decode cL_law 193 = .ok (.iconst 3, 1) := by decide +kernel
theorem dL_law_194 : decode cL_law 194 = .ok (.iadd, 1) := by decide +kernel
theorem dL_law_195 : decode cL_law 195 = .ok (.iaload, 1) := by decide +kernel
theorem dL_law_196 : decode cL_law 196 = .ok (.i2l, 1) := by decide +kernel
theorem dL_law_197 : decode cL_law 197 = .ok (.ldc2_w 13, 3) := by decide +kernel
theorem dL_law_200 : decode cL_law 200 = .ok (.land, 1) := by decide +kernel
theorem dL_law_201 : decode cL_law 201 = .ok (.lor, 1) := by decide +kernel
theorem dL_law_202 : decode cL_law 202 = .ok (.invokevirtual 15, 3) := by decide +kernel
theorem dL_law_205 : decode cL_law 205 = .ok (.aload_n 2, 1) := by decide +kernel
theorem dL_law_206 : decode cL_law 206 = .ok (.aload_n 0, 1) := by decide +kernel
theorem dL_law_207 : decode cL_law 207 = .ok (.iload_n 3, 1) := by decide +kernel
theorem dL_law_208 : decode cL_law 208 = .ok (.iconst 1, 1) := by decide +kernel
theorem dL_law_209 : decode cL_law 209 = .ok (.iadd, 1) := by decide +kernel
theorem dL_law_210 : decode cL_law 210 = .ok (.iaload, 1) := by decide +kernel
theorem dL_law_211 : decode cL_law 211 = .ok (.aload_n 0, 1) := by decide +kernel
theorem dL_law_212 : decode cL_law 212 = .ok (.iload_n 3, 1) := by decide +kernel
theorem dL_law_213 : decode cL_law 213 = .ok (.iconst 2, 1) := by decide +kernel
theorem dL_law_214 : decode cL_law 214 = .ok (.iadd, 1) := by decide +kernel
theorem dL_law_215 : decode cL_law 215 = .ok (.iaload, 1) := by decide +kernel
theorem dL_law_216 : decode cL_law 216 = .ok (.i2l, 1) := by decide +kernel
theorem dL_law_217 : decode cL_law 217 = .ok (.bipush 32, 2) := by decide +kernel
theorem dL_law_219 : decode cL_law 219 = .ok (.lshl, 1) := by decide +kernel
theorem dL_law_220 : decode cL_law 220 = .ok (.aload_n 0, 1) := by decide +kernel
theorem dL_law_221 : decode cL_law 221 = .ok (.iload_n 3, 1) := by decide +kernel
theorem dL_law_222 : decode cL_law 222 = .ok (.iconst 3, 1) := by decide +kernel
theorem dL_law_223 : decode cL_law 223 = .ok (.iadd, 1) := by decide +kernel
theorem dL_law_224 : decode cL_law 224 = .ok (.iaload, 1) := by decide +kernel
theorem dL_law_225 : decode cL_law 225 = .ok (.i2l, 1) := by decide +kernel
theorem dL_law_226 : decode cL_law 226 = .ok (.ldc2_w 13, 3) := by decide +kernel
theorem dL_law_229 : decode cL_law 229 = .ok (.land, 1) := by decide +kernel
theorem dL_law_230 : decode cL_law 230 = .ok (.lor, 1) := by decide +kernel
theorem dL_law_231 : decode cL_law 231 = .ok (.invokevirtual 19, 3) := by decide +kernel
theorem dL_law_234 : decode cL_law 234 = .ok (.if_icmp .eq 1129, 3) := by decide +kernel
theorem dL_law_237 : decode cL_law 237 = .ok (.iconst 0, 1) := by decide +kernel
theorem dL_law_238 : decode cL_law 238 = .ok (.ireturn, 1) := by decide +kernel
theorem dL_law_239 : decode cL_law 239 = .ok (.aload_n 1, 1) := by decide +kernel
theorem dL_law_240 : decode cL_law 240 = .ok (.invokevirtual 20, 3) := by decide +kernel
theorem dL_law_243 : decode cL_law 243 = .ok (.aload_n 2, 1) := by decide +kernel
theorem dL_law_244 : decode cL_law 244 = .ok (.invokevirtual 24, 3) := by decide +kernel
theorem dL_law_247 : decode cL_law 247 = .ok (.if_icmp .eq 1116, 3) := by decide +kernel
theorem dL_law_250 : decode cL_law 250 = .ok (.iconst 0, 1) := by decide +kernel
theorem dL_law_251 : decode cL_law 251 = .ok (.ireturn, 1) := by decide +kernel
theorem dL_law_252 : decode cL_law 252 = .ok (.aload_n 1, 1) := by decide +kernel
theorem dL_law_253 : decode cL_law 253 = .ok (.invokevirtual 25, 3) := by decide +kernel
theorem dL_law_256 : decode cL_law 256 = .ok (.aload_n 2, 1) := by decide +kernel
theorem dL_law_257 : decode cL_law 257 = .ok (.invokevirtual 28, 3) := by decide +kernel
theorem dL_law_260 : decode cL_law 260 = .ok (.if_icmp .eq 1103, 3) := by decide +kernel
theorem dL_law_263 : decode cL_law 263 = .ok (.iconst 0, 1) := by decide +kernel
theorem dL_law_264 : decode cL_law 264 = .ok (.ireturn, 1) := by decide +kernel
theorem dL_law_265 : decode cL_law 265 = .ok (.aload_n 1, 1) := by decide +kernel
theorem dL_law_266 : decode cL_law 266 = .ok (.invokevirtual 29, 3) := by decide +kernel
theorem dL_law_269 : decode cL_law 269 = .ok (.aload_n 2, 1) := by decide +kernel
theorem dL_law_270 : decode cL_law 270 = .ok (.invokevirtual 32, 3) := by decide +kernel
theorem dL_law_273 : decode cL_law 273 = .ok (.if_icmp .eq 1090, 3) := by decide +kernel
theorem dL_law_276 : decode cL_law 276 = .ok (.iconst 0, 1) := by decide +kernel
theorem dL_law_277 : decode cL_law 277 = .ok (.ireturn, 1) := by decide +kernel
theorem dL_law_278 : decode cL_law 278 = .ok (.aload_n 1, 1) := by decide +kernel
theorem dL_law_279 : decode cL_law 279 = .ok (.aload_n 0, 1) := by decide +kernel
theorem dL_law_280 : decode cL_law 280 = .ok (.iload_n 3, 1) := by decide +kernel
theorem dL_law_281 : decode cL_law 281 = .ok (.iconst 1, 1) := by decide +kernel
theorem dL_law_282 : decode cL_law 282 = .ok (.iadd, 1) := by decide +kernel
theorem dL_law_283 : decode cL_law 283 = .ok (.iaload, 1) := by decide +kernel
theorem dL_law_284 : decode cL_law 284 = .ok (.invokevirtual 33, 3) := by decide +kernel
theorem dL_law_287 : decode cL_law 287 = .ok (.aload_n 2, 1) := by decide +kernel
theorem dL_law_288 : decode cL_law 288 = .ok (.aload_n 0, 1) := by decide +kernel
theorem dL_law_289 : decode cL_law 289 = .ok (.iload_n 3, 1) := by decide +kernel
theorem dL_law_290 : decode cL_law 290 = .ok (.iconst 1, 1) := by decide +kernel
theorem dL_law_291 : decode cL_law 291 = .ok (.iadd, 1) := by decide +kernel
theorem dL_law_292 : decode cL_law 292 = .ok (.iaload, 1) := by decide +kernel
theorem dL_law_293 : decode cL_law 293 = .ok (.invokevirtual 37, 3) := by decide +kernel
theorem dL_law_296 : decode cL_law 296 = .ok (.if_icmp .eq 1067, 3) := by decide +kernel
theorem dL_law_299 : decode cL_law 299 = .ok (.iconst 0, 1) := by decide +kernel
theorem dL_law_300 : decode cL_law 300 = .ok (.ireturn, 1) := by decide +kernel
theorem dL_law_301 : decode cL_law 301 = .ok (.aload_n 1, 1) := by decide +kernel
theorem dL_law_302 : decode cL_law 302 = .ok (.aload_n 0, 1) := by decide +kernel
theorem dL_law_303 : decode cL_law 303 = .ok (.iload_n 3, 1) := by decide +kernel
theorem dL_law_304 : decode cL_law 304 = .ok (.iconst 1, 1) := by decide +kernel
theorem dL_law_305 : decode cL_law 305 = .ok (.iadd, 1) := by decide +kernel
theorem dL_law_306 : decode cL_law 306 = .ok (.iaload, 1) := by decide +kernel
theorem dL_law_307 : decode cL_law 307 = .ok (.aload_n 0, 1) := by decide +kernel
theorem dL_law_308 : decode cL_law 308 = .ok (.iload_n 3, 1) := by decide +kernel
theorem dL_law_309 : decode cL_law 309 = .ok (.iconst 2, 1) := by decide +kernel
theorem dL_law_310 : decode cL_law 310 = .ok (.iadd, 1) := by decide +kernel
theorem dL_law_311 : decode cL_law 311 = .ok (.iaload, 1) := by decide +kernel
theorem dL_law_312 : decode cL_law 312 = .ok (.invokevirtual 38, 3) := by decide +kernel
theorem dL_law_315 : decode cL_law 315 = .ok (.aload_n 2, 1) := by decide +kernel
theorem dL_law_316 : decode cL_law 316 = .ok (.aload_n 0, 1) := by decide +kernel
theorem dL_law_317 : decode cL_law 317 = .ok (.iload_n 3, 1) := by decide +kernel
theorem dL_law_318 : decode cL_law 318 = .ok (.iconst 1, 1) := by decide +kernel
theorem dL_law_319 : decode cL_law 319 = .ok (.iadd, 1) := by decide +kernel
theorem dL_law_320 : decode cL_law 320 = .ok (.iaload, 1) := by decide +kernel
theorem dL_law_321 : decode cL_law 321 = .ok (.aload_n 0, 1) := by decide +kernel
theorem dL_law_322 : decode cL_law 322 = .ok (.iload_n 3, 1) := by decide +kernel
theorem dL_law_323 : decode cL_law 323 = .ok (.iconst 2, 1) := by decide +kernel
theorem dL_law_324 : decode cL_law 324 = .ok (.iadd, 1) := by decide +kernel
theorem dL_law_325 : decode cL_law 325 = .ok (.iaload, 1) := by decide +kernel
theorem dL_law_326 : decode cL_law 326 = .ok (.invokevirtual 42, 3) := by decide +kernel
theorem dL_law_329 : decode cL_law 329 = .ok (.if_icmp .eq 1034, 3) := by decide +kernel
theorem dL_law_332 : decode cL_law 332 = .ok (.iconst 0, 1) := by decide +kernel
theorem dL_law_333 : decode cL_law 333 = .ok (.ireturn, 1) := by decide +kernel
theorem dL_law_334 : decode cL_law 334 = .ok (.aload_n 1, 1) := by decide +kernel
theorem dL_law_335 : decode cL_law 335 = .ok (.aload_n 0, 1) := by decide +kernel
theorem dL_law_336 : decode cL_law 336 = .ok (.iload_n 3, 1) := by decide +kernel
theorem dL_law_337 : decode cL_law 337 = .ok (.iconst 1, 1) := by decide +kernel
theorem dL_law_338 : decode cL_law 338 = .ok (.iadd, 1) := by decide +kernel
theorem dL_law_339 : decode cL_law 339 = .ok (.iaload, 1) := by decide +kernel
theorem dL_law_340 : decode cL_law 340 = .ok (.aload_n 0, 1) := by decide +kernel
theorem dL_law_341 : decode cL_law 341 = .ok (.iload_n 3, 1) := by decide +kernel
theorem dL_law_342 : decode cL_law 342 = .ok (.iconst 2, 1) := by decide +kernel
theorem dL_law_343 : decode cL_law 343 = .ok (.iadd, 1) := by decide +kernel
theorem dL_law_344 : decode cL_law 344 = .ok (.iaload, 1) := by decide +kernel
theorem dL_law_345 : decode cL_law 345 = .ok (.invokevirtual 43, 3) := by decide +kernel
theorem dL_law_348 : decode cL_law 348 = .ok (.aload_n 2, 1) := by decide +kernel
theorem dL_law_349 : decode cL_law 349 = .ok (.aload_n 0, 1) := by decide +kernel
theorem dL_law_350 : decode cL_law 350 = .ok (.iload_n 3, 1) := by decide +kernel
theorem dL_law_351 : decode cL_law 351 = .ok (.iconst 1, 1) := by decide +kernel
theorem dL_law_352 : decode cL_law 352 = .ok (.iadd, 1) := by decide +kernel
theorem dL_law_353 : decode cL_law 353 = .ok (.iaload, 1) := by decide +kernel
theorem dL_law_354 : decode cL_law 354 = .ok (.aload_n 0, 1) := by decide +kernel
theorem dL_law_355 : decode cL_law 355 = .ok (.iload_n 3, 1) := by decide +kernel
theorem dL_law_356 : decode cL_law 356 = .ok (.iconst 2, 1) := by decide +kernel
theorem dL_law_357 : decode cL_law 357 = .ok (.iadd, 1) := by decide +kernel
theorem dL_law_358 : decode cL_law 358 = .ok (.iaload, 1) := by decide +kernel
theorem dL_law_359 : decode cL_law 359 = .ok (.invokevirtual 46, 3) := by decide +kernel
theorem dL_law_362 : decode cL_law 362 = .ok (.if_icmp .eq 1001, 3) := by decide +kernel
theorem dL_law_365 : decode cL_law 365 = .ok (.iconst 0, 1) := by decide +kernel
theorem dL_law_366 : decode cL_law 366 = .ok (.ireturn, 1) := by decide +kernel
theorem dL_law_367 : decode cL_law 367 = .ok (.aload_n 1, 1) := by decide +kernel
theorem dL_law_368 : decode cL_law 368 = .ok (.aload_n 0, 1) := by decide +kernel
theorem dL_law_369 : decode cL_law 369 = .ok (.iload_n 3, 1) := by decide +kernel
theorem dL_law_370 : decode cL_law 370 = .ok (.iconst 1, 1) := by decide +kernel
theorem dL_law_371 : decode cL_law 371 = .ok (.iadd, 1) := by decide +kernel
theorem dL_law_372 : decode cL_law 372 = .ok (.iaload, 1) := by decide +kernel
theorem dL_law_373 : decode cL_law 373 = .ok (.invokevirtual 47, 3) := by decide +kernel
theorem dL_law_376 : decode cL_law 376 = .ok (.aload_n 2, 1) := by decide +kernel
theorem dL_law_377 : decode cL_law 377 = .ok (.aload_n 0, 1) := by decide +kernel
theorem dL_law_378 : decode cL_law 378 = .ok (.iload_n 3, 1) := by decide +kernel
theorem dL_law_379 : decode cL_law 379 = .ok (.iconst 1, 1) := by decide +kernel
theorem dL_law_380 : decode cL_law 380 = .ok (.iadd, 1) := by decide +kernel
theorem dL_law_381 : decode cL_law 381 = .ok (.iaload, 1) := by decide +kernel
theorem dL_law_382 : decode cL_law 382 = .ok (.invokevirtual 50, 3) := by decide +kernel
theorem dL_law_385 : decode cL_law 385 = .ok (.if_icmp .eq 978, 3) := by decide +kernel
theorem dL_law_388 : decode cL_law 388 = .ok (.iconst 0, 1) := by decide +kernel
theorem dL_law_389 : decode cL_law 389 = .ok (.ireturn, 1) := by decide +kernel
theorem dL_law_390 : decode cL_law 390 = .ok (.aload_n 1, 1) := by decide +kernel
theorem dL_law_391 : decode cL_law 391 = .ok (.aload_n 0, 1) := by decide +kernel
theorem dL_law_392 : decode cL_law 392 = .ok (.iload_n 3, 1) := by decide +kernel
theorem dL_law_393 : decode cL_law 393 = .ok (.iconst 1, 1) := by decide +kernel
theorem dL_law_394 : decode cL_law 394 = .ok (.iadd, 1) := by decide +kernel
theorem dL_law_395 : decode cL_law 395 = .ok (.iaload, 1) := by decide +kernel
theorem dL_law_396 : decode cL_law 396 = .ok (.invokevirtual 51, 3) := by decide +kernel
theorem dL_law_399 : decode cL_law 399 = .ok (.aload_n 2, 1) := by decide +kernel
theorem dL_law_400 : decode cL_law 400 = .ok (.aload_n 0, 1) := by decide +kernel
theorem dL_law_401 : decode cL_law 401 = .ok (.iload_n 3, 1) := by decide +kernel
theorem dL_law_402 : decode cL_law 402 = .ok (.iconst 1, 1) := by decide +kernel
theorem dL_law_403 : decode cL_law 403 = .ok (.iadd, 1) := by decide +kernel
theorem dL_law_404 : decode cL_law 404 = .ok (.iaload, 1) := by decide +kernel
theorem dL_law_405 : decode cL_law 405 = .ok (.invokevirtual 54, 3) := by decide +kernel
theorem dL_law_408 : decode cL_law 408 = .ok (.if_icmp .eq 955, 3) := by decide +kernel
theorem dL_law_411 : decode cL_law 411 = .ok (.iconst 0, 1) := by decide +kernel
theorem dL_law_412 : decode cL_law 412 = .ok (.ireturn, 1) := by decide +kernel
theorem dL_law_413 : decode cL_law 413 = .ok (.aload_n 1, 1) := by decide +kernel
theorem dL_law_414 : decode cL_law 414 = .ok (.aload_n 0, 1) := by decide +kernel
theorem dL_law_415 : decode cL_law 415 = .ok (.iload_n 3, 1) := by decide +kernel
theorem dL_law_416 : decode cL_law 416 = .ok (.iconst 1, 1) := by decide +kernel
theorem dL_law_417 : decode cL_law 417 = .ok (.iadd, 1) := by decide +kernel
theorem dL_law_418 : decode cL_law 418 = .ok (.iaload, 1) := by decide +kernel
theorem dL_law_419 : decode cL_law 419 = .ok (.invokevirtual 55, 3) := by decide +kernel
theorem dL_law_422 : decode cL_law 422 = .ok (.aload_n 2, 1) := by decide +kernel
theorem dL_law_423 : decode cL_law 423 = .ok (.aload_n 0, 1) := by decide +kernel
theorem dL_law_424 : decode cL_law 424 = .ok (.iload_n 3, 1) := by decide +kernel
theorem dL_law_425 : decode cL_law 425 = .ok (.iconst 1, 1) := by decide +kernel
theorem dL_law_426 : decode cL_law 426 = .ok (.iadd, 1) := by decide +kernel
theorem dL_law_427 : decode cL_law 427 = .ok (.iaload, 1) := by decide +kernel
theorem dL_law_428 : decode cL_law 428 = .ok (.invokevirtual 58, 3) := by decide +kernel
theorem dL_law_431 : decode cL_law 431 = .ok (.if_icmp .eq 932, 3) := by decide +kernel
theorem dL_law_434 : decode cL_law 434 = .ok (.iconst 0, 1) := by decide +kernel
theorem dL_law_435 : decode cL_law 435 = .ok (.ireturn, 1) := by decide +kernel
theorem dL_law_436 : decode cL_law 436 = .ok (.aload_n 1, 1) := by decide +kernel
theorem dL_law_437 : decode cL_law 437 = .ok (.aload_n 0, 1) := by decide +kernel
theorem dL_law_438 : decode cL_law 438 = .ok (.iload_n 3, 1) := by decide +kernel
theorem dL_law_439 : decode cL_law 439 = .ok (.iconst 1, 1) := by decide +kernel
theorem dL_law_440 : decode cL_law 440 = .ok (.iadd, 1) := by decide +kernel
theorem dL_law_441 : decode cL_law 441 = .ok (.iaload, 1) := by decide +kernel
theorem dL_law_442 : decode cL_law 442 = .ok (.aload_n 0, 1) := by decide +kernel
theorem dL_law_443 : decode cL_law 443 = .ok (.iload_n 3, 1) := by decide +kernel
theorem dL_law_444 : decode cL_law 444 = .ok (.iconst 2, 1) := by decide +kernel
theorem dL_law_445 : decode cL_law 445 = .ok (.iadd, 1) := by decide +kernel
theorem dL_law_446 : decode cL_law 446 = .ok (.iaload, 1) := by decide +kernel
theorem dL_law_447 : decode cL_law 447 = .ok (.aload_n 0, 1) := by decide +kernel
theorem dL_law_448 : decode cL_law 448 = .ok (.iload_n 3, 1) := by decide +kernel
theorem dL_law_449 : decode cL_law 449 = .ok (.iconst 3, 1) := by decide +kernel
theorem dL_law_450 : decode cL_law 450 = .ok (.iadd, 1) := by decide +kernel
theorem dL_law_451 : decode cL_law 451 = .ok (.iaload, 1) := by decide +kernel
theorem dL_law_452 : decode cL_law 452 = .ok (.invokevirtual 59, 3) := by decide +kernel
theorem dL_law_455 : decode cL_law 455 = .ok (.aload_n 2, 1) := by decide +kernel
theorem dL_law_456 : decode cL_law 456 = .ok (.aload_n 0, 1) := by decide +kernel
theorem dL_law_457 : decode cL_law 457 = .ok (.iload_n 3, 1) := by decide +kernel
theorem dL_law_458 : decode cL_law 458 = .ok (.iconst 1, 1) := by decide +kernel
theorem dL_law_459 : decode cL_law 459 = .ok (.iadd, 1) := by decide +kernel
theorem dL_law_460 : decode cL_law 460 = .ok (.iaload, 1) := by decide +kernel
theorem dL_law_461 : decode cL_law 461 = .ok (.aload_n 0, 1) := by decide +kernel
theorem dL_law_462 : decode cL_law 462 = .ok (.iload_n 3, 1) := by decide +kernel
theorem dL_law_463 : decode cL_law 463 = .ok (.iconst 2, 1) := by decide +kernel
theorem dL_law_464 : decode cL_law 464 = .ok (.iadd, 1) := by decide +kernel
theorem dL_law_465 : decode cL_law 465 = .ok (.iaload, 1) := by decide +kernel
theorem dL_law_466 : decode cL_law 466 = .ok (.aload_n 0, 1) := by decide +kernel
theorem dL_law_467 : decode cL_law 467 = .ok (.iload_n 3, 1) := by decide +kernel
theorem dL_law_468 : decode cL_law 468 = .ok (.iconst 3, 1) := by decide +kernel
theorem dL_law_469 : decode cL_law 469 = .ok (.iadd, 1) := by decide +kernel
theorem dL_law_470 : decode cL_law 470 = .ok (.iaload, 1) := by decide +kernel
theorem dL_law_471 : decode cL_law 471 = .ok (.invokevirtual 63, 3) := by decide +kernel
theorem dL_law_474 : decode cL_law 474 = .ok (.if_icmp .eq 889, 3) := by decide +kernel
theorem dL_law_477 : decode cL_law 477 = .ok (.iconst 0, 1) := by decide +kernel
theorem dL_law_478 : decode cL_law 478 = .ok (.ireturn, 1) := by decide +kernel
theorem dL_law_479 : decode cL_law 479 = .ok (.aload_n 1, 1) := by decide +kernel
theorem dL_law_480 : decode cL_law 480 = .ok (.aload_n 0, 1) := by decide +kernel
theorem dL_law_481 : decode cL_law 481 = .ok (.iload_n 3, 1) := by decide +kernel
theorem dL_law_482 : decode cL_law 482 = .ok (.iconst 1, 1) := by decide +kernel
theorem dL_law_483 : decode cL_law 483 = .ok (.iadd, 1) := by decide +kernel
theorem dL_law_484 : decode cL_law 484 = .ok (.iaload, 1) := by decide +kernel
theorem dL_law_485 : decode cL_law 485 = .ok (.aload_n 0, 1) := by decide +kernel
theorem dL_law_486 : decode cL_law 486 = .ok (.iload_n 3, 1) := by decide +kernel
theorem dL_law_487 : decode cL_law 487 = .ok (.iconst 2, 1) := by decide +kernel
theorem dL_law_488 : decode cL_law 488 = .ok (.iadd, 1) := by decide +kernel
theorem dL_law_489 : decode cL_law 489 = .ok (.iaload, 1) := by decide +kernel
theorem dL_law_490 : decode cL_law 490 = .ok (.aload_n 0, 1) := by decide +kernel
theorem dL_law_491 : decode cL_law 491 = .ok (.iload_n 3, 1) := by decide +kernel
theorem dL_law_492 : decode cL_law 492 = .ok (.iconst 3, 1) := by decide +kernel
theorem dL_law_493 : decode cL_law 493 = .ok (.iadd, 1) := by decide +kernel
theorem dL_law_494 : decode cL_law 494 = .ok (.iaload, 1) := by decide +kernel
theorem dL_law_495 : decode cL_law 495 = .ok (.aload_n 0, 1) := by decide +kernel
theorem dL_law_496 : decode cL_law 496 = .ok (.iload_n 3, 1) := by decide +kernel
theorem dL_law_497 : decode cL_law 497 = .ok (.iconst 4, 1) := by decide +kernel
theorem dL_law_498 : decode cL_law 498 = .ok (.iadd, 1) := by decide +kernel
theorem dL_law_499 : decode cL_law 499 = .ok (.iaload, 1) := by decide +kernel
theorem dL_law_500 : decode cL_law 500 = .ok (.ifCond .eq 7, 3) := by decide +kernel
theorem dL_law_503 : decode cL_law 503 = .ok (.iconst 1, 1) := by decide +kernel
theorem dL_law_504 : decode cL_law 504 = .ok (.goto 4, 3) := by decide +kernel
theorem dL_law_507 : decode cL_law 507 = .ok (.iconst 0, 1) := by decide +kernel
theorem dL_law_508 : decode cL_law 508 = .ok (.invokevirtual 64, 3) := by decide +kernel
theorem dL_law_511 : decode cL_law 511 = .ok (.aload_n 2, 1) := by decide +kernel
theorem dL_law_512 : decode cL_law 512 = .ok (.aload_n 0, 1) := by decide +kernel
theorem dL_law_513 : decode cL_law 513 = .ok (.iload_n 3, 1) := by decide +kernel
theorem dL_law_514 : decode cL_law 514 = .ok (.iconst 1, 1) := by decide +kernel
theorem dL_law_515 : decode cL_law 515 = .ok (.iadd, 1) := by decide +kernel
theorem dL_law_516 : decode cL_law 516 = .ok (.iaload, 1) := by decide +kernel
theorem dL_law_517 : decode cL_law 517 = .ok (.aload_n 0, 1) := by decide +kernel
theorem dL_law_518 : decode cL_law 518 = .ok (.iload_n 3, 1) := by decide +kernel
theorem dL_law_519 : decode cL_law 519 = .ok (.iconst 2, 1) := by decide +kernel
theorem dL_law_520 : decode cL_law 520 = .ok (.iadd, 1) := by decide +kernel
theorem dL_law_521 : decode cL_law 521 = .ok (.iaload, 1) := by decide +kernel
theorem dL_law_522 : decode cL_law 522 = .ok (.aload_n 0, 1) := by decide +kernel
theorem dL_law_523 : decode cL_law 523 = .ok (.iload_n 3, 1) := by decide +kernel
theorem dL_law_524 : decode cL_law 524 = .ok (.iconst 3, 1) := by decide +kernel
theorem dL_law_525 : decode cL_law 525 = .ok (.iadd, 1) := by decide +kernel
theorem dL_law_526 : decode cL_law 526 = .ok (.iaload, 1) := by decide +kernel
theorem dL_law_527 : decode cL_law 527 = .ok (.aload_n 0, 1) := by decide +kernel
theorem dL_law_528 : decode cL_law 528 = .ok (.iload_n 3, 1) := by decide +kernel
theorem dL_law_529 : decode cL_law 529 = .ok (.iconst 4, 1) := by decide +kernel
theorem dL_law_530 : decode cL_law 530 = .ok (.iadd, 1) := by decide +kernel
theorem dL_law_531 : decode cL_law 531 = .ok (.iaload, 1) := by decide +kernel
theorem dL_law_532 : decode cL_law 532 = .ok (.ifCond .eq 7, 3) := by decide +kernel
theorem dL_law_535 : decode cL_law 535 = .ok (.iconst 1, 1) := by decide +kernel
theorem dL_law_536 : decode cL_law 536 = .ok (.goto 4, 3) := by decide +kernel
theorem dL_law_539 : decode cL_law 539 = .ok (.iconst 0, 1) := by decide +kernel
theorem dL_law_540 : decode cL_law 540 = .ok (.invokevirtual 68, 3) := by decide +kernel
theorem dL_law_543 : decode cL_law 543 = .ok (.if_icmp .eq 820, 3) := by decide +kernel
theorem dL_law_546 : decode cL_law 546 = .ok (.iconst 0, 1) := by decide +kernel
theorem dL_law_547 : decode cL_law 547 = .ok (.ireturn, 1) := by decide +kernel
theorem dL_law_548 : decode cL_law 548 = .ok (.aload_n 1, 1) := by decide +kernel
theorem dL_law_549 : decode cL_law 549 = .ok (.aload_n 0, 1) := by decide +kernel
theorem dL_law_550 : decode cL_law 550 = .ok (.iload_n 3, 1) := by decide +kernel
theorem dL_law_551 : decode cL_law 551 = .ok (.iconst 1, 1) := by decide +kernel
theorem dL_law_552 : decode cL_law 552 = .ok (.iadd, 1) := by decide +kernel
theorem dL_law_553 : decode cL_law 553 = .ok (.iaload, 1) := by decide +kernel
theorem dL_law_554 : decode cL_law 554 = .ok (.aload_n 0, 1) := by decide +kernel
theorem dL_law_555 : decode cL_law 555 = .ok (.iload_n 3, 1) := by decide +kernel
theorem dL_law_556 : decode cL_law 556 = .ok (.iconst 2, 1) := by decide +kernel
theorem dL_law_557 : decode cL_law 557 = .ok (.iadd, 1) := by decide +kernel
theorem dL_law_558 : decode cL_law 558 = .ok (.iaload, 1) := by decide +kernel
theorem dL_law_559 : decode cL_law 559 = .ok (.aload_n 0, 1) := by decide +kernel
theorem dL_law_560 : decode cL_law 560 = .ok (.iload_n 3, 1) := by decide +kernel
theorem dL_law_561 : decode cL_law 561 = .ok (.iconst 3, 1) := by decide +kernel
theorem dL_law_562 : decode cL_law 562 = .ok (.iadd, 1) := by decide +kernel
theorem dL_law_563 : decode cL_law 563 = .ok (.iaload, 1) := by decide +kernel
theorem dL_law_564 : decode cL_law 564 = .ok (.invokevirtual 69, 3) := by decide +kernel
theorem dL_law_567 : decode cL_law 567 = .ok (.aload_n 2, 1) := by decide +kernel
theorem dL_law_568 : decode cL_law 568 = .ok (.aload_n 0, 1) := by decide +kernel
theorem dL_law_569 : decode cL_law 569 = .ok (.iload_n 3, 1) := by decide +kernel
theorem dL_law_570 : decode cL_law 570 = .ok (.iconst 1, 1) := by decide +kernel
theorem dL_law_571 : decode cL_law 571 = .ok (.iadd, 1) := by decide +kernel
theorem dL_law_572 : decode cL_law 572 = .ok (.iaload, 1) := by decide +kernel
theorem dL_law_573 : decode cL_law 573 = .ok (.aload_n 0, 1) := by decide +kernel
theorem dL_law_574 : decode cL_law 574 = .ok (.iload_n 3, 1) := by decide +kernel
theorem dL_law_575 : decode cL_law 575 = .ok (.iconst 2, 1) := by decide +kernel
theorem dL_law_576 : decode cL_law 576 = .ok (.iadd, 1) := by decide +kernel
theorem dL_law_577 : decode cL_law 577 = .ok (.iaload, 1) := by decide +kernel
theorem dL_law_578 : decode cL_law 578 = .ok (.aload_n 0, 1) := by decide +kernel
theorem dL_law_579 : decode cL_law 579 = .ok (.iload_n 3, 1) := by decide +kernel
theorem dL_law_580 : decode cL_law 580 = .ok (.iconst 3, 1) := by decide +kernel
theorem dL_law_581 : decode cL_law 581 = .ok (.iadd, 1) := by decide +kernel
theorem dL_law_582 : decode cL_law 582 = .ok (.iaload, 1) := by decide +kernel
theorem dL_law_583 : decode cL_law 583 = .ok (.invokevirtual 72, 3) := by decide +kernel
theorem dL_law_586 : decode cL_law 586 = .ok (.if_icmp .eq 777, 3) := by decide +kernel
theorem dL_law_589 : decode cL_law 589 = .ok (.iconst 0, 1) := by decide +kernel
theorem dL_law_590 : decode cL_law 590 = .ok (.ireturn, 1) := by decide +kernel
theorem dL_law_591 : decode cL_law 591 = .ok (.aload_n 1, 1) := by decide +kernel
theorem dL_law_592 : decode cL_law 592 = .ok (.invokevirtual 73, 3) := by decide +kernel
theorem dL_law_595 : decode cL_law 595 = .ok (.aload_n 2, 1) := by decide +kernel
theorem dL_law_596 : decode cL_law 596 = .ok (.invokevirtual 76, 3) := by decide +kernel
theorem dL_law_599 : decode cL_law 599 = .ok (.if_icmp .eq 764, 3) := by decide +kernel
theorem dL_law_602 : decode cL_law 602 = .ok (.iconst 0, 1) := by decide +kernel
theorem dL_law_603 : decode cL_law 603 = .ok (.ireturn, 1) := by decide +kernel
theorem dL_law_604 : decode cL_law 604 = .ok (.aload_n 1, 1) := by decide +kernel
theorem dL_law_605 : decode cL_law 605 = .ok (.aload_n 0, 1) := by decide +kernel
theorem dL_law_606 : decode cL_law 606 = .ok (.iload_n 3, 1) := by decide +kernel
theorem dL_law_607 : decode cL_law 607 = .ok (.iconst 1, 1) := by decide +kernel
theorem dL_law_608 : decode cL_law 608 = .ok (.iadd, 1) := by decide +kernel
theorem dL_law_609 : decode cL_law 609 = .ok (.iaload, 1) := by decide +kernel
theorem dL_law_610 : decode cL_law 610 = .ok (.aload_n 0, 1) := by decide +kernel
theorem dL_law_611 : decode cL_law 611 = .ok (.iload_n 3, 1) := by decide +kernel
theorem dL_law_612 : decode cL_law 612 = .ok (.iconst 2, 1) := by decide +kernel
theorem dL_law_613 : decode cL_law 613 = .ok (.iadd, 1) := by decide +kernel
theorem dL_law_614 : decode cL_law 614 = .ok (.iaload, 1) := by decide +kernel
theorem dL_law_615 : decode cL_law 615 = .ok (.aload_n 0, 1) := by decide +kernel
theorem dL_law_616 : decode cL_law 616 = .ok (.iload_n 3, 1) := by decide +kernel
theorem dL_law_617 : decode cL_law 617 = .ok (.iconst 3, 1) := by decide +kernel
theorem dL_law_618 : decode cL_law 618 = .ok (.iadd, 1) := by decide +kernel
theorem dL_law_619 : decode cL_law 619 = .ok (.iaload, 1) := by decide +kernel
theorem dL_law_620 : decode cL_law 620 = .ok (.ifCond .eq 7, 3) := by decide +kernel
theorem dL_law_623 : decode cL_law 623 = .ok (.iconst 1, 1) := by decide +kernel
theorem dL_law_624 : decode cL_law 624 = .ok (.goto 4, 3) := by decide +kernel
theorem dL_law_627 : decode cL_law 627 = .ok (.iconst 0, 1) := by decide +kernel
theorem dL_law_628 : decode cL_law 628 = .ok (.invokevirtual 77, 3) := by decide +kernel
theorem dL_law_631 : decode cL_law 631 = .ok (.aload_n 2, 1) := by decide +kernel
theorem dL_law_632 : decode cL_law 632 = .ok (.aload_n 0, 1) := by decide +kernel
theorem dL_law_633 : decode cL_law 633 = .ok (.iload_n 3, 1) := by decide +kernel
theorem dL_law_634 : decode cL_law 634 = .ok (.iconst 1, 1) := by decide +kernel
theorem dL_law_635 : decode cL_law 635 = .ok (.iadd, 1) := by decide +kernel
theorem dL_law_636 : decode cL_law 636 = .ok (.iaload, 1) := by decide +kernel
theorem dL_law_637 : decode cL_law 637 = .ok (.aload_n 0, 1) := by decide +kernel
theorem dL_law_638 : decode cL_law 638 = .ok (.iload_n 3, 1) := by decide +kernel
theorem dL_law_639 : decode cL_law 639 = .ok (.iconst 2, 1) := by decide +kernel
theorem dL_law_640 : decode cL_law 640 = .ok (.iadd, 1) := by decide +kernel
theorem dL_law_641 : decode cL_law 641 = .ok (.iaload, 1) := by decide +kernel
theorem dL_law_642 : decode cL_law 642 = .ok (.aload_n 0, 1) := by decide +kernel
theorem dL_law_643 : decode cL_law 643 = .ok (.iload_n 3, 1) := by decide +kernel
theorem dL_law_644 : decode cL_law 644 = .ok (.iconst 3, 1) := by decide +kernel
theorem dL_law_645 : decode cL_law 645 = .ok (.iadd, 1) := by decide +kernel
theorem dL_law_646 : decode cL_law 646 = .ok (.iaload, 1) := by decide +kernel
theorem dL_law_647 : decode cL_law 647 = .ok (.ifCond .eq 7, 3) := by decide +kernel
theorem dL_law_650 : decode cL_law 650 = .ok (.iconst 1, 1) := by decide +kernel
theorem dL_law_651 : decode cL_law 651 = .ok (.goto 4, 3) := by decide +kernel
theorem dL_law_654 : decode cL_law 654 = .ok (.iconst 0, 1) := by decide +kernel
theorem dL_law_655 : decode cL_law 655 = .ok (.invokevirtual 81, 3) := by decide +kernel
theorem dL_law_658 : decode cL_law 658 = .ok (.if_icmp .eq 705, 3) := by decide +kernel
theorem dL_law_661 : decode cL_law 661 = .ok (.iconst 0, 1) := by decide +kernel
theorem dL_law_662 : decode cL_law 662 = .ok (.ireturn, 1) := by decide +kernel
theorem dL_law_663 : decode cL_law 663 = .ok (.aload_n 1, 1) := by decide +kernel
theorem dL_law_664 : decode cL_law 664 = .ok (.aload_n 0, 1) := by decide +kernel
theorem dL_law_665 : decode cL_law 665 = .ok (.iload_n 3, 1) := by decide +kernel
theorem dL_law_666 : decode cL_law 666 = .ok (.iconst 1, 1) := by decide +kernel
theorem dL_law_667 : decode cL_law 667 = .ok (.iadd, 1) := by decide +kernel
theorem dL_law_668 : decode cL_law 668 = .ok (.iaload, 1) := by decide +kernel
theorem dL_law_669 : decode cL_law 669 = .ok (.aload_n 0, 1) := by decide +kernel
theorem dL_law_670 : decode cL_law 670 = .ok (.iload_n 3, 1) := by decide +kernel
theorem dL_law_671 : decode cL_law 671 = .ok (.iconst 2, 1) := by decide +kernel
theorem dL_law_672 : decode cL_law 672 = .ok (.iadd, 1) := by decide +kernel
theorem dL_law_673 : decode cL_law 673 = .ok (.iaload, 1) := by decide +kernel
theorem dL_law_674 : decode cL_law 674 = .ok (.aload_n 0, 1) := by decide +kernel
theorem dL_law_675 : decode cL_law 675 = .ok (.iload_n 3, 1) := by decide +kernel
theorem dL_law_676 : decode cL_law 676 = .ok (.iconst 3, 1) := by decide +kernel
theorem dL_law_677 : decode cL_law 677 = .ok (.iadd, 1) := by decide +kernel
theorem dL_law_678 : decode cL_law 678 = .ok (.iaload, 1) := by decide +kernel
theorem dL_law_679 : decode cL_law 679 = .ok (.invokevirtual 82, 3) := by decide +kernel
theorem dL_law_682 : decode cL_law 682 = .ok (.aload_n 2, 1) := by decide +kernel
theorem dL_law_683 : decode cL_law 683 = .ok (.aload_n 0, 1) := by decide +kernel
theorem dL_law_684 : decode cL_law 684 = .ok (.iload_n 3, 1) := by decide +kernel
theorem dL_law_685 : decode cL_law 685 = .ok (.iconst 1, 1) := by decide +kernel
theorem dL_law_686 : decode cL_law 686 = .ok (.iadd, 1) := by decide +kernel
theorem dL_law_687 : decode cL_law 687 = .ok (.iaload, 1) := by decide +kernel
theorem dL_law_688 : decode cL_law 688 = .ok (.aload_n 0, 1) := by decide +kernel
theorem dL_law_689 : decode cL_law 689 = .ok (.iload_n 3, 1) := by decide +kernel
theorem dL_law_690 : decode cL_law 690 = .ok (.iconst 2, 1) := by decide +kernel
theorem dL_law_691 : decode cL_law 691 = .ok (.iadd, 1) := by decide +kernel
theorem dL_law_692 : decode cL_law 692 = .ok (.iaload, 1) := by decide +kernel
theorem dL_law_693 : decode cL_law 693 = .ok (.aload_n 0, 1) := by decide +kernel
theorem dL_law_694 : decode cL_law 694 = .ok (.iload_n 3, 1) := by decide +kernel
theorem dL_law_695 : decode cL_law 695 = .ok (.iconst 3, 1) := by decide +kernel
theorem dL_law_696 : decode cL_law 696 = .ok (.iadd, 1) := by decide +kernel
theorem dL_law_697 : decode cL_law 697 = .ok (.iaload, 1) := by decide +kernel
theorem dL_law_698 : decode cL_law 698 = .ok (.invokevirtual 85, 3) := by decide +kernel
theorem dL_law_701 : decode cL_law 701 = .ok (.if_icmp .eq 662, 3) := by decide +kernel
theorem dL_law_704 : decode cL_law 704 = .ok (.iconst 0, 1) := by decide +kernel
theorem dL_law_705 : decode cL_law 705 = .ok (.ireturn, 1) := by decide +kernel
theorem dL_law_706 : decode cL_law 706 = .ok (.aload_n 1, 1) := by decide +kernel
theorem dL_law_707 : decode cL_law 707 = .ok (.aload_n 0, 1) := by decide +kernel
theorem dL_law_708 : decode cL_law 708 = .ok (.iload_n 3, 1) := by decide +kernel
theorem dL_law_709 : decode cL_law 709 = .ok (.iconst 1, 1) := by decide +kernel
theorem dL_law_710 : decode cL_law 710 = .ok (.iadd, 1) := by decide +kernel
theorem dL_law_711 : decode cL_law 711 = .ok (.iaload, 1) := by decide +kernel
theorem dL_law_712 : decode cL_law 712 = .ok (.aload_n 0, 1) := by decide +kernel
theorem dL_law_713 : decode cL_law 713 = .ok (.iload_n 3, 1) := by decide +kernel
theorem dL_law_714 : decode cL_law 714 = .ok (.iconst 2, 1) := by decide +kernel
theorem dL_law_715 : decode cL_law 715 = .ok (.iadd, 1) := by decide +kernel
theorem dL_law_716 : decode cL_law 716 = .ok (.iaload, 1) := by decide +kernel
theorem dL_law_717 : decode cL_law 717 = .ok (.ifCond .eq 7, 3) := by decide +kernel
theorem dL_law_720 : decode cL_law 720 = .ok (.iconst 1, 1) := by decide +kernel
theorem dL_law_721 : decode cL_law 721 = .ok (.goto 4, 3) := by decide +kernel
theorem dL_law_724 : decode cL_law 724 = .ok (.iconst 0, 1) := by decide +kernel
theorem dL_law_725 : decode cL_law 725 = .ok (.invokevirtual 86, 3) := by decide +kernel
theorem dL_law_728 : decode cL_law 728 = .ok (.aload_n 2, 1) := by decide +kernel
theorem dL_law_729 : decode cL_law 729 = .ok (.aload_n 0, 1) := by decide +kernel
theorem dL_law_730 : decode cL_law 730 = .ok (.iload_n 3, 1) := by decide +kernel
theorem dL_law_731 : decode cL_law 731 = .ok (.iconst 1, 1) := by decide +kernel
theorem dL_law_732 : decode cL_law 732 = .ok (.iadd, 1) := by decide +kernel
theorem dL_law_733 : decode cL_law 733 = .ok (.iaload, 1) := by decide +kernel
theorem dL_law_734 : decode cL_law 734 = .ok (.aload_n 0, 1) := by decide +kernel
theorem dL_law_735 : decode cL_law 735 = .ok (.iload_n 3, 1) := by decide +kernel
theorem dL_law_736 : decode cL_law 736 = .ok (.iconst 2, 1) := by decide +kernel
theorem dL_law_737 : decode cL_law 737 = .ok (.iadd, 1) := by decide +kernel
theorem dL_law_738 : decode cL_law 738 = .ok (.iaload, 1) := by decide +kernel
theorem dL_law_739 : decode cL_law 739 = .ok (.ifCond .eq 7, 3) := by decide +kernel
theorem dL_law_742 : decode cL_law 742 = .ok (.iconst 1, 1) := by decide +kernel
theorem dL_law_743 : decode cL_law 743 = .ok (.goto 4, 3) := by decide +kernel
theorem dL_law_746 : decode cL_law 746 = .ok (.iconst 0, 1) := by decide +kernel
theorem dL_law_747 : decode cL_law 747 = .ok (.invokevirtual 90, 3) := by decide +kernel
theorem dL_law_750 : decode cL_law 750 = .ok (.if_icmp .eq 613, 3) := by decide +kernel
theorem dL_law_753 : decode cL_law 753 = .ok (.iconst 0, 1) := by decide +kernel
theorem dL_law_754 : decode cL_law 754 = .ok (.ireturn, 1) := by decide +kernel
theorem dL_law_755 : decode cL_law 755 = .ok (.aload_n 1, 1) := by decide +kernel
theorem dL_law_756 : decode cL_law 756 = .ok (.aload_n 0, 1) := by decide +kernel
theorem dL_law_757 : decode cL_law 757 = .ok (.iload_n 3, 1) := by decide +kernel
theorem dL_law_758 : decode cL_law 758 = .ok (.iconst 1, 1) := by decide +kernel
theorem dL_law_759 : decode cL_law 759 = .ok (.iadd, 1) := by decide +kernel
theorem dL_law_760 : decode cL_law 760 = .ok (.iaload, 1) := by decide +kernel
theorem dL_law_761 : decode cL_law 761 = .ok (.aload_n 0, 1) := by decide +kernel
theorem dL_law_762 : decode cL_law 762 = .ok (.iload_n 3, 1) := by decide +kernel
theorem dL_law_763 : decode cL_law 763 = .ok (.iconst 2, 1) := by decide +kernel
theorem dL_law_764 : decode cL_law 764 = .ok (.iadd, 1) := by decide +kernel
theorem dL_law_765 : decode cL_law 765 = .ok (.iaload, 1) := by decide +kernel
theorem dL_law_766 : decode cL_law 766 = .ok (.i2l, 1) := by decide +kernel
theorem dL_law_767 : decode cL_law 767 = .ok (.bipush 32, 2) := by decide +kernel
theorem dL_law_769 : decode cL_law 769 = .ok (.lshl, 1) := by decide +kernel
theorem dL_law_770 : decode cL_law 770 = .ok (.aload_n 0, 1) := by decide +kernel
theorem dL_law_771 : decode cL_law 771 = .ok (.iload_n 3, 1) := by decide +kernel
theorem dL_law_772 : decode cL_law 772 = .ok (.iconst 3, 1) := by decide +kernel
theorem dL_law_773 : decode cL_law 773 = .ok (.iadd, 1) := by decide +kernel
theorem dL_law_774 : decode cL_law 774 = .ok (.iaload, 1) := by decide +kernel
theorem dL_law_775 : decode cL_law 775 = .ok (.i2l, 1) := by decide +kernel
theorem dL_law_776 : decode cL_law 776 = .ok (.ldc2_w 13, 3) := by decide +kernel
theorem dL_law_779 : decode cL_law 779 = .ok (.land, 1) := by decide +kernel
theorem dL_law_780 : decode cL_law 780 = .ok (.lor, 1) := by decide +kernel
theorem dL_law_781 : decode cL_law 781 = .ok (.invokevirtual 91, 3) := by decide +kernel
theorem dL_law_784 : decode cL_law 784 = .ok (.aload_n 2, 1) := by decide +kernel
theorem dL_law_785 : decode cL_law 785 = .ok (.aload_n 0, 1) := by decide +kernel
theorem dL_law_786 : decode cL_law 786 = .ok (.iload_n 3, 1) := by decide +kernel
theorem dL_law_787 : decode cL_law 787 = .ok (.iconst 1, 1) := by decide +kernel
theorem dL_law_788 : decode cL_law 788 = .ok (.iadd, 1) := by decide +kernel
theorem dL_law_789 : decode cL_law 789 = .ok (.iaload, 1) := by decide +kernel
theorem dL_law_790 : decode cL_law 790 = .ok (.aload_n 0, 1) := by decide +kernel
theorem dL_law_791 : decode cL_law 791 = .ok (.iload_n 3, 1) := by decide +kernel
theorem dL_law_792 : decode cL_law 792 = .ok (.iconst 2, 1) := by decide +kernel
theorem dL_law_793 : decode cL_law 793 = .ok (.iadd, 1) := by decide +kernel
theorem dL_law_794 : decode cL_law 794 = .ok (.iaload, 1) := by decide +kernel
theorem dL_law_795 : decode cL_law 795 = .ok (.i2l, 1) := by decide +kernel
theorem dL_law_796 : decode cL_law 796 = .ok (.bipush 32, 2) := by decide +kernel
theorem dL_law_798 : decode cL_law 798 = .ok (.lshl, 1) := by decide +kernel
theorem dL_law_799 : decode cL_law 799 = .ok (.aload_n 0, 1) := by decide +kernel
theorem dL_law_800 : decode cL_law 800 = .ok (.iload_n 3, 1) := by decide +kernel
theorem dL_law_801 : decode cL_law 801 = .ok (.iconst 3, 1) := by decide +kernel
theorem dL_law_802 : decode cL_law 802 = .ok (.iadd, 1) := by decide +kernel
theorem dL_law_803 : decode cL_law 803 = .ok (.iaload, 1) := by decide +kernel
theorem dL_law_804 : decode cL_law 804 = .ok (.i2l, 1) := by decide +kernel
theorem dL_law_805 : decode cL_law 805 = .ok (.ldc2_w 13, 3) := by decide +kernel
theorem dL_law_808 : decode cL_law 808 = .ok (.land, 1) := by decide +kernel
theorem dL_law_809 : decode cL_law 809 = .ok (.lor, 1) := by decide +kernel
theorem dL_law_810 : decode cL_law 810 = .ok (.invokevirtual 94, 3) := by decide +kernel
theorem dL_law_813 : decode cL_law 813 = .ok (.if_icmp .eq 550, 3) := by decide +kernel
theorem dL_law_816 : decode cL_law 816 = .ok (.iconst 0, 1) := by decide +kernel
theorem dL_law_817 : decode cL_law 817 = .ok (.ireturn, 1) := by decide +kernel
theorem dL_law_818 : decode cL_law 818 = .ok (.aload_n 1, 1) := by decide +kernel
theorem dL_law_819 : decode cL_law 819 = .ok (.aload_n 0, 1) := by decide +kernel
theorem dL_law_820 : decode cL_law 820 = .ok (.iload_n 3, 1) := by decide +kernel
theorem dL_law_821 : decode cL_law 821 = .ok (.iconst 1, 1) := by decide +kernel
theorem dL_law_822 : decode cL_law 822 = .ok (.iadd, 1) := by decide +kernel
theorem dL_law_823 : decode cL_law 823 = .ok (.iaload, 1) := by decide +kernel
theorem dL_law_824 : decode cL_law 824 = .ok (.aload_n 0, 1) := by decide +kernel
theorem dL_law_825 : decode cL_law 825 = .ok (.iload_n 3, 1) := by decide +kernel
theorem dL_law_826 : decode cL_law 826 = .ok (.iconst 2, 1) := by decide +kernel
theorem dL_law_827 : decode cL_law 827 = .ok (.iadd, 1) := by decide +kernel
theorem dL_law_828 : decode cL_law 828 = .ok (.iaload, 1) := by decide +kernel
theorem dL_law_829 : decode cL_law 829 = .ok (.i2l, 1) := by decide +kernel
theorem dL_law_830 : decode cL_law 830 = .ok (.bipush 32, 2) := by decide +kernel
theorem dL_law_832 : decode cL_law 832 = .ok (.lshl, 1) := by decide +kernel
theorem dL_law_833 : decode cL_law 833 = .ok (.aload_n 0, 1) := by decide +kernel
theorem dL_law_834 : decode cL_law 834 = .ok (.iload_n 3, 1) := by decide +kernel
theorem dL_law_835 : decode cL_law 835 = .ok (.iconst 3, 1) := by decide +kernel
theorem dL_law_836 : decode cL_law 836 = .ok (.iadd, 1) := by decide +kernel
theorem dL_law_837 : decode cL_law 837 = .ok (.iaload, 1) := by decide +kernel
theorem dL_law_838 : decode cL_law 838 = .ok (.i2l, 1) := by decide +kernel
theorem dL_law_839 : decode cL_law 839 = .ok (.ldc2_w 13, 3) := by decide +kernel
theorem dL_law_842 : decode cL_law 842 = .ok (.land, 1) := by decide +kernel
theorem dL_law_843 : decode cL_law 843 = .ok (.lor, 1) := by decide +kernel
theorem dL_law_844 : decode cL_law 844 = .ok (.invokevirtual 95, 3) := by decide +kernel
theorem dL_law_847 : decode cL_law 847 = .ok (.aload_n 2, 1) := by decide +kernel
theorem dL_law_848 : decode cL_law 848 = .ok (.aload_n 0, 1) := by decide +kernel
theorem dL_law_849 : decode cL_law 849 = .ok (.iload_n 3, 1) := by decide +kernel
theorem dL_law_850 : decode cL_law 850 = .ok (.iconst 1, 1) := by decide +kernel
theorem dL_law_851 : decode cL_law 851 = .ok (.iadd, 1) := by decide +kernel
theorem dL_law_852 : decode cL_law 852 = .ok (.iaload, 1) := by decide +kernel
theorem dL_law_853 : decode cL_law 853 = .ok (.aload_n 0, 1) := by decide +kernel
theorem dL_law_854 : decode cL_law 854 = .ok (.iload_n 3, 1) := by decide +kernel
theorem dL_law_855 : decode cL_law 855 = .ok (.iconst 2, 1) := by decide +kernel
theorem dL_law_856 : decode cL_law 856 = .ok (.iadd, 1) := by decide +kernel
theorem dL_law_857 : decode cL_law 857 = .ok (.iaload, 1) := by decide +kernel
theorem dL_law_858 : decode cL_law 858 = .ok (.i2l, 1) := by decide +kernel
theorem dL_law_859 : decode cL_law 859 = .ok (.bipush 32, 2) := by decide +kernel
theorem dL_law_861 : decode cL_law 861 = .ok (.lshl, 1) := by decide +kernel
theorem dL_law_862 : decode cL_law 862 = .ok (.aload_n 0, 1) := by decide +kernel
theorem dL_law_863 : decode cL_law 863 = .ok (.iload_n 3, 1) := by decide +kernel
theorem dL_law_864 : decode cL_law 864 = .ok (.iconst 3, 1) := by decide +kernel
theorem dL_law_865 : decode cL_law 865 = .ok (.iadd, 1) := by decide +kernel
theorem dL_law_866 : decode cL_law 866 = .ok (.iaload, 1) := by decide +kernel
theorem dL_law_867 : decode cL_law 867 = .ok (.i2l, 1) := by decide +kernel
theorem dL_law_868 : decode cL_law 868 = .ok (.ldc2_w 13, 3) := by decide +kernel
theorem dL_law_871 : decode cL_law 871 = .ok (.land, 1) := by decide +kernel
theorem dL_law_872 : decode cL_law 872 = .ok (.lor, 1) := by decide +kernel
theorem dL_law_873 : decode cL_law 873 = .ok (.invokevirtual 98, 3) := by decide +kernel
theorem dL_law_876 : decode cL_law 876 = .ok (.if_icmp .eq 487, 3) := by decide +kernel
theorem dL_law_879 : decode cL_law 879 = .ok (.iconst 0, 1) := by decide +kernel
theorem dL_law_880 : decode cL_law 880 = .ok (.ireturn, 1) := by decide +kernel
theorem dL_law_881 : decode cL_law 881 = .ok (.aload_n 1, 1) := by decide +kernel
theorem dL_law_882 : decode cL_law 882 = .ok (.aload_n 0, 1) := by decide +kernel
theorem dL_law_883 : decode cL_law 883 = .ok (.iload_n 3, 1) := by decide +kernel
theorem dL_law_884 : decode cL_law 884 = .ok (.iconst 1, 1) := by decide +kernel
theorem dL_law_885 : decode cL_law 885 = .ok (.iadd, 1) := by decide +kernel
theorem dL_law_886 : decode cL_law 886 = .ok (.iaload, 1) := by decide +kernel
theorem dL_law_887 : decode cL_law 887 = .ok (.aload_n 0, 1) := by decide +kernel
theorem dL_law_888 : decode cL_law 888 = .ok (.iload_n 3, 1) := by decide +kernel
theorem dL_law_889 : decode cL_law 889 = .ok (.iconst 2, 1) := by decide +kernel
theorem dL_law_890 : decode cL_law 890 = .ok (.iadd, 1) := by decide +kernel
theorem dL_law_891 : decode cL_law 891 = .ok (.iaload, 1) := by decide +kernel
theorem dL_law_892 : decode cL_law 892 = .ok (.invokevirtual 99, 3) := by decide +kernel
theorem dL_law_895 : decode cL_law 895 = .ok (.aload_n 2, 1) := by decide +kernel
theorem dL_law_896 : decode cL_law 896 = .ok (.aload_n 0, 1) := by decide +kernel
theorem dL_law_897 : decode cL_law 897 = .ok (.iload_n 3, 1) := by decide +kernel
theorem dL_law_898 : decode cL_law 898 = .ok (.iconst 1, 1) := by decide +kernel
theorem dL_law_899 : decode cL_law 899 = .ok (.iadd, 1) := by decide +kernel
theorem dL_law_900 : decode cL_law 900 = .ok (.iaload, 1) := by decide +kernel
theorem dL_law_901 : decode cL_law 901 = .ok (.aload_n 0, 1) := by decide +kernel
theorem dL_law_902 : decode cL_law 902 = .ok (.iload_n 3, 1) := by decide +kernel
theorem dL_law_903 : decode cL_law 903 = .ok (.iconst 2, 1) := by decide +kernel
theorem dL_law_904 : decode cL_law 904 = .ok (.iadd, 1) := by decide +kernel
theorem dL_law_905 : decode cL_law 905 = .ok (.iaload, 1) := by decide +kernel
theorem dL_law_906 : decode cL_law 906 = .ok (.invokevirtual 102, 3) := by decide +kernel
theorem dL_law_909 : decode cL_law 909 = .ok (.if_icmp .eq 454, 3) := by decide +kernel
theorem dL_law_912 : decode cL_law 912 = .ok (.iconst 0, 1) := by decide +kernel
theorem dL_law_913 : decode cL_law 913 = .ok (.ireturn, 1) := by decide +kernel
theorem dL_law_914 : decode cL_law 914 = .ok (.aload_n 1, 1) := by decide +kernel
theorem dL_law_915 : decode cL_law 915 = .ok (.aload_n 0, 1) := by decide +kernel
theorem dL_law_916 : decode cL_law 916 = .ok (.iload_n 3, 1) := by decide +kernel
theorem dL_law_917 : decode cL_law 917 = .ok (.iconst 1, 1) := by decide +kernel
theorem dL_law_918 : decode cL_law 918 = .ok (.iadd, 1) := by decide +kernel
theorem dL_law_919 : decode cL_law 919 = .ok (.iaload, 1) := by decide +kernel
theorem dL_law_920 : decode cL_law 920 = .ok (.aload_n 0, 1) := by decide +kernel
theorem dL_law_921 : decode cL_law 921 = .ok (.iload_n 3, 1) := by decide +kernel
theorem dL_law_922 : decode cL_law 922 = .ok (.iconst 2, 1) := by decide +kernel
theorem dL_law_923 : decode cL_law 923 = .ok (.iadd, 1) := by decide +kernel
theorem dL_law_924 : decode cL_law 924 = .ok (.iaload, 1) := by decide +kernel
theorem dL_law_925 : decode cL_law 925 = .ok (.invokevirtual 103, 3) := by decide +kernel
theorem dL_law_928 : decode cL_law 928 = .ok (.aload_n 2, 1) := by decide +kernel
theorem dL_law_929 : decode cL_law 929 = .ok (.aload_n 0, 1) := by decide +kernel
theorem dL_law_930 : decode cL_law 930 = .ok (.iload_n 3, 1) := by decide +kernel
theorem dL_law_931 : decode cL_law 931 = .ok (.iconst 1, 1) := by decide +kernel
theorem dL_law_932 : decode cL_law 932 = .ok (.iadd, 1) := by decide +kernel
theorem dL_law_933 : decode cL_law 933 = .ok (.iaload, 1) := by decide +kernel
theorem dL_law_934 : decode cL_law 934 = .ok (.aload_n 0, 1) := by decide +kernel
theorem dL_law_935 : decode cL_law 935 = .ok (.iload_n 3, 1) := by decide +kernel
theorem dL_law_936 : decode cL_law 936 = .ok (.iconst 2, 1) := by decide +kernel
theorem dL_law_937 : decode cL_law 937 = .ok (.iadd, 1) := by decide +kernel
theorem dL_law_938 : decode cL_law 938 = .ok (.iaload, 1) := by decide +kernel
theorem dL_law_939 : decode cL_law 939 = .ok (.invokevirtual 106, 3) := by decide +kernel
theorem dL_law_942 : decode cL_law 942 = .ok (.if_icmp .eq 421, 3) := by decide +kernel
theorem dL_law_945 : decode cL_law 945 = .ok (.iconst 0, 1) := by decide +kernel
theorem dL_law_946 : decode cL_law 946 = .ok (.ireturn, 1) := by decide +kernel
theorem dL_law_947 : decode cL_law 947 = .ok (.aload_n 1, 1) := by decide +kernel
theorem dL_law_948 : decode cL_law 948 = .ok (.aload_n 0, 1) := by decide +kernel
theorem dL_law_949 : decode cL_law 949 = .ok (.iload_n 3, 1) := by decide +kernel
theorem dL_law_950 : decode cL_law 950 = .ok (.iconst 1, 1) := by decide +kernel
theorem dL_law_951 : decode cL_law 951 = .ok (.iadd, 1) := by decide +kernel
theorem dL_law_952 : decode cL_law 952 = .ok (.iaload, 1) := by decide +kernel
theorem dL_law_953 : decode cL_law 953 = .ok (.aload_n 0, 1) := by decide +kernel
theorem dL_law_954 : decode cL_law 954 = .ok (.iload_n 3, 1) := by decide +kernel
theorem dL_law_955 : decode cL_law 955 = .ok (.iconst 2, 1) := by decide +kernel
theorem dL_law_956 : decode cL_law 956 = .ok (.iadd, 1) := by decide +kernel
theorem dL_law_957 : decode cL_law 957 = .ok (.iaload, 1) := by decide +kernel
theorem dL_law_958 : decode cL_law 958 = .ok (.invokevirtual 107, 3) := by decide +kernel
theorem dL_law_961 : decode cL_law 961 = .ok (.aload_n 2, 1) := by decide +kernel
theorem dL_law_962 : decode cL_law 962 = .ok (.aload_n 0, 1) := by decide +kernel
theorem dL_law_963 : decode cL_law 963 = .ok (.iload_n 3, 1) := by decide +kernel
theorem dL_law_964 : decode cL_law 964 = .ok (.iconst 1, 1) := by decide +kernel
theorem dL_law_965 : decode cL_law 965 = .ok (.iadd, 1) := by decide +kernel
theorem dL_law_966 : decode cL_law 966 = .ok (.iaload, 1) := by decide +kernel
theorem dL_law_967 : decode cL_law 967 = .ok (.aload_n 0, 1) := by decide +kernel
theorem dL_law_968 : decode cL_law 968 = .ok (.iload_n 3, 1) := by decide +kernel
theorem dL_law_969 : decode cL_law 969 = .ok (.iconst 2, 1) := by decide +kernel
theorem dL_law_970 : decode cL_law 970 = .ok (.iadd, 1) := by decide +kernel
theorem dL_law_971 : decode cL_law 971 = .ok (.iaload, 1) := by decide +kernel
theorem dL_law_972 : decode cL_law 972 = .ok (.invokevirtual 110, 3) := by decide +kernel
theorem dL_law_975 : decode cL_law 975 = .ok (.if_icmp .eq 388, 3) := by decide +kernel
theorem dL_law_978 : decode cL_law 978 = .ok (.iconst 0, 1) := by decide +kernel
theorem dL_law_979 : decode cL_law 979 = .ok (.ireturn, 1) := by decide +kernel
theorem dL_law_980 : decode cL_law 980 = .ok (.aload_n 1, 1) := by decide +kernel
theorem dL_law_981 : decode cL_law 981 = .ok (.aload_n 0, 1) := by decide +kernel
theorem dL_law_982 : decode cL_law 982 = .ok (.iload_n 3, 1) := by decide +kernel
theorem dL_law_983 : decode cL_law 983 = .ok (.iconst 1, 1) := by decide +kernel
theorem dL_law_984 : decode cL_law 984 = .ok (.iadd, 1) := by decide +kernel
theorem dL_law_985 : decode cL_law 985 = .ok (.iaload, 1) := by decide +kernel
theorem dL_law_986 : decode cL_law 986 = .ok (.aload_n 0, 1) := by decide +kernel
theorem dL_law_987 : decode cL_law 987 = .ok (.iload_n 3, 1) := by decide +kernel
theorem dL_law_988 : decode cL_law 988 = .ok (.iconst 2, 1) := by decide +kernel
theorem dL_law_989 : decode cL_law 989 = .ok (.iadd, 1) := by decide +kernel
theorem dL_law_990 : decode cL_law 990 = .ok (.iaload, 1) := by decide +kernel
theorem dL_law_991 : decode cL_law 991 = .ok (.aload_n 0, 1) := by decide +kernel
theorem dL_law_992 : decode cL_law 992 = .ok (.iload_n 3, 1) := by decide +kernel
theorem dL_law_993 : decode cL_law 993 = .ok (.iconst 3, 1) := by decide +kernel
theorem dL_law_994 : decode cL_law 994 = .ok (.iadd, 1) := by decide +kernel
theorem dL_law_995 : decode cL_law 995 = .ok (.iaload, 1) := by decide +kernel
theorem dL_law_996 : decode cL_law 996 = .ok (.aload_n 0, 1) := by decide +kernel
theorem dL_law_997 : decode cL_law 997 = .ok (.iload_n 3, 1) := by decide +kernel
theorem dL_law_998 : decode cL_law 998 = .ok (.iconst 4, 1) := by decide +kernel
theorem dL_law_999 : decode cL_law 999 = .ok (.iadd, 1) := by decide +kernel
theorem dL_law_1000 : decode cL_law 1000 = .ok (.iaload, 1) := by decide +kernel
theorem dL_law_1001 : decode cL_law 1001 = .ok (.aload_n 0, 1) := by decide +kernel
theorem dL_law_1002 : decode cL_law 1002 = .ok (.iload_n 3, 1) := by decide +kernel
theorem dL_law_1003 : decode cL_law 1003 = .ok (.iconst 5, 1) := by decide +kernel
theorem dL_law_1004 : decode cL_law 1004 = .ok (.iadd, 1) := by decide +kernel
theorem dL_law_1005 : decode cL_law 1005 = .ok (.iaload, 1) := by decide +kernel
theorem dL_law_1006 : decode cL_law 1006 = .ok (.aload_n 0, 1) := by decide +kernel
theorem dL_law_1007 : decode cL_law 1007 = .ok (.iload_n 3, 1) := by decide +kernel
theorem dL_law_1008 : decode cL_law 1008 = .ok (.bipush 6, 2) := by decide +kernel
theorem dL_law_1010 : decode cL_law 1010 = .ok (.iadd, 1) := by decide +kernel
theorem dL_law_1011 : decode cL_law 1011 = .ok (.iaload, 1) := by decide +kernel
theorem dL_law_1012 : decode cL_law 1012 = .ok (.ifCond .eq 7, 3) := by decide +kernel
theorem dL_law_1015 : decode cL_law 1015 = .ok (.iconst 1, 1) := by decide +kernel
theorem dL_law_1016 : decode cL_law 1016 = .ok (.goto 4, 3) := by decide +kernel
theorem dL_law_1019 : decode cL_law 1019 = .ok (.iconst 0, 1) := by decide +kernel
theorem dL_law_1020 : decode cL_law 1020 = .ok (.invokevirtual 111, 3) := by decide +kernel
theorem dL_law_1023 : decode cL_law 1023 = .ok (.aload_n 2, 1) := by decide +kernel
theorem dL_law_1024 : decode cL_law 1024 = .ok (.aload_n 0, 1) := by decide +kernel
theorem dL_law_1025 : decode cL_law 1025 = .ok (.iload_n 3, 1) := by decide +kernel
theorem dL_law_1026 : decode cL_law 1026 = .ok (.iconst 1, 1) := by decide +kernel
theorem dL_law_1027 : decode cL_law 1027 = .ok (.iadd, 1) := by decide +kernel
theorem dL_law_1028 : decode cL_law 1028 = .ok (.iaload, 1) := by decide +kernel
theorem dL_law_1029 : decode cL_law 1029 = .ok (.aload_n 0, 1) := by decide +kernel
theorem dL_law_1030 : decode cL_law 1030 = .ok (.iload_n 3, 1) := by decide +kernel
theorem dL_law_1031 : decode cL_law 1031 = .ok (.iconst 2, 1) := by decide +kernel
theorem dL_law_1032 : decode cL_law 1032 = .ok (.iadd, 1) := by decide +kernel
theorem dL_law_1033 : decode cL_law 1033 = .ok (.iaload, 1) := by decide +kernel
theorem dL_law_1034 : decode cL_law 1034 = .ok (.aload_n 0, 1) := by decide +kernel
theorem dL_law_1035 : decode cL_law 1035 = .ok (.iload_n 3, 1) := by decide +kernel
theorem dL_law_1036 : decode cL_law 1036 = .ok (.iconst 3, 1) := by decide +kernel
theorem dL_law_1037 : decode cL_law 1037 = .ok (.iadd, 1) := by decide +kernel
theorem dL_law_1038 : decode cL_law 1038 = .ok (.iaload, 1) := by decide +kernel
theorem dL_law_1039 : decode cL_law 1039 = .ok (.aload_n 0, 1) := by decide +kernel
theorem dL_law_1040 : decode cL_law 1040 = .ok (.iload_n 3, 1) := by decide +kernel
theorem dL_law_1041 : decode cL_law 1041 = .ok (.iconst 4, 1) := by decide +kernel
theorem dL_law_1042 : decode cL_law 1042 = .ok (.iadd, 1) := by decide +kernel
theorem dL_law_1043 : decode cL_law 1043 = .ok (.iaload, 1) := by decide +kernel
theorem dL_law_1044 : decode cL_law 1044 = .ok (.aload_n 0, 1) := by decide +kernel
theorem dL_law_1045 : decode cL_law 1045 = .ok (.iload_n 3, 1) := by decide +kernel
theorem dL_law_1046 : decode cL_law 1046 = .ok (.iconst 5, 1) := by decide +kernel
theorem dL_law_1047 : decode cL_law 1047 = .ok (.iadd, 1) := by decide +kernel
theorem dL_law_1048 : decode cL_law 1048 = .ok (.iaload, 1) := by decide +kernel
theorem dL_law_1049 : decode cL_law 1049 = .ok (.aload_n 0, 1) := by decide +kernel
theorem dL_law_1050 : decode cL_law 1050 = .ok (.iload_n 3, 1) := by decide +kernel
theorem dL_law_1051 : decode cL_law 1051 = .ok (.bipush 6, 2) := by decide +kernel
theorem dL_law_1053 : decode cL_law 1053 = .ok (.iadd, 1) := by decide +kernel
theorem dL_law_1054 : decode cL_law 1054 = .ok (.iaload, 1) := by decide +kernel
theorem dL_law_1055 : decode cL_law 1055 = .ok (.ifCond .eq 7, 3) := by decide +kernel
theorem dL_law_1058 : decode cL_law 1058 = .ok (.iconst 1, 1) := by decide +kernel
theorem dL_law_1059 : decode cL_law 1059 = .ok (.goto 4, 3) := by decide +kernel
theorem dL_law_1062 : decode cL_law 1062 = .ok (.iconst 0, 1) := by decide +kernel
theorem dL_law_1063 : decode cL_law 1063 = .ok (.invokevirtual 115, 3) := by decide +kernel
theorem dL_law_1066 : decode cL_law 1066 = .ok (.lcmp, 1) := by decide +kernel
theorem dL_law_1067 : decode cL_law 1067 = .ok (.ifCond .eq 296, 3) := by decide +kernel
theorem dL_law_1070 : decode cL_law 1070 = .ok (.iconst 0, 1) := by decide +kernel
theorem dL_law_1071 : decode cL_law 1071 = .ok (.ireturn, 1) := by decide +kernel
theorem dL_law_1072 : decode cL_law 1072 = .ok (.aload_n 1, 1) := by decide +kernel
theorem dL_law_1073 : decode cL_law 1073 = .ok (.aload_n 0, 1) := by decide +kernel
theorem dL_law_1074 : decode cL_law 1074 = .ok (.iload_n 3, 1) := by decide +kernel
theorem dL_law_1075 : decode cL_law 1075 = .ok (.iconst 1, 1) := by decide +kernel
theorem dL_law_1076 : decode cL_law 1076 = .ok (.iadd, 1) := by decide +kernel
theorem dL_law_1077 : decode cL_law 1077 = .ok (.iaload, 1) := by decide +kernel
theorem dL_law_1078 : decode cL_law 1078 = .ok (.aload_n 0, 1) := by decide +kernel
theorem dL_law_1079 : decode cL_law 1079 = .ok (.iload_n 3, 1) := by decide +kernel
theorem dL_law_1080 : decode cL_law 1080 = .ok (.iconst 2, 1) := by decide +kernel
theorem dL_law_1081 : decode cL_law 1081 = .ok (.iadd, 1) := by decide +kernel
theorem dL_law_1082 : decode cL_law 1082 = .ok (.iaload, 1) := by decide +kernel
theorem dL_law_1083 : decode cL_law 1083 = .ok (.aload_n 0, 1) := by decide +kernel
theorem dL_law_1084 : decode cL_law 1084 = .ok (.iload_n 3, 1) := by decide +kernel
theorem dL_law_1085 : decode cL_law 1085 = .ok (.iconst 3, 1) := by decide +kernel
theorem dL_law_1086 : decode cL_law 1086 = .ok (.iadd, 1) := by decide +kernel
theorem dL_law_1087 : decode cL_law 1087 = .ok (.iaload, 1) := by decide +kernel
theorem dL_law_1088 : decode cL_law 1088 = .ok (.aload_n 0, 1) := by decide +kernel
theorem dL_law_1089 : decode cL_law 1089 = .ok (.iload_n 3, 1) := by decide +kernel
theorem dL_law_1090 : decode cL_law 1090 = .ok (.iconst 4, 1) := by decide +kernel
theorem dL_law_1091 : decode cL_law 1091 = .ok (.iadd, 1) := by decide +kernel
theorem dL_law_1092 : decode cL_law 1092 = .ok (.iaload, 1) := by decide +kernel
theorem dL_law_1093 : decode cL_law 1093 = .ok (.ifCond .eq 7, 3) := by decide +kernel
theorem dL_law_1096 : decode cL_law 1096 = .ok (.iconst 1, 1) := by decide +kernel
theorem dL_law_1097 : decode cL_law 1097 = .ok (.goto 4, 3) := by decide +kernel
theorem dL_law_1100 : decode cL_law 1100 = .ok (.iconst 0, 1) := by decide +kernel
theorem dL_law_1101 : decode cL_law 1101 = .ok (.invokevirtual 116, 3) := by decide +kernel
theorem dL_law_1104 : decode cL_law 1104 = .ok (.aload_n 2, 1) := by decide +kernel
theorem dL_law_1105 : decode cL_law 1105 = .ok (.aload_n 0, 1) := by decide +kernel
theorem dL_law_1106 : decode cL_law 1106 = .ok (.iload_n 3, 1) := by decide +kernel
theorem dL_law_1107 : decode cL_law 1107 = .ok (.iconst 1, 1) := by decide +kernel
theorem dL_law_1108 : decode cL_law 1108 = .ok (.iadd, 1) := by decide +kernel
theorem dL_law_1109 : decode cL_law 1109 = .ok (.iaload, 1) := by decide +kernel
theorem dL_law_1110 : decode cL_law 1110 = .ok (.aload_n 0, 1) := by decide +kernel
theorem dL_law_1111 : decode cL_law 1111 = .ok (.iload_n 3, 1) := by decide +kernel
theorem dL_law_1112 : decode cL_law 1112 = .ok (.iconst 2, 1) := by decide +kernel
theorem dL_law_1113 : decode cL_law 1113 = .ok (.iadd, 1) := by decide +kernel
theorem dL_law_1114 : decode cL_law 1114 = .ok (.iaload, 1) := by decide +kernel
theorem dL_law_1115 : decode cL_law 1115 = .ok (.aload_n 0, 1) := by decide +kernel
theorem dL_law_1116 : decode cL_law 1116 = .ok (.iload_n 3, 1) := by decide +kernel
theorem dL_law_1117 : decode cL_law 1117 = .ok (.iconst 3, 1) := by decide +kernel
theorem dL_law_1118 : decode cL_law 1118 = .ok (.iadd, 1) := by decide +kernel
theorem dL_law_1119 : decode cL_law 1119 = .ok (.iaload, 1) := by decide +kernel
theorem dL_law_1120 : decode cL_law 1120 = .ok (.aload_n 0, 1) := by decide +kernel
theorem dL_law_1121 : decode cL_law 1121 = .ok (.iload_n 3, 1) := by decide +kernel
theorem dL_law_1122 : decode cL_law 1122 = .ok (.iconst 4, 1) := by decide +kernel
theorem dL_law_1123 : decode cL_law 1123 = .ok (.iadd, 1) := by decide +kernel
theorem dL_law_1124 : decode cL_law 1124 = .ok (.iaload, 1) := by decide +kernel
theorem dL_law_1125 : decode cL_law 1125 = .ok (.ifCond .eq 7, 3) := by decide +kernel
theorem dL_law_1128 : decode cL_law 1128 = .ok (.iconst 1, 1) := by decide +kernel
theorem dL_law_1129 : decode cL_law 1129 = .ok (.goto 4, 3) := by decide +kernel
theorem dL_law_1132 : decode cL_law 1132 = .ok (.iconst 0, 1) := by decide +kernel
theorem dL_law_1133 : decode cL_law 1133 = .ok (.invokevirtual 120, 3) := by decide +kernel
theorem dL_law_1136 : decode cL_law 1136 = .ok (.lcmp, 1) := by decide +kernel
theorem dL_law_1137 : decode cL_law 1137 = .ok (.ifCond .eq 226, 3) := by decide +kernel
theorem dL_law_1140 : decode cL_law 1140 = .ok (.iconst 0, 1) := by decide +kernel
theorem dL_law_1141 : decode cL_law 1141 = .ok (.ireturn, 1) := by decide +kernel
theorem dL_law_1142 : decode cL_law 1142 = .ok (.aload_n 1, 1) := by decide +kernel
theorem dL_law_1143 : decode cL_law 1143 = .ok (.aload_n 0, 1) := by decide +kernel
theorem dL_law_1144 : decode cL_law 1144 = .ok (.iload_n 3, 1) := by decide +kernel
theorem dL_law_1145 : decode cL_law 1145 = .ok (.iconst 1, 1) := by decide +kernel
theorem dL_law_1146 : decode cL_law 1146 = .ok (.iadd, 1) := by decide +kernel
theorem dL_law_1147 : decode cL_law 1147 = .ok (.iaload, 1) := by decide +kernel
theorem dL_law_1148 : decode cL_law 1148 = .ok (.aload_n 0, 1) := by decide +kernel
theorem dL_law_1149 : decode cL_law 1149 = .ok (.iload_n 3, 1) := by decide +kernel
theorem dL_law_1150 : decode cL_law 1150 = .ok (.iconst 2, 1) := by decide +kernel
theorem dL_law_1151 : decode cL_law 1151 = .ok (.iadd, 1) := by decide +kernel
theorem dL_law_1152 : decode cL_law 1152 = .ok (.iaload, 1) := by decide +kernel
theorem dL_law_1153 : decode cL_law 1153 = .ok (.aload_n 0, 1) := by decide +kernel
theorem dL_law_1154 : decode cL_law 1154 = .ok (.iload_n 3, 1) := by decide +kernel
theorem dL_law_1155 : decode cL_law 1155 = .ok (.iconst 3, 1) := by decide +kernel
theorem dL_law_1156 : decode cL_law 1156 = .ok (.iadd, 1) := by decide +kernel
theorem dL_law_1157 : decode cL_law 1157 = .ok (.iaload, 1) := by decide +kernel
theorem dL_law_1158 : decode cL_law 1158 = .ok (.aload_n 0, 1) := by decide +kernel
theorem dL_law_1159 : decode cL_law 1159 = .ok (.iload_n 3, 1) := by decide +kernel
theorem dL_law_1160 : decode cL_law 1160 = .ok (.iconst 4, 1) := by decide +kernel
theorem dL_law_1161 : decode cL_law 1161 = .ok (.iadd, 1) := by decide +kernel
theorem dL_law_1162 : decode cL_law 1162 = .ok (.iaload, 1) := by decide +kernel
theorem dL_law_1163 : decode cL_law 1163 = .ok (.invokevirtual 121, 3) := by decide +kernel
theorem dL_law_1166 : decode cL_law 1166 = .ok (.aload_n 2, 1) := by decide +kernel
theorem dL_law_1167 : decode cL_law 1167 = .ok (.aload_n 0, 1) := by decide +kernel
theorem dL_law_1168 : decode cL_law 1168 = .ok (.iload_n 3, 1) := by decide +kernel
theorem dL_law_1169 : decode cL_law 1169 = .ok (.iconst 1, 1) := by decide +kernel
theorem dL_law_1170 : decode cL_law 1170 = .ok (.iadd, 1) := by decide +kernel
theorem dL_law_1171 : decode cL_law 1171 = .ok (.iaload, 1) := by decide +kernel
theorem dL_law_1172 : decode cL_law 1172 = .ok (.aload_n 0, 1) := by decide +kernel
theorem dL_law_1173 : decode cL_law 1173 = .ok (.iload_n 3, 1) := by decide +kernel
theorem dL_law_1174 : decode cL_law 1174 = .ok (.iconst 2, 1) := by decide +kernel
theorem dL_law_1175 : decode cL_law 1175 = .ok (.iadd, 1) := by decide +kernel
theorem dL_law_1176 : decode cL_law 1176 = .ok (.iaload, 1) := by decide +kernel
theorem dL_law_1177 : decode cL_law 1177 = .ok (.aload_n 0, 1) := by decide +kernel
theorem dL_law_1178 : decode cL_law 1178 = .ok (.iload_n 3, 1) := by decide +kernel
theorem dL_law_1179 : decode cL_law 1179 = .ok (.iconst 3, 1) := by decide +kernel
theorem dL_law_1180 : decode cL_law 1180 = .ok (.iadd, 1) := by decide +kernel
theorem dL_law_1181 : decode cL_law 1181 = .ok (.iaload, 1) := by decide +kernel
theorem dL_law_1182 : decode cL_law 1182 = .ok (.aload_n 0, 1) := by decide +kernel
theorem dL_law_1183 : decode cL_law 1183 = .ok (.iload_n 3, 1) := by decide +kernel
theorem dL_law_1184 : decode cL_law 1184 = .ok (.iconst 4, 1) := by decide +kernel
theorem dL_law_1185 : decode cL_law 1185 = .ok (.iadd, 1) := by decide +kernel
theorem dL_law_1186 : decode cL_law 1186 = .ok (.iaload, 1) := by decide +kernel
theorem dL_law_1187 : decode cL_law 1187 = .ok (.invokevirtual 125, 3) := by decide +kernel
theorem dL_law_1190 : decode cL_law 1190 = .ok (.if_icmp .eq 173, 3) := by decide +kernel
theorem dL_law_1193 : decode cL_law 1193 = .ok (.iconst 0, 1) := by decide +kernel
theorem dL_law_1194 : decode cL_law 1194 = .ok (.ireturn, 1) := by decide +kernel
theorem dL_law_1195 : decode cL_law 1195 = .ok (.aload_n 1, 1) := by decide +kernel
theorem dL_law_1196 : decode cL_law 1196 = .ok (.aload_n 0, 1) := by decide +kernel
theorem dL_law_1197 : decode cL_law 1197 = .ok (.iload_n 3, 1) := by decide +kernel
theorem dL_law_1198 : decode cL_law 1198 = .ok (.iconst 1, 1) := by decide +kernel
theorem dL_law_1199 : decode cL_law 1199 = .ok (.iadd, 1) := by decide +kernel
theorem dL_law_1200 : decode cL_law 1200 = .ok (.iaload, 1) := by decide +kernel
theorem dL_law_1201 : decode cL_law 1201 = .ok (.ifCond .eq 7, 3) := by decide +kernel
theorem dL_law_1204 : decode cL_law 1204 = .ok (.iconst 1, 1) := by decide +kernel
theorem dL_law_1205 : decode cL_law 1205 = .ok (.goto 4, 3) := by decide +kernel
theorem dL_law_1208 : decode cL_law 1208 = .ok (.iconst 0, 1) := by decide +kernel
theorem dL_law_1209 : decode cL_law 1209 = .ok (.invokevirtual 126, 3) := by decide +kernel
theorem dL_law_1212 : decode cL_law 1212 = .ok (.aload_n 2, 1) := by decide +kernel
theorem dL_law_1213 : decode cL_law 1213 = .ok (.aload_n 0, 1) := by decide +kernel
theorem dL_law_1214 : decode cL_law 1214 = .ok (.iload_n 3, 1) := by decide +kernel
theorem dL_law_1215 : decode cL_law 1215 = .ok (.iconst 1, 1) := by decide +kernel
theorem dL_law_1216 : decode cL_law 1216 = .ok (.iadd, 1) := by decide +kernel
theorem dL_law_1217 : decode cL_law 1217 = .ok (.iaload, 1) := by decide +kernel
theorem dL_law_1218 : decode cL_law 1218 = .ok (.ifCond .eq 7, 3) := by decide +kernel
theorem dL_law_1221 : decode cL_law 1221 = .ok (.iconst 1, 1) := by decide +kernel
theorem dL_law_1222 : decode cL_law 1222 = .ok (.goto 4, 3) := by decide +kernel
theorem dL_law_1225 : decode cL_law 1225 = .ok (.iconst 0, 1) := by decide +kernel
theorem dL_law_1226 : decode cL_law 1226 = .ok (.invokevirtual 130, 3) := by decide +kernel
theorem dL_law_1229 : decode cL_law 1229 = .ok (.lcmp, 1) := by decide +kernel
theorem dL_law_1230 : decode cL_law 1230 = .ok (.ifCond .eq 133, 3) := by decide +kernel
theorem dL_law_1233 : decode cL_law 1233 = .ok (.iconst 0, 1) := by decide +kernel
theorem dL_law_1234 : decode cL_law 1234 = .ok (.ireturn, 1) := by decide +kernel
theorem dL_law_1235 : decode cL_law 1235 = .ok (.aload_n 1, 1) := by decide +kernel
theorem dL_law_1236 : decode cL_law 1236 = .ok (.aload_n 0, 1) := by decide +kernel
theorem dL_law_1237 : decode cL_law 1237 = .ok (.iload_n 3, 1) := by decide +kernel
theorem dL_law_1238 : decode cL_law 1238 = .ok (.iconst 1, 1) := by decide +kernel
theorem dL_law_1239 : decode cL_law 1239 = .ok (.iadd, 1) := by decide +kernel
theorem dL_law_1240 : decode cL_law 1240 = .ok (.iaload, 1) := by decide +kernel
theorem dL_law_1241 : decode cL_law 1241 = .ok (.invokevirtual 131, 3) := by decide +kernel
theorem dL_law_1244 : decode cL_law 1244 = .ok (.aload_n 2, 1) := by decide +kernel
theorem dL_law_1245 : decode cL_law 1245 = .ok (.aload_n 0, 1) := by decide +kernel
theorem dL_law_1246 : decode cL_law 1246 = .ok (.iload_n 3, 1) := by decide +kernel
theorem dL_law_1247 : decode cL_law 1247 = .ok (.iconst 1, 1) := by decide +kernel
theorem dL_law_1248 : decode cL_law 1248 = .ok (.iadd, 1) := by decide +kernel
theorem dL_law_1249 : decode cL_law 1249 = .ok (.iaload, 1) := by decide +kernel
theorem dL_law_1250 : decode cL_law 1250 = .ok (.invokevirtual 134, 3) := by decide +kernel
theorem dL_law_1253 : decode cL_law 1253 = .ok (.if_icmp .eq 110, 3) := by decide +kernel
theorem dL_law_1256 : decode cL_law 1256 = .ok (.iconst 0, 1) := by decide +kernel
theorem dL_law_1257 : decode cL_law 1257 = .ok (.ireturn, 1) := by decide +kernel
theorem dL_law_1258 : decode cL_law 1258 = .ok (.aload_n 1, 1) := by decide +kernel
theorem dL_law_1259 : decode cL_law 1259 = .ok (.aload_n 0, 1) := by decide +kernel
theorem dL_law_1260 : decode cL_law 1260 = .ok (.iload_n 3, 1) := by decide +kernel
theorem dL_law_1261 : decode cL_law 1261 = .ok (.iconst 1, 1) := by decide +kernel
theorem dL_law_1262 : decode cL_law 1262 = .ok (.iadd, 1) := by decide +kernel
theorem dL_law_1263 : decode cL_law 1263 = .ok (.iaload, 1) := by decide +kernel
theorem dL_law_1264 : decode cL_law 1264 = .ok (.aload_n 0, 1) := by decide +kernel
theorem dL_law_1265 : decode cL_law 1265 = .ok (.iload_n 3, 1) := by decide +kernel
theorem dL_law_1266 : decode cL_law 1266 = .ok (.iconst 2, 1) := by decide +kernel
theorem dL_law_1267 : decode cL_law 1267 = .ok (.iadd, 1) := by decide +kernel
theorem dL_law_1268 : decode cL_law 1268 = .ok (.iaload, 1) := by decide +kernel
theorem dL_law_1269 : decode cL_law 1269 = .ok (.invokevirtual 135, 3) := by decide +kernel
theorem dL_law_1272 : decode cL_law 1272 = .ok (.aload_n 2, 1) := by decide +kernel
theorem dL_law_1273 : decode cL_law 1273 = .ok (.aload_n 0, 1) := by decide +kernel
theorem dL_law_1274 : decode cL_law 1274 = .ok (.iload_n 3, 1) := by decide +kernel
theorem dL_law_1275 : decode cL_law 1275 = .ok (.iconst 1, 1) := by decide +kernel
theorem dL_law_1276 : decode cL_law 1276 = .ok (.iadd, 1) := by decide +kernel
theorem dL_law_1277 : decode cL_law 1277 = .ok (.iaload, 1) := by decide +kernel
theorem dL_law_1278 : decode cL_law 1278 = .ok (.aload_n 0, 1) := by decide +kernel
theorem dL_law_1279 : decode cL_law 1279 = .ok (.iload_n 3, 1) := by decide +kernel
theorem dL_law_1280 : decode cL_law 1280 = .ok (.iconst 2, 1) := by decide +kernel
theorem dL_law_1281 : decode cL_law 1281 = .ok (.iadd, 1) := by decide +kernel
theorem dL_law_1282 : decode cL_law 1282 = .ok (.iaload, 1) := by decide +kernel
theorem dL_law_1283 : decode cL_law 1283 = .ok (.invokevirtual 138, 3) := by decide +kernel
theorem dL_law_1286 : decode cL_law 1286 = .ok (.if_icmp .eq 77, 3) := by decide +kernel
theorem dL_law_1289 : decode cL_law 1289 = .ok (.iconst 0, 1) := by decide +kernel
theorem dL_law_1290 : decode cL_law 1290 = .ok (.ireturn, 1) := by decide +kernel
theorem dL_law_1291 : decode cL_law 1291 = .ok (.aload_n 1, 1) := by decide +kernel
theorem dL_law_1292 : decode cL_law 1292 = .ok (.invokevirtual 139, 3) := by decide +kernel
theorem dL_law_1295 : decode cL_law 1295 = .ok (.aload_n 2, 1) := by decide +kernel
theorem dL_law_1296 : decode cL_law 1296 = .ok (.invokevirtual 142, 3) := by decide +kernel
theorem dL_law_1299 : decode cL_law 1299 = .ok (.if_icmp .eq 64, 3) := by decide +kernel
theorem dL_law_1302 : decode cL_law 1302 = .ok (.iconst 0, 1) := by decide +kernel
theorem dL_law_1303 : decode cL_law 1303 = .ok (.ireturn, 1) := by decide +kernel
theorem dL_law_1304 : decode cL_law 1304 = .ok (.aload_n 1, 1) := by decide +kernel
theorem dL_law_1305 : decode cL_law 1305 = .ok (.invokevirtual 143, 3) := by decide +kernel
theorem dL_law_1308 : decode cL_law 1308 = .ok (.aload_n 2, 1) := by decide +kernel
theorem dL_law_1309 : decode cL_law 1309 = .ok (.invokevirtual 146, 3) := by decide +kernel
theorem dL_law_1312 : decode cL_law 1312 = .ok (.if_icmp .eq 51, 3) := by decide +kernel
theorem dL_law_1315 : decode cL_law 1315 = .ok (.iconst 0, 1) := by decide +kernel
theorem dL_law_1316 : decode cL_law 1316 = .ok (.ireturn, 1) := by decide +kernel
theorem dL_law_1317 : decode cL_law 1317 = .ok (.aload_n 1, 1) := by decide +kernel
theorem dL_law_1318 : decode cL_law 1318 = .ok (.aload_n 0, 1) := by decide +kernel
theorem dL_law_1319 : decode cL_law 1319 = .ok (.iload_n 3, 1) := by decide +kernel
theorem dL_law_1320 : decode cL_law 1320 = .ok (.iconst 1, 1) := by decide +kernel
theorem dL_law_1321 : decode cL_law 1321 = .ok (.iadd, 1) := by decide +kernel
theorem dL_law_1322 : decode cL_law 1322 = .ok (.iaload, 1) := by decide +kernel
theorem dL_law_1323 : decode cL_law 1323 = .ok (.invokevirtual 147, 3) := by decide +kernel
theorem dL_law_1326 : decode cL_law 1326 = .ok (.aload_n 2, 1) := by decide +kernel
theorem dL_law_1327 : decode cL_law 1327 = .ok (.aload_n 0, 1) := by decide +kernel
theorem dL_law_1328 : decode cL_law 1328 = .ok (.iload_n 3, 1) := by decide +kernel
theorem dL_law_1329 : decode cL_law 1329 = .ok (.iconst 1, 1) := by decide +kernel
theorem dL_law_1330 : decode cL_law 1330 = .ok (.iadd, 1) := by decide +kernel
theorem dL_law_1331 : decode cL_law 1331 = .ok (.iaload, 1) := by decide +kernel
theorem dL_law_1332 : decode cL_law 1332 = .ok (.invokevirtual 150, 3) := by decide +kernel
theorem dL_law_1335 : decode cL_law 1335 = .ok (.if_icmp .eq 28, 3) := by decide +kernel
theorem dL_law_1338 : decode cL_law 1338 = .ok (.iconst 0, 1) := by decide +kernel
theorem dL_law_1339 : decode cL_law 1339 = .ok (.ireturn, 1) := by decide +kernel
theorem dL_law_1340 : decode cL_law 1340 = .ok (.aload_n 1, 1) := by decide +kernel
theorem dL_law_1341 : decode cL_law 1341 = .ok (.aload_n 0, 1) := by decide +kernel
theorem dL_law_1342 : decode cL_law 1342 = .ok (.iload_n 3, 1) := by decide +kernel
theorem dL_law_1343 : decode cL_law 1343 = .ok (.iconst 1, 1) := by decide +kernel
theorem dL_law_1344 : decode cL_law 1344 = .ok (.iadd, 1) := by decide +kernel
theorem dL_law_1345 : decode cL_law 1345 = .ok (.iaload, 1) := by decide +kernel
theorem dL_law_1346 : decode cL_law 1346 = .ok (.invokevirtual 151, 3) := by decide +kernel
theorem dL_law_1349 : decode cL_law 1349 = .ok (.aload_n 2, 1) := by decide +kernel
theorem dL_law_1350 : decode cL_law 1350 = .ok (.aload_n 0, 1) := by decide +kernel
theorem dL_law_1351 : decode cL_law 1351 = .ok (.iload_n 3, 1) := by decide +kernel
theorem dL_law_1352 : decode cL_law 1352 = .ok (.iconst 1, 1) := by decide +kernel
theorem dL_law_1353 : decode cL_law 1353 = .ok (.iadd, 1) := by decide +kernel
theorem dL_law_1354 : decode cL_law 1354 = .ok (.iaload, 1) := by decide +kernel
theorem dL_law_1355 : decode cL_law 1355 = .ok (.invokevirtual 154, 3) := by decide +kernel
theorem dL_law_1358 : decode cL_law 1358 = .ok (.if_icmp .eq 5, 3) := by decide +kernel
theorem dL_law_1361 : decode cL_law 1361 = .ok (.iconst 0, 1) := by decide +kernel
theorem dL_law_1362 : decode cL_law 1362 = .ok (.ireturn, 1) := by decide +kernel
theorem dL_law_1363 : decode cL_law 1363 = .ok (.iinc 3 7, 3) := by decide +kernel
theorem dL_law_1366 : decode cL_law 1366 = .ok (.goto (-1348), 3) := by decide +kernel
theorem dL_law_1369 : decode cL_law 1369 = .ok (.iconst 1, 1) := by decide +kernel
theorem dL_law_1370 : decode cL_law 1370 = .ok (.ireturn, 1) := by decide +kernel
theorem kL_law_18 {X : Scr} {M : Mem} {P : Option AV → Mem → Prop} {x3 : Int} (k1 : (((X.1 : Nat) : Int) - (7 : Int)) < x3 → Runs X mL_law 1369 [] [] M P) (k2 : x3 ≤ (((X.1 : Nat) : Int) - (7 : Int)) → Runs X mL_law 27 [(0, vr 999), (1, vr 0), (2, vr 200), (3, vi x3)] [] M P) (h1 : X.1 < 2147483648 := by omega) (h2 : -2147483648 ≤ (((X.1 : Nat) : Int) - (7 : Int)) ∧ (((X.1 : Nat) : Int) - (7 : Int)) ≤ 2147483647 := by omega) : Runs X mL_law 18 [(0, vr 999), (1, vr 0), (2, vr 200), (3, vi x3)] [] M P := by
  refine Runs.iload_n (j := 3) dL_law_18 rfl ?_
  refine Runs.aload_n (j := 0) dL_law_19 rfl ?_
  refine Runs.slen rfl h1 dL_law_20 ?_
  refine Runs.bipush dL_law_21 (by decide) (by decide) ?_
  refine Runs.isub dL_law_23 h2 ?_
  refine Runs.icmp_gt (tgt := 1369) dL_law_24 (by decide) (fun h => ?_) (fun h => ?_)
  · refine Runs.picks (loc' := []) [] rfl ?_
    exact k1 h
  · exact k2 h
theorem kL_law_27 {X : Scr} {M : Mem} {P : Option AV → Mem → Prop} {x3 : Int} (c0 : (zand (X.2 (x3).toNat) (31 : Int)) = 0 → Runs X mL_law 176 [(0, vr 999), (1, vr 0), (2, vr 200), (3, vi x3)] [] M P) (c1 : (zand (X.2 (x3).toNat) (31 : Int)) = 1 → Runs X mL_law 239 [(0, vr 999), (1, vr 0), (2, vr 200), (3, vi x3)] [] M P) (c2 : (zand (X.2 (x3).toNat) (31 : Int)) = 2 → Runs X mL_law 252 [(0, vr 999), (1, vr 0), (2, vr 200), (3, vi x3)] [] M P) (c3 : (zand (X.2 (x3).toNat) (31 : Int)) = 3 → Runs X mL_law 265 [(0, vr 999), (1, vr 0), (2, vr 200), (3, vi x3)] [] M P) (c4 : (zand (X.2 (x3).toNat) (31 : Int)) = 4 → Runs X mL_law 278 [(0, vr 999), (1, vr 0), (2, vr 200), (3, vi x3)] [] M P) (c5 : (zand (X.2 (x3).toNat) (31 : Int)) = 5 → Runs X mL_law 301 [(0, vr 999), (1, vr 0), (2, vr 200), (3, vi x3)] [] M P) (c6 : (zand (X.2 (x3).toNat) (31 : Int)) = 6 → Runs X mL_law 334 [(0, vr 999), (1, vr 0), (2, vr 200), (3, vi x3)] [] M P) (c7 : (zand (X.2 (x3).toNat) (31 : Int)) = 7 → Runs X mL_law 367 [(0, vr 999), (1, vr 0), (2, vr 200), (3, vi x3)] [] M P) (c8 : (zand (X.2 (x3).toNat) (31 : Int)) = 8 → Runs X mL_law 390 [(0, vr 999), (1, vr 0), (2, vr 200), (3, vi x3)] [] M P) (c9 : (zand (X.2 (x3).toNat) (31 : Int)) = 9 → Runs X mL_law 413 [(0, vr 999), (1, vr 0), (2, vr 200), (3, vi x3)] [] M P) (c10 : (zand (X.2 (x3).toNat) (31 : Int)) = 10 → Runs X mL_law 436 [(0, vr 999), (1, vr 0), (2, vr 200), (3, vi x3)] [] M P) (c11 : (zand (X.2 (x3).toNat) (31 : Int)) = 11 → Runs X mL_law 479 [(0, vr 999), (1, vr 0), (2, vr 200), (3, vi x3)] [] M P) (c12 : (zand (X.2 (x3).toNat) (31 : Int)) = 12 → Runs X mL_law 548 [(0, vr 999), (1, vr 0), (2, vr 200), (3, vi x3)] [] M P) (c13 : (zand (X.2 (x3).toNat) (31 : Int)) = 13 → Runs X mL_law 591 [(0, vr 999), (1, vr 0), (2, vr 200), (3, vi x3)] [] M P) (c14 : (zand (X.2 (x3).toNat) (31 : Int)) = 14 → Runs X mL_law 604 [(0, vr 999), (1, vr 0), (2, vr 200), (3, vi x3)] [] M P) (c15 : (zand (X.2 (x3).toNat) (31 : Int)) = 15 → Runs X mL_law 663 [(0, vr 999), (1, vr 0), (2, vr 200), (3, vi x3)] [] M P) (c16 : (zand (X.2 (x3).toNat) (31 : Int)) = 16 → Runs X mL_law 706 [(0, vr 999), (1, vr 0), (2, vr 200), (3, vi x3)] [] M P) (c17 : (zand (X.2 (x3).toNat) (31 : Int)) = 17 → Runs X mL_law 755 [(0, vr 999), (1, vr 0), (2, vr 200), (3, vi x3)] [] M P) (c18 : (zand (X.2 (x3).toNat) (31 : Int)) = 18 → Runs X mL_law 818 [(0, vr 999), (1, vr 0), (2, vr 200), (3, vi x3)] [] M P) (c19 : (zand (X.2 (x3).toNat) (31 : Int)) = 19 → Runs X mL_law 881 [(0, vr 999), (1, vr 0), (2, vr 200), (3, vi x3)] [] M P) (c20 : (zand (X.2 (x3).toNat) (31 : Int)) = 20 → Runs X mL_law 914 [(0, vr 999), (1, vr 0), (2, vr 200), (3, vi x3)] [] M P) (c21 : (zand (X.2 (x3).toNat) (31 : Int)) = 21 → Runs X mL_law 947 [(0, vr 999), (1, vr 0), (2, vr 200), (3, vi x3)] [] M P) (c22 : (zand (X.2 (x3).toNat) (31 : Int)) = 22 → Runs X mL_law 980 [(0, vr 999), (1, vr 0), (2, vr 200), (3, vi x3)] [] M P) (c23 : (zand (X.2 (x3).toNat) (31 : Int)) = 23 → Runs X mL_law 1072 [(0, vr 999), (1, vr 0), (2, vr 200), (3, vi x3)] [] M P) (c24 : (zand (X.2 (x3).toNat) (31 : Int)) = 24 → Runs X mL_law 1142 [(0, vr 999), (1, vr 0), (2, vr 200), (3, vi x3)] [] M P) (c25 : (zand (X.2 (x3).toNat) (31 : Int)) = 25 → Runs X mL_law 1195 [(0, vr 999), (1, vr 0), (2, vr 200), (3, vi x3)] [] M P) (c26 : (zand (X.2 (x3).toNat) (31 : Int)) = 26 → Runs X mL_law 1235 [(0, vr 999), (1, vr 0), (2, vr 200), (3, vi x3)] [] M P) (c27 : (zand (X.2 (x3).toNat) (31 : Int)) = 27 → Runs X mL_law 1258 [(0, vr 999), (1, vr 0), (2, vr 200), (3, vi x3)] [] M P) (c28 : (zand (X.2 (x3).toNat) (31 : Int)) = 28 → Runs X mL_law 1291 [(0, vr 999), (1, vr 0), (2, vr 200), (3, vi x3)] [] M P) (c29 : (zand (X.2 (x3).toNat) (31 : Int)) = 29 → Runs X mL_law 1304 [(0, vr 999), (1, vr 0), (2, vr 200), (3, vi x3)] [] M P) (c30 : (zand (X.2 (x3).toNat) (31 : Int)) = 30 → Runs X mL_law 1317 [(0, vr 999), (1, vr 0), (2, vr 200), (3, vi x3)] [] M P) (c31 : (zand (X.2 (x3).toNat) (31 : Int)) = 31 → Runs X mL_law 1340 [(0, vr 999), (1, vr 0), (2, vr 200), (3, vi x3)] [] M P) (cd : (zand (X.2 (x3).toNat) (31 : Int)) < 0 ∨ 31 < (zand (X.2 (x3).toNat) (31 : Int)) → Runs X mL_law 1363 [(0, vr 999), (1, vr 0), (2, vr 200), (3, vi x3)] [] M P) (h1 : 0 ≤ x3 := by omega) (h2 : x3 < ((X.1 : Nat) : Int) := by omega) (h3 : ∀ j, inI (X.2 j) := by assumption) : Runs X mL_law 27 [(0, vr 999), (1, vr 0), (2, vr 200), (3, vi x3)] [] M P := by
  refine Runs.aload_n (j := 0) dL_law_27 rfl ?_
  refine Runs.iload_n (j := 3) dL_law_28 rfl ?_
  refine Runs.sld rfl h3 dL_law_29 h1 h2 ?_
  refine Runs.bipush dL_law_30 (by decide) (by decide) ?_
  refine Runs.iand dL_law_32 ?_
  rcases Classical.em (0 ≤ (zand (X.2 (x3).toNat) (31 : Int)) ∧ (zand (X.2 (x3).toNat) (31 : Int)) ≤ 31) with hq | hq
  · obtain ⟨hq1, hq2⟩ := hq
    rcases (show (zand (X.2 (x3).toNat) (31 : Int)) = 0 ∨ (zand (X.2 (x3).toNat) (31 : Int)) = 1 ∨ (zand (X.2 (x3).toNat) (31 : Int)) = 2 ∨ (zand (X.2 (x3).toNat) (31 : Int)) = 3 ∨ (zand (X.2 (x3).toNat) (31 : Int)) = 4 ∨ (zand (X.2 (x3).toNat) (31 : Int)) = 5 ∨ (zand (X.2 (x3).toNat) (31 : Int)) = 6 ∨ (zand (X.2 (x3).toNat) (31 : Int)) = 7 ∨ (zand (X.2 (x3).toNat) (31 : Int)) = 8 ∨ (zand (X.2 (x3).toNat) (31 : Int)) = 9 ∨ (zand (X.2 (x3).toNat) (31 : Int)) = 10 ∨ (zand (X.2 (x3).toNat) (31 : Int)) = 11 ∨ (zand (X.2 (x3).toNat) (31 : Int)) = 12 ∨ (zand (X.2 (x3).toNat) (31 : Int)) = 13 ∨ (zand (X.2 (x3).toNat) (31 : Int)) = 14 ∨ (zand (X.2 (x3).toNat) (31 : Int)) = 15 ∨ (zand (X.2 (x3).toNat) (31 : Int)) = 16 ∨ (zand (X.2 (x3).toNat) (31 : Int)) = 17 ∨ (zand (X.2 (x3).toNat) (31 : Int)) = 18 ∨ (zand (X.2 (x3).toNat) (31 : Int)) = 19 ∨ (zand (X.2 (x3).toNat) (31 : Int)) = 20 ∨ (zand (X.2 (x3).toNat) (31 : Int)) = 21 ∨ (zand (X.2 (x3).toNat) (31 : Int)) = 22 ∨ (zand (X.2 (x3).toNat) (31 : Int)) = 23 ∨ (zand (X.2 (x3).toNat) (31 : Int)) = 24 ∨ (zand (X.2 (x3).toNat) (31 : Int)) = 25 ∨ (zand (X.2 (x3).toNat) (31 : Int)) = 26 ∨ (zand (X.2 (x3).toNat) (31 : Int)) = 27 ∨ (zand (X.2 (x3).toNat) (31 : Int)) = 28 ∨ (zand (X.2 (x3).toNat) (31 : Int)) = 29 ∨ (zand (X.2 (x3).toNat) (31 : Int)) = 30 ∨ (zand (X.2 (x3).toNat) (31 : Int)) = 31 by omega) with h | h | h | h | h | h | h | h | h | h | h | h | h | h | h | h | h | h | h | h | h | h | h | h | h | h | h | h | h | h | h | h
    · refine Runs.tableIn (tgt := 176) dL_law_33 hq1 hq2 (by rw [h] <;> rfl) (by decide) ?_
      exact c0 h
    · refine Runs.tableIn (tgt := 239) dL_law_33 hq1 hq2 (by rw [h] <;> rfl) (by decide) ?_
      exact c1 h
    · refine Runs.tableIn (tgt := 252) dL_law_33 hq1 hq2 (by rw [h] <;> rfl) (by decide) ?_
      exact c2 h
    · refine Runs.tableIn (tgt := 265) dL_law_33 hq1 hq2 (by rw [h] <;> rfl) (by decide) ?_
      exact c3 h
    · refine Runs.tableIn (tgt := 278) dL_law_33 hq1 hq2 (by rw [h] <;> rfl) (by decide) ?_
      exact c4 h
    · refine Runs.tableIn (tgt := 301) dL_law_33 hq1 hq2 (by rw [h] <;> rfl) (by decide) ?_
      exact c5 h
    · refine Runs.tableIn (tgt := 334) dL_law_33 hq1 hq2 (by rw [h] <;> rfl) (by decide) ?_
      exact c6 h
    · refine Runs.tableIn (tgt := 367) dL_law_33 hq1 hq2 (by rw [h] <;> rfl) (by decide) ?_
      exact c7 h
    · refine Runs.tableIn (tgt := 390) dL_law_33 hq1 hq2 (by rw [h] <;> rfl) (by decide) ?_
      exact c8 h
    · refine Runs.tableIn (tgt := 413) dL_law_33 hq1 hq2 (by rw [h] <;> rfl) (by decide) ?_
      exact c9 h
    · refine Runs.tableIn (tgt := 436) dL_law_33 hq1 hq2 (by rw [h] <;> rfl) (by decide) ?_
      exact c10 h
    · refine Runs.tableIn (tgt := 479) dL_law_33 hq1 hq2 (by rw [h] <;> rfl) (by decide) ?_
      exact c11 h
    · refine Runs.tableIn (tgt := 548) dL_law_33 hq1 hq2 (by rw [h] <;> rfl) (by decide) ?_
      exact c12 h
    · refine Runs.tableIn (tgt := 591) dL_law_33 hq1 hq2 (by rw [h] <;> rfl) (by decide) ?_
      exact c13 h
    · refine Runs.tableIn (tgt := 604) dL_law_33 hq1 hq2 (by rw [h] <;> rfl) (by decide) ?_
      exact c14 h
    · refine Runs.tableIn (tgt := 663) dL_law_33 hq1 hq2 (by rw [h] <;> rfl) (by decide) ?_
      exact c15 h
    · refine Runs.tableIn (tgt := 706) dL_law_33 hq1 hq2 (by rw [h] <;> rfl) (by decide) ?_
      exact c16 h
    · refine Runs.tableIn (tgt := 755) dL_law_33 hq1 hq2 (by rw [h] <;> rfl) (by decide) ?_
      exact c17 h
    · refine Runs.tableIn (tgt := 818) dL_law_33 hq1 hq2 (by rw [h] <;> rfl) (by decide) ?_
      exact c18 h
    · refine Runs.tableIn (tgt := 881) dL_law_33 hq1 hq2 (by rw [h] <;> rfl) (by decide) ?_
      exact c19 h
    · refine Runs.tableIn (tgt := 914) dL_law_33 hq1 hq2 (by rw [h] <;> rfl) (by decide) ?_
      exact c20 h
    · refine Runs.tableIn (tgt := 947) dL_law_33 hq1 hq2 (by rw [h] <;> rfl) (by decide) ?_
      exact c21 h
    · refine Runs.tableIn (tgt := 980) dL_law_33 hq1 hq2 (by rw [h] <;> rfl) (by decide) ?_
      exact c22 h
    · refine Runs.tableIn (tgt := 1072) dL_law_33 hq1 hq2 (by rw [h] <;> rfl) (by decide) ?_
      exact c23 h
    · refine Runs.tableIn (tgt := 1142) dL_law_33 hq1 hq2 (by rw [h] <;> rfl) (by decide) ?_
      exact c24 h
    · refine Runs.tableIn (tgt := 1195) dL_law_33 hq1 hq2 (by rw [h] <;> rfl) (by decide) ?_
      exact c25 h
    · refine Runs.tableIn (tgt := 1235) dL_law_33 hq1 hq2 (by rw [h] <;> rfl) (by decide) ?_
      exact c26 h
    · refine Runs.tableIn (tgt := 1258) dL_law_33 hq1 hq2 (by rw [h] <;> rfl) (by decide) ?_
      exact c27 h
    · refine Runs.tableIn (tgt := 1291) dL_law_33 hq1 hq2 (by rw [h] <;> rfl) (by decide) ?_
      exact c28 h
    · refine Runs.tableIn (tgt := 1304) dL_law_33 hq1 hq2 (by rw [h] <;> rfl) (by decide) ?_
      exact c29 h
    · refine Runs.tableIn (tgt := 1317) dL_law_33 hq1 hq2 (by rw [h] <;> rfl) (by decide) ?_
      exact c30 h
    · refine Runs.tableIn (tgt := 1340) dL_law_33 hq1 hq2 (by rw [h] <;> rfl) (by decide) ?_
      exact c31 h
  · have hq : (zand (X.2 (x3).toNat) (31 : Int)) < 0 ∨ 31 < (zand (X.2 (x3).toNat) (31 : Int)) := by omega
    refine Runs.tableOut (tgt := 1363) dL_law_33 hq (by decide) ?_
    exact cd hq
theorem kL_law_176 {X : Scr} {M : Mem} {P Q : Option AV → Mem → Prop} {x3 : Int} (hC : Call X mX8_write [vr 0, vi (X.2 ((x3 + (1 : Int))).toNat), vl (qor (qshl (X.2 ((x3 + (2 : Int))).toNat) (32 : Int)) (qand (X.2 ((x3 + (3 : Int))).toNat) (4294967295 : Int)))] M Q) (k : ∀ (z : Int) (M1 : Mem), Q (some (vi z)) M1 → Runs X mL_law 205 [(0, vr 999), (1, vr 0), (2, vr 200), (3, vi x3)] [vi z] M1 P) (h1 : -2147483648 ≤ (x3 + (1 : Int)) ∧ (x3 + (1 : Int)) ≤ 2147483647 := by omega) (h2 : 0 ≤ (x3 + (1 : Int)) := by omega) (h3 : (x3 + (1 : Int)) < ((X.1 : Nat) : Int) := by omega) (h4 : ∀ j, inI (X.2 j) := by assumption) (h5 : -2147483648 ≤ (x3 + (2 : Int)) ∧ (x3 + (2 : Int)) ≤ 2147483647 := by omega) (h6 : 0 ≤ (x3 + (2 : Int)) := by omega) (h7 : (x3 + (2 : Int)) < ((X.1 : Nat) : Int) := by omega) (h8 : -2147483648 ≤ (x3 + (3 : Int)) ∧ (x3 + (3 : Int)) ≤ 2147483647 := by omega) (h9 : 0 ≤ (x3 + (3 : Int)) := by omega) (h10 : (x3 + (3 : Int)) < ((X.1 : Nat) : Int) := by omega) : Runs X mL_law 176 [(0, vr 999), (1, vr 0), (2, vr 200), (3, vi x3)] [] M P := by
  refine Runs.aload_n (j := 1) dL_law_176 rfl ?_
  refine Runs.aload_n (j := 0) dL_law_177 rfl ?_
  refine Runs.iload_n (j := 3) dL_law_178 rfl ?_
  refine Runs.iconst dL_law_179 (by decide) ?_
  refine Runs.iadd dL_law_180 h1 ?_
  refine Runs.sld rfl h4 dL_law_181 h2 h3 ?_
  refine Runs.aload_n (j := 0) dL_law_182 rfl ?_
  refine Runs.iload_n (j := 3) dL_law_183 rfl ?_
  refine Runs.iconst dL_law_184 (by decide) ?_
  refine Runs.iadd dL_law_185 h5 ?_
  refine Runs.sld rfl h4 dL_law_186 h6 h7 ?_
  refine Runs.i2l dL_law_187 ?_
  refine Runs.bipush dL_law_188 (by decide) (by decide) ?_
  refine Runs.lshl dL_law_190 ?_
  refine Runs.aload_n (j := 0) dL_law_191 rfl ?_
  refine Runs.iload_n (j := 3) dL_law_192 rfl ?_
  refine Runs.iconst dL_law_193 (by decide) ?_
  refine Runs.iadd dL_law_194 h8 ?_
  refine Runs.sld rfl h4 dL_law_195 h9 h10 ?_
  refine Runs.i2l dL_law_196 ?_
  refine Runs.ldc2 (z := 4294967295) dL_law_197 w5_79 (by decide) (by decide) ?_
  refine Runs.land dL_law_200 ?_
  refine Runs.lor dL_law_201 ?_
  refine Runs.callVi (y := mX8_write) (n := 2) (as := [vi (X.2 ((x3 + (1 : Int))).toNat), vl (qor (qshl (X.2 ((x3 + (2 : Int))).toNat) (32 : Int)) (qand (X.2 ((x3 + (3 : Int))).toNat) (4294967295 : Int)))]) (st := []) (q := (RX8, TX8, 12)) dL_law_202 oc_X8_write im_X8_write se_X8_write ml_L_15 rfl ⟨(Nat.le_of_ble_eq_true rfl), (Nat.le_of_ble_eq_true rfl)⟩ (Nat.le_of_ble_eq_true rfl) (Nat.le_of_ble_eq_true rfl) rfl rfl rfl (Or.inl rfl) hC (fun z M1 hQ => ?_)
  exact k z M1 hQ
theorem kL_law_205 {X : Scr} {M : Mem} {P Q : Option AV → Mem → Prop} {x3 xs0 : Int} (hC : Call X mX9_write [vr 200, vi (X.2 ((x3 + (1 : Int))).toNat), vl (qor (qshl (X.2 ((x3 + (2 : Int))).toNat) (32 : Int)) (qand (X.2 ((x3 + (3 : Int))).toNat) (4294967295 : Int)))] M Q) (k : ∀ (z : Int) (M1 : Mem), Q (some (vi z)) M1 → Runs X mL_law 234 [(0, vr 999), (1, vr 0), (2, vr 200), (3, vi x3)] [vi z, vi xs0] M1 P) (h1 : -2147483648 ≤ (x3 + (1 : Int)) ∧ (x3 + (1 : Int)) ≤ 2147483647 := by omega) (h2 : 0 ≤ (x3 + (1 : Int)) := by omega) (h3 : (x3 + (1 : Int)) < ((X.1 : Nat) : Int) := by omega) (h4 : ∀ j, inI (X.2 j) := by assumption) (h5 : -2147483648 ≤ (x3 + (2 : Int)) ∧ (x3 + (2 : Int)) ≤ 2147483647 := by omega) (h6 : 0 ≤ (x3 + (2 : Int)) := by omega) (h7 : (x3 + (2 : Int)) < ((X.1 : Nat) : Int) := by omega) (h8 : -2147483648 ≤ (x3 + (3 : Int)) ∧ (x3 + (3 : Int)) ≤ 2147483647 := by omega) (h9 : 0 ≤ (x3 + (3 : Int)) := by omega) (h10 : (x3 + (3 : Int)) < ((X.1 : Nat) : Int) := by omega) : Runs X mL_law 205 [(0, vr 999), (1, vr 0), (2, vr 200), (3, vi x3)] [vi xs0] M P := by
  refine Runs.aload_n (j := 2) dL_law_205 rfl ?_
  refine Runs.aload_n (j := 0) dL_law_206 rfl ?_
  refine Runs.iload_n (j := 3) dL_law_207 rfl ?_
  refine Runs.iconst dL_law_208 (by decide) ?_
  refine Runs.iadd dL_law_209 h1 ?_
  refine Runs.sld rfl h4 dL_law_210 h2 h3 ?_
  refine Runs.aload_n (j := 0) dL_law_211 rfl ?_
  refine Runs.iload_n (j := 3) dL_law_212 rfl ?_
  refine Runs.iconst dL_law_213 (by decide) ?_
  refine Runs.iadd dL_law_214 h5 ?_
  refine Runs.sld rfl h4 dL_law_215 h6 h7 ?_
  refine Runs.i2l dL_law_216 ?_
  refine Runs.bipush dL_law_217 (by decide) (by decide) ?_
  refine Runs.lshl dL_law_219 ?_
  refine Runs.aload_n (j := 0) dL_law_220 rfl ?_
  refine Runs.iload_n (j := 3) dL_law_221 rfl ?_
  refine Runs.iconst dL_law_222 (by decide) ?_
  refine Runs.iadd dL_law_223 h8 ?_
  refine Runs.sld rfl h4 dL_law_224 h9 h10 ?_
  refine Runs.i2l dL_law_225 ?_
  refine Runs.ldc2 (z := 4294967295) dL_law_226 w5_79 (by decide) (by decide) ?_
  refine Runs.land dL_law_229 ?_
  refine Runs.lor dL_law_230 ?_
  refine Runs.callVi (y := mX9_write) (n := 2) (as := [vi (X.2 ((x3 + (1 : Int))).toNat), vl (qor (qshl (X.2 ((x3 + (2 : Int))).toNat) (32 : Int)) (qand (X.2 ((x3 + (3 : Int))).toNat) (4294967295 : Int)))]) (st := [vi xs0]) (q := (RX9, TX9, 48)) dL_law_231 oc_X9_write im_X9_write se_X9_write ml_L_19 rfl ⟨(Nat.le_of_ble_eq_true rfl), (Nat.le_of_ble_eq_true rfl)⟩ (Nat.le_of_ble_eq_true rfl) (Nat.le_of_ble_eq_true rfl) rfl rfl rfl (Or.inl rfl) hC (fun z M1 hQ => ?_)
  exact k z M1 hQ
theorem kL_law_234 {X : Scr} {M : Mem} {P : Option AV → Mem → Prop} {x3 xs0 xs1 : Int} (k1 : xs0 = xs1 → Runs X mL_law 1363 [(0, vr 999), (1, vr 0), (2, vr 200), (3, vi x3)] [] M P) (k2 : xs0 ≠ xs1 → Runs X mL_law 237 [] [] M P) : Runs X mL_law 234 [(0, vr 999), (1, vr 0), (2, vr 200), (3, vi x3)] [vi xs1, vi xs0] M P := by
  refine Runs.icmp_eq (tgt := 1363) dL_law_234 (by decide) (fun h => ?_) (fun h => ?_)
  · exact k1 h
  · refine Runs.picks (loc' := []) [] rfl ?_
    exact k2 h
theorem kL_law_237 {X : Scr} {M : Mem} {P : Option AV → Mem → Prop} (k : P (some (vi (0 : Int))) M) (h1 : 0 ≤ (0 : Int) ∧ (0 : Int) ≤ 1 := by omega) : Runs X mL_law 237 [] [] M P := by
  refine Runs.iconst dL_law_237 (by decide) ?_
  exact Runs.retz dL_law_238 rfl h1 k
theorem kL_law_239 {X : Scr} {M : Mem} {P Q : Option AV → Mem → Prop} {x3 : Int} (hC : Call X mX8_wipe [vr 0] M Q) (k : ∀ (z : Int) (M1 : Mem), Q (some (vi z)) M1 → Runs X mL_law 243 [(0, vr 999), (1, vr 0), (2, vr 200), (3, vi x3)] [vi z] M1 P) : Runs X mL_law 239 [(0, vr 999), (1, vr 0), (2, vr 200), (3, vi x3)] [] M P := by
  refine Runs.aload_n (j := 1) dL_law_239 rfl ?_
  refine Runs.callVi (y := mX8_wipe) (n := 0) (as := []) (st := []) (q := (RX8, TX8, 12)) dL_law_240 oc_X8_wipe im_X8_wipe se_X8_wipe ml_L_20 rfl ⟨(Nat.le_of_ble_eq_true rfl), (Nat.le_of_ble_eq_true rfl)⟩ (Nat.le_of_ble_eq_true rfl) (Nat.le_of_ble_eq_true rfl) rfl rfl rfl (Or.inl rfl) hC (fun z M1 hQ => ?_)
  exact k z M1 hQ
theorem kL_law_243 {X : Scr} {M : Mem} {P Q : Option AV → Mem → Prop} {x3 xs0 : Int} (hC : Call X mX9_wipe [vr 200] M Q) (k : ∀ (z : Int) (M1 : Mem), Q (some (vi z)) M1 → Runs X mL_law 247 [(0, vr 999), (1, vr 0), (2, vr 200), (3, vi x3)] [vi z, vi xs0] M1 P) : Runs X mL_law 243 [(0, vr 999), (1, vr 0), (2, vr 200), (3, vi x3)] [vi xs0] M P := by
  refine Runs.aload_n (j := 2) dL_law_243 rfl ?_
  refine Runs.callVi (y := mX9_wipe) (n := 0) (as := []) (st := [vi xs0]) (q := (RX9, TX9, 48)) dL_law_244 oc_X9_wipe im_X9_wipe se_X9_wipe ml_L_24 rfl ⟨(Nat.le_of_ble_eq_true rfl), (Nat.le_of_ble_eq_true rfl)⟩ (Nat.le_of_ble_eq_true rfl) (Nat.le_of_ble_eq_true rfl) rfl rfl rfl (Or.inl rfl) hC (fun z M1 hQ => ?_)
  exact k z M1 hQ
theorem kL_law_247 {X : Scr} {M : Mem} {P : Option AV → Mem → Prop} {x3 xs0 xs1 : Int} (k1 : xs0 = xs1 → Runs X mL_law 1363 [(0, vr 999), (1, vr 0), (2, vr 200), (3, vi x3)] [] M P) (k2 : xs0 ≠ xs1 → Runs X mL_law 250 [] [] M P) : Runs X mL_law 247 [(0, vr 999), (1, vr 0), (2, vr 200), (3, vi x3)] [vi xs1, vi xs0] M P := by
  refine Runs.icmp_eq (tgt := 1363) dL_law_247 (by decide) (fun h => ?_) (fun h => ?_)
  · exact k1 h
  · refine Runs.picks (loc' := []) [] rfl ?_
    exact k2 h
theorem kL_law_250 {X : Scr} {M : Mem} {P : Option AV → Mem → Prop} (k : P (some (vi (0 : Int))) M) (h1 : 0 ≤ (0 : Int) ∧ (0 : Int) ≤ 1 := by omega) : Runs X mL_law 250 [] [] M P := by
  refine Runs.iconst dL_law_250 (by decide) ?_
  exact Runs.retz dL_law_251 rfl h1 k
theorem kL_law_252 {X : Scr} {M : Mem} {P Q : Option AV → Mem → Prop} {x3 : Int} (hC : Call X mX8_fault [vr 0] M Q) (k : ∀ (z : Int) (M1 : Mem), Q (some (vi z)) M1 → Runs X mL_law 256 [(0, vr 999), (1, vr 0), (2, vr 200), (3, vi x3)] [vi z] M1 P) : Runs X mL_law 252 [(0, vr 999), (1, vr 0), (2, vr 200), (3, vi x3)] [] M P := by
  refine Runs.aload_n (j := 1) dL_law_252 rfl ?_
  refine Runs.callVi (y := mX8_fault) (n := 0) (as := []) (st := []) (q := (RX8, TX8, 12)) dL_law_253 oc_X8_fault im_X8_fault se_X8_fault ml_L_25 rfl ⟨(Nat.le_of_ble_eq_true rfl), (Nat.le_of_ble_eq_true rfl)⟩ (Nat.le_of_ble_eq_true rfl) (Nat.le_of_ble_eq_true rfl) rfl rfl rfl (Or.inl rfl) hC (fun z M1 hQ => ?_)
  exact k z M1 hQ
theorem kL_law_256 {X : Scr} {M : Mem} {P Q : Option AV → Mem → Prop} {x3 xs0 : Int} (hC : Call X mX9_fault [vr 200] M Q) (k : ∀ (z : Int) (M1 : Mem), Q (some (vi z)) M1 → Runs X mL_law 260 [(0, vr 999), (1, vr 0), (2, vr 200), (3, vi x3)] [vi z, vi xs0] M1 P) : Runs X mL_law 256 [(0, vr 999), (1, vr 0), (2, vr 200), (3, vi x3)] [vi xs0] M P := by
  refine Runs.aload_n (j := 2) dL_law_256 rfl ?_
  refine Runs.callVi (y := mX9_fault) (n := 0) (as := []) (st := [vi xs0]) (q := (RX9, TX9, 48)) dL_law_257 oc_X9_fault im_X9_fault se_X9_fault ml_L_28 rfl ⟨(Nat.le_of_ble_eq_true rfl), (Nat.le_of_ble_eq_true rfl)⟩ (Nat.le_of_ble_eq_true rfl) (Nat.le_of_ble_eq_true rfl) rfl rfl rfl (Or.inl rfl) hC (fun z M1 hQ => ?_)
  exact k z M1 hQ
theorem kL_law_260 {X : Scr} {M : Mem} {P : Option AV → Mem → Prop} {x3 xs0 xs1 : Int} (k1 : xs0 = xs1 → Runs X mL_law 1363 [(0, vr 999), (1, vr 0), (2, vr 200), (3, vi x3)] [] M P) (k2 : xs0 ≠ xs1 → Runs X mL_law 263 [] [] M P) : Runs X mL_law 260 [(0, vr 999), (1, vr 0), (2, vr 200), (3, vi x3)] [vi xs1, vi xs0] M P := by
  refine Runs.icmp_eq (tgt := 1363) dL_law_260 (by decide) (fun h => ?_) (fun h => ?_)
  · exact k1 h
  · refine Runs.picks (loc' := []) [] rfl ?_
    exact k2 h
theorem kL_law_263 {X : Scr} {M : Mem} {P : Option AV → Mem → Prop} (k : P (some (vi (0 : Int))) M) (h1 : 0 ≤ (0 : Int) ∧ (0 : Int) ≤ 1 := by omega) : Runs X mL_law 263 [] [] M P := by
  refine Runs.iconst dL_law_263 (by decide) ?_
  exact Runs.retz dL_law_264 rfl h1 k
theorem kL_law_265 {X : Scr} {M : Mem} {P Q : Option AV → Mem → Prop} {x3 : Int} (hC : Call X mX8_market [vr 0] M Q) (k : ∀ (z : Int) (M1 : Mem), Q (some (vi z)) M1 → Runs X mL_law 269 [(0, vr 999), (1, vr 0), (2, vr 200), (3, vi x3)] [vi z] M1 P) : Runs X mL_law 265 [(0, vr 999), (1, vr 0), (2, vr 200), (3, vi x3)] [] M P := by
  refine Runs.aload_n (j := 1) dL_law_265 rfl ?_
  refine Runs.callVi (y := mX8_market) (n := 0) (as := []) (st := []) (q := (RX8, TX8, 12)) dL_law_266 oc_X8_market im_X8_market se_X8_market ml_L_29 rfl ⟨(Nat.le_of_ble_eq_true rfl), (Nat.le_of_ble_eq_true rfl)⟩ (Nat.le_of_ble_eq_true rfl) (Nat.le_of_ble_eq_true rfl) rfl rfl rfl (Or.inl rfl) hC (fun z M1 hQ => ?_)
  exact k z M1 hQ
theorem kL_law_269 {X : Scr} {M : Mem} {P Q : Option AV → Mem → Prop} {x3 xs0 : Int} (hC : Call X mX9_market [vr 200] M Q) (k : ∀ (z : Int) (M1 : Mem), Q (some (vi z)) M1 → Runs X mL_law 273 [(0, vr 999), (1, vr 0), (2, vr 200), (3, vi x3)] [vi z, vi xs0] M1 P) : Runs X mL_law 269 [(0, vr 999), (1, vr 0), (2, vr 200), (3, vi x3)] [vi xs0] M P := by
  refine Runs.aload_n (j := 2) dL_law_269 rfl ?_
  refine Runs.callVi (y := mX9_market) (n := 0) (as := []) (st := [vi xs0]) (q := (RX9, TX9, 48)) dL_law_270 oc_X9_market im_X9_market se_X9_market ml_L_32 rfl ⟨(Nat.le_of_ble_eq_true rfl), (Nat.le_of_ble_eq_true rfl)⟩ (Nat.le_of_ble_eq_true rfl) (Nat.le_of_ble_eq_true rfl) rfl rfl rfl (Or.inl rfl) hC (fun z M1 hQ => ?_)
  exact k z M1 hQ
theorem kL_law_273 {X : Scr} {M : Mem} {P : Option AV → Mem → Prop} {x3 xs0 xs1 : Int} (k1 : xs0 = xs1 → Runs X mL_law 1363 [(0, vr 999), (1, vr 0), (2, vr 200), (3, vi x3)] [] M P) (k2 : xs0 ≠ xs1 → Runs X mL_law 276 [] [] M P) : Runs X mL_law 273 [(0, vr 999), (1, vr 0), (2, vr 200), (3, vi x3)] [vi xs1, vi xs0] M P := by
  refine Runs.icmp_eq (tgt := 1363) dL_law_273 (by decide) (fun h => ?_) (fun h => ?_)
  · exact k1 h
  · refine Runs.picks (loc' := []) [] rfl ?_
    exact k2 h
theorem kL_law_276 {X : Scr} {M : Mem} {P : Option AV → Mem → Prop} (k : P (some (vi (0 : Int))) M) (h1 : 0 ≤ (0 : Int) ∧ (0 : Int) ≤ 1 := by omega) : Runs X mL_law 276 [] [] M P := by
  refine Runs.iconst dL_law_276 (by decide) ?_
  exact Runs.retz dL_law_277 rfl h1 k
theorem kL_law_278 {X : Scr} {M : Mem} {P Q : Option AV → Mem → Prop} {x3 : Int} (hC : Call X mX8_about [vr 0, vi (X.2 ((x3 + (1 : Int))).toNat)] M Q) (k : ∀ (z : Int) (M1 : Mem), Q (some (vi z)) M1 → Runs X mL_law 287 [(0, vr 999), (1, vr 0), (2, vr 200), (3, vi x3)] [vi z] M1 P) (h1 : -2147483648 ≤ (x3 + (1 : Int)) ∧ (x3 + (1 : Int)) ≤ 2147483647 := by omega) (h2 : 0 ≤ (x3 + (1 : Int)) := by omega) (h3 : (x3 + (1 : Int)) < ((X.1 : Nat) : Int) := by omega) (h4 : ∀ j, inI (X.2 j) := by assumption) : Runs X mL_law 278 [(0, vr 999), (1, vr 0), (2, vr 200), (3, vi x3)] [] M P := by
  refine Runs.aload_n (j := 1) dL_law_278 rfl ?_
  refine Runs.aload_n (j := 0) dL_law_279 rfl ?_
  refine Runs.iload_n (j := 3) dL_law_280 rfl ?_
  refine Runs.iconst dL_law_281 (by decide) ?_
  refine Runs.iadd dL_law_282 h1 ?_
  refine Runs.sld rfl h4 dL_law_283 h2 h3 ?_
  refine Runs.callVi (y := mX8_about) (n := 1) (as := [vi (X.2 ((x3 + (1 : Int))).toNat)]) (st := []) (q := (RX8, TX8, 12)) dL_law_284 oc_X8_about im_X8_about se_X8_about ml_L_33 rfl ⟨(Nat.le_of_ble_eq_true rfl), (Nat.le_of_ble_eq_true rfl)⟩ (Nat.le_of_ble_eq_true rfl) (Nat.le_of_ble_eq_true rfl) rfl rfl rfl (Or.inl rfl) hC (fun z M1 hQ => ?_)
  exact k z M1 hQ
theorem kL_law_287 {X : Scr} {M : Mem} {P Q : Option AV → Mem → Prop} {x3 xs0 : Int} (hC : Call X mX9_about [vr 200, vi (X.2 ((x3 + (1 : Int))).toNat)] M Q) (k : ∀ (z : Int) (M1 : Mem), Q (some (vi z)) M1 → Runs X mL_law 296 [(0, vr 999), (1, vr 0), (2, vr 200), (3, vi x3)] [vi z, vi xs0] M1 P) (h1 : -2147483648 ≤ (x3 + (1 : Int)) ∧ (x3 + (1 : Int)) ≤ 2147483647 := by omega) (h2 : 0 ≤ (x3 + (1 : Int)) := by omega) (h3 : (x3 + (1 : Int)) < ((X.1 : Nat) : Int) := by omega) (h4 : ∀ j, inI (X.2 j) := by assumption) : Runs X mL_law 287 [(0, vr 999), (1, vr 0), (2, vr 200), (3, vi x3)] [vi xs0] M P := by
  refine Runs.aload_n (j := 2) dL_law_287 rfl ?_
  refine Runs.aload_n (j := 0) dL_law_288 rfl ?_
  refine Runs.iload_n (j := 3) dL_law_289 rfl ?_
  refine Runs.iconst dL_law_290 (by decide) ?_
  refine Runs.iadd dL_law_291 h1 ?_
  refine Runs.sld rfl h4 dL_law_292 h2 h3 ?_
  refine Runs.callVi (y := mX9_about) (n := 1) (as := [vi (X.2 ((x3 + (1 : Int))).toNat)]) (st := [vi xs0]) (q := (RX9, TX9, 48)) dL_law_293 oc_X9_about im_X9_about se_X9_about ml_L_37 rfl ⟨(Nat.le_of_ble_eq_true rfl), (Nat.le_of_ble_eq_true rfl)⟩ (Nat.le_of_ble_eq_true rfl) (Nat.le_of_ble_eq_true rfl) rfl rfl rfl (Or.inl rfl) hC (fun z M1 hQ => ?_)
  exact k z M1 hQ
theorem kL_law_296 {X : Scr} {M : Mem} {P : Option AV → Mem → Prop} {x3 xs0 xs1 : Int} (k1 : xs0 = xs1 → Runs X mL_law 1363 [(0, vr 999), (1, vr 0), (2, vr 200), (3, vi x3)] [] M P) (k2 : xs0 ≠ xs1 → Runs X mL_law 299 [] [] M P) : Runs X mL_law 296 [(0, vr 999), (1, vr 0), (2, vr 200), (3, vi x3)] [vi xs1, vi xs0] M P := by
  refine Runs.icmp_eq (tgt := 1363) dL_law_296 (by decide) (fun h => ?_) (fun h => ?_)
  · exact k1 h
  · refine Runs.picks (loc' := []) [] rfl ?_
    exact k2 h
theorem kL_law_299 {X : Scr} {M : Mem} {P : Option AV → Mem → Prop} (k : P (some (vi (0 : Int))) M) (h1 : 0 ≤ (0 : Int) ∧ (0 : Int) ≤ 1 := by omega) : Runs X mL_law 299 [] [] M P := by
  refine Runs.iconst dL_law_299 (by decide) ?_
  exact Runs.retz dL_law_300 rfl h1 k
theorem kL_law_301 {X : Scr} {M : Mem} {P Q : Option AV → Mem → Prop} {x3 : Int} (hC : Call X mX8_tooth [vr 0, vi (X.2 ((x3 + (1 : Int))).toNat), vi (X.2 ((x3 + (2 : Int))).toNat)] M Q) (k : ∀ (z : Int) (M1 : Mem), Q (some (vi z)) M1 → Runs X mL_law 315 [(0, vr 999), (1, vr 0), (2, vr 200), (3, vi x3)] [vi z] M1 P) (h1 : -2147483648 ≤ (x3 + (1 : Int)) ∧ (x3 + (1 : Int)) ≤ 2147483647 := by omega) (h2 : 0 ≤ (x3 + (1 : Int)) := by omega) (h3 : (x3 + (1 : Int)) < ((X.1 : Nat) : Int) := by omega) (h4 : ∀ j, inI (X.2 j) := by assumption) (h5 : -2147483648 ≤ (x3 + (2 : Int)) ∧ (x3 + (2 : Int)) ≤ 2147483647 := by omega) (h6 : 0 ≤ (x3 + (2 : Int)) := by omega) (h7 : (x3 + (2 : Int)) < ((X.1 : Nat) : Int) := by omega) : Runs X mL_law 301 [(0, vr 999), (1, vr 0), (2, vr 200), (3, vi x3)] [] M P := by
  refine Runs.aload_n (j := 1) dL_law_301 rfl ?_
  refine Runs.aload_n (j := 0) dL_law_302 rfl ?_
  refine Runs.iload_n (j := 3) dL_law_303 rfl ?_
  refine Runs.iconst dL_law_304 (by decide) ?_
  refine Runs.iadd dL_law_305 h1 ?_
  refine Runs.sld rfl h4 dL_law_306 h2 h3 ?_
  refine Runs.aload_n (j := 0) dL_law_307 rfl ?_
  refine Runs.iload_n (j := 3) dL_law_308 rfl ?_
  refine Runs.iconst dL_law_309 (by decide) ?_
  refine Runs.iadd dL_law_310 h5 ?_
  refine Runs.sld rfl h4 dL_law_311 h6 h7 ?_
  refine Runs.callVi (y := mX8_tooth) (n := 2) (as := [vi (X.2 ((x3 + (1 : Int))).toNat), vi (X.2 ((x3 + (2 : Int))).toNat)]) (st := []) (q := (RX8, TX8, 12)) dL_law_312 oc_X8_tooth im_X8_tooth se_X8_tooth ml_L_38 rfl ⟨(Nat.le_of_ble_eq_true rfl), (Nat.le_of_ble_eq_true rfl)⟩ (Nat.le_of_ble_eq_true rfl) (Nat.le_of_ble_eq_true rfl) rfl rfl rfl (Or.inl rfl) hC (fun z M1 hQ => ?_)
  exact k z M1 hQ
theorem kL_law_315 {X : Scr} {M : Mem} {P Q : Option AV → Mem → Prop} {x3 xs0 : Int} (hC : Call X mX9_tooth [vr 200, vi (X.2 ((x3 + (1 : Int))).toNat), vi (X.2 ((x3 + (2 : Int))).toNat)] M Q) (k : ∀ (z : Int) (M1 : Mem), Q (some (vi z)) M1 → Runs X mL_law 329 [(0, vr 999), (1, vr 0), (2, vr 200), (3, vi x3)] [vi z, vi xs0] M1 P) (h1 : -2147483648 ≤ (x3 + (1 : Int)) ∧ (x3 + (1 : Int)) ≤ 2147483647 := by omega) (h2 : 0 ≤ (x3 + (1 : Int)) := by omega) (h3 : (x3 + (1 : Int)) < ((X.1 : Nat) : Int) := by omega) (h4 : ∀ j, inI (X.2 j) := by assumption) (h5 : -2147483648 ≤ (x3 + (2 : Int)) ∧ (x3 + (2 : Int)) ≤ 2147483647 := by omega) (h6 : 0 ≤ (x3 + (2 : Int)) := by omega) (h7 : (x3 + (2 : Int)) < ((X.1 : Nat) : Int) := by omega) : Runs X mL_law 315 [(0, vr 999), (1, vr 0), (2, vr 200), (3, vi x3)] [vi xs0] M P := by
  refine Runs.aload_n (j := 2) dL_law_315 rfl ?_
  refine Runs.aload_n (j := 0) dL_law_316 rfl ?_
  refine Runs.iload_n (j := 3) dL_law_317 rfl ?_
  refine Runs.iconst dL_law_318 (by decide) ?_
  refine Runs.iadd dL_law_319 h1 ?_
  refine Runs.sld rfl h4 dL_law_320 h2 h3 ?_
  refine Runs.aload_n (j := 0) dL_law_321 rfl ?_
  refine Runs.iload_n (j := 3) dL_law_322 rfl ?_
  refine Runs.iconst dL_law_323 (by decide) ?_
  refine Runs.iadd dL_law_324 h5 ?_
  refine Runs.sld rfl h4 dL_law_325 h6 h7 ?_
  refine Runs.callVi (y := mX9_tooth) (n := 2) (as := [vi (X.2 ((x3 + (1 : Int))).toNat), vi (X.2 ((x3 + (2 : Int))).toNat)]) (st := [vi xs0]) (q := (RX9, TX9, 48)) dL_law_326 oc_X9_tooth im_X9_tooth se_X9_tooth ml_L_42 rfl ⟨(Nat.le_of_ble_eq_true rfl), (Nat.le_of_ble_eq_true rfl)⟩ (Nat.le_of_ble_eq_true rfl) (Nat.le_of_ble_eq_true rfl) rfl rfl rfl (Or.inl rfl) hC (fun z M1 hQ => ?_)
  exact k z M1 hQ
theorem kL_law_329 {X : Scr} {M : Mem} {P : Option AV → Mem → Prop} {x3 xs0 xs1 : Int} (k1 : xs0 = xs1 → Runs X mL_law 1363 [(0, vr 999), (1, vr 0), (2, vr 200), (3, vi x3)] [] M P) (k2 : xs0 ≠ xs1 → Runs X mL_law 332 [] [] M P) : Runs X mL_law 329 [(0, vr 999), (1, vr 0), (2, vr 200), (3, vi x3)] [vi xs1, vi xs0] M P := by
  refine Runs.icmp_eq (tgt := 1363) dL_law_329 (by decide) (fun h => ?_) (fun h => ?_)
  · exact k1 h
  · refine Runs.picks (loc' := []) [] rfl ?_
    exact k2 h
theorem kL_law_332 {X : Scr} {M : Mem} {P : Option AV → Mem → Prop} (k : P (some (vi (0 : Int))) M) (h1 : 0 ≤ (0 : Int) ∧ (0 : Int) ≤ 1 := by omega) : Runs X mL_law 332 [] [] M P := by
  refine Runs.iconst dL_law_332 (by decide) ?_
  exact Runs.retz dL_law_333 rfl h1 k
theorem kL_law_334 {X : Scr} {M : Mem} {P Q : Option AV → Mem → Prop} {x3 : Int} (hC : Call X mX8_good [vr 0, vi (X.2 ((x3 + (1 : Int))).toNat), vi (X.2 ((x3 + (2 : Int))).toNat)] M Q) (k : ∀ (z : Int) (M1 : Mem), Q (some (vi z)) M1 → Runs X mL_law 348 [(0, vr 999), (1, vr 0), (2, vr 200), (3, vi x3)] [vi z] M1 P) (h1 : -2147483648 ≤ (x3 + (1 : Int)) ∧ (x3 + (1 : Int)) ≤ 2147483647 := by omega) (h2 : 0 ≤ (x3 + (1 : Int)) := by omega) (h3 : (x3 + (1 : Int)) < ((X.1 : Nat) : Int) := by omega) (h4 : ∀ j, inI (X.2 j) := by assumption) (h5 : -2147483648 ≤ (x3 + (2 : Int)) ∧ (x3 + (2 : Int)) ≤ 2147483647 := by omega) (h6 : 0 ≤ (x3 + (2 : Int)) := by omega) (h7 : (x3 + (2 : Int)) < ((X.1 : Nat) : Int) := by omega) : Runs X mL_law 334 [(0, vr 999), (1, vr 0), (2, vr 200), (3, vi x3)] [] M P := by
  refine Runs.aload_n (j := 1) dL_law_334 rfl ?_
  refine Runs.aload_n (j := 0) dL_law_335 rfl ?_
  refine Runs.iload_n (j := 3) dL_law_336 rfl ?_
  refine Runs.iconst dL_law_337 (by decide) ?_
  refine Runs.iadd dL_law_338 h1 ?_
  refine Runs.sld rfl h4 dL_law_339 h2 h3 ?_
  refine Runs.aload_n (j := 0) dL_law_340 rfl ?_
  refine Runs.iload_n (j := 3) dL_law_341 rfl ?_
  refine Runs.iconst dL_law_342 (by decide) ?_
  refine Runs.iadd dL_law_343 h5 ?_
  refine Runs.sld rfl h4 dL_law_344 h6 h7 ?_
  refine Runs.callVi (y := mX8_good) (n := 2) (as := [vi (X.2 ((x3 + (1 : Int))).toNat), vi (X.2 ((x3 + (2 : Int))).toNat)]) (st := []) (q := (RX8, TX8, 12)) dL_law_345 oc_X8_good im_X8_good se_X8_good ml_L_43 rfl ⟨(Nat.le_of_ble_eq_true rfl), (Nat.le_of_ble_eq_true rfl)⟩ (Nat.le_of_ble_eq_true rfl) (Nat.le_of_ble_eq_true rfl) rfl rfl rfl (Or.inl rfl) hC (fun z M1 hQ => ?_)
  exact k z M1 hQ
theorem kL_law_348 {X : Scr} {M : Mem} {P Q : Option AV → Mem → Prop} {x3 xs0 : Int} (hC : Call X mX9_good [vr 200, vi (X.2 ((x3 + (1 : Int))).toNat), vi (X.2 ((x3 + (2 : Int))).toNat)] M Q) (k : ∀ (z : Int) (M1 : Mem), Q (some (vi z)) M1 → Runs X mL_law 362 [(0, vr 999), (1, vr 0), (2, vr 200), (3, vi x3)] [vi z, vi xs0] M1 P) (h1 : -2147483648 ≤ (x3 + (1 : Int)) ∧ (x3 + (1 : Int)) ≤ 2147483647 := by omega) (h2 : 0 ≤ (x3 + (1 : Int)) := by omega) (h3 : (x3 + (1 : Int)) < ((X.1 : Nat) : Int) := by omega) (h4 : ∀ j, inI (X.2 j) := by assumption) (h5 : -2147483648 ≤ (x3 + (2 : Int)) ∧ (x3 + (2 : Int)) ≤ 2147483647 := by omega) (h6 : 0 ≤ (x3 + (2 : Int)) := by omega) (h7 : (x3 + (2 : Int)) < ((X.1 : Nat) : Int) := by omega) : Runs X mL_law 348 [(0, vr 999), (1, vr 0), (2, vr 200), (3, vi x3)] [vi xs0] M P := by
  refine Runs.aload_n (j := 2) dL_law_348 rfl ?_
  refine Runs.aload_n (j := 0) dL_law_349 rfl ?_
  refine Runs.iload_n (j := 3) dL_law_350 rfl ?_
  refine Runs.iconst dL_law_351 (by decide) ?_
  refine Runs.iadd dL_law_352 h1 ?_
  refine Runs.sld rfl h4 dL_law_353 h2 h3 ?_
  refine Runs.aload_n (j := 0) dL_law_354 rfl ?_
  refine Runs.iload_n (j := 3) dL_law_355 rfl ?_
  refine Runs.iconst dL_law_356 (by decide) ?_
  refine Runs.iadd dL_law_357 h5 ?_
  refine Runs.sld rfl h4 dL_law_358 h6 h7 ?_
  refine Runs.callVi (y := mX9_good) (n := 2) (as := [vi (X.2 ((x3 + (1 : Int))).toNat), vi (X.2 ((x3 + (2 : Int))).toNat)]) (st := [vi xs0]) (q := (RX9, TX9, 48)) dL_law_359 oc_X9_good im_X9_good se_X9_good ml_L_46 rfl ⟨(Nat.le_of_ble_eq_true rfl), (Nat.le_of_ble_eq_true rfl)⟩ (Nat.le_of_ble_eq_true rfl) (Nat.le_of_ble_eq_true rfl) rfl rfl rfl (Or.inl rfl) hC (fun z M1 hQ => ?_)
  exact k z M1 hQ
theorem kL_law_362 {X : Scr} {M : Mem} {P : Option AV → Mem → Prop} {x3 xs0 xs1 : Int} (k1 : xs0 = xs1 → Runs X mL_law 1363 [(0, vr 999), (1, vr 0), (2, vr 200), (3, vi x3)] [] M P) (k2 : xs0 ≠ xs1 → Runs X mL_law 365 [] [] M P) : Runs X mL_law 362 [(0, vr 999), (1, vr 0), (2, vr 200), (3, vi x3)] [vi xs1, vi xs0] M P := by
  refine Runs.icmp_eq (tgt := 1363) dL_law_362 (by decide) (fun h => ?_) (fun h => ?_)
  · exact k1 h
  · refine Runs.picks (loc' := []) [] rfl ?_
    exact k2 h
theorem kL_law_365 {X : Scr} {M : Mem} {P : Option AV → Mem → Prop} (k : P (some (vi (0 : Int))) M) (h1 : 0 ≤ (0 : Int) ∧ (0 : Int) ≤ 1 := by omega) : Runs X mL_law 365 [] [] M P := by
  refine Runs.iconst dL_law_365 (by decide) ?_
  exact Runs.retz dL_law_366 rfl h1 k
theorem kL_law_367 {X : Scr} {M : Mem} {P Q : Option AV → Mem → Prop} {x3 : Int} (hC : Call X mX8_purse [vr 0, vi (X.2 ((x3 + (1 : Int))).toNat)] M Q) (k : ∀ (z : Int) (M1 : Mem), Q (some (vi z)) M1 → Runs X mL_law 376 [(0, vr 999), (1, vr 0), (2, vr 200), (3, vi x3)] [vi z] M1 P) (h1 : -2147483648 ≤ (x3 + (1 : Int)) ∧ (x3 + (1 : Int)) ≤ 2147483647 := by omega) (h2 : 0 ≤ (x3 + (1 : Int)) := by omega) (h3 : (x3 + (1 : Int)) < ((X.1 : Nat) : Int) := by omega) (h4 : ∀ j, inI (X.2 j) := by assumption) : Runs X mL_law 367 [(0, vr 999), (1, vr 0), (2, vr 200), (3, vi x3)] [] M P := by
  refine Runs.aload_n (j := 1) dL_law_367 rfl ?_
  refine Runs.aload_n (j := 0) dL_law_368 rfl ?_
  refine Runs.iload_n (j := 3) dL_law_369 rfl ?_
  refine Runs.iconst dL_law_370 (by decide) ?_
  refine Runs.iadd dL_law_371 h1 ?_
  refine Runs.sld rfl h4 dL_law_372 h2 h3 ?_
  refine Runs.callVi (y := mX8_purse) (n := 1) (as := [vi (X.2 ((x3 + (1 : Int))).toNat)]) (st := []) (q := (RX8, TX8, 12)) dL_law_373 oc_X8_purse im_X8_purse se_X8_purse ml_L_47 rfl ⟨(Nat.le_of_ble_eq_true rfl), (Nat.le_of_ble_eq_true rfl)⟩ (Nat.le_of_ble_eq_true rfl) (Nat.le_of_ble_eq_true rfl) rfl rfl rfl (Or.inl rfl) hC (fun z M1 hQ => ?_)
  exact k z M1 hQ
theorem kL_law_376 {X : Scr} {M : Mem} {P Q : Option AV → Mem → Prop} {x3 xs0 : Int} (hC : Call X mX9_purse [vr 200, vi (X.2 ((x3 + (1 : Int))).toNat)] M Q) (k : ∀ (z : Int) (M1 : Mem), Q (some (vi z)) M1 → Runs X mL_law 385 [(0, vr 999), (1, vr 0), (2, vr 200), (3, vi x3)] [vi z, vi xs0] M1 P) (h1 : -2147483648 ≤ (x3 + (1 : Int)) ∧ (x3 + (1 : Int)) ≤ 2147483647 := by omega) (h2 : 0 ≤ (x3 + (1 : Int)) := by omega) (h3 : (x3 + (1 : Int)) < ((X.1 : Nat) : Int) := by omega) (h4 : ∀ j, inI (X.2 j) := by assumption) : Runs X mL_law 376 [(0, vr 999), (1, vr 0), (2, vr 200), (3, vi x3)] [vi xs0] M P := by
  refine Runs.aload_n (j := 2) dL_law_376 rfl ?_
  refine Runs.aload_n (j := 0) dL_law_377 rfl ?_
  refine Runs.iload_n (j := 3) dL_law_378 rfl ?_
  refine Runs.iconst dL_law_379 (by decide) ?_
  refine Runs.iadd dL_law_380 h1 ?_
  refine Runs.sld rfl h4 dL_law_381 h2 h3 ?_
  refine Runs.callVi (y := mX9_purse) (n := 1) (as := [vi (X.2 ((x3 + (1 : Int))).toNat)]) (st := [vi xs0]) (q := (RX9, TX9, 48)) dL_law_382 oc_X9_purse im_X9_purse se_X9_purse ml_L_50 rfl ⟨(Nat.le_of_ble_eq_true rfl), (Nat.le_of_ble_eq_true rfl)⟩ (Nat.le_of_ble_eq_true rfl) (Nat.le_of_ble_eq_true rfl) rfl rfl rfl (Or.inl rfl) hC (fun z M1 hQ => ?_)
  exact k z M1 hQ
theorem kL_law_385 {X : Scr} {M : Mem} {P : Option AV → Mem → Prop} {x3 xs0 xs1 : Int} (k1 : xs0 = xs1 → Runs X mL_law 1363 [(0, vr 999), (1, vr 0), (2, vr 200), (3, vi x3)] [] M P) (k2 : xs0 ≠ xs1 → Runs X mL_law 388 [] [] M P) : Runs X mL_law 385 [(0, vr 999), (1, vr 0), (2, vr 200), (3, vi x3)] [vi xs1, vi xs0] M P := by
  refine Runs.icmp_eq (tgt := 1363) dL_law_385 (by decide) (fun h => ?_) (fun h => ?_)
  · exact k1 h
  · refine Runs.picks (loc' := []) [] rfl ?_
    exact k2 h
theorem kL_law_388 {X : Scr} {M : Mem} {P : Option AV → Mem → Prop} (k : P (some (vi (0 : Int))) M) (h1 : 0 ≤ (0 : Int) ∧ (0 : Int) ≤ 1 := by omega) : Runs X mL_law 388 [] [] M P := by
  refine Runs.iconst dL_law_388 (by decide) ?_
  exact Runs.retz dL_law_389 rfl h1 k
theorem kL_law_390 {X : Scr} {M : Mem} {P Q : Option AV → Mem → Prop} {x3 : Int} (hC : Call X mX8_handle [vr 0, vi (X.2 ((x3 + (1 : Int))).toNat)] M Q) (k : ∀ (z : Int) (M1 : Mem), Q (some (vi z)) M1 → Runs X mL_law 399 [(0, vr 999), (1, vr 0), (2, vr 200), (3, vi x3)] [vi z] M1 P) (h1 : -2147483648 ≤ (x3 + (1 : Int)) ∧ (x3 + (1 : Int)) ≤ 2147483647 := by omega) (h2 : 0 ≤ (x3 + (1 : Int)) := by omega) (h3 : (x3 + (1 : Int)) < ((X.1 : Nat) : Int) := by omega) (h4 : ∀ j, inI (X.2 j) := by assumption) : Runs X mL_law 390 [(0, vr 999), (1, vr 0), (2, vr 200), (3, vi x3)] [] M P := by
  refine Runs.aload_n (j := 1) dL_law_390 rfl ?_
  refine Runs.aload_n (j := 0) dL_law_391 rfl ?_
  refine Runs.iload_n (j := 3) dL_law_392 rfl ?_
  refine Runs.iconst dL_law_393 (by decide) ?_
  refine Runs.iadd dL_law_394 h1 ?_
  refine Runs.sld rfl h4 dL_law_395 h2 h3 ?_
  refine Runs.callVi (y := mX8_handle) (n := 1) (as := [vi (X.2 ((x3 + (1 : Int))).toNat)]) (st := []) (q := (RX8, TX8, 12)) dL_law_396 oc_X8_handle im_X8_handle se_X8_handle ml_L_51 rfl ⟨(Nat.le_of_ble_eq_true rfl), (Nat.le_of_ble_eq_true rfl)⟩ (Nat.le_of_ble_eq_true rfl) (Nat.le_of_ble_eq_true rfl) rfl rfl rfl (Or.inl rfl) hC (fun z M1 hQ => ?_)
  exact k z M1 hQ
theorem kL_law_399 {X : Scr} {M : Mem} {P Q : Option AV → Mem → Prop} {x3 xs0 : Int} (hC : Call X mX9_handle [vr 200, vi (X.2 ((x3 + (1 : Int))).toNat)] M Q) (k : ∀ (z : Int) (M1 : Mem), Q (some (vi z)) M1 → Runs X mL_law 408 [(0, vr 999), (1, vr 0), (2, vr 200), (3, vi x3)] [vi z, vi xs0] M1 P) (h1 : -2147483648 ≤ (x3 + (1 : Int)) ∧ (x3 + (1 : Int)) ≤ 2147483647 := by omega) (h2 : 0 ≤ (x3 + (1 : Int)) := by omega) (h3 : (x3 + (1 : Int)) < ((X.1 : Nat) : Int) := by omega) (h4 : ∀ j, inI (X.2 j) := by assumption) : Runs X mL_law 399 [(0, vr 999), (1, vr 0), (2, vr 200), (3, vi x3)] [vi xs0] M P := by
  refine Runs.aload_n (j := 2) dL_law_399 rfl ?_
  refine Runs.aload_n (j := 0) dL_law_400 rfl ?_
  refine Runs.iload_n (j := 3) dL_law_401 rfl ?_
  refine Runs.iconst dL_law_402 (by decide) ?_
  refine Runs.iadd dL_law_403 h1 ?_
  refine Runs.sld rfl h4 dL_law_404 h2 h3 ?_
  refine Runs.callVi (y := mX9_handle) (n := 1) (as := [vi (X.2 ((x3 + (1 : Int))).toNat)]) (st := [vi xs0]) (q := (RX9, TX9, 48)) dL_law_405 oc_X9_handle im_X9_handle se_X9_handle ml_L_54 rfl ⟨(Nat.le_of_ble_eq_true rfl), (Nat.le_of_ble_eq_true rfl)⟩ (Nat.le_of_ble_eq_true rfl) (Nat.le_of_ble_eq_true rfl) rfl rfl rfl (Or.inl rfl) hC (fun z M1 hQ => ?_)
  exact k z M1 hQ
theorem kL_law_408 {X : Scr} {M : Mem} {P : Option AV → Mem → Prop} {x3 xs0 xs1 : Int} (k1 : xs0 = xs1 → Runs X mL_law 1363 [(0, vr 999), (1, vr 0), (2, vr 200), (3, vi x3)] [] M P) (k2 : xs0 ≠ xs1 → Runs X mL_law 411 [] [] M P) : Runs X mL_law 408 [(0, vr 999), (1, vr 0), (2, vr 200), (3, vi x3)] [vi xs1, vi xs0] M P := by
  refine Runs.icmp_eq (tgt := 1363) dL_law_408 (by decide) (fun h => ?_) (fun h => ?_)
  · exact k1 h
  · refine Runs.picks (loc' := []) [] rfl ?_
    exact k2 h
theorem kL_law_411 {X : Scr} {M : Mem} {P : Option AV → Mem → Prop} (k : P (some (vi (0 : Int))) M) (h1 : 0 ≤ (0 : Int) ∧ (0 : Int) ≤ 1 := by omega) : Runs X mL_law 411 [] [] M P := by
  refine Runs.iconst dL_law_411 (by decide) ?_
  exact Runs.retz dL_law_412 rfl h1 k
theorem kL_law_413 {X : Scr} {M : Mem} {P Q : Option AV → Mem → Prop} {x3 : Int} (hC : Call X mX8_bite [vr 0, vi (X.2 ((x3 + (1 : Int))).toNat)] M Q) (k : ∀ (z : Int) (M1 : Mem), Q (some (vi z)) M1 → Runs X mL_law 422 [(0, vr 999), (1, vr 0), (2, vr 200), (3, vi x3)] [vi z] M1 P) (h1 : -2147483648 ≤ (x3 + (1 : Int)) ∧ (x3 + (1 : Int)) ≤ 2147483647 := by omega) (h2 : 0 ≤ (x3 + (1 : Int)) := by omega) (h3 : (x3 + (1 : Int)) < ((X.1 : Nat) : Int) := by omega) (h4 : ∀ j, inI (X.2 j) := by assumption) : Runs X mL_law 413 [(0, vr 999), (1, vr 0), (2, vr 200), (3, vi x3)] [] M P := by
  refine Runs.aload_n (j := 1) dL_law_413 rfl ?_
  refine Runs.aload_n (j := 0) dL_law_414 rfl ?_
  refine Runs.iload_n (j := 3) dL_law_415 rfl ?_
  refine Runs.iconst dL_law_416 (by decide) ?_
  refine Runs.iadd dL_law_417 h1 ?_
  refine Runs.sld rfl h4 dL_law_418 h2 h3 ?_
  refine Runs.callVi (y := mX8_bite) (n := 1) (as := [vi (X.2 ((x3 + (1 : Int))).toNat)]) (st := []) (q := (RX8, TX8, 12)) dL_law_419 oc_X8_bite im_X8_bite se_X8_bite ml_L_55 rfl ⟨(Nat.le_of_ble_eq_true rfl), (Nat.le_of_ble_eq_true rfl)⟩ (Nat.le_of_ble_eq_true rfl) (Nat.le_of_ble_eq_true rfl) rfl rfl rfl (Or.inl rfl) hC (fun z M1 hQ => ?_)
  exact k z M1 hQ
theorem kL_law_422 {X : Scr} {M : Mem} {P Q : Option AV → Mem → Prop} {x3 xs0 : Int} (hC : Call X mX9_bite [vr 200, vi (X.2 ((x3 + (1 : Int))).toNat)] M Q) (k : ∀ (z : Int) (M1 : Mem), Q (some (vi z)) M1 → Runs X mL_law 431 [(0, vr 999), (1, vr 0), (2, vr 200), (3, vi x3)] [vi z, vi xs0] M1 P) (h1 : -2147483648 ≤ (x3 + (1 : Int)) ∧ (x3 + (1 : Int)) ≤ 2147483647 := by omega) (h2 : 0 ≤ (x3 + (1 : Int)) := by omega) (h3 : (x3 + (1 : Int)) < ((X.1 : Nat) : Int) := by omega) (h4 : ∀ j, inI (X.2 j) := by assumption) : Runs X mL_law 422 [(0, vr 999), (1, vr 0), (2, vr 200), (3, vi x3)] [vi xs0] M P := by
  refine Runs.aload_n (j := 2) dL_law_422 rfl ?_
  refine Runs.aload_n (j := 0) dL_law_423 rfl ?_
  refine Runs.iload_n (j := 3) dL_law_424 rfl ?_
  refine Runs.iconst dL_law_425 (by decide) ?_
  refine Runs.iadd dL_law_426 h1 ?_
  refine Runs.sld rfl h4 dL_law_427 h2 h3 ?_
  refine Runs.callVi (y := mX9_bite) (n := 1) (as := [vi (X.2 ((x3 + (1 : Int))).toNat)]) (st := [vi xs0]) (q := (RX9, TX9, 48)) dL_law_428 oc_X9_bite im_X9_bite se_X9_bite ml_L_58 rfl ⟨(Nat.le_of_ble_eq_true rfl), (Nat.le_of_ble_eq_true rfl)⟩ (Nat.le_of_ble_eq_true rfl) (Nat.le_of_ble_eq_true rfl) rfl rfl rfl (Or.inl rfl) hC (fun z M1 hQ => ?_)
  exact k z M1 hQ
theorem kL_law_431 {X : Scr} {M : Mem} {P : Option AV → Mem → Prop} {x3 xs0 xs1 : Int} (k1 : xs0 = xs1 → Runs X mL_law 1363 [(0, vr 999), (1, vr 0), (2, vr 200), (3, vi x3)] [] M P) (k2 : xs0 ≠ xs1 → Runs X mL_law 434 [] [] M P) : Runs X mL_law 431 [(0, vr 999), (1, vr 0), (2, vr 200), (3, vi x3)] [vi xs1, vi xs0] M P := by
  refine Runs.icmp_eq (tgt := 1363) dL_law_431 (by decide) (fun h => ?_) (fun h => ?_)
  · exact k1 h
  · refine Runs.picks (loc' := []) [] rfl ?_
    exact k2 h
theorem kL_law_434 {X : Scr} {M : Mem} {P : Option AV → Mem → Prop} (k : P (some (vi (0 : Int))) M) (h1 : 0 ≤ (0 : Int) ∧ (0 : Int) ≤ 1 := by omega) : Runs X mL_law 434 [] [] M P := by
  refine Runs.iconst dL_law_434 (by decide) ?_
  exact Runs.retz dL_law_435 rfl h1 k
theorem kL_law_436 {X : Scr} {M : Mem} {P Q : Option AV → Mem → Prop} {x3 : Int} (hC : Call X mX8_fewest [vr 0, vi (X.2 ((x3 + (1 : Int))).toNat), vi (X.2 ((x3 + (2 : Int))).toNat), vi (X.2 ((x3 + (3 : Int))).toNat)] M Q) (k : ∀ (z : Int) (M1 : Mem), Q (some (vi z)) M1 → Runs X mL_law 455 [(0, vr 999), (1, vr 0), (2, vr 200), (3, vi x3)] [vi z] M1 P) (h1 : -2147483648 ≤ (x3 + (1 : Int)) ∧ (x3 + (1 : Int)) ≤ 2147483647 := by omega) (h2 : 0 ≤ (x3 + (1 : Int)) := by omega) (h3 : (x3 + (1 : Int)) < ((X.1 : Nat) : Int) := by omega) (h4 : ∀ j, inI (X.2 j) := by assumption) (h5 : -2147483648 ≤ (x3 + (2 : Int)) ∧ (x3 + (2 : Int)) ≤ 2147483647 := by omega) (h6 : 0 ≤ (x3 + (2 : Int)) := by omega) (h7 : (x3 + (2 : Int)) < ((X.1 : Nat) : Int) := by omega) (h8 : -2147483648 ≤ (x3 + (3 : Int)) ∧ (x3 + (3 : Int)) ≤ 2147483647 := by omega) (h9 : 0 ≤ (x3 + (3 : Int)) := by omega) (h10 : (x3 + (3 : Int)) < ((X.1 : Nat) : Int) := by omega) : Runs X mL_law 436 [(0, vr 999), (1, vr 0), (2, vr 200), (3, vi x3)] [] M P := by
  refine Runs.aload_n (j := 1) dL_law_436 rfl ?_
  refine Runs.aload_n (j := 0) dL_law_437 rfl ?_
  refine Runs.iload_n (j := 3) dL_law_438 rfl ?_
  refine Runs.iconst dL_law_439 (by decide) ?_
  refine Runs.iadd dL_law_440 h1 ?_
  refine Runs.sld rfl h4 dL_law_441 h2 h3 ?_
  refine Runs.aload_n (j := 0) dL_law_442 rfl ?_
  refine Runs.iload_n (j := 3) dL_law_443 rfl ?_
  refine Runs.iconst dL_law_444 (by decide) ?_
  refine Runs.iadd dL_law_445 h5 ?_
  refine Runs.sld rfl h4 dL_law_446 h6 h7 ?_
  refine Runs.aload_n (j := 0) dL_law_447 rfl ?_
  refine Runs.iload_n (j := 3) dL_law_448 rfl ?_
  refine Runs.iconst dL_law_449 (by decide) ?_
  refine Runs.iadd dL_law_450 h8 ?_
  refine Runs.sld rfl h4 dL_law_451 h9 h10 ?_
  refine Runs.callVi (y := mX8_fewest) (n := 3) (as := [vi (X.2 ((x3 + (1 : Int))).toNat), vi (X.2 ((x3 + (2 : Int))).toNat), vi (X.2 ((x3 + (3 : Int))).toNat)]) (st := []) (q := (RX8, TX8, 12)) dL_law_452 oc_X8_fewest im_X8_fewest se_X8_fewest ml_L_59 rfl ⟨(Nat.le_of_ble_eq_true rfl), (Nat.le_of_ble_eq_true rfl)⟩ (Nat.le_of_ble_eq_true rfl) (Nat.le_of_ble_eq_true rfl) rfl rfl rfl (Or.inl rfl) hC (fun z M1 hQ => ?_)
  exact k z M1 hQ
theorem kL_law_455 {X : Scr} {M : Mem} {P Q : Option AV → Mem → Prop} {x3 xs0 : Int} (hC : Call X mX9_fewest [vr 200, vi (X.2 ((x3 + (1 : Int))).toNat), vi (X.2 ((x3 + (2 : Int))).toNat), vi (X.2 ((x3 + (3 : Int))).toNat)] M Q) (k : ∀ (z : Int) (M1 : Mem), Q (some (vi z)) M1 → Runs X mL_law 474 [(0, vr 999), (1, vr 0), (2, vr 200), (3, vi x3)] [vi z, vi xs0] M1 P) (h1 : -2147483648 ≤ (x3 + (1 : Int)) ∧ (x3 + (1 : Int)) ≤ 2147483647 := by omega) (h2 : 0 ≤ (x3 + (1 : Int)) := by omega) (h3 : (x3 + (1 : Int)) < ((X.1 : Nat) : Int) := by omega) (h4 : ∀ j, inI (X.2 j) := by assumption) (h5 : -2147483648 ≤ (x3 + (2 : Int)) ∧ (x3 + (2 : Int)) ≤ 2147483647 := by omega) (h6 : 0 ≤ (x3 + (2 : Int)) := by omega) (h7 : (x3 + (2 : Int)) < ((X.1 : Nat) : Int) := by omega) (h8 : -2147483648 ≤ (x3 + (3 : Int)) ∧ (x3 + (3 : Int)) ≤ 2147483647 := by omega) (h9 : 0 ≤ (x3 + (3 : Int)) := by omega) (h10 : (x3 + (3 : Int)) < ((X.1 : Nat) : Int) := by omega) : Runs X mL_law 455 [(0, vr 999), (1, vr 0), (2, vr 200), (3, vi x3)] [vi xs0] M P := by
  refine Runs.aload_n (j := 2) dL_law_455 rfl ?_
  refine Runs.aload_n (j := 0) dL_law_456 rfl ?_
  refine Runs.iload_n (j := 3) dL_law_457 rfl ?_
  refine Runs.iconst dL_law_458 (by decide) ?_
  refine Runs.iadd dL_law_459 h1 ?_
  refine Runs.sld rfl h4 dL_law_460 h2 h3 ?_
  refine Runs.aload_n (j := 0) dL_law_461 rfl ?_
  refine Runs.iload_n (j := 3) dL_law_462 rfl ?_
  refine Runs.iconst dL_law_463 (by decide) ?_
  refine Runs.iadd dL_law_464 h5 ?_
  refine Runs.sld rfl h4 dL_law_465 h6 h7 ?_
  refine Runs.aload_n (j := 0) dL_law_466 rfl ?_
  refine Runs.iload_n (j := 3) dL_law_467 rfl ?_
  refine Runs.iconst dL_law_468 (by decide) ?_
  refine Runs.iadd dL_law_469 h8 ?_
  refine Runs.sld rfl h4 dL_law_470 h9 h10 ?_
  refine Runs.callVi (y := mX9_fewest) (n := 3) (as := [vi (X.2 ((x3 + (1 : Int))).toNat), vi (X.2 ((x3 + (2 : Int))).toNat), vi (X.2 ((x3 + (3 : Int))).toNat)]) (st := [vi xs0]) (q := (RX9, TX9, 48)) dL_law_471 oc_X9_fewest im_X9_fewest se_X9_fewest ml_L_63 rfl ⟨(Nat.le_of_ble_eq_true rfl), (Nat.le_of_ble_eq_true rfl)⟩ (Nat.le_of_ble_eq_true rfl) (Nat.le_of_ble_eq_true rfl) rfl rfl rfl (Or.inl rfl) hC (fun z M1 hQ => ?_)
  exact k z M1 hQ
theorem kL_law_474 {X : Scr} {M : Mem} {P : Option AV → Mem → Prop} {x3 xs0 xs1 : Int} (k1 : xs0 = xs1 → Runs X mL_law 1363 [(0, vr 999), (1, vr 0), (2, vr 200), (3, vi x3)] [] M P) (k2 : xs0 ≠ xs1 → Runs X mL_law 477 [] [] M P) : Runs X mL_law 474 [(0, vr 999), (1, vr 0), (2, vr 200), (3, vi x3)] [vi xs1, vi xs0] M P := by
  refine Runs.icmp_eq (tgt := 1363) dL_law_474 (by decide) (fun h => ?_) (fun h => ?_)
  · exact k1 h
  · refine Runs.picks (loc' := []) [] rfl ?_
    exact k2 h
theorem kL_law_477 {X : Scr} {M : Mem} {P : Option AV → Mem → Prop} (k : P (some (vi (0 : Int))) M) (h1 : 0 ≤ (0 : Int) ∧ (0 : Int) ≤ 1 := by omega) : Runs X mL_law 477 [] [] M P := by
  refine Runs.iconst dL_law_477 (by decide) ?_
  exact Runs.retz dL_law_478 rfl h1 k
theorem kL_law_479 {X : Scr} {M : Mem} {P : Option AV → Mem → Prop} {x3 : Int} (k1 : (X.2 ((x3 + (4 : Int))).toNat) = 0 → Runs X mL_law 507 [(0, vr 999), (1, vr 0), (2, vr 200), (3, vi x3)] [vi (X.2 ((x3 + (3 : Int))).toNat), vi (X.2 ((x3 + (2 : Int))).toNat), vi (X.2 ((x3 + (1 : Int))).toNat), vr 0] M P) (k2 : (X.2 ((x3 + (4 : Int))).toNat) ≠ 0 → Runs X mL_law 503 [(0, vr 999), (1, vr 0), (2, vr 200), (3, vi x3)] [vi (X.2 ((x3 + (3 : Int))).toNat), vi (X.2 ((x3 + (2 : Int))).toNat), vi (X.2 ((x3 + (1 : Int))).toNat), vr 0] M P) (h1 : -2147483648 ≤ (x3 + (1 : Int)) ∧ (x3 + (1 : Int)) ≤ 2147483647 := by omega) (h2 : 0 ≤ (x3 + (1 : Int)) := by omega) (h3 : (x3 + (1 : Int)) < ((X.1 : Nat) : Int) := by omega) (h4 : ∀ j, inI (X.2 j) := by assumption) (h5 : -2147483648 ≤ (x3 + (2 : Int)) ∧ (x3 + (2 : Int)) ≤ 2147483647 := by omega) (h6 : 0 ≤ (x3 + (2 : Int)) := by omega) (h7 : (x3 + (2 : Int)) < ((X.1 : Nat) : Int) := by omega) (h8 : -2147483648 ≤ (x3 + (3 : Int)) ∧ (x3 + (3 : Int)) ≤ 2147483647 := by omega) (h9 : 0 ≤ (x3 + (3 : Int)) := by omega) (h10 : (x3 + (3 : Int)) < ((X.1 : Nat) : Int) := by omega) (h11 : -2147483648 ≤ (x3 + (4 : Int)) ∧ (x3 + (4 : Int)) ≤ 2147483647 := by omega) (h12 : 0 ≤ (x3 + (4 : Int)) := by omega) (h13 : (x3 + (4 : Int)) < ((X.1 : Nat) : Int) := by omega) : Runs X mL_law 479 [(0, vr 999), (1, vr 0), (2, vr 200), (3, vi x3)] [] M P := by
  refine Runs.aload_n (j := 1) dL_law_479 rfl ?_
  refine Runs.aload_n (j := 0) dL_law_480 rfl ?_
  refine Runs.iload_n (j := 3) dL_law_481 rfl ?_
  refine Runs.iconst dL_law_482 (by decide) ?_
  refine Runs.iadd dL_law_483 h1 ?_
  refine Runs.sld rfl h4 dL_law_484 h2 h3 ?_
  refine Runs.aload_n (j := 0) dL_law_485 rfl ?_
  refine Runs.iload_n (j := 3) dL_law_486 rfl ?_
  refine Runs.iconst dL_law_487 (by decide) ?_
  refine Runs.iadd dL_law_488 h5 ?_
  refine Runs.sld rfl h4 dL_law_489 h6 h7 ?_
  refine Runs.aload_n (j := 0) dL_law_490 rfl ?_
  refine Runs.iload_n (j := 3) dL_law_491 rfl ?_
  refine Runs.iconst dL_law_492 (by decide) ?_
  refine Runs.iadd dL_law_493 h8 ?_
  refine Runs.sld rfl h4 dL_law_494 h9 h10 ?_
  refine Runs.aload_n (j := 0) dL_law_495 rfl ?_
  refine Runs.iload_n (j := 3) dL_law_496 rfl ?_
  refine Runs.iconst dL_law_497 (by decide) ?_
  refine Runs.iadd dL_law_498 h11 ?_
  refine Runs.sld rfl h4 dL_law_499 h12 h13 ?_
  refine Runs.if_eq (tgt := 507) dL_law_500 (by decide) (fun h => ?_) (fun h => ?_)
  · exact k1 h
  · exact k2 h
theorem kL_law_503 {X : Scr} {M : Mem} {P : Option AV → Mem → Prop} {x3 xs1 xs2 xs3 : Int} (k : Runs X mL_law 508 [(0, vr 999), (1, vr 0), (2, vr 200), (3, vi x3)] [vi (1 : Int), vi xs3, vi xs2, vi xs1, vr 0] M P) : Runs X mL_law 503 [(0, vr 999), (1, vr 0), (2, vr 200), (3, vi x3)] [vi xs3, vi xs2, vi xs1, vr 0] M P := by
  refine Runs.iconst dL_law_503 (by decide) ?_
  refine Runs.goto (tgt := 508) dL_law_504 (by decide) ?_
  exact k
theorem kL_law_507 {X : Scr} {M : Mem} {P : Option AV → Mem → Prop} {x3 xs1 xs2 xs3 : Int} (k : Runs X mL_law 508 [(0, vr 999), (1, vr 0), (2, vr 200), (3, vi x3)] [vi (0 : Int), vi xs3, vi xs2, vi xs1, vr 0] M P) : Runs X mL_law 507 [(0, vr 999), (1, vr 0), (2, vr 200), (3, vi x3)] [vi xs3, vi xs2, vi xs1, vr 0] M P := by
  refine Runs.iconst dL_law_507 (by decide) ?_
  exact k
theorem kL_law_508 {X : Scr} {M : Mem} {P Q : Option AV → Mem → Prop} {x3 xs1 xs2 xs3 xs4 : Int} (hC : Call X mX8_paid [vr 0, vi xs1, vi xs2, vi xs3, vi xs4] M Q) (k : ∀ (z : Int) (M1 : Mem), Q (some (vi z)) M1 → Runs X mL_law 511 [(0, vr 999), (1, vr 0), (2, vr 200), (3, vi x3)] [vi z] M1 P) : Runs X mL_law 508 [(0, vr 999), (1, vr 0), (2, vr 200), (3, vi x3)] [vi xs4, vi xs3, vi xs2, vi xs1, vr 0] M P := by
  refine Runs.callVi (y := mX8_paid) (n := 4) (as := [vi xs1, vi xs2, vi xs3, vi xs4]) (st := []) (q := (RX8, TX8, 12)) dL_law_508 oc_X8_paid im_X8_paid se_X8_paid ml_L_64 rfl ⟨(Nat.le_of_ble_eq_true rfl), (Nat.le_of_ble_eq_true rfl)⟩ (Nat.le_of_ble_eq_true rfl) (Nat.le_of_ble_eq_true rfl) rfl rfl rfl (Or.inl rfl) hC (fun z M1 hQ => ?_)
  exact k z M1 hQ
theorem kL_law_511 {X : Scr} {M : Mem} {P : Option AV → Mem → Prop} {x3 xs0 : Int} (k1 : (X.2 ((x3 + (4 : Int))).toNat) = 0 → Runs X mL_law 539 [(0, vr 999), (1, vr 0), (2, vr 200), (3, vi x3)] [vi (X.2 ((x3 + (3 : Int))).toNat), vi (X.2 ((x3 + (2 : Int))).toNat), vi (X.2 ((x3 + (1 : Int))).toNat), vr 200, vi xs0] M P) (k2 : (X.2 ((x3 + (4 : Int))).toNat) ≠ 0 → Runs X mL_law 535 [(0, vr 999), (1, vr 0), (2, vr 200), (3, vi x3)] [vi (X.2 ((x3 + (3 : Int))).toNat), vi (X.2 ((x3 + (2 : Int))).toNat), vi (X.2 ((x3 + (1 : Int))).toNat), vr 200, vi xs0] M P) (h1 : -2147483648 ≤ (x3 + (1 : Int)) ∧ (x3 + (1 : Int)) ≤ 2147483647 := by omega) (h2 : 0 ≤ (x3 + (1 : Int)) := by omega) (h3 : (x3 + (1 : Int)) < ((X.1 : Nat) : Int) := by omega) (h4 : ∀ j, inI (X.2 j) := by assumption) (h5 : -2147483648 ≤ (x3 + (2 : Int)) ∧ (x3 + (2 : Int)) ≤ 2147483647 := by omega) (h6 : 0 ≤ (x3 + (2 : Int)) := by omega) (h7 : (x3 + (2 : Int)) < ((X.1 : Nat) : Int) := by omega) (h8 : -2147483648 ≤ (x3 + (3 : Int)) ∧ (x3 + (3 : Int)) ≤ 2147483647 := by omega) (h9 : 0 ≤ (x3 + (3 : Int)) := by omega) (h10 : (x3 + (3 : Int)) < ((X.1 : Nat) : Int) := by omega) (h11 : -2147483648 ≤ (x3 + (4 : Int)) ∧ (x3 + (4 : Int)) ≤ 2147483647 := by omega) (h12 : 0 ≤ (x3 + (4 : Int)) := by omega) (h13 : (x3 + (4 : Int)) < ((X.1 : Nat) : Int) := by omega) : Runs X mL_law 511 [(0, vr 999), (1, vr 0), (2, vr 200), (3, vi x3)] [vi xs0] M P := by
  refine Runs.aload_n (j := 2) dL_law_511 rfl ?_
  refine Runs.aload_n (j := 0) dL_law_512 rfl ?_
  refine Runs.iload_n (j := 3) dL_law_513 rfl ?_
  refine Runs.iconst dL_law_514 (by decide) ?_
  refine Runs.iadd dL_law_515 h1 ?_
  refine Runs.sld rfl h4 dL_law_516 h2 h3 ?_
  refine Runs.aload_n (j := 0) dL_law_517 rfl ?_
  refine Runs.iload_n (j := 3) dL_law_518 rfl ?_
  refine Runs.iconst dL_law_519 (by decide) ?_
  refine Runs.iadd dL_law_520 h5 ?_
  refine Runs.sld rfl h4 dL_law_521 h6 h7 ?_
  refine Runs.aload_n (j := 0) dL_law_522 rfl ?_
  refine Runs.iload_n (j := 3) dL_law_523 rfl ?_
  refine Runs.iconst dL_law_524 (by decide) ?_
  refine Runs.iadd dL_law_525 h8 ?_
  refine Runs.sld rfl h4 dL_law_526 h9 h10 ?_
  refine Runs.aload_n (j := 0) dL_law_527 rfl ?_
  refine Runs.iload_n (j := 3) dL_law_528 rfl ?_
  refine Runs.iconst dL_law_529 (by decide) ?_
  refine Runs.iadd dL_law_530 h11 ?_
  refine Runs.sld rfl h4 dL_law_531 h12 h13 ?_
  refine Runs.if_eq (tgt := 539) dL_law_532 (by decide) (fun h => ?_) (fun h => ?_)
  · exact k1 h
  · exact k2 h
theorem kL_law_535 {X : Scr} {M : Mem} {P : Option AV → Mem → Prop} {x3 xs0 xs2 xs3 xs4 : Int} (k : Runs X mL_law 540 [(0, vr 999), (1, vr 0), (2, vr 200), (3, vi x3)] [vi (1 : Int), vi xs4, vi xs3, vi xs2, vr 200, vi xs0] M P) : Runs X mL_law 535 [(0, vr 999), (1, vr 0), (2, vr 200), (3, vi x3)] [vi xs4, vi xs3, vi xs2, vr 200, vi xs0] M P := by
  refine Runs.iconst dL_law_535 (by decide) ?_
  refine Runs.goto (tgt := 540) dL_law_536 (by decide) ?_
  exact k
theorem kL_law_539 {X : Scr} {M : Mem} {P : Option AV → Mem → Prop} {x3 xs0 xs2 xs3 xs4 : Int} (k : Runs X mL_law 540 [(0, vr 999), (1, vr 0), (2, vr 200), (3, vi x3)] [vi (0 : Int), vi xs4, vi xs3, vi xs2, vr 200, vi xs0] M P) : Runs X mL_law 539 [(0, vr 999), (1, vr 0), (2, vr 200), (3, vi x3)] [vi xs4, vi xs3, vi xs2, vr 200, vi xs0] M P := by
  refine Runs.iconst dL_law_539 (by decide) ?_
  exact k
theorem kL_law_540 {X : Scr} {M : Mem} {P Q : Option AV → Mem → Prop} {x3 xs0 xs2 xs3 xs4 xs5 : Int} (hC : Call X mX9_paid [vr 200, vi xs2, vi xs3, vi xs4, vi xs5] M Q) (k : ∀ (z : Int) (M1 : Mem), Q (some (vi z)) M1 → Runs X mL_law 543 [(0, vr 999), (1, vr 0), (2, vr 200), (3, vi x3)] [vi z, vi xs0] M1 P) : Runs X mL_law 540 [(0, vr 999), (1, vr 0), (2, vr 200), (3, vi x3)] [vi xs5, vi xs4, vi xs3, vi xs2, vr 200, vi xs0] M P := by
  refine Runs.callVi (y := mX9_paid) (n := 4) (as := [vi xs2, vi xs3, vi xs4, vi xs5]) (st := [vi xs0]) (q := (RX9, TX9, 48)) dL_law_540 oc_X9_paid im_X9_paid se_X9_paid ml_L_68 rfl ⟨(Nat.le_of_ble_eq_true rfl), (Nat.le_of_ble_eq_true rfl)⟩ (Nat.le_of_ble_eq_true rfl) (Nat.le_of_ble_eq_true rfl) rfl rfl rfl (Or.inl rfl) hC (fun z M1 hQ => ?_)
  exact k z M1 hQ
theorem kL_law_543 {X : Scr} {M : Mem} {P : Option AV → Mem → Prop} {x3 xs0 xs1 : Int} (k1 : xs0 = xs1 → Runs X mL_law 1363 [(0, vr 999), (1, vr 0), (2, vr 200), (3, vi x3)] [] M P) (k2 : xs0 ≠ xs1 → Runs X mL_law 546 [] [] M P) : Runs X mL_law 543 [(0, vr 999), (1, vr 0), (2, vr 200), (3, vi x3)] [vi xs1, vi xs0] M P := by
  refine Runs.icmp_eq (tgt := 1363) dL_law_543 (by decide) (fun h => ?_) (fun h => ?_)
  · exact k1 h
  · refine Runs.picks (loc' := []) [] rfl ?_
    exact k2 h
theorem kL_law_546 {X : Scr} {M : Mem} {P : Option AV → Mem → Prop} (k : P (some (vi (0 : Int))) M) (h1 : 0 ≤ (0 : Int) ∧ (0 : Int) ≤ 1 := by omega) : Runs X mL_law 546 [] [] M P := by
  refine Runs.iconst dL_law_546 (by decide) ?_
  exact Runs.retz dL_law_547 rfl h1 k
theorem kL_law_548 {X : Scr} {M : Mem} {P Q : Option AV → Mem → Prop} {x3 : Int} (hC : Call X mX8_pay [vr 0, vi (X.2 ((x3 + (1 : Int))).toNat), vi (X.2 ((x3 + (2 : Int))).toNat), vi (X.2 ((x3 + (3 : Int))).toNat)] M Q) (k : ∀ (z : Int) (M1 : Mem), Q (some (vi z)) M1 → Runs X mL_law 567 [(0, vr 999), (1, vr 0), (2, vr 200), (3, vi x3)] [vi z] M1 P) (h1 : -2147483648 ≤ (x3 + (1 : Int)) ∧ (x3 + (1 : Int)) ≤ 2147483647 := by omega) (h2 : 0 ≤ (x3 + (1 : Int)) := by omega) (h3 : (x3 + (1 : Int)) < ((X.1 : Nat) : Int) := by omega) (h4 : ∀ j, inI (X.2 j) := by assumption) (h5 : -2147483648 ≤ (x3 + (2 : Int)) ∧ (x3 + (2 : Int)) ≤ 2147483647 := by omega) (h6 : 0 ≤ (x3 + (2 : Int)) := by omega) (h7 : (x3 + (2 : Int)) < ((X.1 : Nat) : Int) := by omega) (h8 : -2147483648 ≤ (x3 + (3 : Int)) ∧ (x3 + (3 : Int)) ≤ 2147483647 := by omega) (h9 : 0 ≤ (x3 + (3 : Int)) := by omega) (h10 : (x3 + (3 : Int)) < ((X.1 : Nat) : Int) := by omega) : Runs X mL_law 548 [(0, vr 999), (1, vr 0), (2, vr 200), (3, vi x3)] [] M P := by
  refine Runs.aload_n (j := 1) dL_law_548 rfl ?_
  refine Runs.aload_n (j := 0) dL_law_549 rfl ?_
  refine Runs.iload_n (j := 3) dL_law_550 rfl ?_
  refine Runs.iconst dL_law_551 (by decide) ?_
  refine Runs.iadd dL_law_552 h1 ?_
  refine Runs.sld rfl h4 dL_law_553 h2 h3 ?_
  refine Runs.aload_n (j := 0) dL_law_554 rfl ?_
  refine Runs.iload_n (j := 3) dL_law_555 rfl ?_
  refine Runs.iconst dL_law_556 (by decide) ?_
  refine Runs.iadd dL_law_557 h5 ?_
  refine Runs.sld rfl h4 dL_law_558 h6 h7 ?_
  refine Runs.aload_n (j := 0) dL_law_559 rfl ?_
  refine Runs.iload_n (j := 3) dL_law_560 rfl ?_
  refine Runs.iconst dL_law_561 (by decide) ?_
  refine Runs.iadd dL_law_562 h8 ?_
  refine Runs.sld rfl h4 dL_law_563 h9 h10 ?_
  refine Runs.callVi (y := mX8_pay) (n := 3) (as := [vi (X.2 ((x3 + (1 : Int))).toNat), vi (X.2 ((x3 + (2 : Int))).toNat), vi (X.2 ((x3 + (3 : Int))).toNat)]) (st := []) (q := (RX8, TX8, 12)) dL_law_564 oc_X8_pay im_X8_pay se_X8_pay ml_L_69 rfl ⟨(Nat.le_of_ble_eq_true rfl), (Nat.le_of_ble_eq_true rfl)⟩ (Nat.le_of_ble_eq_true rfl) (Nat.le_of_ble_eq_true rfl) rfl rfl rfl (Or.inl rfl) hC (fun z M1 hQ => ?_)
  exact k z M1 hQ
theorem kL_law_567 {X : Scr} {M : Mem} {P Q : Option AV → Mem → Prop} {x3 xs0 : Int} (hC : Call X mX9_pay [vr 200, vi (X.2 ((x3 + (1 : Int))).toNat), vi (X.2 ((x3 + (2 : Int))).toNat), vi (X.2 ((x3 + (3 : Int))).toNat)] M Q) (k : ∀ (z : Int) (M1 : Mem), Q (some (vi z)) M1 → Runs X mL_law 586 [(0, vr 999), (1, vr 0), (2, vr 200), (3, vi x3)] [vi z, vi xs0] M1 P) (h1 : -2147483648 ≤ (x3 + (1 : Int)) ∧ (x3 + (1 : Int)) ≤ 2147483647 := by omega) (h2 : 0 ≤ (x3 + (1 : Int)) := by omega) (h3 : (x3 + (1 : Int)) < ((X.1 : Nat) : Int) := by omega) (h4 : ∀ j, inI (X.2 j) := by assumption) (h5 : -2147483648 ≤ (x3 + (2 : Int)) ∧ (x3 + (2 : Int)) ≤ 2147483647 := by omega) (h6 : 0 ≤ (x3 + (2 : Int)) := by omega) (h7 : (x3 + (2 : Int)) < ((X.1 : Nat) : Int) := by omega) (h8 : -2147483648 ≤ (x3 + (3 : Int)) ∧ (x3 + (3 : Int)) ≤ 2147483647 := by omega) (h9 : 0 ≤ (x3 + (3 : Int)) := by omega) (h10 : (x3 + (3 : Int)) < ((X.1 : Nat) : Int) := by omega) : Runs X mL_law 567 [(0, vr 999), (1, vr 0), (2, vr 200), (3, vi x3)] [vi xs0] M P := by
  refine Runs.aload_n (j := 2) dL_law_567 rfl ?_
  refine Runs.aload_n (j := 0) dL_law_568 rfl ?_
  refine Runs.iload_n (j := 3) dL_law_569 rfl ?_
  refine Runs.iconst dL_law_570 (by decide) ?_
  refine Runs.iadd dL_law_571 h1 ?_
  refine Runs.sld rfl h4 dL_law_572 h2 h3 ?_
  refine Runs.aload_n (j := 0) dL_law_573 rfl ?_
  refine Runs.iload_n (j := 3) dL_law_574 rfl ?_
  refine Runs.iconst dL_law_575 (by decide) ?_
  refine Runs.iadd dL_law_576 h5 ?_
  refine Runs.sld rfl h4 dL_law_577 h6 h7 ?_
  refine Runs.aload_n (j := 0) dL_law_578 rfl ?_
  refine Runs.iload_n (j := 3) dL_law_579 rfl ?_
  refine Runs.iconst dL_law_580 (by decide) ?_
  refine Runs.iadd dL_law_581 h8 ?_
  refine Runs.sld rfl h4 dL_law_582 h9 h10 ?_
  refine Runs.callVi (y := mX9_pay) (n := 3) (as := [vi (X.2 ((x3 + (1 : Int))).toNat), vi (X.2 ((x3 + (2 : Int))).toNat), vi (X.2 ((x3 + (3 : Int))).toNat)]) (st := [vi xs0]) (q := (RX9, TX9, 48)) dL_law_583 oc_X9_pay im_X9_pay se_X9_pay ml_L_72 rfl ⟨(Nat.le_of_ble_eq_true rfl), (Nat.le_of_ble_eq_true rfl)⟩ (Nat.le_of_ble_eq_true rfl) (Nat.le_of_ble_eq_true rfl) rfl rfl rfl (Or.inl rfl) hC (fun z M1 hQ => ?_)
  exact k z M1 hQ
theorem kL_law_586 {X : Scr} {M : Mem} {P : Option AV → Mem → Prop} {x3 xs0 xs1 : Int} (k1 : xs0 = xs1 → Runs X mL_law 1363 [(0, vr 999), (1, vr 0), (2, vr 200), (3, vi x3)] [] M P) (k2 : xs0 ≠ xs1 → Runs X mL_law 589 [] [] M P) : Runs X mL_law 586 [(0, vr 999), (1, vr 0), (2, vr 200), (3, vi x3)] [vi xs1, vi xs0] M P := by
  refine Runs.icmp_eq (tgt := 1363) dL_law_586 (by decide) (fun h => ?_) (fun h => ?_)
  · exact k1 h
  · refine Runs.picks (loc' := []) [] rfl ?_
    exact k2 h
theorem kL_law_589 {X : Scr} {M : Mem} {P : Option AV → Mem → Prop} (k : P (some (vi (0 : Int))) M) (h1 : 0 ≤ (0 : Int) ∧ (0 : Int) ≤ 1 := by omega) : Runs X mL_law 589 [] [] M P := by
  refine Runs.iconst dL_law_589 (by decide) ?_
  exact Runs.retz dL_law_590 rfl h1 k
theorem kL_law_591 {X : Scr} {M : Mem} {P Q : Option AV → Mem → Prop} {x3 : Int} (hC : Call X mX8_undo [vr 0] M Q) (k : ∀ (z : Int) (M1 : Mem), Q (some (vi z)) M1 → Runs X mL_law 595 [(0, vr 999), (1, vr 0), (2, vr 200), (3, vi x3)] [vi z] M1 P) : Runs X mL_law 591 [(0, vr 999), (1, vr 0), (2, vr 200), (3, vi x3)] [] M P := by
  refine Runs.aload_n (j := 1) dL_law_591 rfl ?_
  refine Runs.callVi (y := mX8_undo) (n := 0) (as := []) (st := []) (q := (RX8, TX8, 12)) dL_law_592 oc_X8_undo im_X8_undo se_X8_undo ml_L_73 rfl ⟨(Nat.le_of_ble_eq_true rfl), (Nat.le_of_ble_eq_true rfl)⟩ (Nat.le_of_ble_eq_true rfl) (Nat.le_of_ble_eq_true rfl) rfl rfl rfl (Or.inl rfl) hC (fun z M1 hQ => ?_)
  exact k z M1 hQ
theorem kL_law_595 {X : Scr} {M : Mem} {P Q : Option AV → Mem → Prop} {x3 xs0 : Int} (hC : Call X mX9_undo [vr 200] M Q) (k : ∀ (z : Int) (M1 : Mem), Q (some (vi z)) M1 → Runs X mL_law 599 [(0, vr 999), (1, vr 0), (2, vr 200), (3, vi x3)] [vi z, vi xs0] M1 P) : Runs X mL_law 595 [(0, vr 999), (1, vr 0), (2, vr 200), (3, vi x3)] [vi xs0] M P := by
  refine Runs.aload_n (j := 2) dL_law_595 rfl ?_
  refine Runs.callVi (y := mX9_undo) (n := 0) (as := []) (st := [vi xs0]) (q := (RX9, TX9, 48)) dL_law_596 oc_X9_undo im_X9_undo se_X9_undo ml_L_76 rfl ⟨(Nat.le_of_ble_eq_true rfl), (Nat.le_of_ble_eq_true rfl)⟩ (Nat.le_of_ble_eq_true rfl) (Nat.le_of_ble_eq_true rfl) rfl rfl rfl (Or.inl rfl) hC (fun z M1 hQ => ?_)
  exact k z M1 hQ
theorem kL_law_599 {X : Scr} {M : Mem} {P : Option AV → Mem → Prop} {x3 xs0 xs1 : Int} (k1 : xs0 = xs1 → Runs X mL_law 1363 [(0, vr 999), (1, vr 0), (2, vr 200), (3, vi x3)] [] M P) (k2 : xs0 ≠ xs1 → Runs X mL_law 602 [] [] M P) : Runs X mL_law 599 [(0, vr 999), (1, vr 0), (2, vr 200), (3, vi x3)] [vi xs1, vi xs0] M P := by
  refine Runs.icmp_eq (tgt := 1363) dL_law_599 (by decide) (fun h => ?_) (fun h => ?_)
  · exact k1 h
  · refine Runs.picks (loc' := []) [] rfl ?_
    exact k2 h
theorem kL_law_602 {X : Scr} {M : Mem} {P : Option AV → Mem → Prop} (k : P (some (vi (0 : Int))) M) (h1 : 0 ≤ (0 : Int) ∧ (0 : Int) ≤ 1 := by omega) : Runs X mL_law 602 [] [] M P := by
  refine Runs.iconst dL_law_602 (by decide) ?_
  exact Runs.retz dL_law_603 rfl h1 k
theorem kL_law_604 {X : Scr} {M : Mem} {P : Option AV → Mem → Prop} {x3 : Int} (k1 : (X.2 ((x3 + (3 : Int))).toNat) = 0 → Runs X mL_law 627 [(0, vr 999), (1, vr 0), (2, vr 200), (3, vi x3)] [vi (X.2 ((x3 + (2 : Int))).toNat), vi (X.2 ((x3 + (1 : Int))).toNat), vr 0] M P) (k2 : (X.2 ((x3 + (3 : Int))).toNat) ≠ 0 → Runs X mL_law 623 [(0, vr 999), (1, vr 0), (2, vr 200), (3, vi x3)] [vi (X.2 ((x3 + (2 : Int))).toNat), vi (X.2 ((x3 + (1 : Int))).toNat), vr 0] M P) (h1 : -2147483648 ≤ (x3 + (1 : Int)) ∧ (x3 + (1 : Int)) ≤ 2147483647 := by omega) (h2 : 0 ≤ (x3 + (1 : Int)) := by omega) (h3 : (x3 + (1 : Int)) < ((X.1 : Nat) : Int) := by omega) (h4 : ∀ j, inI (X.2 j) := by assumption) (h5 : -2147483648 ≤ (x3 + (2 : Int)) ∧ (x3 + (2 : Int)) ≤ 2147483647 := by omega) (h6 : 0 ≤ (x3 + (2 : Int)) := by omega) (h7 : (x3 + (2 : Int)) < ((X.1 : Nat) : Int) := by omega) (h8 : -2147483648 ≤ (x3 + (3 : Int)) ∧ (x3 + (3 : Int)) ≤ 2147483647 := by omega) (h9 : 0 ≤ (x3 + (3 : Int)) := by omega) (h10 : (x3 + (3 : Int)) < ((X.1 : Nat) : Int) := by omega) : Runs X mL_law 604 [(0, vr 999), (1, vr 0), (2, vr 200), (3, vi x3)] [] M P := by
  refine Runs.aload_n (j := 1) dL_law_604 rfl ?_
  refine Runs.aload_n (j := 0) dL_law_605 rfl ?_
  refine Runs.iload_n (j := 3) dL_law_606 rfl ?_
  refine Runs.iconst dL_law_607 (by decide) ?_
  refine Runs.iadd dL_law_608 h1 ?_
  refine Runs.sld rfl h4 dL_law_609 h2 h3 ?_
  refine Runs.aload_n (j := 0) dL_law_610 rfl ?_
  refine Runs.iload_n (j := 3) dL_law_611 rfl ?_
  refine Runs.iconst dL_law_612 (by decide) ?_
  refine Runs.iadd dL_law_613 h5 ?_
  refine Runs.sld rfl h4 dL_law_614 h6 h7 ?_
  refine Runs.aload_n (j := 0) dL_law_615 rfl ?_
  refine Runs.iload_n (j := 3) dL_law_616 rfl ?_
  refine Runs.iconst dL_law_617 (by decide) ?_
  refine Runs.iadd dL_law_618 h8 ?_
  refine Runs.sld rfl h4 dL_law_619 h9 h10 ?_
  refine Runs.if_eq (tgt := 627) dL_law_620 (by decide) (fun h => ?_) (fun h => ?_)
  · exact k1 h
  · exact k2 h
theorem kL_law_623 {X : Scr} {M : Mem} {P : Option AV → Mem → Prop} {x3 xs1 xs2 : Int} (k : Runs X mL_law 628 [(0, vr 999), (1, vr 0), (2, vr 200), (3, vi x3)] [vi (1 : Int), vi xs2, vi xs1, vr 0] M P) : Runs X mL_law 623 [(0, vr 999), (1, vr 0), (2, vr 200), (3, vi x3)] [vi xs2, vi xs1, vr 0] M P := by
  refine Runs.iconst dL_law_623 (by decide) ?_
  refine Runs.goto (tgt := 628) dL_law_624 (by decide) ?_
  exact k
theorem kL_law_627 {X : Scr} {M : Mem} {P : Option AV → Mem → Prop} {x3 xs1 xs2 : Int} (k : Runs X mL_law 628 [(0, vr 999), (1, vr 0), (2, vr 200), (3, vi x3)] [vi (0 : Int), vi xs2, vi xs1, vr 0] M P) : Runs X mL_law 627 [(0, vr 999), (1, vr 0), (2, vr 200), (3, vi x3)] [vi xs2, vi xs1, vr 0] M P := by
  refine Runs.iconst dL_law_627 (by decide) ?_
  exact k
theorem kL_law_628 {X : Scr} {M : Mem} {P Q : Option AV → Mem → Prop} {x3 xs1 xs2 xs3 : Int} (hC : Call X mX8_tooMuch [vr 0, vi xs1, vi xs2, vi xs3] M Q) (k : ∀ (z : Int) (M1 : Mem), Q (some (vi z)) M1 → Runs X mL_law 631 [(0, vr 999), (1, vr 0), (2, vr 200), (3, vi x3)] [vi z] M1 P) : Runs X mL_law 628 [(0, vr 999), (1, vr 0), (2, vr 200), (3, vi x3)] [vi xs3, vi xs2, vi xs1, vr 0] M P := by
  refine Runs.callVi (y := mX8_tooMuch) (n := 3) (as := [vi xs1, vi xs2, vi xs3]) (st := []) (q := (RX8, TX8, 12)) dL_law_628 oc_X8_tooMuch im_X8_tooMuch se_X8_tooMuch ml_L_77 rfl ⟨(Nat.le_of_ble_eq_true rfl), (Nat.le_of_ble_eq_true rfl)⟩ (Nat.le_of_ble_eq_true rfl) (Nat.le_of_ble_eq_true rfl) rfl rfl rfl (Or.inl rfl) hC (fun z M1 hQ => ?_)
  exact k z M1 hQ
theorem kL_law_631 {X : Scr} {M : Mem} {P : Option AV → Mem → Prop} {x3 xs0 : Int} (k1 : (X.2 ((x3 + (3 : Int))).toNat) = 0 → Runs X mL_law 654 [(0, vr 999), (1, vr 0), (2, vr 200), (3, vi x3)] [vi (X.2 ((x3 + (2 : Int))).toNat), vi (X.2 ((x3 + (1 : Int))).toNat), vr 200, vi xs0] M P) (k2 : (X.2 ((x3 + (3 : Int))).toNat) ≠ 0 → Runs X mL_law 650 [(0, vr 999), (1, vr 0), (2, vr 200), (3, vi x3)] [vi (X.2 ((x3 + (2 : Int))).toNat), vi (X.2 ((x3 + (1 : Int))).toNat), vr 200, vi xs0] M P) (h1 : -2147483648 ≤ (x3 + (1 : Int)) ∧ (x3 + (1 : Int)) ≤ 2147483647 := by omega) (h2 : 0 ≤ (x3 + (1 : Int)) := by omega) (h3 : (x3 + (1 : Int)) < ((X.1 : Nat) : Int) := by omega) (h4 : ∀ j, inI (X.2 j) := by assumption) (h5 : -2147483648 ≤ (x3 + (2 : Int)) ∧ (x3 + (2 : Int)) ≤ 2147483647 := by omega) (h6 : 0 ≤ (x3 + (2 : Int)) := by omega) (h7 : (x3 + (2 : Int)) < ((X.1 : Nat) : Int) := by omega) (h8 : -2147483648 ≤ (x3 + (3 : Int)) ∧ (x3 + (3 : Int)) ≤ 2147483647 := by omega) (h9 : 0 ≤ (x3 + (3 : Int)) := by omega) (h10 : (x3 + (3 : Int)) < ((X.1 : Nat) : Int) := by omega) : Runs X mL_law 631 [(0, vr 999), (1, vr 0), (2, vr 200), (3, vi x3)] [vi xs0] M P := by
  refine Runs.aload_n (j := 2) dL_law_631 rfl ?_
  refine Runs.aload_n (j := 0) dL_law_632 rfl ?_
  refine Runs.iload_n (j := 3) dL_law_633 rfl ?_
  refine Runs.iconst dL_law_634 (by decide) ?_
  refine Runs.iadd dL_law_635 h1 ?_
  refine Runs.sld rfl h4 dL_law_636 h2 h3 ?_
  refine Runs.aload_n (j := 0) dL_law_637 rfl ?_
  refine Runs.iload_n (j := 3) dL_law_638 rfl ?_
  refine Runs.iconst dL_law_639 (by decide) ?_
  refine Runs.iadd dL_law_640 h5 ?_
  refine Runs.sld rfl h4 dL_law_641 h6 h7 ?_
  refine Runs.aload_n (j := 0) dL_law_642 rfl ?_
  refine Runs.iload_n (j := 3) dL_law_643 rfl ?_
  refine Runs.iconst dL_law_644 (by decide) ?_
  refine Runs.iadd dL_law_645 h8 ?_
  refine Runs.sld rfl h4 dL_law_646 h9 h10 ?_
  refine Runs.if_eq (tgt := 654) dL_law_647 (by decide) (fun h => ?_) (fun h => ?_)
  · exact k1 h
  · exact k2 h
theorem kL_law_650 {X : Scr} {M : Mem} {P : Option AV → Mem → Prop} {x3 xs0 xs2 xs3 : Int} (k : Runs X mL_law 655 [(0, vr 999), (1, vr 0), (2, vr 200), (3, vi x3)] [vi (1 : Int), vi xs3, vi xs2, vr 200, vi xs0] M P) : Runs X mL_law 650 [(0, vr 999), (1, vr 0), (2, vr 200), (3, vi x3)] [vi xs3, vi xs2, vr 200, vi xs0] M P := by
  refine Runs.iconst dL_law_650 (by decide) ?_
  refine Runs.goto (tgt := 655) dL_law_651 (by decide) ?_
  exact k
theorem kL_law_654 {X : Scr} {M : Mem} {P : Option AV → Mem → Prop} {x3 xs0 xs2 xs3 : Int} (k : Runs X mL_law 655 [(0, vr 999), (1, vr 0), (2, vr 200), (3, vi x3)] [vi (0 : Int), vi xs3, vi xs2, vr 200, vi xs0] M P) : Runs X mL_law 654 [(0, vr 999), (1, vr 0), (2, vr 200), (3, vi x3)] [vi xs3, vi xs2, vr 200, vi xs0] M P := by
  refine Runs.iconst dL_law_654 (by decide) ?_
  exact k
theorem kL_law_655 {X : Scr} {M : Mem} {P Q : Option AV → Mem → Prop} {x3 xs0 xs2 xs3 xs4 : Int} (hC : Call X mX9_tooMuch [vr 200, vi xs2, vi xs3, vi xs4] M Q) (k : ∀ (z : Int) (M1 : Mem), Q (some (vi z)) M1 → Runs X mL_law 658 [(0, vr 999), (1, vr 0), (2, vr 200), (3, vi x3)] [vi z, vi xs0] M1 P) : Runs X mL_law 655 [(0, vr 999), (1, vr 0), (2, vr 200), (3, vi x3)] [vi xs4, vi xs3, vi xs2, vr 200, vi xs0] M P := by
  refine Runs.callVi (y := mX9_tooMuch) (n := 3) (as := [vi xs2, vi xs3, vi xs4]) (st := [vi xs0]) (q := (RX9, TX9, 48)) dL_law_655 oc_X9_tooMuch im_X9_tooMuch se_X9_tooMuch ml_L_81 rfl ⟨(Nat.le_of_ble_eq_true rfl), (Nat.le_of_ble_eq_true rfl)⟩ (Nat.le_of_ble_eq_true rfl) (Nat.le_of_ble_eq_true rfl) rfl rfl rfl (Or.inl rfl) hC (fun z M1 hQ => ?_)
  exact k z M1 hQ
theorem kL_law_658 {X : Scr} {M : Mem} {P : Option AV → Mem → Prop} {x3 xs0 xs1 : Int} (k1 : xs0 = xs1 → Runs X mL_law 1363 [(0, vr 999), (1, vr 0), (2, vr 200), (3, vi x3)] [] M P) (k2 : xs0 ≠ xs1 → Runs X mL_law 661 [] [] M P) : Runs X mL_law 658 [(0, vr 999), (1, vr 0), (2, vr 200), (3, vi x3)] [vi xs1, vi xs0] M P := by
  refine Runs.icmp_eq (tgt := 1363) dL_law_658 (by decide) (fun h => ?_) (fun h => ?_)
  · exact k1 h
  · refine Runs.picks (loc' := []) [] rfl ?_
    exact k2 h
theorem kL_law_661 {X : Scr} {M : Mem} {P : Option AV → Mem → Prop} (k : P (some (vi (0 : Int))) M) (h1 : 0 ≤ (0 : Int) ∧ (0 : Int) ≤ 1 := by omega) : Runs X mL_law 661 [] [] M P := by
  refine Runs.iconst dL_law_661 (by decide) ?_
  exact Runs.retz dL_law_662 rfl h1 k
theorem kL_law_663 {X : Scr} {M : Mem} {P Q : Option AV → Mem → Prop} {x3 : Int} (hC : Call X mX8_sums [vr 0, vi (X.2 ((x3 + (1 : Int))).toNat), vi (X.2 ((x3 + (2 : Int))).toNat), vi (X.2 ((x3 + (3 : Int))).toNat)] M Q) (k : ∀ (z : Int) (M1 : Mem), Q (some (vi z)) M1 → Runs X mL_law 682 [(0, vr 999), (1, vr 0), (2, vr 200), (3, vi x3)] [vi z] M1 P) (h1 : -2147483648 ≤ (x3 + (1 : Int)) ∧ (x3 + (1 : Int)) ≤ 2147483647 := by omega) (h2 : 0 ≤ (x3 + (1 : Int)) := by omega) (h3 : (x3 + (1 : Int)) < ((X.1 : Nat) : Int) := by omega) (h4 : ∀ j, inI (X.2 j) := by assumption) (h5 : -2147483648 ≤ (x3 + (2 : Int)) ∧ (x3 + (2 : Int)) ≤ 2147483647 := by omega) (h6 : 0 ≤ (x3 + (2 : Int)) := by omega) (h7 : (x3 + (2 : Int)) < ((X.1 : Nat) : Int) := by omega) (h8 : -2147483648 ≤ (x3 + (3 : Int)) ∧ (x3 + (3 : Int)) ≤ 2147483647 := by omega) (h9 : 0 ≤ (x3 + (3 : Int)) := by omega) (h10 : (x3 + (3 : Int)) < ((X.1 : Nat) : Int) := by omega) : Runs X mL_law 663 [(0, vr 999), (1, vr 0), (2, vr 200), (3, vi x3)] [] M P := by
  refine Runs.aload_n (j := 1) dL_law_663 rfl ?_
  refine Runs.aload_n (j := 0) dL_law_664 rfl ?_
  refine Runs.iload_n (j := 3) dL_law_665 rfl ?_
  refine Runs.iconst dL_law_666 (by decide) ?_
  refine Runs.iadd dL_law_667 h1 ?_
  refine Runs.sld rfl h4 dL_law_668 h2 h3 ?_
  refine Runs.aload_n (j := 0) dL_law_669 rfl ?_
  refine Runs.iload_n (j := 3) dL_law_670 rfl ?_
  refine Runs.iconst dL_law_671 (by decide) ?_
  refine Runs.iadd dL_law_672 h5 ?_
  refine Runs.sld rfl h4 dL_law_673 h6 h7 ?_
  refine Runs.aload_n (j := 0) dL_law_674 rfl ?_
  refine Runs.iload_n (j := 3) dL_law_675 rfl ?_
  refine Runs.iconst dL_law_676 (by decide) ?_
  refine Runs.iadd dL_law_677 h8 ?_
  refine Runs.sld rfl h4 dL_law_678 h9 h10 ?_
  refine Runs.callVi (y := mX8_sums) (n := 3) (as := [vi (X.2 ((x3 + (1 : Int))).toNat), vi (X.2 ((x3 + (2 : Int))).toNat), vi (X.2 ((x3 + (3 : Int))).toNat)]) (st := []) (q := (RX8, TX8, 12)) dL_law_679 oc_X8_sums im_X8_sums se_X8_sums ml_L_82 rfl ⟨(Nat.le_of_ble_eq_true rfl), (Nat.le_of_ble_eq_true rfl)⟩ (Nat.le_of_ble_eq_true rfl) (Nat.le_of_ble_eq_true rfl) rfl rfl rfl (Or.inl rfl) hC (fun z M1 hQ => ?_)
  exact k z M1 hQ
theorem kL_law_682 {X : Scr} {M : Mem} {P Q : Option AV → Mem → Prop} {x3 xs0 : Int} (hC : Call X mX9_sums [vr 200, vi (X.2 ((x3 + (1 : Int))).toNat), vi (X.2 ((x3 + (2 : Int))).toNat), vi (X.2 ((x3 + (3 : Int))).toNat)] M Q) (k : ∀ (z : Int) (M1 : Mem), Q (some (vi z)) M1 → Runs X mL_law 701 [(0, vr 999), (1, vr 0), (2, vr 200), (3, vi x3)] [vi z, vi xs0] M1 P) (h1 : -2147483648 ≤ (x3 + (1 : Int)) ∧ (x3 + (1 : Int)) ≤ 2147483647 := by omega) (h2 : 0 ≤ (x3 + (1 : Int)) := by omega) (h3 : (x3 + (1 : Int)) < ((X.1 : Nat) : Int) := by omega) (h4 : ∀ j, inI (X.2 j) := by assumption) (h5 : -2147483648 ≤ (x3 + (2 : Int)) ∧ (x3 + (2 : Int)) ≤ 2147483647 := by omega) (h6 : 0 ≤ (x3 + (2 : Int)) := by omega) (h7 : (x3 + (2 : Int)) < ((X.1 : Nat) : Int) := by omega) (h8 : -2147483648 ≤ (x3 + (3 : Int)) ∧ (x3 + (3 : Int)) ≤ 2147483647 := by omega) (h9 : 0 ≤ (x3 + (3 : Int)) := by omega) (h10 : (x3 + (3 : Int)) < ((X.1 : Nat) : Int) := by omega) : Runs X mL_law 682 [(0, vr 999), (1, vr 0), (2, vr 200), (3, vi x3)] [vi xs0] M P := by
  refine Runs.aload_n (j := 2) dL_law_682 rfl ?_
  refine Runs.aload_n (j := 0) dL_law_683 rfl ?_
  refine Runs.iload_n (j := 3) dL_law_684 rfl ?_
  refine Runs.iconst dL_law_685 (by decide) ?_
  refine Runs.iadd dL_law_686 h1 ?_
  refine Runs.sld rfl h4 dL_law_687 h2 h3 ?_
  refine Runs.aload_n (j := 0) dL_law_688 rfl ?_
  refine Runs.iload_n (j := 3) dL_law_689 rfl ?_
  refine Runs.iconst dL_law_690 (by decide) ?_
  refine Runs.iadd dL_law_691 h5 ?_
  refine Runs.sld rfl h4 dL_law_692 h6 h7 ?_
  refine Runs.aload_n (j := 0) dL_law_693 rfl ?_
  refine Runs.iload_n (j := 3) dL_law_694 rfl ?_
  refine Runs.iconst dL_law_695 (by decide) ?_
  refine Runs.iadd dL_law_696 h8 ?_
  refine Runs.sld rfl h4 dL_law_697 h9 h10 ?_
  refine Runs.callVi (y := mX9_sums) (n := 3) (as := [vi (X.2 ((x3 + (1 : Int))).toNat), vi (X.2 ((x3 + (2 : Int))).toNat), vi (X.2 ((x3 + (3 : Int))).toNat)]) (st := [vi xs0]) (q := (RX9, TX9, 48)) dL_law_698 oc_X9_sums im_X9_sums se_X9_sums ml_L_85 rfl ⟨(Nat.le_of_ble_eq_true rfl), (Nat.le_of_ble_eq_true rfl)⟩ (Nat.le_of_ble_eq_true rfl) (Nat.le_of_ble_eq_true rfl) rfl rfl rfl (Or.inl rfl) hC (fun z M1 hQ => ?_)
  exact k z M1 hQ
theorem kL_law_701 {X : Scr} {M : Mem} {P : Option AV → Mem → Prop} {x3 xs0 xs1 : Int} (k1 : xs0 = xs1 → Runs X mL_law 1363 [(0, vr 999), (1, vr 0), (2, vr 200), (3, vi x3)] [] M P) (k2 : xs0 ≠ xs1 → Runs X mL_law 704 [] [] M P) : Runs X mL_law 701 [(0, vr 999), (1, vr 0), (2, vr 200), (3, vi x3)] [vi xs1, vi xs0] M P := by
  refine Runs.icmp_eq (tgt := 1363) dL_law_701 (by decide) (fun h => ?_) (fun h => ?_)
  · exact k1 h
  · refine Runs.picks (loc' := []) [] rfl ?_
    exact k2 h
theorem kL_law_704 {X : Scr} {M : Mem} {P : Option AV → Mem → Prop} (k : P (some (vi (0 : Int))) M) (h1 : 0 ≤ (0 : Int) ∧ (0 : Int) ≤ 1 := by omega) : Runs X mL_law 704 [] [] M P := by
  refine Runs.iconst dL_law_704 (by decide) ?_
  exact Runs.retz dL_law_705 rfl h1 k
theorem kL_law_706 {X : Scr} {M : Mem} {P : Option AV → Mem → Prop} {x3 : Int} (k1 : (X.2 ((x3 + (2 : Int))).toNat) = 0 → Runs X mL_law 724 [(0, vr 999), (1, vr 0), (2, vr 200), (3, vi x3)] [vi (X.2 ((x3 + (1 : Int))).toNat), vr 0] M P) (k2 : (X.2 ((x3 + (2 : Int))).toNat) ≠ 0 → Runs X mL_law 720 [(0, vr 999), (1, vr 0), (2, vr 200), (3, vi x3)] [vi (X.2 ((x3 + (1 : Int))).toNat), vr 0] M P) (h1 : -2147483648 ≤ (x3 + (1 : Int)) ∧ (x3 + (1 : Int)) ≤ 2147483647 := by omega) (h2 : 0 ≤ (x3 + (1 : Int)) := by omega) (h3 : (x3 + (1 : Int)) < ((X.1 : Nat) : Int) := by omega) (h4 : ∀ j, inI (X.2 j) := by assumption) (h5 : -2147483648 ≤ (x3 + (2 : Int)) ∧ (x3 + (2 : Int)) ≤ 2147483647 := by omega) (h6 : 0 ≤ (x3 + (2 : Int)) := by omega) (h7 : (x3 + (2 : Int)) < ((X.1 : Nat) : Int) := by omega) : Runs X mL_law 706 [(0, vr 999), (1, vr 0), (2, vr 200), (3, vi x3)] [] M P := by
  refine Runs.aload_n (j := 1) dL_law_706 rfl ?_
  refine Runs.aload_n (j := 0) dL_law_707 rfl ?_
  refine Runs.iload_n (j := 3) dL_law_708 rfl ?_
  refine Runs.iconst dL_law_709 (by decide) ?_
  refine Runs.iadd dL_law_710 h1 ?_
  refine Runs.sld rfl h4 dL_law_711 h2 h3 ?_
  refine Runs.aload_n (j := 0) dL_law_712 rfl ?_
  refine Runs.iload_n (j := 3) dL_law_713 rfl ?_
  refine Runs.iconst dL_law_714 (by decide) ?_
  refine Runs.iadd dL_law_715 h5 ?_
  refine Runs.sld rfl h4 dL_law_716 h6 h7 ?_
  refine Runs.if_eq (tgt := 724) dL_law_717 (by decide) (fun h => ?_) (fun h => ?_)
  · exact k1 h
  · exact k2 h
theorem kL_law_720 {X : Scr} {M : Mem} {P : Option AV → Mem → Prop} {x3 xs1 : Int} (k : Runs X mL_law 725 [(0, vr 999), (1, vr 0), (2, vr 200), (3, vi x3)] [vi (1 : Int), vi xs1, vr 0] M P) : Runs X mL_law 720 [(0, vr 999), (1, vr 0), (2, vr 200), (3, vi x3)] [vi xs1, vr 0] M P := by
  refine Runs.iconst dL_law_720 (by decide) ?_
  refine Runs.goto (tgt := 725) dL_law_721 (by decide) ?_
  exact k
theorem kL_law_724 {X : Scr} {M : Mem} {P : Option AV → Mem → Prop} {x3 xs1 : Int} (k : Runs X mL_law 725 [(0, vr 999), (1, vr 0), (2, vr 200), (3, vi x3)] [vi (0 : Int), vi xs1, vr 0] M P) : Runs X mL_law 724 [(0, vr 999), (1, vr 0), (2, vr 200), (3, vi x3)] [vi xs1, vr 0] M P := by
  refine Runs.iconst dL_law_724 (by decide) ?_
  exact k
theorem kL_law_725 {X : Scr} {M : Mem} {P Q : Option AV → Mem → Prop} {x3 xs1 xs2 : Int} (hC : Call X mX8_spent [vr 0, vi xs1, vi xs2] M Q) (k : ∀ (z : Int) (M1 : Mem), Q (some (vi z)) M1 → Runs X mL_law 728 [(0, vr 999), (1, vr 0), (2, vr 200), (3, vi x3)] [vi z] M1 P) : Runs X mL_law 725 [(0, vr 999), (1, vr 0), (2, vr 200), (3, vi x3)] [vi xs2, vi xs1, vr 0] M P := by
  refine Runs.callVi (y := mX8_spent) (n := 2) (as := [vi xs1, vi xs2]) (st := []) (q := (RX8, TX8, 12)) dL_law_725 oc_X8_spent im_X8_spent se_X8_spent ml_L_86 rfl ⟨(Nat.le_of_ble_eq_true rfl), (Nat.le_of_ble_eq_true rfl)⟩ (Nat.le_of_ble_eq_true rfl) (Nat.le_of_ble_eq_true rfl) rfl rfl rfl (Or.inl rfl) hC (fun z M1 hQ => ?_)
  exact k z M1 hQ
theorem kL_law_728 {X : Scr} {M : Mem} {P : Option AV → Mem → Prop} {x3 xs0 : Int} (k1 : (X.2 ((x3 + (2 : Int))).toNat) = 0 → Runs X mL_law 746 [(0, vr 999), (1, vr 0), (2, vr 200), (3, vi x3)] [vi (X.2 ((x3 + (1 : Int))).toNat), vr 200, vi xs0] M P) (k2 : (X.2 ((x3 + (2 : Int))).toNat) ≠ 0 → Runs X mL_law 742 [(0, vr 999), (1, vr 0), (2, vr 200), (3, vi x3)] [vi (X.2 ((x3 + (1 : Int))).toNat), vr 200, vi xs0] M P) (h1 : -2147483648 ≤ (x3 + (1 : Int)) ∧ (x3 + (1 : Int)) ≤ 2147483647 := by omega) (h2 : 0 ≤ (x3 + (1 : Int)) := by omega) (h3 : (x3 + (1 : Int)) < ((X.1 : Nat) : Int) := by omega) (h4 : ∀ j, inI (X.2 j) := by assumption) (h5 : -2147483648 ≤ (x3 + (2 : Int)) ∧ (x3 + (2 : Int)) ≤ 2147483647 := by omega) (h6 : 0 ≤ (x3 + (2 : Int)) := by omega) (h7 : (x3 + (2 : Int)) < ((X.1 : Nat) : Int) := by omega) : Runs X mL_law 728 [(0, vr 999), (1, vr 0), (2, vr 200), (3, vi x3)] [vi xs0] M P := by
  refine Runs.aload_n (j := 2) dL_law_728 rfl ?_
  refine Runs.aload_n (j := 0) dL_law_729 rfl ?_
  refine Runs.iload_n (j := 3) dL_law_730 rfl ?_
  refine Runs.iconst dL_law_731 (by decide) ?_
  refine Runs.iadd dL_law_732 h1 ?_
  refine Runs.sld rfl h4 dL_law_733 h2 h3 ?_
  refine Runs.aload_n (j := 0) dL_law_734 rfl ?_
  refine Runs.iload_n (j := 3) dL_law_735 rfl ?_
  refine Runs.iconst dL_law_736 (by decide) ?_
  refine Runs.iadd dL_law_737 h5 ?_
  refine Runs.sld rfl h4 dL_law_738 h6 h7 ?_
  refine Runs.if_eq (tgt := 746) dL_law_739 (by decide) (fun h => ?_) (fun h => ?_)
  · exact k1 h
  · exact k2 h
theorem kL_law_742 {X : Scr} {M : Mem} {P : Option AV → Mem → Prop} {x3 xs0 xs2 : Int} (k : Runs X mL_law 747 [(0, vr 999), (1, vr 0), (2, vr 200), (3, vi x3)] [vi (1 : Int), vi xs2, vr 200, vi xs0] M P) : Runs X mL_law 742 [(0, vr 999), (1, vr 0), (2, vr 200), (3, vi x3)] [vi xs2, vr 200, vi xs0] M P := by
  refine Runs.iconst dL_law_742 (by decide) ?_
  refine Runs.goto (tgt := 747) dL_law_743 (by decide) ?_
  exact k
theorem kL_law_746 {X : Scr} {M : Mem} {P : Option AV → Mem → Prop} {x3 xs0 xs2 : Int} (k : Runs X mL_law 747 [(0, vr 999), (1, vr 0), (2, vr 200), (3, vi x3)] [vi (0 : Int), vi xs2, vr 200, vi xs0] M P) : Runs X mL_law 746 [(0, vr 999), (1, vr 0), (2, vr 200), (3, vi x3)] [vi xs2, vr 200, vi xs0] M P := by
  refine Runs.iconst dL_law_746 (by decide) ?_
  exact k
theorem kL_law_747 {X : Scr} {M : Mem} {P Q : Option AV → Mem → Prop} {x3 xs0 xs2 xs3 : Int} (hC : Call X mX9_spent [vr 200, vi xs2, vi xs3] M Q) (k : ∀ (z : Int) (M1 : Mem), Q (some (vi z)) M1 → Runs X mL_law 750 [(0, vr 999), (1, vr 0), (2, vr 200), (3, vi x3)] [vi z, vi xs0] M1 P) : Runs X mL_law 747 [(0, vr 999), (1, vr 0), (2, vr 200), (3, vi x3)] [vi xs3, vi xs2, vr 200, vi xs0] M P := by
  refine Runs.callVi (y := mX9_spent) (n := 2) (as := [vi xs2, vi xs3]) (st := [vi xs0]) (q := (RX9, TX9, 48)) dL_law_747 oc_X9_spent im_X9_spent se_X9_spent ml_L_90 rfl ⟨(Nat.le_of_ble_eq_true rfl), (Nat.le_of_ble_eq_true rfl)⟩ (Nat.le_of_ble_eq_true rfl) (Nat.le_of_ble_eq_true rfl) rfl rfl rfl (Or.inl rfl) hC (fun z M1 hQ => ?_)
  exact k z M1 hQ
theorem kL_law_750 {X : Scr} {M : Mem} {P : Option AV → Mem → Prop} {x3 xs0 xs1 : Int} (k1 : xs0 = xs1 → Runs X mL_law 1363 [(0, vr 999), (1, vr 0), (2, vr 200), (3, vi x3)] [] M P) (k2 : xs0 ≠ xs1 → Runs X mL_law 753 [] [] M P) : Runs X mL_law 750 [(0, vr 999), (1, vr 0), (2, vr 200), (3, vi x3)] [vi xs1, vi xs0] M P := by
  refine Runs.icmp_eq (tgt := 1363) dL_law_750 (by decide) (fun h => ?_) (fun h => ?_)
  · exact k1 h
  · refine Runs.picks (loc' := []) [] rfl ?_
    exact k2 h
theorem kL_law_753 {X : Scr} {M : Mem} {P : Option AV → Mem → Prop} (k : P (some (vi (0 : Int))) M) (h1 : 0 ≤ (0 : Int) ∧ (0 : Int) ≤ 1 := by omega) : Runs X mL_law 753 [] [] M P := by
  refine Runs.iconst dL_law_753 (by decide) ?_
  exact Runs.retz dL_law_754 rfl h1 k
theorem kL_law_755 {X : Scr} {M : Mem} {P Q : Option AV → Mem → Prop} {x3 : Int} (hC : Call X mX8_caught [vr 0, vi (X.2 ((x3 + (1 : Int))).toNat), vl (qor (qshl (X.2 ((x3 + (2 : Int))).toNat) (32 : Int)) (qand (X.2 ((x3 + (3 : Int))).toNat) (4294967295 : Int)))] M Q) (k : ∀ (z : Int) (M1 : Mem), Q (some (vi z)) M1 → Runs X mL_law 784 [(0, vr 999), (1, vr 0), (2, vr 200), (3, vi x3)] [vi z] M1 P) (h1 : -2147483648 ≤ (x3 + (1 : Int)) ∧ (x3 + (1 : Int)) ≤ 2147483647 := by omega) (h2 : 0 ≤ (x3 + (1 : Int)) := by omega) (h3 : (x3 + (1 : Int)) < ((X.1 : Nat) : Int) := by omega) (h4 : ∀ j, inI (X.2 j) := by assumption) (h5 : -2147483648 ≤ (x3 + (2 : Int)) ∧ (x3 + (2 : Int)) ≤ 2147483647 := by omega) (h6 : 0 ≤ (x3 + (2 : Int)) := by omega) (h7 : (x3 + (2 : Int)) < ((X.1 : Nat) : Int) := by omega) (h8 : -2147483648 ≤ (x3 + (3 : Int)) ∧ (x3 + (3 : Int)) ≤ 2147483647 := by omega) (h9 : 0 ≤ (x3 + (3 : Int)) := by omega) (h10 : (x3 + (3 : Int)) < ((X.1 : Nat) : Int) := by omega) : Runs X mL_law 755 [(0, vr 999), (1, vr 0), (2, vr 200), (3, vi x3)] [] M P := by
  refine Runs.aload_n (j := 1) dL_law_755 rfl ?_
  refine Runs.aload_n (j := 0) dL_law_756 rfl ?_
  refine Runs.iload_n (j := 3) dL_law_757 rfl ?_
  refine Runs.iconst dL_law_758 (by decide) ?_
  refine Runs.iadd dL_law_759 h1 ?_
  refine Runs.sld rfl h4 dL_law_760 h2 h3 ?_
  refine Runs.aload_n (j := 0) dL_law_761 rfl ?_
  refine Runs.iload_n (j := 3) dL_law_762 rfl ?_
  refine Runs.iconst dL_law_763 (by decide) ?_
  refine Runs.iadd dL_law_764 h5 ?_
  refine Runs.sld rfl h4 dL_law_765 h6 h7 ?_
  refine Runs.i2l dL_law_766 ?_
  refine Runs.bipush dL_law_767 (by decide) (by decide) ?_
  refine Runs.lshl dL_law_769 ?_
  refine Runs.aload_n (j := 0) dL_law_770 rfl ?_
  refine Runs.iload_n (j := 3) dL_law_771 rfl ?_
  refine Runs.iconst dL_law_772 (by decide) ?_
  refine Runs.iadd dL_law_773 h8 ?_
  refine Runs.sld rfl h4 dL_law_774 h9 h10 ?_
  refine Runs.i2l dL_law_775 ?_
  refine Runs.ldc2 (z := 4294967295) dL_law_776 w5_79 (by decide) (by decide) ?_
  refine Runs.land dL_law_779 ?_
  refine Runs.lor dL_law_780 ?_
  refine Runs.callVi (y := mX8_caught) (n := 2) (as := [vi (X.2 ((x3 + (1 : Int))).toNat), vl (qor (qshl (X.2 ((x3 + (2 : Int))).toNat) (32 : Int)) (qand (X.2 ((x3 + (3 : Int))).toNat) (4294967295 : Int)))]) (st := []) (q := (RX8, TX8, 12)) dL_law_781 oc_X8_caught im_X8_caught se_X8_caught ml_L_91 rfl ⟨(Nat.le_of_ble_eq_true rfl), (Nat.le_of_ble_eq_true rfl)⟩ (Nat.le_of_ble_eq_true rfl) (Nat.le_of_ble_eq_true rfl) rfl rfl rfl (Or.inl rfl) hC (fun z M1 hQ => ?_)
  exact k z M1 hQ
theorem kL_law_784 {X : Scr} {M : Mem} {P Q : Option AV → Mem → Prop} {x3 xs0 : Int} (hC : Call X mX9_caught [vr 200, vi (X.2 ((x3 + (1 : Int))).toNat), vl (qor (qshl (X.2 ((x3 + (2 : Int))).toNat) (32 : Int)) (qand (X.2 ((x3 + (3 : Int))).toNat) (4294967295 : Int)))] M Q) (k : ∀ (z : Int) (M1 : Mem), Q (some (vi z)) M1 → Runs X mL_law 813 [(0, vr 999), (1, vr 0), (2, vr 200), (3, vi x3)] [vi z, vi xs0] M1 P) (h1 : -2147483648 ≤ (x3 + (1 : Int)) ∧ (x3 + (1 : Int)) ≤ 2147483647 := by omega) (h2 : 0 ≤ (x3 + (1 : Int)) := by omega) (h3 : (x3 + (1 : Int)) < ((X.1 : Nat) : Int) := by omega) (h4 : ∀ j, inI (X.2 j) := by assumption) (h5 : -2147483648 ≤ (x3 + (2 : Int)) ∧ (x3 + (2 : Int)) ≤ 2147483647 := by omega) (h6 : 0 ≤ (x3 + (2 : Int)) := by omega) (h7 : (x3 + (2 : Int)) < ((X.1 : Nat) : Int) := by omega) (h8 : -2147483648 ≤ (x3 + (3 : Int)) ∧ (x3 + (3 : Int)) ≤ 2147483647 := by omega) (h9 : 0 ≤ (x3 + (3 : Int)) := by omega) (h10 : (x3 + (3 : Int)) < ((X.1 : Nat) : Int) := by omega) : Runs X mL_law 784 [(0, vr 999), (1, vr 0), (2, vr 200), (3, vi x3)] [vi xs0] M P := by
  refine Runs.aload_n (j := 2) dL_law_784 rfl ?_
  refine Runs.aload_n (j := 0) dL_law_785 rfl ?_
  refine Runs.iload_n (j := 3) dL_law_786 rfl ?_
  refine Runs.iconst dL_law_787 (by decide) ?_
  refine Runs.iadd dL_law_788 h1 ?_
  refine Runs.sld rfl h4 dL_law_789 h2 h3 ?_
  refine Runs.aload_n (j := 0) dL_law_790 rfl ?_
  refine Runs.iload_n (j := 3) dL_law_791 rfl ?_
  refine Runs.iconst dL_law_792 (by decide) ?_
  refine Runs.iadd dL_law_793 h5 ?_
  refine Runs.sld rfl h4 dL_law_794 h6 h7 ?_
  refine Runs.i2l dL_law_795 ?_
  refine Runs.bipush dL_law_796 (by decide) (by decide) ?_
  refine Runs.lshl dL_law_798 ?_
  refine Runs.aload_n (j := 0) dL_law_799 rfl ?_
  refine Runs.iload_n (j := 3) dL_law_800 rfl ?_
  refine Runs.iconst dL_law_801 (by decide) ?_
  refine Runs.iadd dL_law_802 h8 ?_
  refine Runs.sld rfl h4 dL_law_803 h9 h10 ?_
  refine Runs.i2l dL_law_804 ?_
  refine Runs.ldc2 (z := 4294967295) dL_law_805 w5_79 (by decide) (by decide) ?_
  refine Runs.land dL_law_808 ?_
  refine Runs.lor dL_law_809 ?_
  refine Runs.callVi (y := mX9_caught) (n := 2) (as := [vi (X.2 ((x3 + (1 : Int))).toNat), vl (qor (qshl (X.2 ((x3 + (2 : Int))).toNat) (32 : Int)) (qand (X.2 ((x3 + (3 : Int))).toNat) (4294967295 : Int)))]) (st := [vi xs0]) (q := (RX9, TX9, 48)) dL_law_810 oc_X9_caught im_X9_caught se_X9_caught ml_L_94 rfl ⟨(Nat.le_of_ble_eq_true rfl), (Nat.le_of_ble_eq_true rfl)⟩ (Nat.le_of_ble_eq_true rfl) (Nat.le_of_ble_eq_true rfl) rfl rfl rfl (Or.inl rfl) hC (fun z M1 hQ => ?_)
  exact k z M1 hQ
theorem kL_law_813 {X : Scr} {M : Mem} {P : Option AV → Mem → Prop} {x3 xs0 xs1 : Int} (k1 : xs0 = xs1 → Runs X mL_law 1363 [(0, vr 999), (1, vr 0), (2, vr 200), (3, vi x3)] [] M P) (k2 : xs0 ≠ xs1 → Runs X mL_law 816 [] [] M P) : Runs X mL_law 813 [(0, vr 999), (1, vr 0), (2, vr 200), (3, vi x3)] [vi xs1, vi xs0] M P := by
  refine Runs.icmp_eq (tgt := 1363) dL_law_813 (by decide) (fun h => ?_) (fun h => ?_)
  · exact k1 h
  · refine Runs.picks (loc' := []) [] rfl ?_
    exact k2 h
theorem kL_law_816 {X : Scr} {M : Mem} {P : Option AV → Mem → Prop} (k : P (some (vi (0 : Int))) M) (h1 : 0 ≤ (0 : Int) ∧ (0 : Int) ≤ 1 := by omega) : Runs X mL_law 816 [] [] M P := by
  refine Runs.iconst dL_law_816 (by decide) ?_
  exact Runs.retz dL_law_817 rfl h1 k
theorem kL_law_818 {X : Scr} {M : Mem} {P Q : Option AV → Mem → Prop} {x3 : Int} (hC : Call X mX8_washed [vr 0, vi (X.2 ((x3 + (1 : Int))).toNat), vl (qor (qshl (X.2 ((x3 + (2 : Int))).toNat) (32 : Int)) (qand (X.2 ((x3 + (3 : Int))).toNat) (4294967295 : Int)))] M Q) (k : ∀ (z : Int) (M1 : Mem), Q (some (vi z)) M1 → Runs X mL_law 847 [(0, vr 999), (1, vr 0), (2, vr 200), (3, vi x3)] [vi z] M1 P) (h1 : -2147483648 ≤ (x3 + (1 : Int)) ∧ (x3 + (1 : Int)) ≤ 2147483647 := by omega) (h2 : 0 ≤ (x3 + (1 : Int)) := by omega) (h3 : (x3 + (1 : Int)) < ((X.1 : Nat) : Int) := by omega) (h4 : ∀ j, inI (X.2 j) := by assumption) (h5 : -2147483648 ≤ (x3 + (2 : Int)) ∧ (x3 + (2 : Int)) ≤ 2147483647 := by omega) (h6 : 0 ≤ (x3 + (2 : Int)) := by omega) (h7 : (x3 + (2 : Int)) < ((X.1 : Nat) : Int) := by omega) (h8 : -2147483648 ≤ (x3 + (3 : Int)) ∧ (x3 + (3 : Int)) ≤ 2147483647 := by omega) (h9 : 0 ≤ (x3 + (3 : Int)) := by omega) (h10 : (x3 + (3 : Int)) < ((X.1 : Nat) : Int) := by omega) : Runs X mL_law 818 [(0, vr 999), (1, vr 0), (2, vr 200), (3, vi x3)] [] M P := by
  refine Runs.aload_n (j := 1) dL_law_818 rfl ?_
  refine Runs.aload_n (j := 0) dL_law_819 rfl ?_
  refine Runs.iload_n (j := 3) dL_law_820 rfl ?_
  refine Runs.iconst dL_law_821 (by decide) ?_
  refine Runs.iadd dL_law_822 h1 ?_
  refine Runs.sld rfl h4 dL_law_823 h2 h3 ?_
  refine Runs.aload_n (j := 0) dL_law_824 rfl ?_
  refine Runs.iload_n (j := 3) dL_law_825 rfl ?_
  refine Runs.iconst dL_law_826 (by decide) ?_
  refine Runs.iadd dL_law_827 h5 ?_
  refine Runs.sld rfl h4 dL_law_828 h6 h7 ?_
  refine Runs.i2l dL_law_829 ?_
  refine Runs.bipush dL_law_830 (by decide) (by decide) ?_
  refine Runs.lshl dL_law_832 ?_
  refine Runs.aload_n (j := 0) dL_law_833 rfl ?_
  refine Runs.iload_n (j := 3) dL_law_834 rfl ?_
  refine Runs.iconst dL_law_835 (by decide) ?_
  refine Runs.iadd dL_law_836 h8 ?_
  refine Runs.sld rfl h4 dL_law_837 h9 h10 ?_
  refine Runs.i2l dL_law_838 ?_
  refine Runs.ldc2 (z := 4294967295) dL_law_839 w5_79 (by decide) (by decide) ?_
  refine Runs.land dL_law_842 ?_
  refine Runs.lor dL_law_843 ?_
  refine Runs.callVi (y := mX8_washed) (n := 2) (as := [vi (X.2 ((x3 + (1 : Int))).toNat), vl (qor (qshl (X.2 ((x3 + (2 : Int))).toNat) (32 : Int)) (qand (X.2 ((x3 + (3 : Int))).toNat) (4294967295 : Int)))]) (st := []) (q := (RX8, TX8, 12)) dL_law_844 oc_X8_washed im_X8_washed se_X8_washed ml_L_95 rfl ⟨(Nat.le_of_ble_eq_true rfl), (Nat.le_of_ble_eq_true rfl)⟩ (Nat.le_of_ble_eq_true rfl) (Nat.le_of_ble_eq_true rfl) rfl rfl rfl (Or.inl rfl) hC (fun z M1 hQ => ?_)
  exact k z M1 hQ
theorem kL_law_847 {X : Scr} {M : Mem} {P Q : Option AV → Mem → Prop} {x3 xs0 : Int} (hC : Call X mX9_washed [vr 200, vi (X.2 ((x3 + (1 : Int))).toNat), vl (qor (qshl (X.2 ((x3 + (2 : Int))).toNat) (32 : Int)) (qand (X.2 ((x3 + (3 : Int))).toNat) (4294967295 : Int)))] M Q) (k : ∀ (z : Int) (M1 : Mem), Q (some (vi z)) M1 → Runs X mL_law 876 [(0, vr 999), (1, vr 0), (2, vr 200), (3, vi x3)] [vi z, vi xs0] M1 P) (h1 : -2147483648 ≤ (x3 + (1 : Int)) ∧ (x3 + (1 : Int)) ≤ 2147483647 := by omega) (h2 : 0 ≤ (x3 + (1 : Int)) := by omega) (h3 : (x3 + (1 : Int)) < ((X.1 : Nat) : Int) := by omega) (h4 : ∀ j, inI (X.2 j) := by assumption) (h5 : -2147483648 ≤ (x3 + (2 : Int)) ∧ (x3 + (2 : Int)) ≤ 2147483647 := by omega) (h6 : 0 ≤ (x3 + (2 : Int)) := by omega) (h7 : (x3 + (2 : Int)) < ((X.1 : Nat) : Int) := by omega) (h8 : -2147483648 ≤ (x3 + (3 : Int)) ∧ (x3 + (3 : Int)) ≤ 2147483647 := by omega) (h9 : 0 ≤ (x3 + (3 : Int)) := by omega) (h10 : (x3 + (3 : Int)) < ((X.1 : Nat) : Int) := by omega) : Runs X mL_law 847 [(0, vr 999), (1, vr 0), (2, vr 200), (3, vi x3)] [vi xs0] M P := by
  refine Runs.aload_n (j := 2) dL_law_847 rfl ?_
  refine Runs.aload_n (j := 0) dL_law_848 rfl ?_
  refine Runs.iload_n (j := 3) dL_law_849 rfl ?_
  refine Runs.iconst dL_law_850 (by decide) ?_
  refine Runs.iadd dL_law_851 h1 ?_
  refine Runs.sld rfl h4 dL_law_852 h2 h3 ?_
  refine Runs.aload_n (j := 0) dL_law_853 rfl ?_
  refine Runs.iload_n (j := 3) dL_law_854 rfl ?_
  refine Runs.iconst dL_law_855 (by decide) ?_
  refine Runs.iadd dL_law_856 h5 ?_
  refine Runs.sld rfl h4 dL_law_857 h6 h7 ?_
  refine Runs.i2l dL_law_858 ?_
  refine Runs.bipush dL_law_859 (by decide) (by decide) ?_
  refine Runs.lshl dL_law_861 ?_
  refine Runs.aload_n (j := 0) dL_law_862 rfl ?_
  refine Runs.iload_n (j := 3) dL_law_863 rfl ?_
  refine Runs.iconst dL_law_864 (by decide) ?_
  refine Runs.iadd dL_law_865 h8 ?_
  refine Runs.sld rfl h4 dL_law_866 h9 h10 ?_
  refine Runs.i2l dL_law_867 ?_
  refine Runs.ldc2 (z := 4294967295) dL_law_868 w5_79 (by decide) (by decide) ?_
  refine Runs.land dL_law_871 ?_
  refine Runs.lor dL_law_872 ?_
  refine Runs.callVi (y := mX9_washed) (n := 2) (as := [vi (X.2 ((x3 + (1 : Int))).toNat), vl (qor (qshl (X.2 ((x3 + (2 : Int))).toNat) (32 : Int)) (qand (X.2 ((x3 + (3 : Int))).toNat) (4294967295 : Int)))]) (st := [vi xs0]) (q := (RX9, TX9, 48)) dL_law_873 oc_X9_washed im_X9_washed se_X9_washed ml_L_98 rfl ⟨(Nat.le_of_ble_eq_true rfl), (Nat.le_of_ble_eq_true rfl)⟩ (Nat.le_of_ble_eq_true rfl) (Nat.le_of_ble_eq_true rfl) rfl rfl rfl (Or.inl rfl) hC (fun z M1 hQ => ?_)
  exact k z M1 hQ
theorem kL_law_876 {X : Scr} {M : Mem} {P : Option AV → Mem → Prop} {x3 xs0 xs1 : Int} (k1 : xs0 = xs1 → Runs X mL_law 1363 [(0, vr 999), (1, vr 0), (2, vr 200), (3, vi x3)] [] M P) (k2 : xs0 ≠ xs1 → Runs X mL_law 879 [] [] M P) : Runs X mL_law 876 [(0, vr 999), (1, vr 0), (2, vr 200), (3, vi x3)] [vi xs1, vi xs0] M P := by
  refine Runs.icmp_eq (tgt := 1363) dL_law_876 (by decide) (fun h => ?_) (fun h => ?_)
  · exact k1 h
  · refine Runs.picks (loc' := []) [] rfl ?_
    exact k2 h
theorem kL_law_879 {X : Scr} {M : Mem} {P : Option AV → Mem → Prop} (k : P (some (vi (0 : Int))) M) (h1 : 0 ≤ (0 : Int) ∧ (0 : Int) ≤ 1 := by omega) : Runs X mL_law 879 [] [] M P := by
  refine Runs.iconst dL_law_879 (by decide) ?_
  exact Runs.retz dL_law_880 rfl h1 k
theorem kL_law_881 {X : Scr} {M : Mem} {P Q : Option AV → Mem → Prop} {x3 : Int} (hC : Call X mX8_life [vr 0, vi (X.2 ((x3 + (1 : Int))).toNat), vi (X.2 ((x3 + (2 : Int))).toNat)] M Q) (k : ∀ (z : Int) (M1 : Mem), Q (some (vi z)) M1 → Runs X mL_law 895 [(0, vr 999), (1, vr 0), (2, vr 200), (3, vi x3)] [vi z] M1 P) (h1 : -2147483648 ≤ (x3 + (1 : Int)) ∧ (x3 + (1 : Int)) ≤ 2147483647 := by omega) (h2 : 0 ≤ (x3 + (1 : Int)) := by omega) (h3 : (x3 + (1 : Int)) < ((X.1 : Nat) : Int) := by omega) (h4 : ∀ j, inI (X.2 j) := by assumption) (h5 : -2147483648 ≤ (x3 + (2 : Int)) ∧ (x3 + (2 : Int)) ≤ 2147483647 := by omega) (h6 : 0 ≤ (x3 + (2 : Int)) := by omega) (h7 : (x3 + (2 : Int)) < ((X.1 : Nat) : Int) := by omega) : Runs X mL_law 881 [(0, vr 999), (1, vr 0), (2, vr 200), (3, vi x3)] [] M P := by
  refine Runs.aload_n (j := 1) dL_law_881 rfl ?_
  refine Runs.aload_n (j := 0) dL_law_882 rfl ?_
  refine Runs.iload_n (j := 3) dL_law_883 rfl ?_
  refine Runs.iconst dL_law_884 (by decide) ?_
  refine Runs.iadd dL_law_885 h1 ?_
  refine Runs.sld rfl h4 dL_law_886 h2 h3 ?_
  refine Runs.aload_n (j := 0) dL_law_887 rfl ?_
  refine Runs.iload_n (j := 3) dL_law_888 rfl ?_
  refine Runs.iconst dL_law_889 (by decide) ?_
  refine Runs.iadd dL_law_890 h5 ?_
  refine Runs.sld rfl h4 dL_law_891 h6 h7 ?_
  refine Runs.callVi (y := mX8_life) (n := 2) (as := [vi (X.2 ((x3 + (1 : Int))).toNat), vi (X.2 ((x3 + (2 : Int))).toNat)]) (st := []) (q := (RX8, TX8, 12)) dL_law_892 oc_X8_life im_X8_life se_X8_life ml_L_99 rfl ⟨(Nat.le_of_ble_eq_true rfl), (Nat.le_of_ble_eq_true rfl)⟩ (Nat.le_of_ble_eq_true rfl) (Nat.le_of_ble_eq_true rfl) rfl rfl rfl (Or.inl rfl) hC (fun z M1 hQ => ?_)
  exact k z M1 hQ
theorem kL_law_895 {X : Scr} {M : Mem} {P Q : Option AV → Mem → Prop} {x3 xs0 : Int} (hC : Call X mX9_life [vr 200, vi (X.2 ((x3 + (1 : Int))).toNat), vi (X.2 ((x3 + (2 : Int))).toNat)] M Q) (k : ∀ (z : Int) (M1 : Mem), Q (some (vi z)) M1 → Runs X mL_law 909 [(0, vr 999), (1, vr 0), (2, vr 200), (3, vi x3)] [vi z, vi xs0] M1 P) (h1 : -2147483648 ≤ (x3 + (1 : Int)) ∧ (x3 + (1 : Int)) ≤ 2147483647 := by omega) (h2 : 0 ≤ (x3 + (1 : Int)) := by omega) (h3 : (x3 + (1 : Int)) < ((X.1 : Nat) : Int) := by omega) (h4 : ∀ j, inI (X.2 j) := by assumption) (h5 : -2147483648 ≤ (x3 + (2 : Int)) ∧ (x3 + (2 : Int)) ≤ 2147483647 := by omega) (h6 : 0 ≤ (x3 + (2 : Int)) := by omega) (h7 : (x3 + (2 : Int)) < ((X.1 : Nat) : Int) := by omega) : Runs X mL_law 895 [(0, vr 999), (1, vr 0), (2, vr 200), (3, vi x3)] [vi xs0] M P := by
  refine Runs.aload_n (j := 2) dL_law_895 rfl ?_
  refine Runs.aload_n (j := 0) dL_law_896 rfl ?_
  refine Runs.iload_n (j := 3) dL_law_897 rfl ?_
  refine Runs.iconst dL_law_898 (by decide) ?_
  refine Runs.iadd dL_law_899 h1 ?_
  refine Runs.sld rfl h4 dL_law_900 h2 h3 ?_
  refine Runs.aload_n (j := 0) dL_law_901 rfl ?_
  refine Runs.iload_n (j := 3) dL_law_902 rfl ?_
  refine Runs.iconst dL_law_903 (by decide) ?_
  refine Runs.iadd dL_law_904 h5 ?_
  refine Runs.sld rfl h4 dL_law_905 h6 h7 ?_
  refine Runs.callVi (y := mX9_life) (n := 2) (as := [vi (X.2 ((x3 + (1 : Int))).toNat), vi (X.2 ((x3 + (2 : Int))).toNat)]) (st := [vi xs0]) (q := (RX9, TX9, 48)) dL_law_906 oc_X9_life im_X9_life se_X9_life ml_L_102 rfl ⟨(Nat.le_of_ble_eq_true rfl), (Nat.le_of_ble_eq_true rfl)⟩ (Nat.le_of_ble_eq_true rfl) (Nat.le_of_ble_eq_true rfl) rfl rfl rfl (Or.inl rfl) hC (fun z M1 hQ => ?_)
  exact k z M1 hQ
theorem kL_law_909 {X : Scr} {M : Mem} {P : Option AV → Mem → Prop} {x3 xs0 xs1 : Int} (k1 : xs0 = xs1 → Runs X mL_law 1363 [(0, vr 999), (1, vr 0), (2, vr 200), (3, vi x3)] [] M P) (k2 : xs0 ≠ xs1 → Runs X mL_law 912 [] [] M P) : Runs X mL_law 909 [(0, vr 999), (1, vr 0), (2, vr 200), (3, vi x3)] [vi xs1, vi xs0] M P := by
  refine Runs.icmp_eq (tgt := 1363) dL_law_909 (by decide) (fun h => ?_) (fun h => ?_)
  · exact k1 h
  · refine Runs.picks (loc' := []) [] rfl ?_
    exact k2 h
theorem kL_law_912 {X : Scr} {M : Mem} {P : Option AV → Mem → Prop} (k : P (some (vi (0 : Int))) M) (h1 : 0 ≤ (0 : Int) ∧ (0 : Int) ≤ 1 := by omega) : Runs X mL_law 912 [] [] M P := by
  refine Runs.iconst dL_law_912 (by decide) ?_
  exact Runs.retz dL_law_913 rfl h1 k
theorem kL_law_914 {X : Scr} {M : Mem} {P Q : Option AV → Mem → Prop} {x3 : Int} (hC : Call X mX8_trace [vr 0, vi (X.2 ((x3 + (1 : Int))).toNat), vi (X.2 ((x3 + (2 : Int))).toNat)] M Q) (k : ∀ (z : Int) (M1 : Mem), Q (some (vi z)) M1 → Runs X mL_law 928 [(0, vr 999), (1, vr 0), (2, vr 200), (3, vi x3)] [vi z] M1 P) (h1 : -2147483648 ≤ (x3 + (1 : Int)) ∧ (x3 + (1 : Int)) ≤ 2147483647 := by omega) (h2 : 0 ≤ (x3 + (1 : Int)) := by omega) (h3 : (x3 + (1 : Int)) < ((X.1 : Nat) : Int) := by omega) (h4 : ∀ j, inI (X.2 j) := by assumption) (h5 : -2147483648 ≤ (x3 + (2 : Int)) ∧ (x3 + (2 : Int)) ≤ 2147483647 := by omega) (h6 : 0 ≤ (x3 + (2 : Int)) := by omega) (h7 : (x3 + (2 : Int)) < ((X.1 : Nat) : Int) := by omega) : Runs X mL_law 914 [(0, vr 999), (1, vr 0), (2, vr 200), (3, vi x3)] [] M P := by
  refine Runs.aload_n (j := 1) dL_law_914 rfl ?_
  refine Runs.aload_n (j := 0) dL_law_915 rfl ?_
  refine Runs.iload_n (j := 3) dL_law_916 rfl ?_
  refine Runs.iconst dL_law_917 (by decide) ?_
  refine Runs.iadd dL_law_918 h1 ?_
  refine Runs.sld rfl h4 dL_law_919 h2 h3 ?_
  refine Runs.aload_n (j := 0) dL_law_920 rfl ?_
  refine Runs.iload_n (j := 3) dL_law_921 rfl ?_
  refine Runs.iconst dL_law_922 (by decide) ?_
  refine Runs.iadd dL_law_923 h5 ?_
  refine Runs.sld rfl h4 dL_law_924 h6 h7 ?_
  refine Runs.callVi (y := mX8_trace) (n := 2) (as := [vi (X.2 ((x3 + (1 : Int))).toNat), vi (X.2 ((x3 + (2 : Int))).toNat)]) (st := []) (q := (RX8, TX8, 12)) dL_law_925 oc_X8_trace im_X8_trace se_X8_trace ml_L_103 rfl ⟨(Nat.le_of_ble_eq_true rfl), (Nat.le_of_ble_eq_true rfl)⟩ (Nat.le_of_ble_eq_true rfl) (Nat.le_of_ble_eq_true rfl) rfl rfl rfl (Or.inl rfl) hC (fun z M1 hQ => ?_)
  exact k z M1 hQ
theorem kL_law_928 {X : Scr} {M : Mem} {P Q : Option AV → Mem → Prop} {x3 xs0 : Int} (hC : Call X mX9_trace [vr 200, vi (X.2 ((x3 + (1 : Int))).toNat), vi (X.2 ((x3 + (2 : Int))).toNat)] M Q) (k : ∀ (z : Int) (M1 : Mem), Q (some (vi z)) M1 → Runs X mL_law 942 [(0, vr 999), (1, vr 0), (2, vr 200), (3, vi x3)] [vi z, vi xs0] M1 P) (h1 : -2147483648 ≤ (x3 + (1 : Int)) ∧ (x3 + (1 : Int)) ≤ 2147483647 := by omega) (h2 : 0 ≤ (x3 + (1 : Int)) := by omega) (h3 : (x3 + (1 : Int)) < ((X.1 : Nat) : Int) := by omega) (h4 : ∀ j, inI (X.2 j) := by assumption) (h5 : -2147483648 ≤ (x3 + (2 : Int)) ∧ (x3 + (2 : Int)) ≤ 2147483647 := by omega) (h6 : 0 ≤ (x3 + (2 : Int)) := by omega) (h7 : (x3 + (2 : Int)) < ((X.1 : Nat) : Int) := by omega) : Runs X mL_law 928 [(0, vr 999), (1, vr 0), (2, vr 200), (3, vi x3)] [vi xs0] M P := by
  refine Runs.aload_n (j := 2) dL_law_928 rfl ?_
  refine Runs.aload_n (j := 0) dL_law_929 rfl ?_
  refine Runs.iload_n (j := 3) dL_law_930 rfl ?_
  refine Runs.iconst dL_law_931 (by decide) ?_
  refine Runs.iadd dL_law_932 h1 ?_
  refine Runs.sld rfl h4 dL_law_933 h2 h3 ?_
  refine Runs.aload_n (j := 0) dL_law_934 rfl ?_
  refine Runs.iload_n (j := 3) dL_law_935 rfl ?_
  refine Runs.iconst dL_law_936 (by decide) ?_
  refine Runs.iadd dL_law_937 h5 ?_
  refine Runs.sld rfl h4 dL_law_938 h6 h7 ?_
  refine Runs.callVi (y := mX9_trace) (n := 2) (as := [vi (X.2 ((x3 + (1 : Int))).toNat), vi (X.2 ((x3 + (2 : Int))).toNat)]) (st := [vi xs0]) (q := (RX9, TX9, 48)) dL_law_939 oc_X9_trace im_X9_trace se_X9_trace ml_L_106 rfl ⟨(Nat.le_of_ble_eq_true rfl), (Nat.le_of_ble_eq_true rfl)⟩ (Nat.le_of_ble_eq_true rfl) (Nat.le_of_ble_eq_true rfl) rfl rfl rfl (Or.inl rfl) hC (fun z M1 hQ => ?_)
  exact k z M1 hQ
theorem kL_law_942 {X : Scr} {M : Mem} {P : Option AV → Mem → Prop} {x3 xs0 xs1 : Int} (k1 : xs0 = xs1 → Runs X mL_law 1363 [(0, vr 999), (1, vr 0), (2, vr 200), (3, vi x3)] [] M P) (k2 : xs0 ≠ xs1 → Runs X mL_law 945 [] [] M P) : Runs X mL_law 942 [(0, vr 999), (1, vr 0), (2, vr 200), (3, vi x3)] [vi xs1, vi xs0] M P := by
  refine Runs.icmp_eq (tgt := 1363) dL_law_942 (by decide) (fun h => ?_) (fun h => ?_)
  · exact k1 h
  · refine Runs.picks (loc' := []) [] rfl ?_
    exact k2 h
theorem kL_law_945 {X : Scr} {M : Mem} {P : Option AV → Mem → Prop} (k : P (some (vi (0 : Int))) M) (h1 : 0 ≤ (0 : Int) ∧ (0 : Int) ≤ 1 := by omega) : Runs X mL_law 945 [] [] M P := by
  refine Runs.iconst dL_law_945 (by decide) ?_
  exact Runs.retz dL_law_946 rfl h1 k
theorem kL_law_947 {X : Scr} {M : Mem} {P Q : Option AV → Mem → Prop} {x3 : Int} (hC : Call X mX8_inflated [vr 0, vi (X.2 ((x3 + (1 : Int))).toNat), vi (X.2 ((x3 + (2 : Int))).toNat)] M Q) (k : ∀ (z : Int) (M1 : Mem), Q (some (vi z)) M1 → Runs X mL_law 961 [(0, vr 999), (1, vr 0), (2, vr 200), (3, vi x3)] [vi z] M1 P) (h1 : -2147483648 ≤ (x3 + (1 : Int)) ∧ (x3 + (1 : Int)) ≤ 2147483647 := by omega) (h2 : 0 ≤ (x3 + (1 : Int)) := by omega) (h3 : (x3 + (1 : Int)) < ((X.1 : Nat) : Int) := by omega) (h4 : ∀ j, inI (X.2 j) := by assumption) (h5 : -2147483648 ≤ (x3 + (2 : Int)) ∧ (x3 + (2 : Int)) ≤ 2147483647 := by omega) (h6 : 0 ≤ (x3 + (2 : Int)) := by omega) (h7 : (x3 + (2 : Int)) < ((X.1 : Nat) : Int) := by omega) : Runs X mL_law 947 [(0, vr 999), (1, vr 0), (2, vr 200), (3, vi x3)] [] M P := by
  refine Runs.aload_n (j := 1) dL_law_947 rfl ?_
  refine Runs.aload_n (j := 0) dL_law_948 rfl ?_
  refine Runs.iload_n (j := 3) dL_law_949 rfl ?_
  refine Runs.iconst dL_law_950 (by decide) ?_
  refine Runs.iadd dL_law_951 h1 ?_
  refine Runs.sld rfl h4 dL_law_952 h2 h3 ?_
  refine Runs.aload_n (j := 0) dL_law_953 rfl ?_
  refine Runs.iload_n (j := 3) dL_law_954 rfl ?_
  refine Runs.iconst dL_law_955 (by decide) ?_
  refine Runs.iadd dL_law_956 h5 ?_
  refine Runs.sld rfl h4 dL_law_957 h6 h7 ?_
  refine Runs.callVi (y := mX8_inflated) (n := 2) (as := [vi (X.2 ((x3 + (1 : Int))).toNat), vi (X.2 ((x3 + (2 : Int))).toNat)]) (st := []) (q := (RX8, TX8, 12)) dL_law_958 oc_X8_inflated im_X8_inflated se_X8_inflated ml_L_107 rfl ⟨(Nat.le_of_ble_eq_true rfl), (Nat.le_of_ble_eq_true rfl)⟩ (Nat.le_of_ble_eq_true rfl) (Nat.le_of_ble_eq_true rfl) rfl rfl rfl (Or.inl rfl) hC (fun z M1 hQ => ?_)
  exact k z M1 hQ
theorem kL_law_961 {X : Scr} {M : Mem} {P Q : Option AV → Mem → Prop} {x3 xs0 : Int} (hC : Call X mX9_inflated [vr 200, vi (X.2 ((x3 + (1 : Int))).toNat), vi (X.2 ((x3 + (2 : Int))).toNat)] M Q) (k : ∀ (z : Int) (M1 : Mem), Q (some (vi z)) M1 → Runs X mL_law 975 [(0, vr 999), (1, vr 0), (2, vr 200), (3, vi x3)] [vi z, vi xs0] M1 P) (h1 : -2147483648 ≤ (x3 + (1 : Int)) ∧ (x3 + (1 : Int)) ≤ 2147483647 := by omega) (h2 : 0 ≤ (x3 + (1 : Int)) := by omega) (h3 : (x3 + (1 : Int)) < ((X.1 : Nat) : Int) := by omega) (h4 : ∀ j, inI (X.2 j) := by assumption) (h5 : -2147483648 ≤ (x3 + (2 : Int)) ∧ (x3 + (2 : Int)) ≤ 2147483647 := by omega) (h6 : 0 ≤ (x3 + (2 : Int)) := by omega) (h7 : (x3 + (2 : Int)) < ((X.1 : Nat) : Int) := by omega) : Runs X mL_law 961 [(0, vr 999), (1, vr 0), (2, vr 200), (3, vi x3)] [vi xs0] M P := by
  refine Runs.aload_n (j := 2) dL_law_961 rfl ?_
  refine Runs.aload_n (j := 0) dL_law_962 rfl ?_
  refine Runs.iload_n (j := 3) dL_law_963 rfl ?_
  refine Runs.iconst dL_law_964 (by decide) ?_
  refine Runs.iadd dL_law_965 h1 ?_
  refine Runs.sld rfl h4 dL_law_966 h2 h3 ?_
  refine Runs.aload_n (j := 0) dL_law_967 rfl ?_
  refine Runs.iload_n (j := 3) dL_law_968 rfl ?_
  refine Runs.iconst dL_law_969 (by decide) ?_
  refine Runs.iadd dL_law_970 h5 ?_
  refine Runs.sld rfl h4 dL_law_971 h6 h7 ?_
  refine Runs.callVi (y := mX9_inflated) (n := 2) (as := [vi (X.2 ((x3 + (1 : Int))).toNat), vi (X.2 ((x3 + (2 : Int))).toNat)]) (st := [vi xs0]) (q := (RX9, TX9, 48)) dL_law_972 oc_X9_inflated im_X9_inflated se_X9_inflated ml_L_110 rfl ⟨(Nat.le_of_ble_eq_true rfl), (Nat.le_of_ble_eq_true rfl)⟩ (Nat.le_of_ble_eq_true rfl) (Nat.le_of_ble_eq_true rfl) rfl rfl rfl (Or.inl rfl) hC (fun z M1 hQ => ?_)
  exact k z M1 hQ
theorem kL_law_975 {X : Scr} {M : Mem} {P : Option AV → Mem → Prop} {x3 xs0 xs1 : Int} (k1 : xs0 = xs1 → Runs X mL_law 1363 [(0, vr 999), (1, vr 0), (2, vr 200), (3, vi x3)] [] M P) (k2 : xs0 ≠ xs1 → Runs X mL_law 978 [] [] M P) : Runs X mL_law 975 [(0, vr 999), (1, vr 0), (2, vr 200), (3, vi x3)] [vi xs1, vi xs0] M P := by
  refine Runs.icmp_eq (tgt := 1363) dL_law_975 (by decide) (fun h => ?_) (fun h => ?_)
  · exact k1 h
  · refine Runs.picks (loc' := []) [] rfl ?_
    exact k2 h
theorem kL_law_978 {X : Scr} {M : Mem} {P : Option AV → Mem → Prop} (k : P (some (vi (0 : Int))) M) (h1 : 0 ≤ (0 : Int) ∧ (0 : Int) ≤ 1 := by omega) : Runs X mL_law 978 [] [] M P := by
  refine Runs.iconst dL_law_978 (by decide) ?_
  exact Runs.retz dL_law_979 rfl h1 k
theorem kL_law_980 {X : Scr} {M : Mem} {P : Option AV → Mem → Prop} {x3 : Int} (k1 : (X.2 ((x3 + (6 : Int))).toNat) = 0 → Runs X mL_law 1019 [(0, vr 999), (1, vr 0), (2, vr 200), (3, vi x3)] [vi (X.2 ((x3 + (5 : Int))).toNat), vi (X.2 ((x3 + (4 : Int))).toNat), vi (X.2 ((x3 + (3 : Int))).toNat), vi (X.2 ((x3 + (2 : Int))).toNat), vi (X.2 ((x3 + (1 : Int))).toNat), vr 0] M P) (k2 : (X.2 ((x3 + (6 : Int))).toNat) ≠ 0 → Runs X mL_law 1015 [(0, vr 999), (1, vr 0), (2, vr 200), (3, vi x3)] [vi (X.2 ((x3 + (5 : Int))).toNat), vi (X.2 ((x3 + (4 : Int))).toNat), vi (X.2 ((x3 + (3 : Int))).toNat), vi (X.2 ((x3 + (2 : Int))).toNat), vi (X.2 ((x3 + (1 : Int))).toNat), vr 0] M P) (h1 : -2147483648 ≤ (x3 + (1 : Int)) ∧ (x3 + (1 : Int)) ≤ 2147483647 := by omega) (h2 : 0 ≤ (x3 + (1 : Int)) := by omega) (h3 : (x3 + (1 : Int)) < ((X.1 : Nat) : Int) := by omega) (h4 : ∀ j, inI (X.2 j) := by assumption) (h5 : -2147483648 ≤ (x3 + (2 : Int)) ∧ (x3 + (2 : Int)) ≤ 2147483647 := by omega) (h6 : 0 ≤ (x3 + (2 : Int)) := by omega) (h7 : (x3 + (2 : Int)) < ((X.1 : Nat) : Int) := by omega) (h8 : -2147483648 ≤ (x3 + (3 : Int)) ∧ (x3 + (3 : Int)) ≤ 2147483647 := by omega) (h9 : 0 ≤ (x3 + (3 : Int)) := by omega) (h10 : (x3 + (3 : Int)) < ((X.1 : Nat) : Int) := by omega) (h11 : -2147483648 ≤ (x3 + (4 : Int)) ∧ (x3 + (4 : Int)) ≤ 2147483647 := by omega) (h12 : 0 ≤ (x3 + (4 : Int)) := by omega) (h13 : (x3 + (4 : Int)) < ((X.1 : Nat) : Int) := by omega) (h14 : -2147483648 ≤ (x3 + (5 : Int)) ∧ (x3 + (5 : Int)) ≤ 2147483647 := by omega) (h15 : 0 ≤ (x3 + (5 : Int)) := by omega) (h16 : (x3 + (5 : Int)) < ((X.1 : Nat) : Int) := by omega) (h17 : -2147483648 ≤ (x3 + (6 : Int)) ∧ (x3 + (6 : Int)) ≤ 2147483647 := by omega) (h18 : 0 ≤ (x3 + (6 : Int)) := by omega) (h19 : (x3 + (6 : Int)) < ((X.1 : Nat) : Int) := by omega) : Runs X mL_law 980 [(0, vr 999), (1, vr 0), (2, vr 200), (3, vi x3)] [] M P := by
  refine Runs.aload_n (j := 1) dL_law_980 rfl ?_
  refine Runs.aload_n (j := 0) dL_law_981 rfl ?_
  refine Runs.iload_n (j := 3) dL_law_982 rfl ?_
  refine Runs.iconst dL_law_983 (by decide) ?_
  refine Runs.iadd dL_law_984 h1 ?_
  refine Runs.sld rfl h4 dL_law_985 h2 h3 ?_
  refine Runs.aload_n (j := 0) dL_law_986 rfl ?_
  refine Runs.iload_n (j := 3) dL_law_987 rfl ?_
  refine Runs.iconst dL_law_988 (by decide) ?_
  refine Runs.iadd dL_law_989 h5 ?_
  refine Runs.sld rfl h4 dL_law_990 h6 h7 ?_
  refine Runs.aload_n (j := 0) dL_law_991 rfl ?_
  refine Runs.iload_n (j := 3) dL_law_992 rfl ?_
  refine Runs.iconst dL_law_993 (by decide) ?_
  refine Runs.iadd dL_law_994 h8 ?_
  refine Runs.sld rfl h4 dL_law_995 h9 h10 ?_
  refine Runs.aload_n (j := 0) dL_law_996 rfl ?_
  refine Runs.iload_n (j := 3) dL_law_997 rfl ?_
  refine Runs.iconst dL_law_998 (by decide) ?_
  refine Runs.iadd dL_law_999 h11 ?_
  refine Runs.sld rfl h4 dL_law_1000 h12 h13 ?_
  refine Runs.aload_n (j := 0) dL_law_1001 rfl ?_
  refine Runs.iload_n (j := 3) dL_law_1002 rfl ?_
  refine Runs.iconst dL_law_1003 (by decide) ?_
  refine Runs.iadd dL_law_1004 h14 ?_
  refine Runs.sld rfl h4 dL_law_1005 h15 h16 ?_
  refine Runs.aload_n (j := 0) dL_law_1006 rfl ?_
  refine Runs.iload_n (j := 3) dL_law_1007 rfl ?_
  refine Runs.bipush dL_law_1008 (by decide) (by decide) ?_
  refine Runs.iadd dL_law_1010 h17 ?_
  refine Runs.sld rfl h4 dL_law_1011 h18 h19 ?_
  refine Runs.if_eq (tgt := 1019) dL_law_1012 (by decide) (fun h => ?_) (fun h => ?_)
  · exact k1 h
  · exact k2 h
theorem kL_law_1015 {X : Scr} {M : Mem} {P : Option AV → Mem → Prop} {x3 xs1 xs2 xs3 xs4 xs5 : Int} (k : Runs X mL_law 1020 [(0, vr 999), (1, vr 0), (2, vr 200), (3, vi x3)] [vi (1 : Int), vi xs5, vi xs4, vi xs3, vi xs2, vi xs1, vr 0] M P) : Runs X mL_law 1015 [(0, vr 999), (1, vr 0), (2, vr 200), (3, vi x3)] [vi xs5, vi xs4, vi xs3, vi xs2, vi xs1, vr 0] M P := by
  refine Runs.iconst dL_law_1015 (by decide) ?_
  refine Runs.goto (tgt := 1020) dL_law_1016 (by decide) ?_
  exact k
theorem kL_law_1019 {X : Scr} {M : Mem} {P : Option AV → Mem → Prop} {x3 xs1 xs2 xs3 xs4 xs5 : Int} (k : Runs X mL_law 1020 [(0, vr 999), (1, vr 0), (2, vr 200), (3, vi x3)] [vi (0 : Int), vi xs5, vi xs4, vi xs3, vi xs2, vi xs1, vr 0] M P) : Runs X mL_law 1019 [(0, vr 999), (1, vr 0), (2, vr 200), (3, vi x3)] [vi xs5, vi xs4, vi xs3, vi xs2, vi xs1, vr 0] M P := by
  refine Runs.iconst dL_law_1019 (by decide) ?_
  exact k
theorem kL_law_1020 {X : Scr} {M : Mem} {P Q : Option AV → Mem → Prop} {x3 xs1 xs2 xs3 xs4 xs5 xs6 : Int} (hC : Call X mX8_doubt [vr 0, vi xs1, vi xs2, vi xs3, vi xs4, vi xs5, vi xs6] M Q) (k : ∀ (z : Int) (M1 : Mem), Q (some (vl z)) M1 → Runs X mL_law 1023 [(0, vr 999), (1, vr 0), (2, vr 200), (3, vi x3)] [vl z] M1 P) : Runs X mL_law 1020 [(0, vr 999), (1, vr 0), (2, vr 200), (3, vi x3)] [vi xs6, vi xs5, vi xs4, vi xs3, vi xs2, vi xs1, vr 0] M P := by
  refine Runs.callVl (y := mX8_doubt) (n := 6) (as := [vi xs1, vi xs2, vi xs3, vi xs4, vi xs5, vi xs6]) (st := []) (q := (RX8, TX8, 12)) dL_law_1020 oc_X8_doubt im_X8_doubt se_X8_doubt ml_L_111 rfl ⟨(Nat.le_of_ble_eq_true rfl), (Nat.le_of_ble_eq_true rfl)⟩ (Nat.le_of_ble_eq_true rfl) (Nat.le_of_ble_eq_true rfl) rfl rfl rfl rfl hC (fun z M1 hQ => ?_)
  exact k z M1 hQ
theorem kL_law_1023 {X : Scr} {M : Mem} {P : Option AV → Mem → Prop} {x3 xs0 : Int} (k1 : (X.2 ((x3 + (6 : Int))).toNat) = 0 → Runs X mL_law 1062 [(0, vr 999), (1, vr 0), (2, vr 200), (3, vi x3)] [vi (X.2 ((x3 + (5 : Int))).toNat), vi (X.2 ((x3 + (4 : Int))).toNat), vi (X.2 ((x3 + (3 : Int))).toNat), vi (X.2 ((x3 + (2 : Int))).toNat), vi (X.2 ((x3 + (1 : Int))).toNat), vr 200, vl xs0] M P) (k2 : (X.2 ((x3 + (6 : Int))).toNat) ≠ 0 → Runs X mL_law 1058 [(0, vr 999), (1, vr 0), (2, vr 200), (3, vi x3)] [vi (X.2 ((x3 + (5 : Int))).toNat), vi (X.2 ((x3 + (4 : Int))).toNat), vi (X.2 ((x3 + (3 : Int))).toNat), vi (X.2 ((x3 + (2 : Int))).toNat), vi (X.2 ((x3 + (1 : Int))).toNat), vr 200, vl xs0] M P) (h1 : -2147483648 ≤ (x3 + (1 : Int)) ∧ (x3 + (1 : Int)) ≤ 2147483647 := by omega) (h2 : 0 ≤ (x3 + (1 : Int)) := by omega) (h3 : (x3 + (1 : Int)) < ((X.1 : Nat) : Int) := by omega) (h4 : ∀ j, inI (X.2 j) := by assumption) (h5 : -2147483648 ≤ (x3 + (2 : Int)) ∧ (x3 + (2 : Int)) ≤ 2147483647 := by omega) (h6 : 0 ≤ (x3 + (2 : Int)) := by omega) (h7 : (x3 + (2 : Int)) < ((X.1 : Nat) : Int) := by omega) (h8 : -2147483648 ≤ (x3 + (3 : Int)) ∧ (x3 + (3 : Int)) ≤ 2147483647 := by omega) (h9 : 0 ≤ (x3 + (3 : Int)) := by omega) (h10 : (x3 + (3 : Int)) < ((X.1 : Nat) : Int) := by omega) (h11 : -2147483648 ≤ (x3 + (4 : Int)) ∧ (x3 + (4 : Int)) ≤ 2147483647 := by omega) (h12 : 0 ≤ (x3 + (4 : Int)) := by omega) (h13 : (x3 + (4 : Int)) < ((X.1 : Nat) : Int) := by omega) (h14 : -2147483648 ≤ (x3 + (5 : Int)) ∧ (x3 + (5 : Int)) ≤ 2147483647 := by omega) (h15 : 0 ≤ (x3 + (5 : Int)) := by omega) (h16 : (x3 + (5 : Int)) < ((X.1 : Nat) : Int) := by omega) (h17 : -2147483648 ≤ (x3 + (6 : Int)) ∧ (x3 + (6 : Int)) ≤ 2147483647 := by omega) (h18 : 0 ≤ (x3 + (6 : Int)) := by omega) (h19 : (x3 + (6 : Int)) < ((X.1 : Nat) : Int) := by omega) : Runs X mL_law 1023 [(0, vr 999), (1, vr 0), (2, vr 200), (3, vi x3)] [vl xs0] M P := by
  refine Runs.aload_n (j := 2) dL_law_1023 rfl ?_
  refine Runs.aload_n (j := 0) dL_law_1024 rfl ?_
  refine Runs.iload_n (j := 3) dL_law_1025 rfl ?_
  refine Runs.iconst dL_law_1026 (by decide) ?_
  refine Runs.iadd dL_law_1027 h1 ?_
  refine Runs.sld rfl h4 dL_law_1028 h2 h3 ?_
  refine Runs.aload_n (j := 0) dL_law_1029 rfl ?_
  refine Runs.iload_n (j := 3) dL_law_1030 rfl ?_
  refine Runs.iconst dL_law_1031 (by decide) ?_
  refine Runs.iadd dL_law_1032 h5 ?_
  refine Runs.sld rfl h4 dL_law_1033 h6 h7 ?_
  refine Runs.aload_n (j := 0) dL_law_1034 rfl ?_
  refine Runs.iload_n (j := 3) dL_law_1035 rfl ?_
  refine Runs.iconst dL_law_1036 (by decide) ?_
  refine Runs.iadd dL_law_1037 h8 ?_
  refine Runs.sld rfl h4 dL_law_1038 h9 h10 ?_
  refine Runs.aload_n (j := 0) dL_law_1039 rfl ?_
  refine Runs.iload_n (j := 3) dL_law_1040 rfl ?_
  refine Runs.iconst dL_law_1041 (by decide) ?_
  refine Runs.iadd dL_law_1042 h11 ?_
  refine Runs.sld rfl h4 dL_law_1043 h12 h13 ?_
  refine Runs.aload_n (j := 0) dL_law_1044 rfl ?_
  refine Runs.iload_n (j := 3) dL_law_1045 rfl ?_
  refine Runs.iconst dL_law_1046 (by decide) ?_
  refine Runs.iadd dL_law_1047 h14 ?_
  refine Runs.sld rfl h4 dL_law_1048 h15 h16 ?_
  refine Runs.aload_n (j := 0) dL_law_1049 rfl ?_
  refine Runs.iload_n (j := 3) dL_law_1050 rfl ?_
  refine Runs.bipush dL_law_1051 (by decide) (by decide) ?_
  refine Runs.iadd dL_law_1053 h17 ?_
  refine Runs.sld rfl h4 dL_law_1054 h18 h19 ?_
  refine Runs.if_eq (tgt := 1062) dL_law_1055 (by decide) (fun h => ?_) (fun h => ?_)
  · exact k1 h
  · exact k2 h
theorem kL_law_1058 {X : Scr} {M : Mem} {P : Option AV → Mem → Prop} {x3 xs0 xs2 xs3 xs4 xs5 xs6 : Int} (k : Runs X mL_law 1063 [(0, vr 999), (1, vr 0), (2, vr 200), (3, vi x3)] [vi (1 : Int), vi xs6, vi xs5, vi xs4, vi xs3, vi xs2, vr 200, vl xs0] M P) : Runs X mL_law 1058 [(0, vr 999), (1, vr 0), (2, vr 200), (3, vi x3)] [vi xs6, vi xs5, vi xs4, vi xs3, vi xs2, vr 200, vl xs0] M P := by
  refine Runs.iconst dL_law_1058 (by decide) ?_
  refine Runs.goto (tgt := 1063) dL_law_1059 (by decide) ?_
  exact k
theorem kL_law_1062 {X : Scr} {M : Mem} {P : Option AV → Mem → Prop} {x3 xs0 xs2 xs3 xs4 xs5 xs6 : Int} (k : Runs X mL_law 1063 [(0, vr 999), (1, vr 0), (2, vr 200), (3, vi x3)] [vi (0 : Int), vi xs6, vi xs5, vi xs4, vi xs3, vi xs2, vr 200, vl xs0] M P) : Runs X mL_law 1062 [(0, vr 999), (1, vr 0), (2, vr 200), (3, vi x3)] [vi xs6, vi xs5, vi xs4, vi xs3, vi xs2, vr 200, vl xs0] M P := by
  refine Runs.iconst dL_law_1062 (by decide) ?_
  exact k
theorem kL_law_1063 {X : Scr} {M : Mem} {P Q : Option AV → Mem → Prop} {x3 xs0 xs2 xs3 xs4 xs5 xs6 xs7 : Int} (hC : Call X mX9_doubt [vr 200, vi xs2, vi xs3, vi xs4, vi xs5, vi xs6, vi xs7] M Q) (k : ∀ (z : Int) (M1 : Mem), Q (some (vl z)) M1 → Runs X mL_law 1066 [(0, vr 999), (1, vr 0), (2, vr 200), (3, vi x3)] [vl z, vl xs0] M1 P) : Runs X mL_law 1063 [(0, vr 999), (1, vr 0), (2, vr 200), (3, vi x3)] [vi xs7, vi xs6, vi xs5, vi xs4, vi xs3, vi xs2, vr 200, vl xs0] M P := by
  refine Runs.callVl (y := mX9_doubt) (n := 6) (as := [vi xs2, vi xs3, vi xs4, vi xs5, vi xs6, vi xs7]) (st := [vl xs0]) (q := (RX9, TX9, 48)) dL_law_1063 oc_X9_doubt im_X9_doubt se_X9_doubt ml_L_115 rfl ⟨(Nat.le_of_ble_eq_true rfl), (Nat.le_of_ble_eq_true rfl)⟩ (Nat.le_of_ble_eq_true rfl) (Nat.le_of_ble_eq_true rfl) rfl rfl rfl rfl hC (fun z M1 hQ => ?_)
  exact k z M1 hQ
theorem kL_law_1066 {X : Scr} {M : Mem} {P : Option AV → Mem → Prop} {x3 xs0 xs1 : Int} (k1 : xs0 = xs1 → Runs X mL_law 1363 [(0, vr 999), (1, vr 0), (2, vr 200), (3, vi x3)] [] M P) (k2 : xs0 ≠ xs1 → Runs X mL_law 1070 [] [] M P) : Runs X mL_law 1066 [(0, vr 999), (1, vr 0), (2, vr 200), (3, vi x3)] [vl xs1, vl xs0] M P := by
  refine Runs.lcmp_eq (tgt := 1363) dL_law_1066 dL_law_1067 (by decide) (fun h => ?_) (fun h => ?_)
  · exact k1 h
  · refine Runs.picks (loc' := []) [] rfl ?_
    exact k2 h
theorem kL_law_1070 {X : Scr} {M : Mem} {P : Option AV → Mem → Prop} (k : P (some (vi (0 : Int))) M) (h1 : 0 ≤ (0 : Int) ∧ (0 : Int) ≤ 1 := by omega) : Runs X mL_law 1070 [] [] M P := by
  refine Runs.iconst dL_law_1070 (by decide) ?_
  exact Runs.retz dL_law_1071 rfl h1 k
theorem kL_law_1072 {X : Scr} {M : Mem} {P : Option AV → Mem → Prop} {x3 : Int} (k1 : (X.2 ((x3 + (4 : Int))).toNat) = 0 → Runs X mL_law 1100 [(0, vr 999), (1, vr 0), (2, vr 200), (3, vi x3)] [vi (X.2 ((x3 + (3 : Int))).toNat), vi (X.2 ((x3 + (2 : Int))).toNat), vi (X.2 ((x3 + (1 : Int))).toNat), vr 0] M P) (k2 : (X.2 ((x3 + (4 : Int))).toNat) ≠ 0 → Runs X mL_law 1096 [(0, vr 999), (1, vr 0), (2, vr 200), (3, vi x3)] [vi (X.2 ((x3 + (3 : Int))).toNat), vi (X.2 ((x3 + (2 : Int))).toNat), vi (X.2 ((x3 + (1 : Int))).toNat), vr 0] M P) (h1 : -2147483648 ≤ (x3 + (1 : Int)) ∧ (x3 + (1 : Int)) ≤ 2147483647 := by omega) (h2 : 0 ≤ (x3 + (1 : Int)) := by omega) (h3 : (x3 + (1 : Int)) < ((X.1 : Nat) : Int) := by omega) (h4 : ∀ j, inI (X.2 j) := by assumption) (h5 : -2147483648 ≤ (x3 + (2 : Int)) ∧ (x3 + (2 : Int)) ≤ 2147483647 := by omega) (h6 : 0 ≤ (x3 + (2 : Int)) := by omega) (h7 : (x3 + (2 : Int)) < ((X.1 : Nat) : Int) := by omega) (h8 : -2147483648 ≤ (x3 + (3 : Int)) ∧ (x3 + (3 : Int)) ≤ 2147483647 := by omega) (h9 : 0 ≤ (x3 + (3 : Int)) := by omega) (h10 : (x3 + (3 : Int)) < ((X.1 : Nat) : Int) := by omega) (h11 : -2147483648 ≤ (x3 + (4 : Int)) ∧ (x3 + (4 : Int)) ≤ 2147483647 := by omega) (h12 : 0 ≤ (x3 + (4 : Int)) := by omega) (h13 : (x3 + (4 : Int)) < ((X.1 : Nat) : Int) := by omega) : Runs X mL_law 1072 [(0, vr 999), (1, vr 0), (2, vr 200), (3, vi x3)] [] M P := by
  refine Runs.aload_n (j := 1) dL_law_1072 rfl ?_
  refine Runs.aload_n (j := 0) dL_law_1073 rfl ?_
  refine Runs.iload_n (j := 3) dL_law_1074 rfl ?_
  refine Runs.iconst dL_law_1075 (by decide) ?_
  refine Runs.iadd dL_law_1076 h1 ?_
  refine Runs.sld rfl h4 dL_law_1077 h2 h3 ?_
  refine Runs.aload_n (j := 0) dL_law_1078 rfl ?_
  refine Runs.iload_n (j := 3) dL_law_1079 rfl ?_
  refine Runs.iconst dL_law_1080 (by decide) ?_
  refine Runs.iadd dL_law_1081 h5 ?_
  refine Runs.sld rfl h4 dL_law_1082 h6 h7 ?_
  refine Runs.aload_n (j := 0) dL_law_1083 rfl ?_
  refine Runs.iload_n (j := 3) dL_law_1084 rfl ?_
  refine Runs.iconst dL_law_1085 (by decide) ?_
  refine Runs.iadd dL_law_1086 h8 ?_
  refine Runs.sld rfl h4 dL_law_1087 h9 h10 ?_
  refine Runs.aload_n (j := 0) dL_law_1088 rfl ?_
  refine Runs.iload_n (j := 3) dL_law_1089 rfl ?_
  refine Runs.iconst dL_law_1090 (by decide) ?_
  refine Runs.iadd dL_law_1091 h11 ?_
  refine Runs.sld rfl h4 dL_law_1092 h12 h13 ?_
  refine Runs.if_eq (tgt := 1100) dL_law_1093 (by decide) (fun h => ?_) (fun h => ?_)
  · exact k1 h
  · exact k2 h
theorem kL_law_1096 {X : Scr} {M : Mem} {P : Option AV → Mem → Prop} {x3 xs1 xs2 xs3 : Int} (k : Runs X mL_law 1101 [(0, vr 999), (1, vr 0), (2, vr 200), (3, vi x3)] [vi (1 : Int), vi xs3, vi xs2, vi xs1, vr 0] M P) : Runs X mL_law 1096 [(0, vr 999), (1, vr 0), (2, vr 200), (3, vi x3)] [vi xs3, vi xs2, vi xs1, vr 0] M P := by
  refine Runs.iconst dL_law_1096 (by decide) ?_
  refine Runs.goto (tgt := 1101) dL_law_1097 (by decide) ?_
  exact k
theorem kL_law_1100 {X : Scr} {M : Mem} {P : Option AV → Mem → Prop} {x3 xs1 xs2 xs3 : Int} (k : Runs X mL_law 1101 [(0, vr 999), (1, vr 0), (2, vr 200), (3, vi x3)] [vi (0 : Int), vi xs3, vi xs2, vi xs1, vr 0] M P) : Runs X mL_law 1100 [(0, vr 999), (1, vr 0), (2, vr 200), (3, vi x3)] [vi xs3, vi xs2, vi xs1, vr 0] M P := by
  refine Runs.iconst dL_law_1100 (by decide) ?_
  exact k
theorem kL_law_1101 {X : Scr} {M : Mem} {P Q : Option AV → Mem → Prop} {x3 xs1 xs2 xs3 xs4 : Int} (hC : Call X mX8_among [vr 0, vi xs1, vi xs2, vi xs3, vi xs4] M Q) (k : ∀ (z : Int) (M1 : Mem), Q (some (vl z)) M1 → Runs X mL_law 1104 [(0, vr 999), (1, vr 0), (2, vr 200), (3, vi x3)] [vl z] M1 P) : Runs X mL_law 1101 [(0, vr 999), (1, vr 0), (2, vr 200), (3, vi x3)] [vi xs4, vi xs3, vi xs2, vi xs1, vr 0] M P := by
  refine Runs.callVl (y := mX8_among) (n := 4) (as := [vi xs1, vi xs2, vi xs3, vi xs4]) (st := []) (q := (RX8, TX8, 12)) dL_law_1101 oc_X8_among im_X8_among se_X8_among ml_L_116 rfl ⟨(Nat.le_of_ble_eq_true rfl), (Nat.le_of_ble_eq_true rfl)⟩ (Nat.le_of_ble_eq_true rfl) (Nat.le_of_ble_eq_true rfl) rfl rfl rfl rfl hC (fun z M1 hQ => ?_)
  exact k z M1 hQ
theorem kL_law_1104 {X : Scr} {M : Mem} {P : Option AV → Mem → Prop} {x3 xs0 : Int} (k1 : (X.2 ((x3 + (4 : Int))).toNat) = 0 → Runs X mL_law 1132 [(0, vr 999), (1, vr 0), (2, vr 200), (3, vi x3)] [vi (X.2 ((x3 + (3 : Int))).toNat), vi (X.2 ((x3 + (2 : Int))).toNat), vi (X.2 ((x3 + (1 : Int))).toNat), vr 200, vl xs0] M P) (k2 : (X.2 ((x3 + (4 : Int))).toNat) ≠ 0 → Runs X mL_law 1128 [(0, vr 999), (1, vr 0), (2, vr 200), (3, vi x3)] [vi (X.2 ((x3 + (3 : Int))).toNat), vi (X.2 ((x3 + (2 : Int))).toNat), vi (X.2 ((x3 + (1 : Int))).toNat), vr 200, vl xs0] M P) (h1 : -2147483648 ≤ (x3 + (1 : Int)) ∧ (x3 + (1 : Int)) ≤ 2147483647 := by omega) (h2 : 0 ≤ (x3 + (1 : Int)) := by omega) (h3 : (x3 + (1 : Int)) < ((X.1 : Nat) : Int) := by omega) (h4 : ∀ j, inI (X.2 j) := by assumption) (h5 : -2147483648 ≤ (x3 + (2 : Int)) ∧ (x3 + (2 : Int)) ≤ 2147483647 := by omega) (h6 : 0 ≤ (x3 + (2 : Int)) := by omega) (h7 : (x3 + (2 : Int)) < ((X.1 : Nat) : Int) := by omega) (h8 : -2147483648 ≤ (x3 + (3 : Int)) ∧ (x3 + (3 : Int)) ≤ 2147483647 := by omega) (h9 : 0 ≤ (x3 + (3 : Int)) := by omega) (h10 : (x3 + (3 : Int)) < ((X.1 : Nat) : Int) := by omega) (h11 : -2147483648 ≤ (x3 + (4 : Int)) ∧ (x3 + (4 : Int)) ≤ 2147483647 := by omega) (h12 : 0 ≤ (x3 + (4 : Int)) := by omega) (h13 : (x3 + (4 : Int)) < ((X.1 : Nat) : Int) := by omega) : Runs X mL_law 1104 [(0, vr 999), (1, vr 0), (2, vr 200), (3, vi x3)] [vl xs0] M P := by
  refine Runs.aload_n (j := 2) dL_law_1104 rfl ?_
  refine Runs.aload_n (j := 0) dL_law_1105 rfl ?_
  refine Runs.iload_n (j := 3) dL_law_1106 rfl ?_
  refine Runs.iconst dL_law_1107 (by decide) ?_
  refine Runs.iadd dL_law_1108 h1 ?_
  refine Runs.sld rfl h4 dL_law_1109 h2 h3 ?_
  refine Runs.aload_n (j := 0) dL_law_1110 rfl ?_
  refine Runs.iload_n (j := 3) dL_law_1111 rfl ?_
  refine Runs.iconst dL_law_1112 (by decide) ?_
  refine Runs.iadd dL_law_1113 h5 ?_
  refine Runs.sld rfl h4 dL_law_1114 h6 h7 ?_
  refine Runs.aload_n (j := 0) dL_law_1115 rfl ?_
  refine Runs.iload_n (j := 3) dL_law_1116 rfl ?_
  refine Runs.iconst dL_law_1117 (by decide) ?_
  refine Runs.iadd dL_law_1118 h8 ?_
  refine Runs.sld rfl h4 dL_law_1119 h9 h10 ?_
  refine Runs.aload_n (j := 0) dL_law_1120 rfl ?_
  refine Runs.iload_n (j := 3) dL_law_1121 rfl ?_
  refine Runs.iconst dL_law_1122 (by decide) ?_
  refine Runs.iadd dL_law_1123 h11 ?_
  refine Runs.sld rfl h4 dL_law_1124 h12 h13 ?_
  refine Runs.if_eq (tgt := 1132) dL_law_1125 (by decide) (fun h => ?_) (fun h => ?_)
  · exact k1 h
  · exact k2 h
theorem kL_law_1128 {X : Scr} {M : Mem} {P : Option AV → Mem → Prop} {x3 xs0 xs2 xs3 xs4 : Int} (k : Runs X mL_law 1133 [(0, vr 999), (1, vr 0), (2, vr 200), (3, vi x3)] [vi (1 : Int), vi xs4, vi xs3, vi xs2, vr 200, vl xs0] M P) : Runs X mL_law 1128 [(0, vr 999), (1, vr 0), (2, vr 200), (3, vi x3)] [vi xs4, vi xs3, vi xs2, vr 200, vl xs0] M P := by
  refine Runs.iconst dL_law_1128 (by decide) ?_
  refine Runs.goto (tgt := 1133) dL_law_1129 (by decide) ?_
  exact k
theorem kL_law_1132 {X : Scr} {M : Mem} {P : Option AV → Mem → Prop} {x3 xs0 xs2 xs3 xs4 : Int} (k : Runs X mL_law 1133 [(0, vr 999), (1, vr 0), (2, vr 200), (3, vi x3)] [vi (0 : Int), vi xs4, vi xs3, vi xs2, vr 200, vl xs0] M P) : Runs X mL_law 1132 [(0, vr 999), (1, vr 0), (2, vr 200), (3, vi x3)] [vi xs4, vi xs3, vi xs2, vr 200, vl xs0] M P := by
  refine Runs.iconst dL_law_1132 (by decide) ?_
  exact k
theorem kL_law_1133 {X : Scr} {M : Mem} {P Q : Option AV → Mem → Prop} {x3 xs0 xs2 xs3 xs4 xs5 : Int} (hC : Call X mX9_among [vr 200, vi xs2, vi xs3, vi xs4, vi xs5] M Q) (k : ∀ (z : Int) (M1 : Mem), Q (some (vl z)) M1 → Runs X mL_law 1136 [(0, vr 999), (1, vr 0), (2, vr 200), (3, vi x3)] [vl z, vl xs0] M1 P) : Runs X mL_law 1133 [(0, vr 999), (1, vr 0), (2, vr 200), (3, vi x3)] [vi xs5, vi xs4, vi xs3, vi xs2, vr 200, vl xs0] M P := by
  refine Runs.callVl (y := mX9_among) (n := 4) (as := [vi xs2, vi xs3, vi xs4, vi xs5]) (st := [vl xs0]) (q := (RX9, TX9, 48)) dL_law_1133 oc_X9_among im_X9_among se_X9_among ml_L_120 rfl ⟨(Nat.le_of_ble_eq_true rfl), (Nat.le_of_ble_eq_true rfl)⟩ (Nat.le_of_ble_eq_true rfl) (Nat.le_of_ble_eq_true rfl) rfl rfl rfl rfl hC (fun z M1 hQ => ?_)
  exact k z M1 hQ
theorem kL_law_1136 {X : Scr} {M : Mem} {P : Option AV → Mem → Prop} {x3 xs0 xs1 : Int} (k1 : xs0 = xs1 → Runs X mL_law 1363 [(0, vr 999), (1, vr 0), (2, vr 200), (3, vi x3)] [] M P) (k2 : xs0 ≠ xs1 → Runs X mL_law 1140 [] [] M P) : Runs X mL_law 1136 [(0, vr 999), (1, vr 0), (2, vr 200), (3, vi x3)] [vl xs1, vl xs0] M P := by
  refine Runs.lcmp_eq (tgt := 1363) dL_law_1136 dL_law_1137 (by decide) (fun h => ?_) (fun h => ?_)
  · exact k1 h
  · refine Runs.picks (loc' := []) [] rfl ?_
    exact k2 h
theorem kL_law_1140 {X : Scr} {M : Mem} {P : Option AV → Mem → Prop} (k : P (some (vi (0 : Int))) M) (h1 : 0 ≤ (0 : Int) ∧ (0 : Int) ≤ 1 := by omega) : Runs X mL_law 1140 [] [] M P := by
  refine Runs.iconst dL_law_1140 (by decide) ?_
  exact Runs.retz dL_law_1141 rfl h1 k
theorem kL_law_1142 {X : Scr} {M : Mem} {P Q : Option AV → Mem → Prop} {x3 : Int} (hC : Call X mX8_rate [vr 0, vi (X.2 ((x3 + (1 : Int))).toNat), vi (X.2 ((x3 + (2 : Int))).toNat), vi (X.2 ((x3 + (3 : Int))).toNat), vi (X.2 ((x3 + (4 : Int))).toNat)] M Q) (k : ∀ (z : Int) (M1 : Mem), Q (some (vi z)) M1 → Runs X mL_law 1166 [(0, vr 999), (1, vr 0), (2, vr 200), (3, vi x3)] [vi z] M1 P) (h1 : -2147483648 ≤ (x3 + (1 : Int)) ∧ (x3 + (1 : Int)) ≤ 2147483647 := by omega) (h2 : 0 ≤ (x3 + (1 : Int)) := by omega) (h3 : (x3 + (1 : Int)) < ((X.1 : Nat) : Int) := by omega) (h4 : ∀ j, inI (X.2 j) := by assumption) (h5 : -2147483648 ≤ (x3 + (2 : Int)) ∧ (x3 + (2 : Int)) ≤ 2147483647 := by omega) (h6 : 0 ≤ (x3 + (2 : Int)) := by omega) (h7 : (x3 + (2 : Int)) < ((X.1 : Nat) : Int) := by omega) (h8 : -2147483648 ≤ (x3 + (3 : Int)) ∧ (x3 + (3 : Int)) ≤ 2147483647 := by omega) (h9 : 0 ≤ (x3 + (3 : Int)) := by omega) (h10 : (x3 + (3 : Int)) < ((X.1 : Nat) : Int) := by omega) (h11 : -2147483648 ≤ (x3 + (4 : Int)) ∧ (x3 + (4 : Int)) ≤ 2147483647 := by omega) (h12 : 0 ≤ (x3 + (4 : Int)) := by omega) (h13 : (x3 + (4 : Int)) < ((X.1 : Nat) : Int) := by omega) : Runs X mL_law 1142 [(0, vr 999), (1, vr 0), (2, vr 200), (3, vi x3)] [] M P := by
  refine Runs.aload_n (j := 1) dL_law_1142 rfl ?_
  refine Runs.aload_n (j := 0) dL_law_1143 rfl ?_
  refine Runs.iload_n (j := 3) dL_law_1144 rfl ?_
  refine Runs.iconst dL_law_1145 (by decide) ?_
  refine Runs.iadd dL_law_1146 h1 ?_
  refine Runs.sld rfl h4 dL_law_1147 h2 h3 ?_
  refine Runs.aload_n (j := 0) dL_law_1148 rfl ?_
  refine Runs.iload_n (j := 3) dL_law_1149 rfl ?_
  refine Runs.iconst dL_law_1150 (by decide) ?_
  refine Runs.iadd dL_law_1151 h5 ?_
  refine Runs.sld rfl h4 dL_law_1152 h6 h7 ?_
  refine Runs.aload_n (j := 0) dL_law_1153 rfl ?_
  refine Runs.iload_n (j := 3) dL_law_1154 rfl ?_
  refine Runs.iconst dL_law_1155 (by decide) ?_
  refine Runs.iadd dL_law_1156 h8 ?_
  refine Runs.sld rfl h4 dL_law_1157 h9 h10 ?_
  refine Runs.aload_n (j := 0) dL_law_1158 rfl ?_
  refine Runs.iload_n (j := 3) dL_law_1159 rfl ?_
  refine Runs.iconst dL_law_1160 (by decide) ?_
  refine Runs.iadd dL_law_1161 h11 ?_
  refine Runs.sld rfl h4 dL_law_1162 h12 h13 ?_
  refine Runs.callVi (y := mX8_rate) (n := 4) (as := [vi (X.2 ((x3 + (1 : Int))).toNat), vi (X.2 ((x3 + (2 : Int))).toNat), vi (X.2 ((x3 + (3 : Int))).toNat), vi (X.2 ((x3 + (4 : Int))).toNat)]) (st := []) (q := (RX8, TX8, 12)) dL_law_1163 oc_X8_rate im_X8_rate se_X8_rate ml_L_121 rfl ⟨(Nat.le_of_ble_eq_true rfl), (Nat.le_of_ble_eq_true rfl)⟩ (Nat.le_of_ble_eq_true rfl) (Nat.le_of_ble_eq_true rfl) rfl rfl rfl (Or.inl rfl) hC (fun z M1 hQ => ?_)
  exact k z M1 hQ
theorem kL_law_1166 {X : Scr} {M : Mem} {P Q : Option AV → Mem → Prop} {x3 xs0 : Int} (hC : Call X mX9_rate [vr 200, vi (X.2 ((x3 + (1 : Int))).toNat), vi (X.2 ((x3 + (2 : Int))).toNat), vi (X.2 ((x3 + (3 : Int))).toNat), vi (X.2 ((x3 + (4 : Int))).toNat)] M Q) (k : ∀ (z : Int) (M1 : Mem), Q (some (vi z)) M1 → Runs X mL_law 1190 [(0, vr 999), (1, vr 0), (2, vr 200), (3, vi x3)] [vi z, vi xs0] M1 P) (h1 : -2147483648 ≤ (x3 + (1 : Int)) ∧ (x3 + (1 : Int)) ≤ 2147483647 := by omega) (h2 : 0 ≤ (x3 + (1 : Int)) := by omega) (h3 : (x3 + (1 : Int)) < ((X.1 : Nat) : Int) := by omega) (h4 : ∀ j, inI (X.2 j) := by assumption) (h5 : -2147483648 ≤ (x3 + (2 : Int)) ∧ (x3 + (2 : Int)) ≤ 2147483647 := by omega) (h6 : 0 ≤ (x3 + (2 : Int)) := by omega) (h7 : (x3 + (2 : Int)) < ((X.1 : Nat) : Int) := by omega) (h8 : -2147483648 ≤ (x3 + (3 : Int)) ∧ (x3 + (3 : Int)) ≤ 2147483647 := by omega) (h9 : 0 ≤ (x3 + (3 : Int)) := by omega) (h10 : (x3 + (3 : Int)) < ((X.1 : Nat) : Int) := by omega) (h11 : -2147483648 ≤ (x3 + (4 : Int)) ∧ (x3 + (4 : Int)) ≤ 2147483647 := by omega) (h12 : 0 ≤ (x3 + (4 : Int)) := by omega) (h13 : (x3 + (4 : Int)) < ((X.1 : Nat) : Int) := by omega) : Runs X mL_law 1166 [(0, vr 999), (1, vr 0), (2, vr 200), (3, vi x3)] [vi xs0] M P := by
  refine Runs.aload_n (j := 2) dL_law_1166 rfl ?_
  refine Runs.aload_n (j := 0) dL_law_1167 rfl ?_
  refine Runs.iload_n (j := 3) dL_law_1168 rfl ?_
  refine Runs.iconst dL_law_1169 (by decide) ?_
  refine Runs.iadd dL_law_1170 h1 ?_
  refine Runs.sld rfl h4 dL_law_1171 h2 h3 ?_
  refine Runs.aload_n (j := 0) dL_law_1172 rfl ?_
  refine Runs.iload_n (j := 3) dL_law_1173 rfl ?_
  refine Runs.iconst dL_law_1174 (by decide) ?_
  refine Runs.iadd dL_law_1175 h5 ?_
  refine Runs.sld rfl h4 dL_law_1176 h6 h7 ?_
  refine Runs.aload_n (j := 0) dL_law_1177 rfl ?_
  refine Runs.iload_n (j := 3) dL_law_1178 rfl ?_
  refine Runs.iconst dL_law_1179 (by decide) ?_
  refine Runs.iadd dL_law_1180 h8 ?_
  refine Runs.sld rfl h4 dL_law_1181 h9 h10 ?_
  refine Runs.aload_n (j := 0) dL_law_1182 rfl ?_
  refine Runs.iload_n (j := 3) dL_law_1183 rfl ?_
  refine Runs.iconst dL_law_1184 (by decide) ?_
  refine Runs.iadd dL_law_1185 h11 ?_
  refine Runs.sld rfl h4 dL_law_1186 h12 h13 ?_
  refine Runs.callVi (y := mX9_rate) (n := 4) (as := [vi (X.2 ((x3 + (1 : Int))).toNat), vi (X.2 ((x3 + (2 : Int))).toNat), vi (X.2 ((x3 + (3 : Int))).toNat), vi (X.2 ((x3 + (4 : Int))).toNat)]) (st := [vi xs0]) (q := (RX9, TX9, 48)) dL_law_1187 oc_X9_rate im_X9_rate se_X9_rate ml_L_125 rfl ⟨(Nat.le_of_ble_eq_true rfl), (Nat.le_of_ble_eq_true rfl)⟩ (Nat.le_of_ble_eq_true rfl) (Nat.le_of_ble_eq_true rfl) rfl rfl rfl (Or.inl rfl) hC (fun z M1 hQ => ?_)
  exact k z M1 hQ
theorem kL_law_1190 {X : Scr} {M : Mem} {P : Option AV → Mem → Prop} {x3 xs0 xs1 : Int} (k1 : xs0 = xs1 → Runs X mL_law 1363 [(0, vr 999), (1, vr 0), (2, vr 200), (3, vi x3)] [] M P) (k2 : xs0 ≠ xs1 → Runs X mL_law 1193 [] [] M P) : Runs X mL_law 1190 [(0, vr 999), (1, vr 0), (2, vr 200), (3, vi x3)] [vi xs1, vi xs0] M P := by
  refine Runs.icmp_eq (tgt := 1363) dL_law_1190 (by decide) (fun h => ?_) (fun h => ?_)
  · exact k1 h
  · refine Runs.picks (loc' := []) [] rfl ?_
    exact k2 h
theorem kL_law_1193 {X : Scr} {M : Mem} {P : Option AV → Mem → Prop} (k : P (some (vi (0 : Int))) M) (h1 : 0 ≤ (0 : Int) ∧ (0 : Int) ≤ 1 := by omega) : Runs X mL_law 1193 [] [] M P := by
  refine Runs.iconst dL_law_1193 (by decide) ?_
  exact Runs.retz dL_law_1194 rfl h1 k
theorem kL_law_1195 {X : Scr} {M : Mem} {P : Option AV → Mem → Prop} {x3 : Int} (k1 : (X.2 ((x3 + (1 : Int))).toNat) = 0 → Runs X mL_law 1208 [(0, vr 999), (1, vr 0), (2, vr 200), (3, vi x3)] [vr 0] M P) (k2 : (X.2 ((x3 + (1 : Int))).toNat) ≠ 0 → Runs X mL_law 1204 [(0, vr 999), (1, vr 0), (2, vr 200), (3, vi x3)] [vr 0] M P) (h1 : -2147483648 ≤ (x3 + (1 : Int)) ∧ (x3 + (1 : Int)) ≤ 2147483647 := by omega) (h2 : 0 ≤ (x3 + (1 : Int)) := by omega) (h3 : (x3 + (1 : Int)) < ((X.1 : Nat) : Int) := by omega) (h4 : ∀ j, inI (X.2 j) := by assumption) : Runs X mL_law 1195 [(0, vr 999), (1, vr 0), (2, vr 200), (3, vi x3)] [] M P := by
  refine Runs.aload_n (j := 1) dL_law_1195 rfl ?_
  refine Runs.aload_n (j := 0) dL_law_1196 rfl ?_
  refine Runs.iload_n (j := 3) dL_law_1197 rfl ?_
  refine Runs.iconst dL_law_1198 (by decide) ?_
  refine Runs.iadd dL_law_1199 h1 ?_
  refine Runs.sld rfl h4 dL_law_1200 h2 h3 ?_
  refine Runs.if_eq (tgt := 1208) dL_law_1201 (by decide) (fun h => ?_) (fun h => ?_)
  · exact k1 h
  · exact k2 h
theorem kL_law_1204 {X : Scr} {M : Mem} {P : Option AV → Mem → Prop} {x3 : Int} (k : Runs X mL_law 1209 [(0, vr 999), (1, vr 0), (2, vr 200), (3, vi x3)] [vi (1 : Int), vr 0] M P) : Runs X mL_law 1204 [(0, vr 999), (1, vr 0), (2, vr 200), (3, vi x3)] [vr 0] M P := by
  refine Runs.iconst dL_law_1204 (by decide) ?_
  refine Runs.goto (tgt := 1209) dL_law_1205 (by decide) ?_
  exact k
theorem kL_law_1208 {X : Scr} {M : Mem} {P : Option AV → Mem → Prop} {x3 : Int} (k : Runs X mL_law 1209 [(0, vr 999), (1, vr 0), (2, vr 200), (3, vi x3)] [vi (0 : Int), vr 0] M P) : Runs X mL_law 1208 [(0, vr 999), (1, vr 0), (2, vr 200), (3, vi x3)] [vr 0] M P := by
  refine Runs.iconst dL_law_1208 (by decide) ?_
  exact k
theorem kL_law_1209 {X : Scr} {M : Mem} {P Q : Option AV → Mem → Prop} {x3 xs1 : Int} (hC : Call X mX8_ring [vr 0, vi xs1] M Q) (k : ∀ (z : Int) (M1 : Mem), Q (some (vl z)) M1 → Runs X mL_law 1212 [(0, vr 999), (1, vr 0), (2, vr 200), (3, vi x3)] [vl z] M1 P) : Runs X mL_law 1209 [(0, vr 999), (1, vr 0), (2, vr 200), (3, vi x3)] [vi xs1, vr 0] M P := by
  refine Runs.callVl (y := mX8_ring) (n := 1) (as := [vi xs1]) (st := []) (q := (RX8, TX8, 12)) dL_law_1209 oc_X8_ring im_X8_ring se_X8_ring ml_L_126 rfl ⟨(Nat.le_of_ble_eq_true rfl), (Nat.le_of_ble_eq_true rfl)⟩ (Nat.le_of_ble_eq_true rfl) (Nat.le_of_ble_eq_true rfl) rfl rfl rfl rfl hC (fun z M1 hQ => ?_)
  exact k z M1 hQ
theorem kL_law_1212 {X : Scr} {M : Mem} {P : Option AV → Mem → Prop} {x3 xs0 : Int} (k1 : (X.2 ((x3 + (1 : Int))).toNat) = 0 → Runs X mL_law 1225 [(0, vr 999), (1, vr 0), (2, vr 200), (3, vi x3)] [vr 200, vl xs0] M P) (k2 : (X.2 ((x3 + (1 : Int))).toNat) ≠ 0 → Runs X mL_law 1221 [(0, vr 999), (1, vr 0), (2, vr 200), (3, vi x3)] [vr 200, vl xs0] M P) (h1 : -2147483648 ≤ (x3 + (1 : Int)) ∧ (x3 + (1 : Int)) ≤ 2147483647 := by omega) (h2 : 0 ≤ (x3 + (1 : Int)) := by omega) (h3 : (x3 + (1 : Int)) < ((X.1 : Nat) : Int) := by omega) (h4 : ∀ j, inI (X.2 j) := by assumption) : Runs X mL_law 1212 [(0, vr 999), (1, vr 0), (2, vr 200), (3, vi x3)] [vl xs0] M P := by
  refine Runs.aload_n (j := 2) dL_law_1212 rfl ?_
  refine Runs.aload_n (j := 0) dL_law_1213 rfl ?_
  refine Runs.iload_n (j := 3) dL_law_1214 rfl ?_
  refine Runs.iconst dL_law_1215 (by decide) ?_
  refine Runs.iadd dL_law_1216 h1 ?_
  refine Runs.sld rfl h4 dL_law_1217 h2 h3 ?_
  refine Runs.if_eq (tgt := 1225) dL_law_1218 (by decide) (fun h => ?_) (fun h => ?_)
  · exact k1 h
  · exact k2 h
theorem kL_law_1221 {X : Scr} {M : Mem} {P : Option AV → Mem → Prop} {x3 xs0 : Int} (k : Runs X mL_law 1226 [(0, vr 999), (1, vr 0), (2, vr 200), (3, vi x3)] [vi (1 : Int), vr 200, vl xs0] M P) : Runs X mL_law 1221 [(0, vr 999), (1, vr 0), (2, vr 200), (3, vi x3)] [vr 200, vl xs0] M P := by
  refine Runs.iconst dL_law_1221 (by decide) ?_
  refine Runs.goto (tgt := 1226) dL_law_1222 (by decide) ?_
  exact k
theorem kL_law_1225 {X : Scr} {M : Mem} {P : Option AV → Mem → Prop} {x3 xs0 : Int} (k : Runs X mL_law 1226 [(0, vr 999), (1, vr 0), (2, vr 200), (3, vi x3)] [vi (0 : Int), vr 200, vl xs0] M P) : Runs X mL_law 1225 [(0, vr 999), (1, vr 0), (2, vr 200), (3, vi x3)] [vr 200, vl xs0] M P := by
  refine Runs.iconst dL_law_1225 (by decide) ?_
  exact k
theorem kL_law_1226 {X : Scr} {M : Mem} {P Q : Option AV → Mem → Prop} {x3 xs0 xs2 : Int} (hC : Call X mX9_ring [vr 200, vi xs2] M Q) (k : ∀ (z : Int) (M1 : Mem), Q (some (vl z)) M1 → Runs X mL_law 1229 [(0, vr 999), (1, vr 0), (2, vr 200), (3, vi x3)] [vl z, vl xs0] M1 P) : Runs X mL_law 1226 [(0, vr 999), (1, vr 0), (2, vr 200), (3, vi x3)] [vi xs2, vr 200, vl xs0] M P := by
  refine Runs.callVl (y := mX9_ring) (n := 1) (as := [vi xs2]) (st := [vl xs0]) (q := (RX9, TX9, 48)) dL_law_1226 oc_X9_ring im_X9_ring se_X9_ring ml_L_130 rfl ⟨(Nat.le_of_ble_eq_true rfl), (Nat.le_of_ble_eq_true rfl)⟩ (Nat.le_of_ble_eq_true rfl) (Nat.le_of_ble_eq_true rfl) rfl rfl rfl rfl hC (fun z M1 hQ => ?_)
  exact k z M1 hQ
theorem kL_law_1229 {X : Scr} {M : Mem} {P : Option AV → Mem → Prop} {x3 xs0 xs1 : Int} (k1 : xs0 = xs1 → Runs X mL_law 1363 [(0, vr 999), (1, vr 0), (2, vr 200), (3, vi x3)] [] M P) (k2 : xs0 ≠ xs1 → Runs X mL_law 1233 [] [] M P) : Runs X mL_law 1229 [(0, vr 999), (1, vr 0), (2, vr 200), (3, vi x3)] [vl xs1, vl xs0] M P := by
  refine Runs.lcmp_eq (tgt := 1363) dL_law_1229 dL_law_1230 (by decide) (fun h => ?_) (fun h => ?_)
  · exact k1 h
  · refine Runs.picks (loc' := []) [] rfl ?_
    exact k2 h
theorem kL_law_1233 {X : Scr} {M : Mem} {P : Option AV → Mem → Prop} (k : P (some (vi (0 : Int))) M) (h1 : 0 ≤ (0 : Int) ∧ (0 : Int) ≤ 1 := by omega) : Runs X mL_law 1233 [] [] M P := by
  refine Runs.iconst dL_law_1233 (by decide) ?_
  exact Runs.retz dL_law_1234 rfl h1 k
theorem kL_law_1235 {X : Scr} {M : Mem} {P Q : Option AV → Mem → Prop} {x3 : Int} (hC : Call X mX8_ringAt [vr 0, vi (X.2 ((x3 + (1 : Int))).toNat)] M Q) (k : ∀ (z : Int) (M1 : Mem), Q (some (vi z)) M1 → Runs X mL_law 1244 [(0, vr 999), (1, vr 0), (2, vr 200), (3, vi x3)] [vi z] M1 P) (h1 : -2147483648 ≤ (x3 + (1 : Int)) ∧ (x3 + (1 : Int)) ≤ 2147483647 := by omega) (h2 : 0 ≤ (x3 + (1 : Int)) := by omega) (h3 : (x3 + (1 : Int)) < ((X.1 : Nat) : Int) := by omega) (h4 : ∀ j, inI (X.2 j) := by assumption) : Runs X mL_law 1235 [(0, vr 999), (1, vr 0), (2, vr 200), (3, vi x3)] [] M P := by
  refine Runs.aload_n (j := 1) dL_law_1235 rfl ?_
  refine Runs.aload_n (j := 0) dL_law_1236 rfl ?_
  refine Runs.iload_n (j := 3) dL_law_1237 rfl ?_
  refine Runs.iconst dL_law_1238 (by decide) ?_
  refine Runs.iadd dL_law_1239 h1 ?_
  refine Runs.sld rfl h4 dL_law_1240 h2 h3 ?_
  refine Runs.callVi (y := mX8_ringAt) (n := 1) (as := [vi (X.2 ((x3 + (1 : Int))).toNat)]) (st := []) (q := (RX8, TX8, 12)) dL_law_1241 oc_X8_ringAt im_X8_ringAt se_X8_ringAt ml_L_131 rfl ⟨(Nat.le_of_ble_eq_true rfl), (Nat.le_of_ble_eq_true rfl)⟩ (Nat.le_of_ble_eq_true rfl) (Nat.le_of_ble_eq_true rfl) rfl rfl rfl (Or.inl rfl) hC (fun z M1 hQ => ?_)
  exact k z M1 hQ
theorem kL_law_1244 {X : Scr} {M : Mem} {P Q : Option AV → Mem → Prop} {x3 xs0 : Int} (hC : Call X mX9_ringAt [vr 200, vi (X.2 ((x3 + (1 : Int))).toNat)] M Q) (k : ∀ (z : Int) (M1 : Mem), Q (some (vi z)) M1 → Runs X mL_law 1253 [(0, vr 999), (1, vr 0), (2, vr 200), (3, vi x3)] [vi z, vi xs0] M1 P) (h1 : -2147483648 ≤ (x3 + (1 : Int)) ∧ (x3 + (1 : Int)) ≤ 2147483647 := by omega) (h2 : 0 ≤ (x3 + (1 : Int)) := by omega) (h3 : (x3 + (1 : Int)) < ((X.1 : Nat) : Int) := by omega) (h4 : ∀ j, inI (X.2 j) := by assumption) : Runs X mL_law 1244 [(0, vr 999), (1, vr 0), (2, vr 200), (3, vi x3)] [vi xs0] M P := by
  refine Runs.aload_n (j := 2) dL_law_1244 rfl ?_
  refine Runs.aload_n (j := 0) dL_law_1245 rfl ?_
  refine Runs.iload_n (j := 3) dL_law_1246 rfl ?_
  refine Runs.iconst dL_law_1247 (by decide) ?_
  refine Runs.iadd dL_law_1248 h1 ?_
  refine Runs.sld rfl h4 dL_law_1249 h2 h3 ?_
  refine Runs.callVi (y := mX9_ringAt) (n := 1) (as := [vi (X.2 ((x3 + (1 : Int))).toNat)]) (st := [vi xs0]) (q := (RX9, TX9, 48)) dL_law_1250 oc_X9_ringAt im_X9_ringAt se_X9_ringAt ml_L_134 rfl ⟨(Nat.le_of_ble_eq_true rfl), (Nat.le_of_ble_eq_true rfl)⟩ (Nat.le_of_ble_eq_true rfl) (Nat.le_of_ble_eq_true rfl) rfl rfl rfl (Or.inl rfl) hC (fun z M1 hQ => ?_)
  exact k z M1 hQ
theorem kL_law_1253 {X : Scr} {M : Mem} {P : Option AV → Mem → Prop} {x3 xs0 xs1 : Int} (k1 : xs0 = xs1 → Runs X mL_law 1363 [(0, vr 999), (1, vr 0), (2, vr 200), (3, vi x3)] [] M P) (k2 : xs0 ≠ xs1 → Runs X mL_law 1256 [] [] M P) : Runs X mL_law 1253 [(0, vr 999), (1, vr 0), (2, vr 200), (3, vi x3)] [vi xs1, vi xs0] M P := by
  refine Runs.icmp_eq (tgt := 1363) dL_law_1253 (by decide) (fun h => ?_) (fun h => ?_)
  · exact k1 h
  · refine Runs.picks (loc' := []) [] rfl ?_
    exact k2 h
theorem kL_law_1256 {X : Scr} {M : Mem} {P : Option AV → Mem → Prop} (k : P (some (vi (0 : Int))) M) (h1 : 0 ≤ (0 : Int) ∧ (0 : Int) ≤ 1 := by omega) : Runs X mL_law 1256 [] [] M P := by
  refine Runs.iconst dL_law_1256 (by decide) ?_
  exact Runs.retz dL_law_1257 rfl h1 k
theorem kL_law_1258 {X : Scr} {M : Mem} {P Q : Option AV → Mem → Prop} {x3 : Int} (hC : Call X mX8_should [vr 0, vi (X.2 ((x3 + (1 : Int))).toNat), vi (X.2 ((x3 + (2 : Int))).toNat)] M Q) (k : ∀ (z : Int) (M1 : Mem), Q (some (vi z)) M1 → Runs X mL_law 1272 [(0, vr 999), (1, vr 0), (2, vr 200), (3, vi x3)] [vi z] M1 P) (h1 : -2147483648 ≤ (x3 + (1 : Int)) ∧ (x3 + (1 : Int)) ≤ 2147483647 := by omega) (h2 : 0 ≤ (x3 + (1 : Int)) := by omega) (h3 : (x3 + (1 : Int)) < ((X.1 : Nat) : Int) := by omega) (h4 : ∀ j, inI (X.2 j) := by assumption) (h5 : -2147483648 ≤ (x3 + (2 : Int)) ∧ (x3 + (2 : Int)) ≤ 2147483647 := by omega) (h6 : 0 ≤ (x3 + (2 : Int)) := by omega) (h7 : (x3 + (2 : Int)) < ((X.1 : Nat) : Int) := by omega) : Runs X mL_law 1258 [(0, vr 999), (1, vr 0), (2, vr 200), (3, vi x3)] [] M P := by
  refine Runs.aload_n (j := 1) dL_law_1258 rfl ?_
  refine Runs.aload_n (j := 0) dL_law_1259 rfl ?_
  refine Runs.iload_n (j := 3) dL_law_1260 rfl ?_
  refine Runs.iconst dL_law_1261 (by decide) ?_
  refine Runs.iadd dL_law_1262 h1 ?_
  refine Runs.sld rfl h4 dL_law_1263 h2 h3 ?_
  refine Runs.aload_n (j := 0) dL_law_1264 rfl ?_
  refine Runs.iload_n (j := 3) dL_law_1265 rfl ?_
  refine Runs.iconst dL_law_1266 (by decide) ?_
  refine Runs.iadd dL_law_1267 h5 ?_
  refine Runs.sld rfl h4 dL_law_1268 h6 h7 ?_
  refine Runs.callVi (y := mX8_should) (n := 2) (as := [vi (X.2 ((x3 + (1 : Int))).toNat), vi (X.2 ((x3 + (2 : Int))).toNat)]) (st := []) (q := (RX8, TX8, 12)) dL_law_1269 oc_X8_should im_X8_should se_X8_should ml_L_135 rfl ⟨(Nat.le_of_ble_eq_true rfl), (Nat.le_of_ble_eq_true rfl)⟩ (Nat.le_of_ble_eq_true rfl) (Nat.le_of_ble_eq_true rfl) rfl rfl rfl (Or.inl rfl) hC (fun z M1 hQ => ?_)
  exact k z M1 hQ
theorem kL_law_1272 {X : Scr} {M : Mem} {P Q : Option AV → Mem → Prop} {x3 xs0 : Int} (hC : Call X mX9_should [vr 200, vi (X.2 ((x3 + (1 : Int))).toNat), vi (X.2 ((x3 + (2 : Int))).toNat)] M Q) (k : ∀ (z : Int) (M1 : Mem), Q (some (vi z)) M1 → Runs X mL_law 1286 [(0, vr 999), (1, vr 0), (2, vr 200), (3, vi x3)] [vi z, vi xs0] M1 P) (h1 : -2147483648 ≤ (x3 + (1 : Int)) ∧ (x3 + (1 : Int)) ≤ 2147483647 := by omega) (h2 : 0 ≤ (x3 + (1 : Int)) := by omega) (h3 : (x3 + (1 : Int)) < ((X.1 : Nat) : Int) := by omega) (h4 : ∀ j, inI (X.2 j) := by assumption) (h5 : -2147483648 ≤ (x3 + (2 : Int)) ∧ (x3 + (2 : Int)) ≤ 2147483647 := by omega) (h6 : 0 ≤ (x3 + (2 : Int)) := by omega) (h7 : (x3 + (2 : Int)) < ((X.1 : Nat) : Int) := by omega) : Runs X mL_law 1272 [(0, vr 999), (1, vr 0), (2, vr 200), (3, vi x3)] [vi xs0] M P := by
  refine Runs.aload_n (j := 2) dL_law_1272 rfl ?_
  refine Runs.aload_n (j := 0) dL_law_1273 rfl ?_
  refine Runs.iload_n (j := 3) dL_law_1274 rfl ?_
  refine Runs.iconst dL_law_1275 (by decide) ?_
  refine Runs.iadd dL_law_1276 h1 ?_
  refine Runs.sld rfl h4 dL_law_1277 h2 h3 ?_
  refine Runs.aload_n (j := 0) dL_law_1278 rfl ?_
  refine Runs.iload_n (j := 3) dL_law_1279 rfl ?_
  refine Runs.iconst dL_law_1280 (by decide) ?_
  refine Runs.iadd dL_law_1281 h5 ?_
  refine Runs.sld rfl h4 dL_law_1282 h6 h7 ?_
  refine Runs.callVi (y := mX9_should) (n := 2) (as := [vi (X.2 ((x3 + (1 : Int))).toNat), vi (X.2 ((x3 + (2 : Int))).toNat)]) (st := [vi xs0]) (q := (RX9, TX9, 48)) dL_law_1283 oc_X9_should im_X9_should se_X9_should ml_L_138 rfl ⟨(Nat.le_of_ble_eq_true rfl), (Nat.le_of_ble_eq_true rfl)⟩ (Nat.le_of_ble_eq_true rfl) (Nat.le_of_ble_eq_true rfl) rfl rfl rfl (Or.inl rfl) hC (fun z M1 hQ => ?_)
  exact k z M1 hQ
theorem kL_law_1286 {X : Scr} {M : Mem} {P : Option AV → Mem → Prop} {x3 xs0 xs1 : Int} (k1 : xs0 = xs1 → Runs X mL_law 1363 [(0, vr 999), (1, vr 0), (2, vr 200), (3, vi x3)] [] M P) (k2 : xs0 ≠ xs1 → Runs X mL_law 1289 [] [] M P) : Runs X mL_law 1286 [(0, vr 999), (1, vr 0), (2, vr 200), (3, vi x3)] [vi xs1, vi xs0] M P := by
  refine Runs.icmp_eq (tgt := 1363) dL_law_1286 (by decide) (fun h => ?_) (fun h => ?_)
  · exact k1 h
  · refine Runs.picks (loc' := []) [] rfl ?_
    exact k2 h
theorem kL_law_1289 {X : Scr} {M : Mem} {P : Option AV → Mem → Prop} (k : P (some (vi (0 : Int))) M) (h1 : 0 ≤ (0 : Int) ∧ (0 : Int) ≤ 1 := by omega) : Runs X mL_law 1289 [] [] M P := by
  refine Runs.iconst dL_law_1289 (by decide) ?_
  exact Runs.retz dL_law_1290 rfl h1 k
theorem kL_law_1291 {X : Scr} {M : Mem} {P Q : Option AV → Mem → Prop} {x3 : Int} (hC : Call X mX8_stolen [vr 0] M Q) (k : ∀ (z : Int) (M1 : Mem), Q (some (vi z)) M1 → Runs X mL_law 1295 [(0, vr 999), (1, vr 0), (2, vr 200), (3, vi x3)] [vi z] M1 P) : Runs X mL_law 1291 [(0, vr 999), (1, vr 0), (2, vr 200), (3, vi x3)] [] M P := by
  refine Runs.aload_n (j := 1) dL_law_1291 rfl ?_
  refine Runs.callVi (y := mX8_stolen) (n := 0) (as := []) (st := []) (q := (RX8, TX8, 12)) dL_law_1292 oc_X8_stolen im_X8_stolen se_X8_stolen ml_L_139 rfl ⟨(Nat.le_of_ble_eq_true rfl), (Nat.le_of_ble_eq_true rfl)⟩ (Nat.le_of_ble_eq_true rfl) (Nat.le_of_ble_eq_true rfl) rfl rfl rfl (Or.inl rfl) hC (fun z M1 hQ => ?_)
  exact k z M1 hQ
theorem kL_law_1295 {X : Scr} {M : Mem} {P Q : Option AV → Mem → Prop} {x3 xs0 : Int} (hC : Call X mX9_stolen [vr 200] M Q) (k : ∀ (z : Int) (M1 : Mem), Q (some (vi z)) M1 → Runs X mL_law 1299 [(0, vr 999), (1, vr 0), (2, vr 200), (3, vi x3)] [vi z, vi xs0] M1 P) : Runs X mL_law 1295 [(0, vr 999), (1, vr 0), (2, vr 200), (3, vi x3)] [vi xs0] M P := by
  refine Runs.aload_n (j := 2) dL_law_1295 rfl ?_
  refine Runs.callVi (y := mX9_stolen) (n := 0) (as := []) (st := [vi xs0]) (q := (RX9, TX9, 48)) dL_law_1296 oc_X9_stolen im_X9_stolen se_X9_stolen ml_L_142 rfl ⟨(Nat.le_of_ble_eq_true rfl), (Nat.le_of_ble_eq_true rfl)⟩ (Nat.le_of_ble_eq_true rfl) (Nat.le_of_ble_eq_true rfl) rfl rfl rfl (Or.inl rfl) hC (fun z M1 hQ => ?_)
  exact k z M1 hQ
theorem kL_law_1299 {X : Scr} {M : Mem} {P : Option AV → Mem → Prop} {x3 xs0 xs1 : Int} (k1 : xs0 = xs1 → Runs X mL_law 1363 [(0, vr 999), (1, vr 0), (2, vr 200), (3, vi x3)] [] M P) (k2 : xs0 ≠ xs1 → Runs X mL_law 1302 [] [] M P) : Runs X mL_law 1299 [(0, vr 999), (1, vr 0), (2, vr 200), (3, vi x3)] [vi xs1, vi xs0] M P := by
  refine Runs.icmp_eq (tgt := 1363) dL_law_1299 (by decide) (fun h => ?_) (fun h => ?_)
  · exact k1 h
  · refine Runs.picks (loc' := []) [] rfl ?_
    exact k2 h
theorem kL_law_1302 {X : Scr} {M : Mem} {P : Option AV → Mem → Prop} (k : P (some (vi (0 : Int))) M) (h1 : 0 ≤ (0 : Int) ∧ (0 : Int) ≤ 1 := by omega) : Runs X mL_law 1302 [] [] M P := by
  refine Runs.iconst dL_law_1302 (by decide) ?_
  exact Runs.retz dL_law_1303 rfl h1 k
theorem kL_law_1304 {X : Scr} {M : Mem} {P Q : Option AV → Mem → Prop} {x3 : Int} (hC : Call X mX8_thief [vr 0] M Q) (k : ∀ (z : Int) (M1 : Mem), Q (some (vi z)) M1 → Runs X mL_law 1308 [(0, vr 999), (1, vr 0), (2, vr 200), (3, vi x3)] [vi z] M1 P) : Runs X mL_law 1304 [(0, vr 999), (1, vr 0), (2, vr 200), (3, vi x3)] [] M P := by
  refine Runs.aload_n (j := 1) dL_law_1304 rfl ?_
  refine Runs.callVi (y := mX8_thief) (n := 0) (as := []) (st := []) (q := (RX8, TX8, 12)) dL_law_1305 oc_X8_thief im_X8_thief se_X8_thief ml_L_143 rfl ⟨(Nat.le_of_ble_eq_true rfl), (Nat.le_of_ble_eq_true rfl)⟩ (Nat.le_of_ble_eq_true rfl) (Nat.le_of_ble_eq_true rfl) rfl rfl rfl (Or.inl rfl) hC (fun z M1 hQ => ?_)
  exact k z M1 hQ
theorem kL_law_1308 {X : Scr} {M : Mem} {P Q : Option AV → Mem → Prop} {x3 xs0 : Int} (hC : Call X mX9_thief [vr 200] M Q) (k : ∀ (z : Int) (M1 : Mem), Q (some (vi z)) M1 → Runs X mL_law 1312 [(0, vr 999), (1, vr 0), (2, vr 200), (3, vi x3)] [vi z, vi xs0] M1 P) : Runs X mL_law 1308 [(0, vr 999), (1, vr 0), (2, vr 200), (3, vi x3)] [vi xs0] M P := by
  refine Runs.aload_n (j := 2) dL_law_1308 rfl ?_
  refine Runs.callVi (y := mX9_thief) (n := 0) (as := []) (st := [vi xs0]) (q := (RX9, TX9, 48)) dL_law_1309 oc_X9_thief im_X9_thief se_X9_thief ml_L_146 rfl ⟨(Nat.le_of_ble_eq_true rfl), (Nat.le_of_ble_eq_true rfl)⟩ (Nat.le_of_ble_eq_true rfl) (Nat.le_of_ble_eq_true rfl) rfl rfl rfl (Or.inl rfl) hC (fun z M1 hQ => ?_)
  exact k z M1 hQ
theorem kL_law_1312 {X : Scr} {M : Mem} {P : Option AV → Mem → Prop} {x3 xs0 xs1 : Int} (k1 : xs0 = xs1 → Runs X mL_law 1363 [(0, vr 999), (1, vr 0), (2, vr 200), (3, vi x3)] [] M P) (k2 : xs0 ≠ xs1 → Runs X mL_law 1315 [] [] M P) : Runs X mL_law 1312 [(0, vr 999), (1, vr 0), (2, vr 200), (3, vi x3)] [vi xs1, vi xs0] M P := by
  refine Runs.icmp_eq (tgt := 1363) dL_law_1312 (by decide) (fun h => ?_) (fun h => ?_)
  · exact k1 h
  · refine Runs.picks (loc' := []) [] rfl ?_
    exact k2 h
theorem kL_law_1315 {X : Scr} {M : Mem} {P : Option AV → Mem → Prop} (k : P (some (vi (0 : Int))) M) (h1 : 0 ≤ (0 : Int) ∧ (0 : Int) ≤ 1 := by omega) : Runs X mL_law 1315 [] [] M P := by
  refine Runs.iconst dL_law_1315 (by decide) ?_
  exact Runs.retz dL_law_1316 rfl h1 k
theorem kL_law_1317 {X : Scr} {M : Mem} {P Q : Option AV → Mem → Prop} {x3 : Int} (hC : Call X mX8_keep [vr 0, vi (X.2 ((x3 + (1 : Int))).toNat)] M Q) (k : ∀ (z : Int) (M1 : Mem), Q (some (vi z)) M1 → Runs X mL_law 1326 [(0, vr 999), (1, vr 0), (2, vr 200), (3, vi x3)] [vi z] M1 P) (h1 : -2147483648 ≤ (x3 + (1 : Int)) ∧ (x3 + (1 : Int)) ≤ 2147483647 := by omega) (h2 : 0 ≤ (x3 + (1 : Int)) := by omega) (h3 : (x3 + (1 : Int)) < ((X.1 : Nat) : Int) := by omega) (h4 : ∀ j, inI (X.2 j) := by assumption) : Runs X mL_law 1317 [(0, vr 999), (1, vr 0), (2, vr 200), (3, vi x3)] [] M P := by
  refine Runs.aload_n (j := 1) dL_law_1317 rfl ?_
  refine Runs.aload_n (j := 0) dL_law_1318 rfl ?_
  refine Runs.iload_n (j := 3) dL_law_1319 rfl ?_
  refine Runs.iconst dL_law_1320 (by decide) ?_
  refine Runs.iadd dL_law_1321 h1 ?_
  refine Runs.sld rfl h4 dL_law_1322 h2 h3 ?_
  refine Runs.callVi (y := mX8_keep) (n := 1) (as := [vi (X.2 ((x3 + (1 : Int))).toNat)]) (st := []) (q := (RX8, TX8, 12)) dL_law_1323 oc_X8_keep im_X8_keep se_X8_keep ml_L_147 rfl ⟨(Nat.le_of_ble_eq_true rfl), (Nat.le_of_ble_eq_true rfl)⟩ (Nat.le_of_ble_eq_true rfl) (Nat.le_of_ble_eq_true rfl) rfl rfl rfl (Or.inl rfl) hC (fun z M1 hQ => ?_)
  exact k z M1 hQ
theorem kL_law_1326 {X : Scr} {M : Mem} {P Q : Option AV → Mem → Prop} {x3 xs0 : Int} (hC : Call X mX9_keep [vr 200, vi (X.2 ((x3 + (1 : Int))).toNat)] M Q) (k : ∀ (z : Int) (M1 : Mem), Q (some (vi z)) M1 → Runs X mL_law 1335 [(0, vr 999), (1, vr 0), (2, vr 200), (3, vi x3)] [vi z, vi xs0] M1 P) (h1 : -2147483648 ≤ (x3 + (1 : Int)) ∧ (x3 + (1 : Int)) ≤ 2147483647 := by omega) (h2 : 0 ≤ (x3 + (1 : Int)) := by omega) (h3 : (x3 + (1 : Int)) < ((X.1 : Nat) : Int) := by omega) (h4 : ∀ j, inI (X.2 j) := by assumption) : Runs X mL_law 1326 [(0, vr 999), (1, vr 0), (2, vr 200), (3, vi x3)] [vi xs0] M P := by
  refine Runs.aload_n (j := 2) dL_law_1326 rfl ?_
  refine Runs.aload_n (j := 0) dL_law_1327 rfl ?_
  refine Runs.iload_n (j := 3) dL_law_1328 rfl ?_
  refine Runs.iconst dL_law_1329 (by decide) ?_
  refine Runs.iadd dL_law_1330 h1 ?_
  refine Runs.sld rfl h4 dL_law_1331 h2 h3 ?_
  refine Runs.callVi (y := mX9_keep) (n := 1) (as := [vi (X.2 ((x3 + (1 : Int))).toNat)]) (st := [vi xs0]) (q := (RX9, TX9, 48)) dL_law_1332 oc_X9_keep im_X9_keep se_X9_keep ml_L_150 rfl ⟨(Nat.le_of_ble_eq_true rfl), (Nat.le_of_ble_eq_true rfl)⟩ (Nat.le_of_ble_eq_true rfl) (Nat.le_of_ble_eq_true rfl) rfl rfl rfl (Or.inl rfl) hC (fun z M1 hQ => ?_)
  exact k z M1 hQ
theorem kL_law_1335 {X : Scr} {M : Mem} {P : Option AV → Mem → Prop} {x3 xs0 xs1 : Int} (k1 : xs0 = xs1 → Runs X mL_law 1363 [(0, vr 999), (1, vr 0), (2, vr 200), (3, vi x3)] [] M P) (k2 : xs0 ≠ xs1 → Runs X mL_law 1338 [] [] M P) : Runs X mL_law 1335 [(0, vr 999), (1, vr 0), (2, vr 200), (3, vi x3)] [vi xs1, vi xs0] M P := by
  refine Runs.icmp_eq (tgt := 1363) dL_law_1335 (by decide) (fun h => ?_) (fun h => ?_)
  · exact k1 h
  · refine Runs.picks (loc' := []) [] rfl ?_
    exact k2 h
theorem kL_law_1338 {X : Scr} {M : Mem} {P : Option AV → Mem → Prop} (k : P (some (vi (0 : Int))) M) (h1 : 0 ≤ (0 : Int) ∧ (0 : Int) ≤ 1 := by omega) : Runs X mL_law 1338 [] [] M P := by
  refine Runs.iconst dL_law_1338 (by decide) ?_
  exact Runs.retz dL_law_1339 rfl h1 k
theorem kL_law_1340 {X : Scr} {M : Mem} {P Q : Option AV → Mem → Prop} {x3 : Int} (hC : Call X mX8_again [vr 0, vi (X.2 ((x3 + (1 : Int))).toNat)] M Q) (k : ∀ (z : Int) (M1 : Mem), Q (some (vi z)) M1 → Runs X mL_law 1349 [(0, vr 999), (1, vr 0), (2, vr 200), (3, vi x3)] [vi z] M1 P) (h1 : -2147483648 ≤ (x3 + (1 : Int)) ∧ (x3 + (1 : Int)) ≤ 2147483647 := by omega) (h2 : 0 ≤ (x3 + (1 : Int)) := by omega) (h3 : (x3 + (1 : Int)) < ((X.1 : Nat) : Int) := by omega) (h4 : ∀ j, inI (X.2 j) := by assumption) : Runs X mL_law 1340 [(0, vr 999), (1, vr 0), (2, vr 200), (3, vi x3)] [] M P := by
  refine Runs.aload_n (j := 1) dL_law_1340 rfl ?_
  refine Runs.aload_n (j := 0) dL_law_1341 rfl ?_
  refine Runs.iload_n (j := 3) dL_law_1342 rfl ?_
  refine Runs.iconst dL_law_1343 (by decide) ?_
  refine Runs.iadd dL_law_1344 h1 ?_
  refine Runs.sld rfl h4 dL_law_1345 h2 h3 ?_
  refine Runs.callVi (y := mX8_again) (n := 1) (as := [vi (X.2 ((x3 + (1 : Int))).toNat)]) (st := []) (q := (RX8, TX8, 12)) dL_law_1346 oc_X8_again im_X8_again se_X8_again ml_L_151 rfl ⟨(Nat.le_of_ble_eq_true rfl), (Nat.le_of_ble_eq_true rfl)⟩ (Nat.le_of_ble_eq_true rfl) (Nat.le_of_ble_eq_true rfl) rfl rfl rfl (Or.inl rfl) hC (fun z M1 hQ => ?_)
  exact k z M1 hQ
theorem kL_law_1349 {X : Scr} {M : Mem} {P Q : Option AV → Mem → Prop} {x3 xs0 : Int} (hC : Call X mX9_again [vr 200, vi (X.2 ((x3 + (1 : Int))).toNat)] M Q) (k : ∀ (z : Int) (M1 : Mem), Q (some (vi z)) M1 → Runs X mL_law 1358 [(0, vr 999), (1, vr 0), (2, vr 200), (3, vi x3)] [vi z, vi xs0] M1 P) (h1 : -2147483648 ≤ (x3 + (1 : Int)) ∧ (x3 + (1 : Int)) ≤ 2147483647 := by omega) (h2 : 0 ≤ (x3 + (1 : Int)) := by omega) (h3 : (x3 + (1 : Int)) < ((X.1 : Nat) : Int) := by omega) (h4 : ∀ j, inI (X.2 j) := by assumption) : Runs X mL_law 1349 [(0, vr 999), (1, vr 0), (2, vr 200), (3, vi x3)] [vi xs0] M P := by
  refine Runs.aload_n (j := 2) dL_law_1349 rfl ?_
  refine Runs.aload_n (j := 0) dL_law_1350 rfl ?_
  refine Runs.iload_n (j := 3) dL_law_1351 rfl ?_
  refine Runs.iconst dL_law_1352 (by decide) ?_
  refine Runs.iadd dL_law_1353 h1 ?_
  refine Runs.sld rfl h4 dL_law_1354 h2 h3 ?_
  refine Runs.callVi (y := mX9_again) (n := 1) (as := [vi (X.2 ((x3 + (1 : Int))).toNat)]) (st := [vi xs0]) (q := (RX9, TX9, 48)) dL_law_1355 oc_X9_again im_X9_again se_X9_again ml_L_154 rfl ⟨(Nat.le_of_ble_eq_true rfl), (Nat.le_of_ble_eq_true rfl)⟩ (Nat.le_of_ble_eq_true rfl) (Nat.le_of_ble_eq_true rfl) rfl rfl rfl (Or.inl rfl) hC (fun z M1 hQ => ?_)
  exact k z M1 hQ
theorem kL_law_1358 {X : Scr} {M : Mem} {P : Option AV → Mem → Prop} {x3 xs0 xs1 : Int} (k1 : xs0 = xs1 → Runs X mL_law 1363 [(0, vr 999), (1, vr 0), (2, vr 200), (3, vi x3)] [] M P) (k2 : xs0 ≠ xs1 → Runs X mL_law 1361 [] [] M P) : Runs X mL_law 1358 [(0, vr 999), (1, vr 0), (2, vr 200), (3, vi x3)] [vi xs1, vi xs0] M P := by
  refine Runs.icmp_eq (tgt := 1363) dL_law_1358 (by decide) (fun h => ?_) (fun h => ?_)
  · exact k1 h
  · refine Runs.picks (loc' := []) [] rfl ?_
    exact k2 h
theorem kL_law_1361 {X : Scr} {M : Mem} {P : Option AV → Mem → Prop} (k : P (some (vi (0 : Int))) M) (h1 : 0 ≤ (0 : Int) ∧ (0 : Int) ≤ 1 := by omega) : Runs X mL_law 1361 [] [] M P := by
  refine Runs.iconst dL_law_1361 (by decide) ?_
  exact Runs.retz dL_law_1362 rfl h1 k
theorem kL_law_1363 {X : Scr} {M : Mem} {P : Option AV → Mem → Prop} {x3 : Int} (k : Runs X mL_law 18 [(0, vr 999), (1, vr 0), (2, vr 200), (3, vi (x3 + (7 : Int)))] [] M P) (h1 : -2147483648 ≤ (x3 + (7 : Int)) ∧ (x3 + (7 : Int)) ≤ 2147483647 := by omega) : Runs X mL_law 1363 [(0, vr 999), (1, vr 0), (2, vr 200), (3, vi x3)] [] M P := by
  refine Runs.iinc (k := 3) (loc' := [(0, vr 999), (1, vr 0), (2, vr 200), (3, vi (x3 + (7 : Int)))]) dL_law_1363 rfl h1 (by decide) rfl ?_
  refine Runs.goto (tgt := 18) dL_law_1366 (by decide) ?_
  exact k
theorem kL_law_1369 {X : Scr} {M : Mem} {P : Option AV → Mem → Prop} (k : P (some (vi (1 : Int))) M) (h1 : 0 ≤ (1 : Int) ∧ (1 : Int) ≤ 1 := by omega) : Runs X mL_law 1369 [] [] M P := by
  refine Runs.iconst dL_law_1369 (by decide) ?_
  exact Runs.retz dL_law_1370 rfl h1 k
