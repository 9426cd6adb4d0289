/-! the law, decoded -/
theorem dlw_0 : decode code 0 = .ok (.new 7, 3) := by decide +kernel
theorem dlw_3 : decode code 3 = .ok (.dup, 1) := by decide +kernel
theorem dlw_4 : decode code 4 = .ok (.invokespecial 9, 3) := by decide +kernel
theorem dlw_7 : decode code 7 = .ok (.astore_n 1, 1) := by decide +kernel
theorem dlw_8 : decode code 8 = .ok (.new 10, 3) := by decide +kernel
theorem dlw_11 : decode code 11 = .ok (.dup, 1) := by decide +kernel
theorem dlw_12 : decode code 12 = .ok (.invokespecial 12, 3) := by decide +kernel
theorem dlw_15 : decode code 15 = .ok (.astore_n 2, 1) := by decide +kernel
theorem dlw_16 : decode code 16 = .ok (.iconst 0, 1) := by decide +kernel
theorem dlw_17 : decode code 17 = .ok (.istore_n 3, 1) := by decide +kernel
theorem dlw_18 : decode code 18 = .ok (.iload_n 3, 1) := by decide +kernel
theorem dlw_19 : decode code 19 = .ok (.aload_n 0, 1) := by decide +kernel
theorem dlw_20 : decode code 20 = .ok (.arraylength, 1) := by decide +kernel
theorem dlw_21 : decode code 21 = .ok (.iconst 4, 1) := by decide +kernel
theorem dlw_22 : decode code 22 = .ok (.isub, 1) := by decide +kernel
theorem dlw_23 : decode code 23 = .ok (.if_icmp .gt 768, 3) := by decide +kernel
theorem dlw_26 : decode code 26 = .ok (.aload_n 0, 1) := by decide +kernel
theorem dlw_27 : decode code 27 = .ok (.iload_n 3, 1) := by decide +kernel
theorem dlw_28 : decode code 28 = .ok (.iaload, 1) := by decide +kernel
theorem dlw_29 : decode code 29 = .ok (.bipush 31, 2) := by decide +kernel
theorem dlw_31 : decode code 31 = .ok (.iand, 1) := by decide +kernel
theorem dlw_32 : decode code 32 = .ok (.tableswitch 753 0 24 #[116, 139, 152, 165, 178, 211, 244, 287, 310, 353, 376, 409, 422, 465, 498, 531, 564, 577, 610, 624, 658, 681, 704, 717, 730], 116) := by decide +kernel
theorem dlw_148 : decode code 148 = .ok (.aload_n 1, 1) := by decide +kernel
theorem dlw_149 : decode code 149 = .ok (.aload_n 0, 1) := by decide +kernel
theorem dlw_150 : decode code 150 = .ok (.iload_n 3, 1) := by decide +kernel
theorem dlw_151 : decode code 151 = .ok (.iconst 1, 1) := by decide +kernel
theorem dlw_152 : decode code 152 = .ok (.iadd, 1) := by decide +kernel
theorem dlw_153 : decode code 153 = .ok (.iaload, 1) := by decide +kernel
theorem dlw_154 : decode code 154 = .ok (.invokevirtual 13, 3) := by decide +kernel
theorem dlw_157 : decode code 157 = .ok (.aload_n 2, 1) := by decide +kernel
theorem dlw_158 : decode code 158 = .ok (.aload_n 0, 1) := by decide +kernel
theorem dlw_159 : decode code 159 = .ok (.iload_n 3, 1) := by decide +kernel
theorem dlw_160 : decode code 160 = .ok (.iconst 1, 1) := by decide +kernel
theorem dlw_161 : decode code 161 = .ok (.iadd, 1) := by decide +kernel
theorem dlw_162 : decode code 162 = .ok (.iaload, 1) := by decide +kernel
theorem dlw_163 : decode code 163 = .ok (.invokevirtual 17, 3) := by decide +kernel
theorem dlw_166 : decode code 166 = .ok (.if_icmp .eq 619, 3) := by decide +kernel
theorem dlw_169 : decode code 169 = .ok (.iconst 0, 1) := by decide +kernel
theorem dlw_170 : decode code 170 = .ok (.ireturn, 1) := by decide +kernel
theorem dlw_171 : decode code 171 = .ok (.aload_n 1, 1) := by decide +kernel
theorem dlw_172 : decode code 172 = .ok (.invokevirtual 18, 3) := by decide +kernel
theorem dlw_175 : decode code 175 = .ok (.aload_n 2, 1) := by decide +kernel
theorem dlw_176 : decode code 176 = .ok (.invokevirtual 22, 3) := by decide +kernel
theorem dlw_179 : decode code 179 = .ok (.if_icmp .eq 606, 3) := by decide +kernel
theorem dlw_182 : decode code 182 = .ok (.iconst 0, 1) := by decide +kernel
theorem dlw_183 : decode code 183 = .ok (.ireturn, 1) := by decide +kernel
theorem dlw_184 : decode code 184 = .ok (.aload_n 1, 1) := by decide +kernel
theorem dlw_185 : decode code 185 = .ok (.invokevirtual 23, 3) := by decide +kernel
theorem dlw_188 : decode code 188 = .ok (.aload_n 2, 1) := by decide +kernel
theorem dlw_189 : decode code 189 = .ok (.invokevirtual 26, 3) := by decide +kernel
theorem dlw_192 : decode code 192 = .ok (.if_icmp .eq 593, 3) := by decide +kernel
theorem dlw_195 : decode code 195 = .ok (.iconst 0, 1) := by decide +kernel
theorem dlw_196 : decode code 196 = .ok (.ireturn, 1) := by decide +kernel
theorem dlw_197 : decode code 197 = .ok (.aload_n 1, 1) := by decide +kernel
theorem dlw_198 : decode code 198 = .ok (.invokevirtual 27, 3) := by decide +kernel
theorem dlw_201 : decode code 201 = .ok (.aload_n 2, 1) := by decide +kernel
theorem dlw_202 : decode code 202 = .ok (.invokevirtual 30, 3) := by decide +kernel
theorem dlw_205 : decode code 205 = .ok (.if_icmp .eq 580, 3) := by decide +kernel
theorem dlw_208 : decode code 208 = .ok (.iconst 0, 1) := by decide +kernel
theorem dlw_209 : decode code 209 = .ok (.ireturn, 1) := by decide +kernel
theorem dlw_210 : decode code 210 = .ok (.aload_n 1, 1) := by decide +kernel
theorem dlw_211 : decode code 211 = .ok (.aload_n 0, 1) := by decide +kernel
theorem dlw_212 : decode code 212 = .ok (.iload_n 3, 1) := by decide +kernel
theorem dlw_213 : decode code 213 = .ok (.iconst 1, 1) := by decide +kernel
theorem dlw_214 : decode code 214 = .ok (.iadd, 1) := by decide +kernel
theorem dlw_215 : decode code 215 = .ok (.iaload, 1) := by decide +kernel
theorem dlw_216 : decode code 216 = .ok (.aload_n 0, 1) := by decide +kernel
theorem dlw_217 : decode code 217 = .ok (.iload_n 3, 1) := by decide +kernel
theorem dlw_218 : decode code 218 = .ok (.iconst 2, 1) := by decide +kernel
theorem dlw_219 : decode code 219 = .ok (.iadd, 1) := by decide +kernel
theorem dlw_220 : decode code 220 = .ok (.iaload, 1) := by decide +kernel
theorem dlw_221 : decode code 221 = .ok (.invokevirtual 31, 3) := by decide +kernel
theorem dlw_224 : decode code 224 = .ok (.aload_n 2, 1) := by decide +kernel
theorem dlw_225 : decode code 225 = .ok (.aload_n 0, 1) := by decide +kernel
theorem dlw_226 : decode code 226 = .ok (.iload_n 3, 1) := by decide +kernel
theorem dlw_227 : decode code 227 = .ok (.iconst 1, 1) := by decide +kernel
theorem dlw_228 : decode code 228 = .ok (.iadd, 1) := by decide +kernel
theorem dlw_229 : decode code 229 = .ok (.iaload, 1) := by decide +kernel
theorem dlw_230 : decode code 230 = .ok (.aload_n 0, 1) := by decide +kernel
theorem dlw_231 : decode code 231 = .ok (.iload_n 3, 1) := by decide +kernel
theorem dlw_232 : decode code 232 = .ok (.iconst 2, 1) := by decide +kernel
theorem dlw_233 : decode code 233 = .ok (.iadd, 1) := by decide +kernel
theorem dlw_234 : decode code 234 = .ok (.iaload, 1) := by decide +kernel
theorem dlw_235 : decode code 235 = .ok (.invokevirtual 35, 3) := by decide +kernel
theorem dlw_238 : decode code 238 = .ok (.if_icmp .eq 547, 3) := by decide +kernel
theorem dlw_241 : decode code 241 = .ok (.iconst 0, 1) := by decide +kernel
theorem dlw_242 : decode code 242 = .ok (.ireturn, 1) := by decide +kernel
theorem dlw_243 : decode code 243 = .ok (.aload_n 1, 1) := by decide +kernel
theorem dlw_244 : decode code 244 = .ok (.aload_n 0, 1) := by decide +kernel
theorem dlw_245 : decode code 245 = .ok (.iload_n 3, 1) := by decide +kernel
theorem dlw_246 : decode code 246 = .ok (.iconst 1, 1) := by decide +kernel
theorem dlw_247 : decode code 247 = .ok (.iadd, 1) := by decide +kernel
theorem dlw_248 : decode code 248 = .ok (.iaload, 1) := by decide +kernel
theorem dlw_249 : decode code 249 = .ok (.aload_n 0, 1) := by decide +kernel
theorem dlw_250 : decode code 250 = .ok (.iload_n 3, 1) := by decide +kernel
theorem dlw_251 : decode code 251 = .ok (.iconst 2, 1) := by decide +kernel
theorem dlw_252 : decode code 252 = .ok (.iadd, 1) := by decide +kernel
theorem dlw_253 : decode code 253 = .ok (.iaload, 1) := by decide +kernel
theorem dlw_254 : decode code 254 = .ok (.invokevirtual 36, 3) := by decide +kernel
theorem dlw_257 : decode code 257 = .ok (.aload_n 2, 1) := by decide +kernel
theorem dlw_258 : decode code 258 = .ok (.aload_n 0, 1) := by decide +kernel
theorem dlw_259 : decode code 259 = .ok (.iload_n 3, 1) := by decide +kernel
theorem dlw_260 : decode code 260 = .ok (.iconst 1, 1) := by decide +kernel
theorem dlw_261 : decode code 261 = .ok (.iadd, 1) := by decide +kernel
theorem dlw_262 : decode code 262 = .ok (.iaload, 1) := by decide +kernel
theorem dlw_263 : decode code 263 = .ok (.aload_n 0, 1) := by decide +kernel
theorem dlw_264 : decode code 264 = .ok (.iload_n 3, 1) := by decide +kernel
theorem dlw_265 : decode code 265 = .ok (.iconst 2, 1) := by decide +kernel
theorem dlw_266 : decode code 266 = .ok (.iadd, 1) := by decide +kernel
theorem dlw_267 : decode code 267 = .ok (.iaload, 1) := by decide +kernel
theorem dlw_268 : decode code 268 = .ok (.invokevirtual 39, 3) := by decide +kernel
theorem dlw_271 : decode code 271 = .ok (.if_icmp .eq 514, 3) := by decide +kernel
theorem dlw_274 : decode code 274 = .ok (.iconst 0, 1) := by decide +kernel
theorem dlw_275 : decode code 275 = .ok (.ireturn, 1) := by decide +kernel
theorem dlw_276 : decode code 276 = .ok (.aload_n 1, 1) := by decide +kernel
theorem dlw_277 : decode code 277 = .ok (.aload_n 0, 1) := by decide +kernel
theorem dlw_278 : decode code 278 = .ok (.iload_n 3, 1) := by decide +kernel
theorem dlw_279 : decode code 279 = .ok (.iconst 1, 1) := by decide +kernel
theorem dlw_280 : decode code 280 = .ok (.iadd, 1) := by decide +kernel
theorem dlw_281 : decode code 281 = .ok (.iaload, 1) := by decide +kernel
theorem dlw_282 : decode code 282 = .ok (.aload_n 0, 1) := by decide +kernel
theorem dlw_283 : decode code 283 = .ok (.iload_n 3, 1) := by decide +kernel
theorem dlw_284 : decode code 284 = .ok (.iconst 2, 1) := by decide +kernel
theorem dlw_285 : decode code 285 = .ok (.iadd, 1) := by decide +kernel
theorem dlw_286 : decode code 286 = .ok (.iaload, 1) := by decide +kernel
theorem dlw_287 : decode code 287 = .ok (.aload_n 0, 1) := by decide +kernel
theorem dlw_288 : decode code 288 = .ok (.iload_n 3, 1) := by decide +kernel
theorem dlw_289 : decode code 289 = .ok (.iconst 3, 1) := by decide +kernel
theorem dlw_290 : decode code 290 = .ok (.iadd, 1) := by decide +kernel
theorem dlw_291 : decode code 291 = .ok (.iaload, 1) := by decide +kernel
theorem dlw_292 : decode code 292 = .ok (.invokevirtual 40, 3) := by decide +kernel
theorem dlw_295 : decode code 295 = .ok (.aload_n 2, 1) := by decide +kernel
theorem dlw_296 : decode code 296 = .ok (.aload_n 0, 1) := by decide +kernel
theorem dlw_297 : decode code 297 = .ok (.iload_n 3, 1) := by decide +kernel
theorem dlw_298 : decode code 298 = .ok (.iconst 1, 1) := by decide +kernel
theorem dlw_299 : decode code 299 = .ok (.iadd, 1) := by decide +kernel
theorem dlw_300 : decode code 300 = .ok (.iaload, 1) := by decide +kernel
theorem dlw_301 : decode code 301 = .ok (.aload_n 0, 1) := by decide +kernel
theorem dlw_302 : decode code 302 = .ok (.iload_n 3, 1) := by decide +kernel
theorem dlw_303 : decode code 303 = .ok (.iconst 2, 1) := by decide +kernel
theorem dlw_304 : decode code 304 = .ok (.iadd, 1) := by decide +kernel
theorem dlw_305 : decode code 305 = .ok (.iaload, 1) := by decide +kernel
theorem dlw_306 : decode code 306 = .ok (.aload_n 0, 1) := by decide +kernel
theorem dlw_307 : decode code 307 = .ok (.iload_n 3, 1) := by decide +kernel
theorem dlw_308 : decode code 308 = .ok (.iconst 3, 1) := by decide +kernel
theorem dlw_309 : decode code 309 = .ok (.iadd, 1) := by decide +kernel
theorem dlw_310 : decode code 310 = .ok (.iaload, 1) := by decide +kernel
theorem dlw_311 : decode code 311 = .ok (.invokevirtual 44, 3) := by decide +kernel
theorem dlw_314 : decode code 314 = .ok (.if_icmp .eq 471, 3) := by decide +kernel
theorem dlw_317 : decode code 317 = .ok (.iconst 0, 1) := by decide +kernel
theorem dlw_318 : decode code 318 = .ok (.ireturn, 1) := by decide +kernel
theorem dlw_319 : decode code 319 = .ok (.aload_n 1, 1) := by decide +kernel
theorem dlw_320 : decode code 320 = .ok (.aload_n 0, 1) := by decide +kernel
theorem dlw_321 : decode code 321 = .ok (.iload_n 3, 1) := by decide +kernel
theorem dlw_322 : decode code 322 = .ok (.iconst 1, 1) := by decide +kernel
theorem dlw_323 : decode code 323 = .ok (.iadd, 1) := by decide +kernel
theorem dlw_324 : decode code 324 = .ok (.iaload, 1) := by decide +kernel
theorem dlw_325 : decode code 325 = .ok (.invokevirtual 45, 3) := by decide +kernel
theorem dlw_328 : decode code 328 = .ok (.aload_n 2, 1) := by decide +kernel
theorem dlw_329 : decode code 329 = .ok (.aload_n 0, 1) := by decide +kernel
theorem dlw_330 : decode code 330 = .ok (.iload_n 3, 1) := by decide +kernel
theorem dlw_331 : decode code 331 = .ok (.iconst 1, 1) := by decide +kernel
theorem dlw_332 : decode code 332 = .ok (.iadd, 1) := by decide +kernel
theorem dlw_333 : decode code 333 = .ok (.iaload, 1) := by decide +kernel
theorem dlw_334 : decode code 334 = .ok (.invokevirtual 48, 3) := by decide +kernel
theorem dlw_337 : decode code 337 = .ok (.if_icmp .eq 448, 3) := by decide +kernel
theorem dlw_340 : decode code 340 = .ok (.iconst 0, 1) := by decide +kernel
theorem dlw_341 : decode code 341 = .ok (.ireturn, 1) := by decide +kernel
theorem dlw_342 : decode code 342 = .ok (.aload_n 1, 1) := by decide +kernel
theorem dlw_343 : decode code 343 = .ok (.aload_n 0, 1) := by decide +kernel
theorem dlw_344 : decode code 344 = .ok (.iload_n 3, 1) := by decide +kernel
theorem dlw_345 : decode code 345 = .ok (.iconst 1, 1) := by decide +kernel
theorem dlw_346 : decode code 346 = .ok (.iadd, 1) := by decide +kernel
theorem dlw_347 : decode code 347 = .ok (.iaload, 1) := by decide +kernel
theorem dlw_348 : decode code 348 = .ok (.aload_n 0, 1) := by decide +kernel
theorem dlw_349 : decode code 349 = .ok (.iload_n 3, 1) := by decide +kernel
theorem dlw_350 : decode code 350 = .ok (.iconst 2, 1) := by decide +kernel
theorem dlw_351 : decode code 351 = .ok (.iadd, 1) := by decide +kernel
theorem dlw_352 : decode code 352 = .ok (.iaload, 1) := by decide +kernel
theorem dlw_353 : decode code 353 = .ok (.aload_n 0, 1) := by decide +kernel
theorem dlw_354 : decode code 354 = .ok (.iload_n 3, 1) := by decide +kernel
theorem dlw_355 : decode code 355 = .ok (.iconst 3, 1) := by decide +kernel
theorem dlw_356 : decode code 356 = .ok (.iadd, 1) := by decide +kernel
theorem dlw_357 : decode code 357 = .ok (.iaload, 1) := by decide +kernel
theorem dlw_358 : decode code 358 = .ok (.invokevirtual 49, 3) := by decide +kernel
theorem dlw_361 : decode code 361 = .ok (.aload_n 2, 1) := by decide +kernel
theorem dlw_362 : decode code 362 = .ok (.aload_n 0, 1) := by decide +kernel
theorem dlw_363 : decode code 363 = .ok (.iload_n 3, 1) := by decide +kernel
theorem dlw_364 : decode code 364 = .ok (.iconst 1, 1) := by decide +kernel
theorem dlw_365 : decode code 365 = .ok (.iadd, 1) := by decide +kernel
theorem dlw_366 : decode code 366 = .ok (.iaload, 1) := by decide +kernel
theorem dlw_367 : decode code 367 = .ok (.aload_n 0, 1) := by decide +kernel
theorem dlw_368 : decode code 368 = .ok (.iload_n 3, 1) := by decide +kernel
theorem dlw_369 : decode code 369 = .ok (.iconst 2, 1) := by decide +kernel
theorem dlw_370 : decode code 370 = .ok (.iadd, 1) := by decide +kernel
theorem dlw_371 : decode code 371 = .ok (.iaload, 1) := by decide +kernel
theorem dlw_372 : decode code 372 = .ok (.aload_n 0, 1) := by decide +kernel
theorem dlw_373 : decode code 373 = .ok (.iload_n 3, 1) := by decide +kernel
theorem dlw_374 : decode code 374 = .ok (.iconst 3, 1) := by decide +kernel
theorem dlw_375 : decode code 375 = .ok (.iadd, 1) := by decide +kernel
theorem dlw_376 : decode code 376 = .ok (.iaload, 1) := by decide +kernel
theorem dlw_377 : decode code 377 = .ok (.invokevirtual 52, 3) := by decide +kernel
theorem dlw_380 : decode code 380 = .ok (.if_icmp .eq 405, 3) := by decide +kernel
theorem dlw_383 : decode code 383 = .ok (.iconst 0, 1) := by decide +kernel
theorem dlw_384 : decode code 384 = .ok (.ireturn, 1) := by decide +kernel
theorem dlw_385 : decode code 385 = .ok (.aload_n 1, 1) := by decide +kernel
theorem dlw_386 : decode code 386 = .ok (.aload_n 0, 1) := by decide +kernel
theorem dlw_387 : decode code 387 = .ok (.iload_n 3, 1) := by decide +kernel
theorem dlw_388 : decode code 388 = .ok (.iconst 1, 1) := by decide +kernel
theorem dlw_389 : decode code 389 = .ok (.iadd, 1) := by decide +kernel
theorem dlw_390 : decode code 390 = .ok (.iaload, 1) := by decide +kernel
theorem dlw_391 : decode code 391 = .ok (.invokevirtual 53, 3) := by decide +kernel
theorem dlw_394 : decode code 394 = .ok (.aload_n 2, 1) := by decide +kernel
theorem dlw_395 : decode code 395 = .ok (.aload_n 0, 1) := by decide +kernel
theorem dlw_396 : decode code 396 = .ok (.iload_n 3, 1) := by decide +kernel
theorem dlw_397 : decode code 397 = .ok (.iconst 1, 1) := by decide +kernel
theorem dlw_398 : decode code 398 = .ok (.iadd, 1) := by decide +kernel
theorem dlw_399 : decode code 399 = .ok (.iaload, 1) := by decide +kernel
theorem dlw_400 : decode code 400 = .ok (.invokevirtual 56, 3) := by decide +kernel
theorem dlw_403 : decode code 403 = .ok (.if_icmp .eq 382, 3) := by decide +kernel
theorem dlw_406 : decode code 406 = .ok (.iconst 0, 1) := by decide +kernel
theorem dlw_407 : decode code 407 = .ok (.ireturn, 1) := by decide +kernel
theorem dlw_408 : decode code 408 = .ok (.aload_n 1, 1) := by decide +kernel
theorem dlw_409 : decode code 409 = .ok (.aload_n 0, 1) := by decide +kernel
theorem dlw_410 : decode code 410 = .ok (.iload_n 3, 1) := by decide +kernel
theorem dlw_411 : decode code 411 = .ok (.iconst 1, 1) := by decide +kernel
theorem dlw_412 : decode code 412 = .ok (.iadd, 1) := by decide +kernel
theorem dlw_413 : decode code 413 = .ok (.iaload, 1) := by decide +kernel
theorem dlw_414 : decode code 414 = .ok (.aload_n 0, 1) := by decide +kernel
theorem dlw_415 : decode code 415 = .ok (.iload_n 3, 1) := by decide +kernel
theorem dlw_416 : decode code 416 = .ok (.iconst 2, 1) := by decide +kernel
theorem dlw_417 : decode code 417 = .ok (.iadd, 1) := by decide +kernel
theorem dlw_418 : decode code 418 = .ok (.iaload, 1) := by decide +kernel
theorem dlw_419 : decode code 419 = .ok (.invokevirtual 57, 3) := by decide +kernel
theorem dlw_422 : decode code 422 = .ok (.aload_n 2, 1) := by decide +kernel
theorem dlw_423 : decode code 423 = .ok (.aload_n 0, 1) := by decide +kernel
theorem dlw_424 : decode code 424 = .ok (.iload_n 3, 1) := by decide +kernel
theorem dlw_425 : decode code 425 = .ok (.iconst 1, 1) := by decide +kernel
theorem dlw_426 : decode code 426 = .ok (.iadd, 1) := by decide +kernel
theorem dlw_427 : decode code 427 = .ok (.iaload, 1) := by decide +kernel
theorem dlw_428 : decode code 428 = .ok (.aload_n 0, 1) := by decide +kernel
theorem dlw_429 : decode code 429 = .ok (.iload_n 3, 1) := by decide +kernel
theorem dlw_430 : decode code 430 = .ok (.iconst 2, 1) := by decide +kernel
theorem dlw_431 : decode code 431 = .ok (.iadd, 1) := by decide +kernel
theorem dlw_432 : decode code 432 = .ok (.iaload, 1) := by decide +kernel
theorem dlw_433 : decode code 433 = .ok (.invokevirtual 60, 3) := by decide +kernel
theorem dlw_436 : decode code 436 = .ok (.if_icmp .eq 349, 3) := by decide +kernel
theorem dlw_439 : decode code 439 = .ok (.iconst 0, 1) := by decide +kernel
theorem dlw_440 : decode code 440 = .ok (.ireturn, 1) := by decide +kernel
theorem dlw_441 : decode code 441 = .ok (.aload_n 1, 1) := by decide +kernel
theorem dlw_442 : decode code 442 = .ok (.invokevirtual 61, 3) := by decide +kernel
theorem dlw_445 : decode code 445 = .ok (.aload_n 2, 1) := by decide +kernel
theorem dlw_446 : decode code 446 = .ok (.invokevirtual 64, 3) := by decide +kernel
theorem dlw_449 : decode code 449 = .ok (.if_icmp .eq 336, 3) := by decide +kernel
theorem dlw_452 : decode code 452 = .ok (.iconst 0, 1) := by decide +kernel
theorem dlw_453 : decode code 453 = .ok (.ireturn, 1) := by decide +kernel
theorem dlw_454 : decode code 454 = .ok (.aload_n 1, 1) := by decide +kernel
theorem dlw_455 : decode code 455 = .ok (.aload_n 0, 1) := by decide +kernel
theorem dlw_456 : decode code 456 = .ok (.iload_n 3, 1) := by decide +kernel
theorem dlw_457 : decode code 457 = .ok (.iconst 1, 1) := by decide +kernel
theorem dlw_458 : decode code 458 = .ok (.iadd, 1) := by decide +kernel
theorem dlw_459 : decode code 459 = .ok (.iaload, 1) := by decide +kernel
theorem dlw_460 : decode code 460 = .ok (.aload_n 0, 1) := by decide +kernel
theorem dlw_461 : decode code 461 = .ok (.iload_n 3, 1) := by decide +kernel
theorem dlw_462 : decode code 462 = .ok (.iconst 2, 1) := by decide +kernel
theorem dlw_463 : decode code 463 = .ok (.iadd, 1) := by decide +kernel
theorem dlw_464 : decode code 464 = .ok (.iaload, 1) := by decide +kernel
theorem dlw_465 : decode code 465 = .ok (.aload_n 0, 1) := by decide +kernel
theorem dlw_466 : decode code 466 = .ok (.iload_n 3, 1) := by decide +kernel
theorem dlw_467 : decode code 467 = .ok (.iconst 3, 1) := by decide +kernel
theorem dlw_468 : decode code 468 = .ok (.iadd, 1) := by decide +kernel
theorem dlw_469 : decode code 469 = .ok (.iaload, 1) := by decide +kernel
theorem dlw_470 : decode code 470 = .ok (.invokevirtual 65, 3) := by decide +kernel
theorem dlw_473 : decode code 473 = .ok (.aload_n 2, 1) := by decide +kernel
theorem dlw_474 : decode code 474 = .ok (.aload_n 0, 1) := by decide +kernel
theorem dlw_475 : decode code 475 = .ok (.iload_n 3, 1) := by decide +kernel
theorem dlw_476 : decode code 476 = .ok (.iconst 1, 1) := by decide +kernel
theorem dlw_477 : decode code 477 = .ok (.iadd, 1) := by decide +kernel
theorem dlw_478 : decode code 478 = .ok (.iaload, 1) := by decide +kernel
theorem dlw_479 : decode code 479 = .ok (.aload_n 0, 1) := by decide +kernel
theorem dlw_480 : decode code 480 = .ok (.iload_n 3, 1) := by decide +kernel
theorem dlw_481 : decode code 481 = .ok (.iconst 2, 1) := by decide +kernel
theorem dlw_482 : decode code 482 = .ok (.iadd, 1) := by decide +kernel
theorem dlw_483 : decode code 483 = .ok (.iaload, 1) := by decide +kernel
theorem dlw_484 : decode code 484 = .ok (.aload_n 0, 1) := by decide +kernel
theorem dlw_485 : decode code 485 = .ok (.iload_n 3, 1) := by decide +kernel
theorem dlw_486 : decode code 486 = .ok (.iconst 3, 1) := by decide +kernel
theorem dlw_487 : decode code 487 = .ok (.iadd, 1) := by decide +kernel
theorem dlw_488 : decode code 488 = .ok (.iaload, 1) := by decide +kernel
theorem dlw_489 : decode code 489 = .ok (.invokevirtual 68, 3) := by decide +kernel
theorem dlw_492 : decode code 492 = .ok (.if_icmp .eq 293, 3) := by decide +kernel
theorem dlw_495 : decode code 495 = .ok (.iconst 0, 1) := by decide +kernel
theorem dlw_496 : decode code 496 = .ok (.ireturn, 1) := by decide +kernel
theorem dlw_497 : decode code 497 = .ok (.aload_n 1, 1) := by decide +kernel
theorem dlw_498 : decode code 498 = .ok (.aload_n 0, 1) := by decide +kernel
theorem dlw_499 : decode code 499 = .ok (.iload_n 3, 1) := by decide +kernel
theorem dlw_500 : decode code 500 = .ok (.iconst 1, 1) := by decide +kernel
theorem dlw_501 : decode code 501 = .ok (.iadd, 1) := by decide +kernel
theorem dlw_502 : decode code 502 = .ok (.iaload, 1) := by decide +kernel
theorem dlw_503 : decode code 503 = .ok (.aload_n 0, 1) := by decide +kernel
theorem dlw_504 : decode code 504 = .ok (.iload_n 3, 1) := by decide +kernel
theorem dlw_505 : decode code 505 = .ok (.iconst 2, 1) := by decide +kernel
theorem dlw_506 : decode code 506 = .ok (.iadd, 1) := by decide +kernel
theorem dlw_507 : decode code 507 = .ok (.iaload, 1) := by decide +kernel
theorem dlw_508 : decode code 508 = .ok (.invokevirtual 69, 3) := by decide +kernel
theorem dlw_511 : decode code 511 = .ok (.aload_n 2, 1) := by decide +kernel
theorem dlw_512 : decode code 512 = .ok (.aload_n 0, 1) := by decide +kernel
theorem dlw_513 : decode code 513 = .ok (.iload_n 3, 1) := by decide +kernel
theorem dlw_514 : decode code 514 = .ok (.iconst 1, 1) := by decide +kernel
theorem dlw_515 : decode code 515 = .ok (.iadd, 1) := by decide +kernel
theorem dlw_516 : decode code 516 = .ok (.iaload, 1) := by decide +kernel
theorem dlw_517 : decode code 517 = .ok (.aload_n 0, 1) := by decide +kernel
theorem dlw_518 : decode code 518 = .ok (.iload_n 3, 1) := by decide +kernel
theorem dlw_519 : decode code 519 = .ok (.iconst 2, 1) := by decide +kernel
theorem dlw_520 : decode code 520 = .ok (.iadd, 1) := by decide +kernel
theorem dlw_521 : decode code 521 = .ok (.iaload, 1) := by decide +kernel
theorem dlw_522 : decode code 522 = .ok (.invokevirtual 72, 3) := by decide +kernel
theorem dlw_525 : decode code 525 = .ok (.if_icmp .eq 260, 3) := by decide +kernel
theorem dlw_528 : decode code 528 = .ok (.iconst 0, 1) := by decide +kernel
theorem dlw_529 : decode code 529 = .ok (.ireturn, 1) := by decide +kernel
theorem dlw_530 : decode code 530 = .ok (.aload_n 1, 1) := by decide +kernel
theorem dlw_531 : decode code 531 = .ok (.aload_n 0, 1) := by decide +kernel
theorem dlw_532 : decode code 532 = .ok (.iload_n 3, 1) := by decide +kernel
theorem dlw_533 : decode code 533 = .ok (.iconst 1, 1) := by decide +kernel
theorem dlw_534 : decode code 534 = .ok (.iadd, 1) := by decide +kernel
theorem dlw_535 : decode code 535 = .ok (.iaload, 1) := by decide +kernel
theorem dlw_536 : decode code 536 = .ok (.aload_n 0, 1) := by decide +kernel
theorem dlw_537 : decode code 537 = .ok (.iload_n 3, 1) := by decide +kernel
theorem dlw_538 : decode code 538 = .ok (.iconst 2, 1) := by decide +kernel
theorem dlw_539 : decode code 539 = .ok (.iadd, 1) := by decide +kernel
theorem dlw_540 : decode code 540 = .ok (.iaload, 1) := by decide +kernel
theorem dlw_541 : decode code 541 = .ok (.invokevirtual 73, 3) := by decide +kernel
theorem dlw_544 : decode code 544 = .ok (.aload_n 2, 1) := by decide +kernel
theorem dlw_545 : decode code 545 = .ok (.aload_n 0, 1) := by decide +kernel
theorem dlw_546 : decode code 546 = .ok (.iload_n 3, 1) := by decide +kernel
theorem dlw_547 : decode code 547 = .ok (.iconst 1, 1) := by decide +kernel
theorem dlw_548 : decode code 548 = .ok (.iadd, 1) := by decide +kernel
theorem dlw_549 : decode code 549 = .ok (.iaload, 1) := by decide +kernel
theorem dlw_550 : decode code 550 = .ok (.aload_n 0, 1) := by decide +kernel
theorem dlw_551 : decode code 551 = .ok (.iload_n 3, 1) := by decide +kernel
theorem dlw_552 : decode code 552 = .ok (.iconst 2, 1) := by decide +kernel
theorem dlw_553 : decode code 553 = .ok (.iadd, 1) := by decide +kernel
theorem dlw_554 : decode code 554 = .ok (.iaload, 1) := by decide +kernel
theorem dlw_555 : decode code 555 = .ok (.invokevirtual 76, 3) := by decide +kernel
theorem dlw_558 : decode code 558 = .ok (.if_icmp .eq 227, 3) := by decide +kernel
theorem dlw_561 : decode code 561 = .ok (.iconst 0, 1) := by decide +kernel
theorem dlw_562 : decode code 562 = .ok (.ireturn, 1) := by decide +kernel
theorem dlw_563 : decode code 563 = .ok (.aload_n 1, 1) := by decide +kernel
theorem dlw_564 : decode code 564 = .ok (.aload_n 0, 1) := by decide +kernel
theorem dlw_565 : decode code 565 = .ok (.iload_n 3, 1) := by decide +kernel
theorem dlw_566 : decode code 566 = .ok (.iconst 1, 1) := by decide +kernel
theorem dlw_567 : decode code 567 = .ok (.iadd, 1) := by decide +kernel
theorem dlw_568 : decode code 568 = .ok (.iaload, 1) := by decide +kernel
theorem dlw_569 : decode code 569 = .ok (.aload_n 0, 1) := by decide +kernel
theorem dlw_570 : decode code 570 = .ok (.iload_n 3, 1) := by decide +kernel
theorem dlw_571 : decode code 571 = .ok (.iconst 2, 1) := by decide +kernel
theorem dlw_572 : decode code 572 = .ok (.iadd, 1) := by decide +kernel
theorem dlw_573 : decode code 573 = .ok (.iaload, 1) := by decide +kernel
theorem dlw_574 : decode code 574 = .ok (.invokevirtual 77, 3) := by decide +kernel
theorem dlw_577 : decode code 577 = .ok (.aload_n 2, 1) := by decide +kernel
theorem dlw_578 : decode code 578 = .ok (.aload_n 0, 1) := by decide +kernel
theorem dlw_579 : decode code 579 = .ok (.iload_n 3, 1) := by decide +kernel
theorem dlw_580 : decode code 580 = .ok (.iconst 1, 1) := by decide +kernel
theorem dlw_581 : decode code 581 = .ok (.iadd, 1) := by decide +kernel
theorem dlw_582 : decode code 582 = .ok (.iaload, 1) := by decide +kernel
theorem dlw_583 : decode code 583 = .ok (.aload_n 0, 1) := by decide +kernel
theorem dlw_584 : decode code 584 = .ok (.iload_n 3, 1) := by decide +kernel
theorem dlw_585 : decode code 585 = .ok (.iconst 2, 1) := by decide +kernel
theorem dlw_586 : decode code 586 = .ok (.iadd, 1) := by decide +kernel
theorem dlw_587 : decode code 587 = .ok (.iaload, 1) := by decide +kernel
theorem dlw_588 : decode code 588 = .ok (.invokevirtual 80, 3) := by decide +kernel
theorem dlw_591 : decode code 591 = .ok (.if_icmp .eq 194, 3) := by decide +kernel
theorem dlw_594 : decode code 594 = .ok (.iconst 0, 1) := by decide +kernel
theorem dlw_595 : decode code 595 = .ok (.ireturn, 1) := by decide +kernel
theorem dlw_596 : decode code 596 = .ok (.aload_n 1, 1) := by decide +kernel
theorem dlw_597 : decode code 597 = .ok (.invokevirtual 81, 3) := by decide +kernel
theorem dlw_600 : decode code 600 = .ok (.aload_n 2, 1) := by decide +kernel
theorem dlw_601 : decode code 601 = .ok (.invokevirtual 84, 3) := by decide +kernel
theorem dlw_604 : decode code 604 = .ok (.if_icmp .eq 181, 3) := by decide +kernel
theorem dlw_607 : decode code 607 = .ok (.iconst 0, 1) := by decide +kernel
theorem dlw_608 : decode code 608 = .ok (.ireturn, 1) := by decide +kernel
theorem dlw_609 : decode code 609 = .ok (.aload_n 1, 1) := by decide +kernel
theorem dlw_610 : decode code 610 = .ok (.aload_n 0, 1) := by decide +kernel
theorem dlw_611 : decode code 611 = .ok (.iload_n 3, 1) := by decide +kernel
theorem dlw_612 : decode code 612 = .ok (.iconst 1, 1) := by decide +kernel
theorem dlw_613 : decode code 613 = .ok (.iadd, 1) := by decide +kernel
theorem dlw_614 : decode code 614 = .ok (.iaload, 1) := by decide +kernel
theorem dlw_615 : decode code 615 = .ok (.aload_n 0, 1) := by decide +kernel
theorem dlw_616 : decode code 616 = .ok (.iload_n 3, 1) := by decide +kernel
theorem dlw_617 : decode code 617 = .ok (.iconst 2, 1) := by decide +kernel
theorem dlw_618 : decode code 618 = .ok (.iadd, 1) := by decide +kernel
theorem dlw_619 : decode code 619 = .ok (.iaload, 1) := by decide +kernel
theorem dlw_620 : decode code 620 = .ok (.invokevirtual 85, 3) := by decide +kernel
theorem dlw_623 : decode code 623 = .ok (.aload_n 2, 1) := by decide +kernel
theorem dlw_624 : decode code 624 = .ok (.aload_n 0, 1) := by decide +kernel
theorem dlw_625 : decode code 625 = .ok (.iload_n 3, 1) := by decide +kernel
theorem dlw_626 : decode code 626 = .ok (.iconst 1, 1) := by decide +kernel
theorem dlw_627 : decode code 627 = .ok (.iadd, 1) := by decide +kernel
theorem dlw_628 : decode code 628 = .ok (.iaload, 1) := by decide +kernel
theorem dlw_629 : decode code 629 = .ok (.aload_n 0, 1) := by decide +kernel
theorem dlw_630 : decode code 630 = .ok (.iload_n 3, 1) := by decide +kernel
theorem dlw_631 : decode code 631 = .ok (.iconst 2, 1) := by decide +kernel
theorem dlw_632 : decode code 632 = .ok (.iadd, 1) := by decide +kernel
theorem dlw_633 : decode code 633 = .ok (.iaload, 1) := by decide +kernel
theorem dlw_634 : decode code 634 = .ok (.invokevirtual 88, 3) := by decide +kernel
theorem dlw_637 : decode code 637 = .ok (.if_icmp .eq 148, 3) := by decide +kernel
theorem dlw_640 : decode code 640 = .ok (.iconst 0, 1) := by decide +kernel
theorem dlw_641 : decode code 641 = .ok (.ireturn, 1) := by decide +kernel
theorem dlw_642 : decode code 642 = .ok (.aload_n 1, 1) := by decide +kernel
theorem dlw_643 : decode code 643 = .ok (.invokevirtual 89, 3) := by decide +kernel
theorem dlw_646 : decode code 646 = .ok (.aload_n 2, 1) := by decide +kernel
theorem dlw_647 : decode code 647 = .ok (.invokevirtual 93, 3) := by decide +kernel
theorem dlw_650 : decode code 650 = .ok (.lcmp, 1) := by decide +kernel
theorem dlw_651 : decode code 651 = .ok (.ifCond .eq 134, 3) := by decide +kernel
theorem dlw_654 : decode code 654 = .ok (.iconst 0, 1) := by decide +kernel
theorem dlw_655 : decode code 655 = .ok (.ireturn, 1) := by decide +kernel
theorem dlw_656 : decode code 656 = .ok (.aload_n 1, 1) := by decide +kernel
theorem dlw_657 : decode code 657 = .ok (.aload_n 0, 1) := by decide +kernel
theorem dlw_658 : decode code 658 = .ok (.iload_n 3, 1) := by decide +kernel
theorem dlw_659 : decode code 659 = .ok (.iconst 1, 1) := by decide +kernel
theorem dlw_660 : decode code 660 = .ok (.iadd, 1) := by decide +kernel
theorem dlw_661 : decode code 661 = .ok (.iaload, 1) := by decide +kernel
theorem dlw_662 : decode code 662 = .ok (.aload_n 0, 1) := by decide +kernel
theorem dlw_663 : decode code 663 = .ok (.iload_n 3, 1) := by decide +kernel
theorem dlw_664 : decode code 664 = .ok (.iconst 2, 1) := by decide +kernel
theorem dlw_665 : decode code 665 = .ok (.iadd, 1) := by decide +kernel
theorem dlw_666 : decode code 666 = .ok (.iaload, 1) := by decide +kernel
theorem dlw_667 : decode code 667 = .ok (.invokevirtual 94, 3) := by decide +kernel
theorem dlw_670 : decode code 670 = .ok (.aload_n 2, 1) := by decide +kernel
theorem dlw_671 : decode code 671 = .ok (.aload_n 0, 1) := by decide +kernel
theorem dlw_672 : decode code 672 = .ok (.iload_n 3, 1) := by decide +kernel
theorem dlw_673 : decode code 673 = .ok (.iconst 1, 1) := by decide +kernel
theorem dlw_674 : decode code 674 = .ok (.iadd, 1) := by decide +kernel
theorem dlw_675 : decode code 675 = .ok (.iaload, 1) := by decide +kernel
theorem dlw_676 : decode code 676 = .ok (.aload_n 0, 1) := by decide +kernel
theorem dlw_677 : decode code 677 = .ok (.iload_n 3, 1) := by decide +kernel
theorem dlw_678 : decode code 678 = .ok (.iconst 2, 1) := by decide +kernel
theorem dlw_679 : decode code 679 = .ok (.iadd, 1) := by decide +kernel
theorem dlw_680 : decode code 680 = .ok (.iaload, 1) := by decide +kernel
theorem dlw_681 : decode code 681 = .ok (.invokevirtual 98, 3) := by decide +kernel
theorem dlw_684 : decode code 684 = .ok (.lcmp, 1) := by decide +kernel
theorem dlw_685 : decode code 685 = .ok (.ifCond .eq 100, 3) := by decide +kernel
theorem dlw_688 : decode code 688 = .ok (.iconst 0, 1) := by decide +kernel
theorem dlw_689 : decode code 689 = .ok (.ireturn, 1) := by decide +kernel
theorem dlw_690 : decode code 690 = .ok (.aload_n 1, 1) := by decide +kernel
theorem dlw_691 : decode code 691 = .ok (.aload_n 0, 1) := by decide +kernel
theorem dlw_692 : decode code 692 = .ok (.iload_n 3, 1) := by decide +kernel
theorem dlw_693 : decode code 693 = .ok (.iconst 1, 1) := by decide +kernel
theorem dlw_694 : decode code 694 = .ok (.iadd, 1) := by decide +kernel
theorem dlw_695 : decode code 695 = .ok (.iaload, 1) := by decide +kernel
theorem dlw_696 : decode code 696 = .ok (.invokevirtual 99, 3) := by decide +kernel
theorem dlw_699 : decode code 699 = .ok (.aload_n 2, 1) := by decide +kernel
theorem dlw_700 : decode code 700 = .ok (.aload_n 0, 1) := by decide +kernel
theorem dlw_701 : decode code 701 = .ok (.iload_n 3, 1) := by decide +kernel
theorem dlw_702 : decode code 702 = .ok (.iconst 1, 1) := by decide +kernel
theorem dlw_703 : decode code 703 = .ok (.iadd, 1) := by decide +kernel
theorem dlw_704 : decode code 704 = .ok (.iaload, 1) := by decide +kernel
theorem dlw_705 : decode code 705 = .ok (.invokevirtual 102, 3) := by decide +kernel
theorem dlw_708 : decode code 708 = .ok (.if_icmp .eq 77, 3) := by decide +kernel
theorem dlw_711 : decode code 711 = .ok (.iconst 0, 1) := by decide +kernel
theorem dlw_712 : decode code 712 = .ok (.ireturn, 1) := by decide +kernel
theorem dlw_713 : decode code 713 = .ok (.aload_n 1, 1) := by decide +kernel
theorem dlw_714 : decode code 714 = .ok (.aload_n 0, 1) := by decide +kernel
theorem dlw_715 : decode code 715 = .ok (.iload_n 3, 1) := by decide +kernel
theorem dlw_716 : decode code 716 = .ok (.iconst 1, 1) := by decide +kernel
theorem dlw_717 : decode code 717 = .ok (.iadd, 1) := by decide +kernel
theorem dlw_718 : decode code 718 = .ok (.iaload, 1) := by decide +kernel
theorem dlw_719 : decode code 719 = .ok (.invokevirtual 103, 3) := by decide +kernel
theorem dlw_722 : decode code 722 = .ok (.aload_n 2, 1) := by decide +kernel
theorem dlw_723 : decode code 723 = .ok (.aload_n 0, 1) := by decide +kernel
theorem dlw_724 : decode code 724 = .ok (.iload_n 3, 1) := by decide +kernel
theorem dlw_725 : decode code 725 = .ok (.iconst 1, 1) := by decide +kernel
theorem dlw_726 : decode code 726 = .ok (.iadd, 1) := by decide +kernel
theorem dlw_727 : decode code 727 = .ok (.iaload, 1) := by decide +kernel
theorem dlw_728 : decode code 728 = .ok (.invokevirtual 106, 3) := by decide +kernel
theorem dlw_731 : decode code 731 = .ok (.if_icmp .eq 54, 3) := by decide +kernel
theorem dlw_734 : decode code 734 = .ok (.iconst 0, 1) := by decide +kernel
theorem dlw_735 : decode code 735 = .ok (.ireturn, 1) := by decide +kernel
theorem dlw_736 : decode code 736 = .ok (.aload_n 1, 1) := by decide +kernel
theorem dlw_737 : decode code 737 = .ok (.invokevirtual 107, 3) := by decide +kernel
theorem dlw_740 : decode code 740 = .ok (.aload_n 2, 1) := by decide +kernel
theorem dlw_741 : decode code 741 = .ok (.invokevirtual 110, 3) := by decide +kernel
theorem dlw_744 : decode code 744 = .ok (.if_icmp .eq 41, 3) := by decide +kernel
theorem dlw_747 : decode code 747 = .ok (.iconst 0, 1) := by decide +kernel
theorem dlw_748 : decode code 748 = .ok (.ireturn, 1) := by decide +kernel
theorem dlw_749 : decode code 749 = .ok (.aload_n 1, 1) := by decide +kernel
theorem dlw_750 : decode code 750 = .ok (.invokevirtual 111, 3) := by decide +kernel
theorem dlw_753 : decode code 753 = .ok (.aload_n 2, 1) := by decide +kernel
theorem dlw_754 : decode code 754 = .ok (.invokevirtual 114, 3) := by decide +kernel
theorem dlw_757 : decode code 757 = .ok (.if_icmp .eq 28, 3) := by decide +kernel
theorem dlw_760 : decode code 760 = .ok (.iconst 0, 1) := by decide +kernel
theorem dlw_761 : decode code 761 = .ok (.ireturn, 1) := by decide +kernel
theorem dlw_762 : decode code 762 = .ok (.aload_n 1, 1) := by decide +kernel
theorem dlw_763 : decode code 763 = .ok (.aload_n 0, 1) := by decide +kernel
theorem dlw_764 : decode code 764 = .ok (.iload_n 3, 1) := by decide +kernel
theorem dlw_765 : decode code 765 = .ok (.iconst 1, 1) := by decide +kernel
theorem dlw_766 : decode code 766 = .ok (.iadd, 1) := by decide +kernel
theorem dlw_767 : decode code 767 = .ok (.iaload, 1) := by decide +kernel
theorem dlw_768 : decode code 768 = .ok (.invokevirtual 115, 3) := by decide +kernel
theorem dlw_771 : decode code 771 = .ok (.aload_n 2, 1) := by decide +kernel
theorem dlw_772 : decode code 772 = .ok (.aload_n 0, 1) := by decide +kernel
theorem dlw_773 : decode code 773 = .ok (.iload_n 3, 1) := by decide +kernel
theorem dlw_774 : decode code 774 = .ok (.iconst 1, 1) := by decide +kernel
theorem dlw_775 : decode code 775 = .ok (.iadd, 1) := by decide +kernel
theorem dlw_776 : decode code 776 = .ok (.iaload, 1) := by decide +kernel
theorem dlw_777 : decode code 777 = .ok (.invokevirtual 118, 3) := by decide +kernel
theorem dlw_780 : decode code 780 = .ok (.if_icmp .eq 5, 3) := by decide +kernel
theorem dlw_783 : decode code 783 = .ok (.iconst 0, 1) := by decide +kernel
theorem dlw_784 : decode code 784 = .ok (.ireturn, 1) := by decide +kernel
theorem dlw_785 : decode code 785 = .ok (.iinc 3 4, 3) := by decide +kernel
theorem dlw_788 : decode code 788 = .ok (.goto (-770), 3) := by decide +kernel
theorem dlw_791 : decode code 791 = .ok (.iconst 1, 1) := by decide +kernel
theorem dlw_792 : decode code 792 = .ok (.ireturn, 1) := by decide +kernel
