abbrev mL_law : Md := (yL_law, cL_law, 4, (some .boolean))
theorem d_L_law_0 : decode cL_law 0 = .ok (.new 7, 3) := by decide +kernel
theorem d_L_law_3 : decode cL_law 3 = .ok (.dup, 1) := by decide +kernel
theorem d_L_law_4 : decode cL_law 4 = .ok (.invokespecial 9, 3) := by decide +kernel
theorem d_L_law_7 : decode cL_law 7 = .ok (.astore_n 1, 1) := by decide +kernel
theorem d_L_law_8 : decode cL_law 8 = .ok (.new 10, 3) := by decide +kernel
theorem d_L_law_11 : decode cL_law 11 = .ok (.dup, 1) := by decide +kernel
theorem d_L_law_12 : decode cL_law 12 = .ok (.invokespecial 12, 3) := by decide +kernel
theorem d_L_law_15 : decode cL_law 15 = .ok (.astore_n 2, 1) := by decide +kernel
theorem d_L_law_16 : decode cL_law 16 = .ok (.iconst 0, 1) := by decide +kernel
theorem d_L_law_17 : decode cL_law 17 = .ok (.istore_n 3, 1) := by decide +kernel
theorem d_L_law_18 : decode cL_law 18 = .ok (.iload_n 3, 1) := by decide +kernel
theorem d_L_law_19 : decode cL_law 19 = .ok (.aload_n 0, 1) := by decide +kernel
theorem d_L_law_20 : decode cL_law 20 = .ok (.arraylength, 1) := by decide +kernel
theorem d_L_law_21 : decode cL_law 21 = .ok (.iconst 5, 1) := by decide +kernel
theorem d_L_law_22 : decode cL_law 22 = .ok (.isub, 1) := by decide +kernel
theorem d_L_law_23 : decode cL_law 23 = .ok (.if_icmp .gt 984, 3) := by decide +kernel
theorem d_L_law_26 : decode cL_law 26 = .ok (.aload_n 0, 1) := by decide +kernel
theorem d_L_law_27 : decode cL_law 27 = .ok (.iload_n 3, 1) := by decide +kernel
theorem d_L_law_28 : decode cL_law 28 = .ok (.iaload, 1) := by decide +kernel
theorem d_L_law_29 : decode cL_law 29 = .ok (.bipush 31, 2) := by decide +kernel
theorem d_L_law_31 : decode cL_law 31 = .ok (.iand, 1) := by decide +kernel
theorem d_L_law_32 : decode cL_law 32 = .ok (.tableswitch 969 0 28 #[132, 155, 178, 191, 204, 227, 260, 303, 326, 349, 382, 405, 428, 461, 504, 547, 590, 613, 626, 649, 682, 715, 738, 761, 794, 837, 880, 933, 946], 132) := by decide +kernel
theorem d_L_law_164 : decode cL_law 164 = .ok (.aload_n 1, 1) := by decide +kernel
theorem d_L_law_165 : decode cL_law 165 = .ok (.aload_n 0, 1) := by decide +kernel
theorem d_L_law_166 : decode cL_law 166 = .ok (.iload_n 3, 1) := by decide +kernel
theorem d_L_law_167 : decode cL_law 167 = .ok (.iconst 1, 1) := by decide +kernel
theorem d_L_law_168 : decode cL_law 168 = .ok (.iadd, 1) := by decide +kernel
theorem d_L_law_169 : decode cL_law 169 = .ok (.iaload, 1) := by decide +kernel
theorem d_L_law_170 : decode cL_law 170 = .ok (.invokevirtual 13, 3) := by decide +kernel
theorem d_L_law_173 : decode cL_law 173 = .ok (.aload_n 2, 1) := by decide +kernel
theorem d_L_law_174 : decode cL_law 174 = .ok (.aload_n 0, 1) := by decide +kernel
theorem d_L_law_175 : decode cL_law 175 = .ok (.iload_n 3, 1) := by decide +kernel
theorem d_L_law_176 : decode cL_law 176 = .ok (.iconst 1, 1) := by decide +kernel
theorem d_L_law_177 : decode cL_law 177 = .ok (.iadd, 1) := by decide +kernel
theorem d_L_law_178 : decode cL_law 178 = .ok (.iaload, 1) := by decide +kernel
theorem d_L_law_179 : decode cL_law 179 = .ok (.invokevirtual 17, 3) := by decide +kernel
theorem d_L_law_182 : decode cL_law 182 = .ok (.if_icmp .eq 819, 3) := by decide +kernel
theorem d_L_law_185 : decode cL_law 185 = .ok (.iconst 0, 1) := by decide +kernel
theorem d_L_law_186 : decode cL_law 186 = .ok (.ireturn, 1) := by decide +kernel
theorem d_L_law_187 : decode cL_law 187 = .ok (.aload_n 1, 1) := by decide +kernel
theorem d_L_law_188 : decode cL_law 188 = .ok (.aload_n 0, 1) := by decide +kernel
theorem d_L_law_189 : decode cL_law 189 = .ok (.iload_n 3, 1) := by decide +kernel
theorem d_L_law_190 : decode cL_law 190 = .ok (.iconst 1, 1) := by decide +kernel
theorem d_L_law_191 : decode cL_law 191 = .ok (.iadd, 1) := by decide +kernel
theorem d_L_law_192 : decode cL_law 192 = .ok (.iaload, 1) := by decide +kernel
theorem d_L_law_193 : decode cL_law 193 = .ok (.invokevirtual 18, 3) := by decide +kernel
theorem d_L_law_196 : decode cL_law 196 = .ok (.aload_n 2, 1) := by decide +kernel
theorem d_L_law_197 : decode cL_law 197 = .ok (.aload_n 0, 1) := by decide +kernel
theorem d_L_law_198 : decode cL_law 198 = .ok (.iload_n 3, 1) := by decide +kernel
theorem d_L_law_199 : decode cL_law 199 = .ok (.iconst 1, 1) := by decide +kernel
theorem d_L_law_200 : decode cL_law 200 = .ok (.iadd, 1) := by decide +kernel
theorem d_L_law_201 : decode cL_law 201 = .ok (.iaload, 1) := by decide +kernel
theorem d_L_law_202 : decode cL_law 202 = .ok (.invokevirtual 21, 3) := by decide +kernel
theorem d_L_law_205 : decode cL_law 205 = .ok (.if_icmp .eq 796, 3) := by decide +kernel
theorem d_L_law_208 : decode cL_law 208 = .ok (.iconst 0, 1) := by decide +kernel
theorem d_L_law_209 : decode cL_law 209 = .ok (.ireturn, 1) := by decide +kernel
theorem d_L_law_210 : decode cL_law 210 = .ok (.aload_n 1, 1) := by decide +kernel
theorem d_L_law_211 : decode cL_law 211 = .ok (.invokevirtual 22, 3) := by decide +kernel
theorem d_L_law_214 : decode cL_law 214 = .ok (.aload_n 2, 1) := by decide +kernel
theorem d_L_law_215 : decode cL_law 215 = .ok (.invokevirtual 26, 3) := by decide +kernel
theorem d_L_law_218 : decode cL_law 218 = .ok (.if_icmp .eq 783, 3) := by decide +kernel
theorem d_L_law_221 : decode cL_law 221 = .ok (.iconst 0, 1) := by decide +kernel
theorem d_L_law_222 : decode cL_law 222 = .ok (.ireturn, 1) := by decide +kernel
theorem d_L_law_223 : decode cL_law 223 = .ok (.aload_n 1, 1) := by decide +kernel
theorem d_L_law_224 : decode cL_law 224 = .ok (.invokevirtual 27, 3) := by decide +kernel
theorem d_L_law_227 : decode cL_law 227 = .ok (.aload_n 2, 1) := by decide +kernel
theorem d_L_law_228 : decode cL_law 228 = .ok (.invokevirtual 30, 3) := by decide +kernel
theorem d_L_law_231 : decode cL_law 231 = .ok (.if_icmp .eq 770, 3) := by decide +kernel
theorem d_L_law_234 : decode cL_law 234 = .ok (.iconst 0, 1) := by decide +kernel
theorem d_L_law_235 : decode cL_law 235 = .ok (.ireturn, 1) := by decide +kernel
theorem d_L_law_236 : decode cL_law 236 = .ok (.aload_n 1, 1) := by decide +kernel
theorem d_L_law_237 : decode cL_law 237 = .ok (.aload_n 0, 1) := by decide +kernel
theorem d_L_law_238 : decode cL_law 238 = .ok (.iload_n 3, 1) := by decide +kernel
theorem d_L_law_239 : decode cL_law 239 = .ok (.iconst 1, 1) := by decide +kernel
theorem d_L_law_240 : decode cL_law 240 = .ok (.iadd, 1) := by decide +kernel
theorem d_L_law_241 : decode cL_law 241 = .ok (.iaload, 1) := by decide +kernel
theorem d_L_law_242 : decode cL_law 242 = .ok (.invokevirtual 31, 3) := by decide +kernel
theorem d_L_law_245 : decode cL_law 245 = .ok (.aload_n 2, 1) := by decide +kernel
theorem d_L_law_246 : decode cL_law 246 = .ok (.aload_n 0, 1) := by decide +kernel
theorem d_L_law_247 : decode cL_law 247 = .ok (.iload_n 3, 1) := by decide +kernel
theorem d_L_law_248 : decode cL_law 248 = .ok (.iconst 1, 1) := by decide +kernel
theorem d_L_law_249 : decode cL_law 249 = .ok (.iadd, 1) := by decide +kernel
theorem d_L_law_250 : decode cL_law 250 = .ok (.iaload, 1) := by decide +kernel
theorem d_L_law_251 : decode cL_law 251 = .ok (.invokevirtual 34, 3) := by decide +kernel
theorem d_L_law_254 : decode cL_law 254 = .ok (.if_icmp .eq 747, 3) := by decide +kernel
theorem d_L_law_257 : decode cL_law 257 = .ok (.iconst 0, 1) := by decide +kernel
theorem d_L_law_258 : decode cL_law 258 = .ok (.ireturn, 1) := by decide +kernel
theorem d_L_law_259 : decode cL_law 259 = .ok (.aload_n 1, 1) := by decide +kernel
theorem d_L_law_260 : decode cL_law 260 = .ok (.aload_n 0, 1) := by decide +kernel
theorem d_L_law_261 : decode cL_law 261 = .ok (.iload_n 3, 1) := by decide +kernel
theorem d_L_law_262 : decode cL_law 262 = .ok (.iconst 1, 1) := by decide +kernel
theorem d_L_law_263 : decode cL_law 263 = .ok (.iadd, 1) := by decide +kernel
theorem d_L_law_264 : decode cL_law 264 = .ok (.iaload, 1) := by decide +kernel
theorem d_L_law_265 : decode cL_law 265 = .ok (.aload_n 0, 1) := by decide +kernel
theorem d_L_law_266 : decode cL_law 266 = .ok (.iload_n 3, 1) := by decide +kernel
theorem d_L_law_267 : decode cL_law 267 = .ok (.iconst 2, 1) := by decide +kernel
theorem d_L_law_268 : decode cL_law 268 = .ok (.iadd, 1) := by decide +kernel
theorem d_L_law_269 : decode cL_law 269 = .ok (.iaload, 1) := by decide +kernel
theorem d_L_law_270 : decode cL_law 270 = .ok (.invokevirtual 35, 3) := by decide +kernel
theorem d_L_law_273 : decode cL_law 273 = .ok (.aload_n 2, 1) := by decide +kernel
theorem d_L_law_274 : decode cL_law 274 = .ok (.aload_n 0, 1) := by decide +kernel
theorem d_L_law_275 : decode cL_law 275 = .ok (.iload_n 3, 1) := by decide +kernel
theorem d_L_law_276 : decode cL_law 276 = .ok (.iconst 1, 1) := by decide +kernel
theorem d_L_law_277 : decode cL_law 277 = .ok (.iadd, 1) := by decide +kernel
theorem d_L_law_278 : decode cL_law 278 = .ok (.iaload, 1) := by decide +kernel
theorem d_L_law_279 : decode cL_law 279 = .ok (.aload_n 0, 1) := by decide +kernel
theorem d_L_law_280 : decode cL_law 280 = .ok (.iload_n 3, 1) := by decide +kernel
theorem d_L_law_281 : decode cL_law 281 = .ok (.iconst 2, 1) := by decide +kernel
theorem d_L_law_282 : decode cL_law 282 = .ok (.iadd, 1) := by decide +kernel
theorem d_L_law_283 : decode cL_law 283 = .ok (.iaload, 1) := by decide +kernel
theorem d_L_law_284 : decode cL_law 284 = .ok (.invokevirtual 39, 3) := by decide +kernel
theorem d_L_law_287 : decode cL_law 287 = .ok (.if_icmp .eq 714, 3) := by decide +kernel
theorem d_L_law_290 : decode cL_law 290 = .ok (.iconst 0, 1) := by decide +kernel
theorem d_L_law_291 : decode cL_law 291 = .ok (.ireturn, 1) := by decide +kernel
theorem d_L_law_292 : decode cL_law 292 = .ok (.aload_n 1, 1) := by decide +kernel
theorem d_L_law_293 : decode cL_law 293 = .ok (.aload_n 0, 1) := by decide +kernel
theorem d_L_law_294 : decode cL_law 294 = .ok (.iload_n 3, 1) := by decide +kernel
theorem d_L_law_295 : decode cL_law 295 = .ok (.iconst 1, 1) := by decide +kernel
theorem d_L_law_296 : decode cL_law 296 = .ok (.iadd, 1) := by decide +kernel
theorem d_L_law_297 : decode cL_law 297 = .ok (.iaload, 1) := by decide +kernel
theorem d_L_law_298 : decode cL_law 298 = .ok (.aload_n 0, 1) := by decide +kernel
theorem d_L_law_299 : decode cL_law 299 = .ok (.iload_n 3, 1) := by decide +kernel
theorem d_L_law_300 : decode cL_law 300 = .ok (.iconst 2, 1) := by decide +kernel
theorem d_L_law_301 : decode cL_law 301 = .ok (.iadd, 1) := by decide +kernel
theorem d_L_law_302 : decode cL_law 302 = .ok (.iaload, 1) := by decide +kernel
theorem d_L_law_303 : decode cL_law 303 = .ok (.aload_n 0, 1) := by decide +kernel
theorem d_L_law_304 : decode cL_law 304 = .ok (.iload_n 3, 1) := by decide +kernel
theorem d_L_law_305 : decode cL_law 305 = .ok (.iconst 3, 1) := by decide +kernel
theorem d_L_law_306 : decode cL_law 306 = .ok (.iadd, 1) := by decide +kernel
theorem d_L_law_307 : decode cL_law 307 = .ok (.iaload, 1) := by decide +kernel
theorem d_L_law_308 : decode cL_law 308 = .ok (.invokevirtual 40, 3) := by decide +kernel
theorem d_L_law_311 : decode cL_law 311 = .ok (.aload_n 2, 1) := by decide +kernel
theorem d_L_law_312 : decode cL_law 312 = .ok (.aload_n 0, 1) := by decide +kernel
theorem d_L_law_313 : decode cL_law 313 = .ok (.iload_n 3, 1) := by decide +kernel
theorem d_L_law_314 : decode cL_law 314 = .ok (.iconst 1, 1) := by decide +kernel
theorem d_L_law_315 : decode cL_law 315 = .ok (.iadd, 1) := by decide +kernel
theorem d_L_law_316 : decode cL_law 316 = .ok (.iaload, 1) := by decide +kernel
theorem d_L_law_317 : decode cL_law 317 = .ok (.aload_n 0, 1) := by decide +kernel
theorem d_L_law_318 : decode cL_law 318 = .ok (.iload_n 3, 1) := by decide +kernel
theorem d_L_law_319 : decode cL_law 319 = .ok (.iconst 2, 1) := by decide +kernel
theorem d_L_law_320 : decode cL_law 320 = .ok (.iadd, 1) := by decide +kernel
theorem d_L_law_321 : decode cL_law 321 = .ok (.iaload, 1) := by decide +kernel
theorem d_L_law_322 : decode cL_law 322 = .ok (.aload_n 0, 1) := by decide +kernel
theorem d_L_law_323 : decode cL_law 323 = .ok (.iload_n 3, 1) := by decide +kernel
theorem d_L_law_324 : decode cL_law 324 = .ok (.iconst 3, 1) := by decide +kernel
theorem d_L_law_325 : decode cL_law 325 = .ok (.iadd, 1) := by decide +kernel
theorem d_L_law_326 : decode cL_law 326 = .ok (.iaload, 1) := by decide +kernel
theorem d_L_law_327 : decode cL_law 327 = .ok (.invokevirtual 44, 3) := by decide +kernel
theorem d_L_law_330 : decode cL_law 330 = .ok (.if_icmp .eq 671, 3) := by decide +kernel
theorem d_L_law_333 : decode cL_law 333 = .ok (.iconst 0, 1) := by decide +kernel
theorem d_L_law_334 : decode cL_law 334 = .ok (.ireturn, 1) := by decide +kernel
theorem d_L_law_335 : decode cL_law 335 = .ok (.aload_n 1, 1) := by decide +kernel
theorem d_L_law_336 : decode cL_law 336 = .ok (.aload_n 0, 1) := by decide +kernel
theorem d_L_law_337 : decode cL_law 337 = .ok (.iload_n 3, 1) := by decide +kernel
theorem d_L_law_338 : decode cL_law 338 = .ok (.iconst 1, 1) := by decide +kernel
theorem d_L_law_339 : decode cL_law 339 = .ok (.iadd, 1) := by decide +kernel
theorem d_L_law_340 : decode cL_law 340 = .ok (.iaload, 1) := by decide +kernel
theorem d_L_law_341 : decode cL_law 341 = .ok (.invokevirtual 45, 3) := by decide +kernel
theorem d_L_law_344 : decode cL_law 344 = .ok (.aload_n 2, 1) := by decide +kernel
theorem d_L_law_345 : decode cL_law 345 = .ok (.aload_n 0, 1) := by decide +kernel
theorem d_L_law_346 : decode cL_law 346 = .ok (.iload_n 3, 1) := by decide +kernel
theorem d_L_law_347 : decode cL_law 347 = .ok (.iconst 1, 1) := by decide +kernel
theorem d_L_law_348 : decode cL_law 348 = .ok (.iadd, 1) := by decide +kernel
theorem d_L_law_349 : decode cL_law 349 = .ok (.iaload, 1) := by decide +kernel
theorem d_L_law_350 : decode cL_law 350 = .ok (.invokevirtual 48, 3) := by decide +kernel
theorem d_L_law_353 : decode cL_law 353 = .ok (.if_icmp .eq 648, 3) := by decide +kernel
theorem d_L_law_356 : decode cL_law 356 = .ok (.iconst 0, 1) := by decide +kernel
theorem d_L_law_357 : decode cL_law 357 = .ok (.ireturn, 1) := by decide +kernel
theorem d_L_law_358 : decode cL_law 358 = .ok (.aload_n 1, 1) := by decide +kernel
theorem d_L_law_359 : decode cL_law 359 = .ok (.aload_n 0, 1) := by decide +kernel
theorem d_L_law_360 : decode cL_law 360 = .ok (.iload_n 3, 1) := by decide +kernel
theorem d_L_law_361 : decode cL_law 361 = .ok (.iconst 1, 1) := by decide +kernel
theorem d_L_law_362 : decode cL_law 362 = .ok (.iadd, 1) := by decide +kernel
theorem d_L_law_363 : decode cL_law 363 = .ok (.iaload, 1) := by decide +kernel
theorem d_L_law_364 : decode cL_law 364 = .ok (.invokevirtual 49, 3) := by decide +kernel
theorem d_L_law_367 : decode cL_law 367 = .ok (.aload_n 2, 1) := by decide +kernel
theorem d_L_law_368 : decode cL_law 368 = .ok (.aload_n 0, 1) := by decide +kernel
theorem d_L_law_369 : decode cL_law 369 = .ok (.iload_n 3, 1) := by decide +kernel
theorem d_L_law_370 : decode cL_law 370 = .ok (.iconst 1, 1) := by decide +kernel
theorem d_L_law_371 : decode cL_law 371 = .ok (.iadd, 1) := by decide +kernel
theorem d_L_law_372 : decode cL_law 372 = .ok (.iaload, 1) := by decide +kernel
theorem d_L_law_373 : decode cL_law 373 = .ok (.invokevirtual 52, 3) := by decide +kernel
theorem d_L_law_376 : decode cL_law 376 = .ok (.if_icmp .eq 625, 3) := by decide +kernel
theorem d_L_law_379 : decode cL_law 379 = .ok (.iconst 0, 1) := by decide +kernel
theorem d_L_law_380 : decode cL_law 380 = .ok (.ireturn, 1) := by decide +kernel
theorem d_L_law_381 : decode cL_law 381 = .ok (.aload_n 1, 1) := by decide +kernel
theorem d_L_law_382 : decode cL_law 382 = .ok (.aload_n 0, 1) := by decide +kernel
theorem d_L_law_383 : decode cL_law 383 = .ok (.iload_n 3, 1) := by decide +kernel
theorem d_L_law_384 : decode cL_law 384 = .ok (.iconst 1, 1) := by decide +kernel
theorem d_L_law_385 : decode cL_law 385 = .ok (.iadd, 1) := by decide +kernel
theorem d_L_law_386 : decode cL_law 386 = .ok (.iaload, 1) := by decide +kernel
theorem d_L_law_387 : decode cL_law 387 = .ok (.aload_n 0, 1) := by decide +kernel
theorem d_L_law_388 : decode cL_law 388 = .ok (.iload_n 3, 1) := by decide +kernel
theorem d_L_law_389 : decode cL_law 389 = .ok (.iconst 2, 1) := by decide +kernel
theorem d_L_law_390 : decode cL_law 390 = .ok (.iadd, 1) := by decide +kernel
theorem d_L_law_391 : decode cL_law 391 = .ok (.iaload, 1) := by decide +kernel
theorem d_L_law_392 : decode cL_law 392 = .ok (.invokevirtual 53, 3) := by decide +kernel
theorem d_L_law_395 : decode cL_law 395 = .ok (.aload_n 2, 1) := by decide +kernel
theorem d_L_law_396 : decode cL_law 396 = .ok (.aload_n 0, 1) := by decide +kernel
theorem d_L_law_397 : decode cL_law 397 = .ok (.iload_n 3, 1) := by decide +kernel
theorem d_L_law_398 : decode cL_law 398 = .ok (.iconst 1, 1) := by decide +kernel
theorem d_L_law_399 : decode cL_law 399 = .ok (.iadd, 1) := by decide +kernel
theorem d_L_law_400 : decode cL_law 400 = .ok (.iaload, 1) := by decide +kernel
theorem d_L_law_401 : decode cL_law 401 = .ok (.aload_n 0, 1) := by decide +kernel
theorem d_L_law_402 : decode cL_law 402 = .ok (.iload_n 3, 1) := by decide +kernel
theorem d_L_law_403 : decode cL_law 403 = .ok (.iconst 2, 1) := by decide +kernel
theorem d_L_law_404 : decode cL_law 404 = .ok (.iadd, 1) := by decide +kernel
theorem d_L_law_405 : decode cL_law 405 = .ok (.iaload, 1) := by decide +kernel
theorem d_L_law_406 : decode cL_law 406 = .ok (.invokevirtual 56, 3) := by decide +kernel
theorem d_L_law_409 : decode cL_law 409 = .ok (.if_icmp .eq 592, 3) := by decide +kernel
theorem d_L_law_412 : decode cL_law 412 = .ok (.iconst 0, 1) := by decide +kernel
theorem d_L_law_413 : decode cL_law 413 = .ok (.ireturn, 1) := by decide +kernel
theorem d_L_law_414 : decode cL_law 414 = .ok (.aload_n 1, 1) := by decide +kernel
theorem d_L_law_415 : decode cL_law 415 = .ok (.aload_n 0, 1) := by decide +kernel
theorem d_L_law_416 : decode cL_law 416 = .ok (.iload_n 3, 1) := by decide +kernel
theorem d_L_law_417 : decode cL_law 417 = .ok (.iconst 1, 1) := by decide +kernel
theorem d_L_law_418 : decode cL_law 418 = .ok (.iadd, 1) := by decide +kernel
theorem d_L_law_419 : decode cL_law 419 = .ok (.iaload, 1) := by decide +kernel
theorem d_L_law_420 : decode cL_law 420 = .ok (.invokevirtual 57, 3) := by decide +kernel
theorem d_L_law_423 : decode cL_law 423 = .ok (.aload_n 2, 1) := by decide +kernel
theorem d_L_law_424 : decode cL_law 424 = .ok (.aload_n 0, 1) := by decide +kernel
theorem d_L_law_425 : decode cL_law 425 = .ok (.iload_n 3, 1) := by decide +kernel
theorem d_L_law_426 : decode cL_law 426 = .ok (.iconst 1, 1) := by decide +kernel
theorem d_L_law_427 : decode cL_law 427 = .ok (.iadd, 1) := by decide +kernel
theorem d_L_law_428 : decode cL_law 428 = .ok (.iaload, 1) := by decide +kernel
theorem d_L_law_429 : decode cL_law 429 = .ok (.invokevirtual 60, 3) := by decide +kernel
theorem d_L_law_432 : decode cL_law 432 = .ok (.if_icmp .eq 569, 3) := by decide +kernel
theorem d_L_law_435 : decode cL_law 435 = .ok (.iconst 0, 1) := by decide +kernel
theorem d_L_law_436 : decode cL_law 436 = .ok (.ireturn, 1) := by decide +kernel
theorem d_L_law_437 : decode cL_law 437 = .ok (.aload_n 1, 1) := by decide +kernel
theorem d_L_law_438 : decode cL_law 438 = .ok (.aload_n 0, 1) := by decide +kernel
theorem d_L_law_439 : decode cL_law 439 = .ok (.iload_n 3, 1) := by decide +kernel
theorem d_L_law_440 : decode cL_law 440 = .ok (.iconst 1, 1) := by decide +kernel
theorem d_L_law_441 : decode cL_law 441 = .ok (.iadd, 1) := by decide +kernel
theorem d_L_law_442 : decode cL_law 442 = .ok (.iaload, 1) := by decide +kernel
theorem d_L_law_443 : decode cL_law 443 = .ok (.invokevirtual 61, 3) := by decide +kernel
theorem d_L_law_446 : decode cL_law 446 = .ok (.aload_n 2, 1) := by decide +kernel
theorem d_L_law_447 : decode cL_law 447 = .ok (.aload_n 0, 1) := by decide +kernel
theorem d_L_law_448 : decode cL_law 448 = .ok (.iload_n 3, 1) := by decide +kernel
theorem d_L_law_449 : decode cL_law 449 = .ok (.iconst 1, 1) := by decide +kernel
theorem d_L_law_450 : decode cL_law 450 = .ok (.iadd, 1) := by decide +kernel
theorem d_L_law_451 : decode cL_law 451 = .ok (.iaload, 1) := by decide +kernel
theorem d_L_law_452 : decode cL_law 452 = .ok (.invokevirtual 64, 3) := by decide +kernel
theorem d_L_law_455 : decode cL_law 455 = .ok (.if_icmp .eq 546, 3) := by decide +kernel
theorem d_L_law_458 : decode cL_law 458 = .ok (.iconst 0, 1) := by decide +kernel
theorem d_L_law_459 : decode cL_law 459 = .ok (.ireturn, 1) := by decide +kernel
theorem d_L_law_460 : decode cL_law 460 = .ok (.aload_n 1, 1) := by decide +kernel
theorem d_L_law_461 : decode cL_law 461 = .ok (.aload_n 0, 1) := by decide +kernel
theorem d_L_law_462 : decode cL_law 462 = .ok (.iload_n 3, 1) := by decide +kernel
theorem d_L_law_463 : decode cL_law 463 = .ok (.iconst 1, 1) := by decide +kernel
theorem d_L_law_464 : decode cL_law 464 = .ok (.iadd, 1) := by decide +kernel
theorem d_L_law_465 : decode cL_law 465 = .ok (.iaload, 1) := by decide +kernel
theorem d_L_law_466 : decode cL_law 466 = .ok (.aload_n 0, 1) := by decide +kernel
theorem d_L_law_467 : decode cL_law 467 = .ok (.iload_n 3, 1) := by decide +kernel
theorem d_L_law_468 : decode cL_law 468 = .ok (.iconst 2, 1) := by decide +kernel
theorem d_L_law_469 : decode cL_law 469 = .ok (.iadd, 1) := by decide +kernel
theorem d_L_law_470 : decode cL_law 470 = .ok (.iaload, 1) := by decide +kernel
theorem d_L_law_471 : decode cL_law 471 = .ok (.invokevirtual 65, 3) := by decide +kernel
theorem d_L_law_474 : decode cL_law 474 = .ok (.aload_n 2, 1) := by decide +kernel
theorem d_L_law_475 : decode cL_law 475 = .ok (.aload_n 0, 1) := by decide +kernel
theorem d_L_law_476 : decode cL_law 476 = .ok (.iload_n 3, 1) := by decide +kernel
theorem d_L_law_477 : decode cL_law 477 = .ok (.iconst 1, 1) := by decide +kernel
theorem d_L_law_478 : decode cL_law 478 = .ok (.iadd, 1) := by decide +kernel
theorem d_L_law_479 : decode cL_law 479 = .ok (.iaload, 1) := by decide +kernel
theorem d_L_law_480 : decode cL_law 480 = .ok (.aload_n 0, 1) := by decide +kernel
theorem d_L_law_481 : decode cL_law 481 = .ok (.iload_n 3, 1) := by decide +kernel
theorem d_L_law_482 : decode cL_law 482 = .ok (.iconst 2, 1) := by decide +kernel
theorem d_L_law_483 : decode cL_law 483 = .ok (.iadd, 1) := by decide +kernel
theorem d_L_law_484 : decode cL_law 484 = .ok (.iaload, 1) := by decide +kernel
theorem d_L_law_485 : decode cL_law 485 = .ok (.invokevirtual 68, 3) := by decide +kernel
theorem d_L_law_488 : decode cL_law 488 = .ok (.if_icmp .eq 513, 3) := by decide +kernel
theorem d_L_law_491 : decode cL_law 491 = .ok (.iconst 0, 1) := by decide +kernel
theorem d_L_law_492 : decode cL_law 492 = .ok (.ireturn, 1) := by decide +kernel
theorem d_L_law_493 : decode cL_law 493 = .ok (.aload_n 1, 1) := by decide +kernel
theorem d_L_law_494 : decode cL_law 494 = .ok (.aload_n 0, 1) := by decide +kernel
theorem d_L_law_495 : decode cL_law 495 = .ok (.iload_n 3, 1) := by decide +kernel
theorem d_L_law_496 : decode cL_law 496 = .ok (.iconst 1, 1) := by decide +kernel
theorem d_L_law_497 : decode cL_law 497 = .ok (.iadd, 1) := by decide +kernel
theorem d_L_law_498 : decode cL_law 498 = .ok (.iaload, 1) := by decide +kernel
theorem d_L_law_499 : decode cL_law 499 = .ok (.aload_n 0, 1) := by decide +kernel
theorem d_L_law_500 : decode cL_law 500 = .ok (.iload_n 3, 1) := by decide +kernel
theorem d_L_law_501 : decode cL_law 501 = .ok (.iconst 2, 1) := by decide +kernel
theorem d_L_law_502 : decode cL_law 502 = .ok (.iadd, 1) := by decide +kernel
theorem d_L_law_503 : decode cL_law 503 = .ok (.iaload, 1) := by decide +kernel
theorem d_L_law_504 : decode cL_law 504 = .ok (.aload_n 0, 1) := by decide +kernel
theorem d_L_law_505 : decode cL_law 505 = .ok (.iload_n 3, 1) := by decide +kernel
theorem d_L_law_506 : decode cL_law 506 = .ok (.iconst 3, 1) := by decide +kernel
theorem d_L_law_507 : decode cL_law 507 = .ok (.iadd, 1) := by decide +kernel
theorem d_L_law_508 : decode cL_law 508 = .ok (.iaload, 1) := by decide +kernel
theorem d_L_law_509 : decode cL_law 509 = .ok (.invokevirtual 69, 3) := by decide +kernel
theorem d_L_law_512 : decode cL_law 512 = .ok (.aload_n 2, 1) := by decide +kernel
theorem d_L_law_513 : decode cL_law 513 = .ok (.aload_n 0, 1) := by decide +kernel
theorem d_L_law_514 : decode cL_law 514 = .ok (.iload_n 3, 1) := by decide +kernel
theorem d_L_law_515 : decode cL_law 515 = .ok (.iconst 1, 1) := by decide +kernel
theorem d_L_law_516 : decode cL_law 516 = .ok (.iadd, 1) := by decide +kernel
theorem d_L_law_517 : decode cL_law 517 = .ok (.iaload, 1) := by decide +kernel
theorem d_L_law_518 : decode cL_law 518 = .ok (.aload_n 0, 1) := by decide +kernel
theorem d_L_law_519 : decode cL_law 519 = .ok (.iload_n 3, 1) := by decide +kernel
theorem d_L_law_520 : decode cL_law 520 = .ok (.iconst 2, 1) := by decide +kernel
theorem d_L_law_521 : decode cL_law 521 = .ok (.iadd, 1) := by decide +kernel
theorem d_L_law_522 : decode cL_law 522 = .ok (.iaload, 1) := by decide +kernel
theorem d_L_law_523 : decode cL_law 523 = .ok (.aload_n 0, 1) := by decide +kernel
theorem d_L_law_524 : decode cL_law 524 = .ok (.iload_n 3, 1) := by decide +kernel
theorem d_L_law_525 : decode cL_law 525 = .ok (.iconst 3, 1) := by decide +kernel
theorem d_L_law_526 : decode cL_law 526 = .ok (.iadd, 1) := by decide +kernel
theorem d_L_law_527 : decode cL_law 527 = .ok (.iaload, 1) := by decide +kernel
theorem d_L_law_528 : decode cL_law 528 = .ok (.invokevirtual 72, 3) := by decide +kernel
theorem d_L_law_531 : decode cL_law 531 = .ok (.if_icmp .eq 470, 3) := by decide +kernel
theorem d_L_law_534 : decode cL_law 534 = .ok (.iconst 0, 1) := by decide +kernel
theorem d_L_law_535 : decode cL_law 535 = .ok (.ireturn, 1) := by decide +kernel
theorem d_L_law_536 : decode cL_law 536 = .ok (.aload_n 1, 1) := by decide +kernel
theorem d_L_law_537 : decode cL_law 537 = .ok (.aload_n 0, 1) := by decide +kernel
theorem d_L_law_538 : decode cL_law 538 = .ok (.iload_n 3, 1) := by decide +kernel
theorem d_L_law_539 : decode cL_law 539 = .ok (.iconst 1, 1) := by decide +kernel
theorem d_L_law_540 : decode cL_law 540 = .ok (.iadd, 1) := by decide +kernel
theorem d_L_law_541 : decode cL_law 541 = .ok (.iaload, 1) := by decide +kernel
theorem d_L_law_542 : decode cL_law 542 = .ok (.aload_n 0, 1) := by decide +kernel
theorem d_L_law_543 : decode cL_law 543 = .ok (.iload_n 3, 1) := by decide +kernel
theorem d_L_law_544 : decode cL_law 544 = .ok (.iconst 2, 1) := by decide +kernel
theorem d_L_law_545 : decode cL_law 545 = .ok (.iadd, 1) := by decide +kernel
theorem d_L_law_546 : decode cL_law 546 = .ok (.iaload, 1) := by decide +kernel
theorem d_L_law_547 : decode cL_law 547 = .ok (.aload_n 0, 1) := by decide +kernel
theorem d_L_law_548 : decode cL_law 548 = .ok (.iload_n 3, 1) := by decide +kernel
theorem d_L_law_549 : decode cL_law 549 = .ok (.iconst 3, 1) := by decide +kernel
theorem d_L_law_550 : decode cL_law 550 = .ok (.iadd, 1) := by decide +kernel
theorem d_L_law_551 : decode cL_law 551 = .ok (.iaload, 1) := by decide +kernel
theorem d_L_law_552 : decode cL_law 552 = .ok (.invokevirtual 73, 3) := by decide +kernel
theorem d_L_law_555 : decode cL_law 555 = .ok (.aload_n 2, 1) := by decide +kernel
theorem d_L_law_556 : decode cL_law 556 = .ok (.aload_n 0, 1) := by decide +kernel
theorem d_L_law_557 : decode cL_law 557 = .ok (.iload_n 3, 1) := by decide +kernel
theorem d_L_law_558 : decode cL_law 558 = .ok (.iconst 1, 1) := by decide +kernel
theorem d_L_law_559 : decode cL_law 559 = .ok (.iadd, 1) := by decide +kernel
theorem d_L_law_560 : decode cL_law 560 = .ok (.iaload, 1) := by decide +kernel
theorem d_L_law_561 : decode cL_law 561 = .ok (.aload_n 0, 1) := by decide +kernel
theorem d_L_law_562 : decode cL_law 562 = .ok (.iload_n 3, 1) := by decide +kernel
theorem d_L_law_563 : decode cL_law 563 = .ok (.iconst 2, 1) := by decide +kernel
theorem d_L_law_564 : decode cL_law 564 = .ok (.iadd, 1) := by decide +kernel
theorem d_L_law_565 : decode cL_law 565 = .ok (.iaload, 1) := by decide +kernel
theorem d_L_law_566 : decode cL_law 566 = .ok (.aload_n 0, 1) := by decide +kernel
theorem d_L_law_567 : decode cL_law 567 = .ok (.iload_n 3, 1) := by decide +kernel
theorem d_L_law_568 : decode cL_law 568 = .ok (.iconst 3, 1) := by decide +kernel
theorem d_L_law_569 : decode cL_law 569 = .ok (.iadd, 1) := by decide +kernel
theorem d_L_law_570 : decode cL_law 570 = .ok (.iaload, 1) := by decide +kernel
theorem d_L_law_571 : decode cL_law 571 = .ok (.invokevirtual 76, 3) := by decide +kernel
theorem d_L_law_574 : decode cL_law 574 = .ok (.if_icmp .eq 427, 3) := by decide +kernel
theorem d_L_law_577 : decode cL_law 577 = .ok (.iconst 0, 1) := by decide +kernel
theorem d_L_law_578 : decode cL_law 578 = .ok (.ireturn, 1) := by decide +kernel
theorem d_L_law_579 : decode cL_law 579 = .ok (.aload_n 1, 1) := by decide +kernel
theorem d_L_law_580 : decode cL_law 580 = .ok (.aload_n 0, 1) := by decide +kernel
theorem d_L_law_581 : decode cL_law 581 = .ok (.iload_n 3, 1) := by decide +kernel
theorem d_L_law_582 : decode cL_law 582 = .ok (.iconst 1, 1) := by decide +kernel
theorem d_L_law_583 : decode cL_law 583 = .ok (.iadd, 1) := by decide +kernel
theorem d_L_law_584 : decode cL_law 584 = .ok (.iaload, 1) := by decide +kernel
theorem d_L_law_585 : decode cL_law 585 = .ok (.aload_n 0, 1) := by decide +kernel
theorem d_L_law_586 : decode cL_law 586 = .ok (.iload_n 3, 1) := by decide +kernel
theorem d_L_law_587 : decode cL_law 587 = .ok (.iconst 2, 1) := by decide +kernel
theorem d_L_law_588 : decode cL_law 588 = .ok (.iadd, 1) := by decide +kernel
theorem d_L_law_589 : decode cL_law 589 = .ok (.iaload, 1) := by decide +kernel
theorem d_L_law_590 : decode cL_law 590 = .ok (.aload_n 0, 1) := by decide +kernel
theorem d_L_law_591 : decode cL_law 591 = .ok (.iload_n 3, 1) := by decide +kernel
theorem d_L_law_592 : decode cL_law 592 = .ok (.iconst 3, 1) := by decide +kernel
theorem d_L_law_593 : decode cL_law 593 = .ok (.iadd, 1) := by decide +kernel
theorem d_L_law_594 : decode cL_law 594 = .ok (.iaload, 1) := by decide +kernel
theorem d_L_law_595 : decode cL_law 595 = .ok (.invokevirtual 77, 3) := by decide +kernel
theorem d_L_law_598 : decode cL_law 598 = .ok (.aload_n 2, 1) := by decide +kernel
theorem d_L_law_599 : decode cL_law 599 = .ok (.aload_n 0, 1) := by decide +kernel
theorem d_L_law_600 : decode cL_law 600 = .ok (.iload_n 3, 1) := by decide +kernel
theorem d_L_law_601 : decode cL_law 601 = .ok (.iconst 1, 1) := by decide +kernel
theorem d_L_law_602 : decode cL_law 602 = .ok (.iadd, 1) := by decide +kernel
theorem d_L_law_603 : decode cL_law 603 = .ok (.iaload, 1) := by decide +kernel
theorem d_L_law_604 : decode cL_law 604 = .ok (.aload_n 0, 1) := by decide +kernel
theorem d_L_law_605 : decode cL_law 605 = .ok (.iload_n 3, 1) := by decide +kernel
theorem d_L_law_606 : decode cL_law 606 = .ok (.iconst 2, 1) := by decide +kernel
theorem d_L_law_607 : decode cL_law 607 = .ok (.iadd, 1) := by decide +kernel
theorem d_L_law_608 : decode cL_law 608 = .ok (.iaload, 1) := by decide +kernel
theorem d_L_law_609 : decode cL_law 609 = .ok (.aload_n 0, 1) := by decide +kernel
theorem d_L_law_610 : decode cL_law 610 = .ok (.iload_n 3, 1) := by decide +kernel
theorem d_L_law_611 : decode cL_law 611 = .ok (.iconst 3, 1) := by decide +kernel
theorem d_L_law_612 : decode cL_law 612 = .ok (.iadd, 1) := by decide +kernel
theorem d_L_law_613 : decode cL_law 613 = .ok (.iaload, 1) := by decide +kernel
theorem d_L_law_614 : decode cL_law 614 = .ok (.invokevirtual 80, 3) := by decide +kernel
theorem d_L_law_617 : decode cL_law 617 = .ok (.if_icmp .eq 384, 3) := by decide +kernel
theorem d_L_law_620 : decode cL_law 620 = .ok (.iconst 0, 1) := by decide +kernel
theorem d_L_law_621 : decode cL_law 621 = .ok (.ireturn, 1) := by decide +kernel
theorem d_L_law_622 : decode cL_law 622 = .ok (.aload_n 1, 1) := by decide +kernel
theorem d_L_law_623 : decode cL_law 623 = .ok (.aload_n 0, 1) := by decide +kernel
theorem d_L_law_624 : decode cL_law 624 = .ok (.iload_n 3, 1) := by decide +kernel
theorem d_L_law_625 : decode cL_law 625 = .ok (.iconst 1, 1) := by decide +kernel
theorem d_L_law_626 : decode cL_law 626 = .ok (.iadd, 1) := by decide +kernel
theorem d_L_law_627 : decode cL_law 627 = .ok (.iaload, 1) := by decide +kernel
theorem d_L_law_628 : decode cL_law 628 = .ok (.invokevirtual 81, 3) := by decide +kernel
theorem d_L_law_631 : decode cL_law 631 = .ok (.aload_n 2, 1) := by decide +kernel
theorem d_L_law_632 : decode cL_law 632 = .ok (.aload_n 0, 1) := by decide +kernel
theorem d_L_law_633 : decode cL_law 633 = .ok (.iload_n 3, 1) := by decide +kernel
theorem d_L_law_634 : decode cL_law 634 = .ok (.iconst 1, 1) := by decide +kernel
theorem d_L_law_635 : decode cL_law 635 = .ok (.iadd, 1) := by decide +kernel
theorem d_L_law_636 : decode cL_law 636 = .ok (.iaload, 1) := by decide +kernel
theorem d_L_law_637 : decode cL_law 637 = .ok (.invokevirtual 84, 3) := by decide +kernel
theorem d_L_law_640 : decode cL_law 640 = .ok (.if_icmp .eq 361, 3) := by decide +kernel
theorem d_L_law_643 : decode cL_law 643 = .ok (.iconst 0, 1) := by decide +kernel
theorem d_L_law_644 : decode cL_law 644 = .ok (.ireturn, 1) := by decide +kernel
theorem d_L_law_645 : decode cL_law 645 = .ok (.aload_n 1, 1) := by decide +kernel
theorem d_L_law_646 : decode cL_law 646 = .ok (.invokevirtual 85, 3) := by decide +kernel
theorem d_L_law_649 : decode cL_law 649 = .ok (.aload_n 2, 1) := by decide +kernel
theorem d_L_law_650 : decode cL_law 650 = .ok (.invokevirtual 88, 3) := by decide +kernel
theorem d_L_law_653 : decode cL_law 653 = .ok (.if_icmp .eq 348, 3) := by decide +kernel
theorem d_L_law_656 : decode cL_law 656 = .ok (.iconst 0, 1) := by decide +kernel
theorem d_L_law_657 : decode cL_law 657 = .ok (.ireturn, 1) := by decide +kernel
theorem d_L_law_658 : decode cL_law 658 = .ok (.aload_n 1, 1) := by decide +kernel
theorem d_L_law_659 : decode cL_law 659 = .ok (.aload_n 0, 1) := by decide +kernel
theorem d_L_law_660 : decode cL_law 660 = .ok (.iload_n 3, 1) := by decide +kernel
theorem d_L_law_661 : decode cL_law 661 = .ok (.iconst 1, 1) := by decide +kernel
theorem d_L_law_662 : decode cL_law 662 = .ok (.iadd, 1) := by decide +kernel
theorem d_L_law_663 : decode cL_law 663 = .ok (.iaload, 1) := by decide +kernel
theorem d_L_law_664 : decode cL_law 664 = .ok (.invokevirtual 89, 3) := by decide +kernel
theorem d_L_law_667 : decode cL_law 667 = .ok (.aload_n 2, 1) := by decide +kernel
theorem d_L_law_668 : decode cL_law 668 = .ok (.aload_n 0, 1) := by decide +kernel
theorem d_L_law_669 : decode cL_law 669 = .ok (.iload_n 3, 1) := by decide +kernel
theorem d_L_law_670 : decode cL_law 670 = .ok (.iconst 1, 1) := by decide +kernel
theorem d_L_law_671 : decode cL_law 671 = .ok (.iadd, 1) := by decide +kernel
theorem d_L_law_672 : decode cL_law 672 = .ok (.iaload, 1) := by decide +kernel
theorem d_L_law_673 : decode cL_law 673 = .ok (.invokevirtual 92, 3) := by decide +kernel
theorem d_L_law_676 : decode cL_law 676 = .ok (.if_icmp .eq 325, 3) := by decide +kernel
theorem d_L_law_679 : decode cL_law 679 = .ok (.iconst 0, 1) := by decide +kernel
theorem d_L_law_680 : decode cL_law 680 = .ok (.ireturn, 1) := by decide +kernel
theorem d_L_law_681 : decode cL_law 681 = .ok (.aload_n 1, 1) := by decide +kernel
theorem d_L_law_682 : decode cL_law 682 = .ok (.aload_n 0, 1) := by decide +kernel
theorem d_L_law_683 : decode cL_law 683 = .ok (.iload_n 3, 1) := by decide +kernel
theorem d_L_law_684 : decode cL_law 684 = .ok (.iconst 1, 1) := by decide +kernel
theorem d_L_law_685 : decode cL_law 685 = .ok (.iadd, 1) := by decide +kernel
theorem d_L_law_686 : decode cL_law 686 = .ok (.iaload, 1) := by decide +kernel
theorem d_L_law_687 : decode cL_law 687 = .ok (.aload_n 0, 1) := by decide +kernel
theorem d_L_law_688 : decode cL_law 688 = .ok (.iload_n 3, 1) := by decide +kernel
theorem d_L_law_689 : decode cL_law 689 = .ok (.iconst 2, 1) := by decide +kernel
theorem d_L_law_690 : decode cL_law 690 = .ok (.iadd, 1) := by decide +kernel
theorem d_L_law_691 : decode cL_law 691 = .ok (.iaload, 1) := by decide +kernel
theorem d_L_law_692 : decode cL_law 692 = .ok (.invokevirtual 93, 3) := by decide +kernel
theorem d_L_law_695 : decode cL_law 695 = .ok (.aload_n 2, 1) := by decide +kernel
theorem d_L_law_696 : decode cL_law 696 = .ok (.aload_n 0, 1) := by decide +kernel
theorem d_L_law_697 : decode cL_law 697 = .ok (.iload_n 3, 1) := by decide +kernel
theorem d_L_law_698 : decode cL_law 698 = .ok (.iconst 1, 1) := by decide +kernel
theorem d_L_law_699 : decode cL_law 699 = .ok (.iadd, 1) := by decide +kernel
theorem d_L_law_700 : decode cL_law 700 = .ok (.iaload, 1) := by decide +kernel
theorem d_L_law_701 : decode cL_law 701 = .ok (.aload_n 0, 1) := by decide +kernel
theorem d_L_law_702 : decode cL_law 702 = .ok (.iload_n 3, 1) := by decide +kernel
theorem d_L_law_703 : decode cL_law 703 = .ok (.iconst 2, 1) := by decide +kernel
theorem d_L_law_704 : decode cL_law 704 = .ok (.iadd, 1) := by decide +kernel
theorem d_L_law_705 : decode cL_law 705 = .ok (.iaload, 1) := by decide +kernel
theorem d_L_law_706 : decode cL_law 706 = .ok (.invokevirtual 96, 3) := by decide +kernel
theorem d_L_law_709 : decode cL_law 709 = .ok (.if_icmp .eq 292, 3) := by decide +kernel
theorem d_L_law_712 : decode cL_law 712 = .ok (.iconst 0, 1) := by decide +kernel
theorem d_L_law_713 : decode cL_law 713 = .ok (.ireturn, 1) := by decide +kernel
theorem d_L_law_714 : decode cL_law 714 = .ok (.aload_n 1, 1) := by decide +kernel
theorem d_L_law_715 : decode cL_law 715 = .ok (.aload_n 0, 1) := by decide +kernel
theorem d_L_law_716 : decode cL_law 716 = .ok (.iload_n 3, 1) := by decide +kernel
theorem d_L_law_717 : decode cL_law 717 = .ok (.iconst 1, 1) := by decide +kernel
theorem d_L_law_718 : decode cL_law 718 = .ok (.iadd, 1) := by decide +kernel
theorem d_L_law_719 : decode cL_law 719 = .ok (.iaload, 1) := by decide +kernel
theorem d_L_law_720 : decode cL_law 720 = .ok (.aload_n 0, 1) := by decide +kernel
theorem d_L_law_721 : decode cL_law 721 = .ok (.iload_n 3, 1) := by decide +kernel
theorem d_L_law_722 : decode cL_law 722 = .ok (.iconst 2, 1) := by decide +kernel
theorem d_L_law_723 : decode cL_law 723 = .ok (.iadd, 1) := by decide +kernel
theorem d_L_law_724 : decode cL_law 724 = .ok (.iaload, 1) := by decide +kernel
theorem d_L_law_725 : decode cL_law 725 = .ok (.invokevirtual 97, 3) := by decide +kernel
theorem d_L_law_728 : decode cL_law 728 = .ok (.aload_n 2, 1) := by decide +kernel
theorem d_L_law_729 : decode cL_law 729 = .ok (.aload_n 0, 1) := by decide +kernel
theorem d_L_law_730 : decode cL_law 730 = .ok (.iload_n 3, 1) := by decide +kernel
theorem d_L_law_731 : decode cL_law 731 = .ok (.iconst 1, 1) := by decide +kernel
theorem d_L_law_732 : decode cL_law 732 = .ok (.iadd, 1) := by decide +kernel
theorem d_L_law_733 : decode cL_law 733 = .ok (.iaload, 1) := by decide +kernel
theorem d_L_law_734 : decode cL_law 734 = .ok (.aload_n 0, 1) := by decide +kernel
theorem d_L_law_735 : decode cL_law 735 = .ok (.iload_n 3, 1) := by decide +kernel
theorem d_L_law_736 : decode cL_law 736 = .ok (.iconst 2, 1) := by decide +kernel
theorem d_L_law_737 : decode cL_law 737 = .ok (.iadd, 1) := by decide +kernel
theorem d_L_law_738 : decode cL_law 738 = .ok (.iaload, 1) := by decide +kernel
theorem d_L_law_739 : decode cL_law 739 = .ok (.invokevirtual 100, 3) := by decide +kernel
theorem d_L_law_742 : decode cL_law 742 = .ok (.if_icmp .eq 259, 3) := by decide +kernel
theorem d_L_law_745 : decode cL_law 745 = .ok (.iconst 0, 1) := by decide +kernel
theorem d_L_law_746 : decode cL_law 746 = .ok (.ireturn, 1) := by decide +kernel
theorem d_L_law_747 : decode cL_law 747 = .ok (.aload_n 1, 1) := by decide +kernel
theorem d_L_law_748 : decode cL_law 748 = .ok (.aload_n 0, 1) := by decide +kernel
theorem d_L_law_749 : decode cL_law 749 = .ok (.iload_n 3, 1) := by decide +kernel
theorem d_L_law_750 : decode cL_law 750 = .ok (.iconst 1, 1) := by decide +kernel
theorem d_L_law_751 : decode cL_law 751 = .ok (.iadd, 1) := by decide +kernel
theorem d_L_law_752 : decode cL_law 752 = .ok (.iaload, 1) := by decide +kernel
theorem d_L_law_753 : decode cL_law 753 = .ok (.invokevirtual 101, 3) := by decide +kernel
theorem d_L_law_756 : decode cL_law 756 = .ok (.aload_n 2, 1) := by decide +kernel
theorem d_L_law_757 : decode cL_law 757 = .ok (.aload_n 0, 1) := by decide +kernel
theorem d_L_law_758 : decode cL_law 758 = .ok (.iload_n 3, 1) := by decide +kernel
theorem d_L_law_759 : decode cL_law 759 = .ok (.iconst 1, 1) := by decide +kernel
theorem d_L_law_760 : decode cL_law 760 = .ok (.iadd, 1) := by decide +kernel
theorem d_L_law_761 : decode cL_law 761 = .ok (.iaload, 1) := by decide +kernel
theorem d_L_law_762 : decode cL_law 762 = .ok (.invokevirtual 104, 3) := by decide +kernel
theorem d_L_law_765 : decode cL_law 765 = .ok (.if_icmp .eq 236, 3) := by decide +kernel
theorem d_L_law_768 : decode cL_law 768 = .ok (.iconst 0, 1) := by decide +kernel
theorem d_L_law_769 : decode cL_law 769 = .ok (.ireturn, 1) := by decide +kernel
theorem d_L_law_770 : decode cL_law 770 = .ok (.aload_n 1, 1) := by decide +kernel
theorem d_L_law_771 : decode cL_law 771 = .ok (.aload_n 0, 1) := by decide +kernel
theorem d_L_law_772 : decode cL_law 772 = .ok (.iload_n 3, 1) := by decide +kernel
theorem d_L_law_773 : decode cL_law 773 = .ok (.iconst 1, 1) := by decide +kernel
theorem d_L_law_774 : decode cL_law 774 = .ok (.iadd, 1) := by decide +kernel
theorem d_L_law_775 : decode cL_law 775 = .ok (.iaload, 1) := by decide +kernel
theorem d_L_law_776 : decode cL_law 776 = .ok (.invokevirtual 105, 3) := by decide +kernel
theorem d_L_law_779 : decode cL_law 779 = .ok (.aload_n 2, 1) := by decide +kernel
theorem d_L_law_780 : decode cL_law 780 = .ok (.aload_n 0, 1) := by decide +kernel
theorem d_L_law_781 : decode cL_law 781 = .ok (.iload_n 3, 1) := by decide +kernel
theorem d_L_law_782 : decode cL_law 782 = .ok (.iconst 1, 1) := by decide +kernel
theorem d_L_law_783 : decode cL_law 783 = .ok (.iadd, 1) := by decide +kernel
theorem d_L_law_784 : decode cL_law 784 = .ok (.iaload, 1) := by decide +kernel
theorem d_L_law_785 : decode cL_law 785 = .ok (.invokevirtual 108, 3) := by decide +kernel
theorem d_L_law_788 : decode cL_law 788 = .ok (.if_icmp .eq 213, 3) := by decide +kernel
theorem d_L_law_791 : decode cL_law 791 = .ok (.iconst 0, 1) := by decide +kernel
theorem d_L_law_792 : decode cL_law 792 = .ok (.ireturn, 1) := by decide +kernel
theorem d_L_law_793 : decode cL_law 793 = .ok (.aload_n 1, 1) := by decide +kernel
theorem d_L_law_794 : decode cL_law 794 = .ok (.aload_n 0, 1) := by decide +kernel
theorem d_L_law_795 : decode cL_law 795 = .ok (.iload_n 3, 1) := by decide +kernel
theorem d_L_law_796 : decode cL_law 796 = .ok (.iconst 1, 1) := by decide +kernel
theorem d_L_law_797 : decode cL_law 797 = .ok (.iadd, 1) := by decide +kernel
theorem d_L_law_798 : decode cL_law 798 = .ok (.iaload, 1) := by decide +kernel
theorem d_L_law_799 : decode cL_law 799 = .ok (.aload_n 0, 1) := by decide +kernel
theorem d_L_law_800 : decode cL_law 800 = .ok (.iload_n 3, 1) := by decide +kernel
theorem d_L_law_801 : decode cL_law 801 = .ok (.iconst 2, 1) := by decide +kernel
theorem d_L_law_802 : decode cL_law 802 = .ok (.iadd, 1) := by decide +kernel
theorem d_L_law_803 : decode cL_law 803 = .ok (.iaload, 1) := by decide +kernel
theorem d_L_law_804 : decode cL_law 804 = .ok (.invokevirtual 109, 3) := by decide +kernel
theorem d_L_law_807 : decode cL_law 807 = .ok (.aload_n 2, 1) := by decide +kernel
theorem d_L_law_808 : decode cL_law 808 = .ok (.aload_n 0, 1) := by decide +kernel
theorem d_L_law_809 : decode cL_law 809 = .ok (.iload_n 3, 1) := by decide +kernel
theorem d_L_law_810 : decode cL_law 810 = .ok (.iconst 1, 1) := by decide +kernel
theorem d_L_law_811 : decode cL_law 811 = .ok (.iadd, 1) := by decide +kernel
theorem d_L_law_812 : decode cL_law 812 = .ok (.iaload, 1) := by decide +kernel
theorem d_L_law_813 : decode cL_law 813 = .ok (.aload_n 0, 1) := by decide +kernel
theorem d_L_law_814 : decode cL_law 814 = .ok (.iload_n 3, 1) := by decide +kernel
theorem d_L_law_815 : decode cL_law 815 = .ok (.iconst 2, 1) := by decide +kernel
theorem d_L_law_816 : decode cL_law 816 = .ok (.iadd, 1) := by decide +kernel
theorem d_L_law_817 : decode cL_law 817 = .ok (.iaload, 1) := by decide +kernel
theorem d_L_law_818 : decode cL_law 818 = .ok (.invokevirtual 112, 3) := by decide +kernel
theorem d_L_law_821 : decode cL_law 821 = .ok (.if_icmp .eq 180, 3) := by decide +kernel
theorem d_L_law_824 : decode cL_law 824 = .ok (.iconst 0, 1) := by decide +kernel
theorem d_L_law_825 : decode cL_law 825 = .ok (.ireturn, 1) := by decide +kernel
theorem d_L_law_826 : decode cL_law 826 = .ok (.aload_n 1, 1) := by decide +kernel
theorem d_L_law_827 : decode cL_law 827 = .ok (.aload_n 0, 1) := by decide +kernel
theorem d_L_law_828 : decode cL_law 828 = .ok (.iload_n 3, 1) := by decide +kernel
theorem d_L_law_829 : decode cL_law 829 = .ok (.iconst 1, 1) := by decide +kernel
theorem d_L_law_830 : decode cL_law 830 = .ok (.iadd, 1) := by decide +kernel
theorem d_L_law_831 : decode cL_law 831 = .ok (.iaload, 1) := by decide +kernel
theorem d_L_law_832 : decode cL_law 832 = .ok (.aload_n 0, 1) := by decide +kernel
theorem d_L_law_833 : decode cL_law 833 = .ok (.iload_n 3, 1) := by decide +kernel
theorem d_L_law_834 : decode cL_law 834 = .ok (.iconst 2, 1) := by decide +kernel
theorem d_L_law_835 : decode cL_law 835 = .ok (.iadd, 1) := by decide +kernel
theorem d_L_law_836 : decode cL_law 836 = .ok (.iaload, 1) := by decide +kernel
theorem d_L_law_837 : decode cL_law 837 = .ok (.aload_n 0, 1) := by decide +kernel
theorem d_L_law_838 : decode cL_law 838 = .ok (.iload_n 3, 1) := by decide +kernel
theorem d_L_law_839 : decode cL_law 839 = .ok (.iconst 3, 1) := by decide +kernel
theorem d_L_law_840 : decode cL_law 840 = .ok (.iadd, 1) := by decide +kernel
theorem d_L_law_841 : decode cL_law 841 = .ok (.iaload, 1) := by decide +kernel
theorem d_L_law_842 : decode cL_law 842 = .ok (.invokevirtual 113, 3) := by decide +kernel
theorem d_L_law_845 : decode cL_law 845 = .ok (.aload_n 2, 1) := by decide +kernel
theorem d_L_law_846 : decode cL_law 846 = .ok (.aload_n 0, 1) := by decide +kernel
theorem d_L_law_847 : decode cL_law 847 = .ok (.iload_n 3, 1) := by decide +kernel
theorem d_L_law_848 : decode cL_law 848 = .ok (.iconst 1, 1) := by decide +kernel
theorem d_L_law_849 : decode cL_law 849 = .ok (.iadd, 1) := by decide +kernel
theorem d_L_law_850 : decode cL_law 850 = .ok (.iaload, 1) := by decide +kernel
theorem d_L_law_851 : decode cL_law 851 = .ok (.aload_n 0, 1) := by decide +kernel
theorem d_L_law_852 : decode cL_law 852 = .ok (.iload_n 3, 1) := by decide +kernel
theorem d_L_law_853 : decode cL_law 853 = .ok (.iconst 2, 1) := by decide +kernel
theorem d_L_law_854 : decode cL_law 854 = .ok (.iadd, 1) := by decide +kernel
theorem d_L_law_855 : decode cL_law 855 = .ok (.iaload, 1) := by decide +kernel
theorem d_L_law_856 : decode cL_law 856 = .ok (.aload_n 0, 1) := by decide +kernel
theorem d_L_law_857 : decode cL_law 857 = .ok (.iload_n 3, 1) := by decide +kernel
theorem d_L_law_858 : decode cL_law 858 = .ok (.iconst 3, 1) := by decide +kernel
theorem d_L_law_859 : decode cL_law 859 = .ok (.iadd, 1) := by decide +kernel
theorem d_L_law_860 : decode cL_law 860 = .ok (.iaload, 1) := by decide +kernel
theorem d_L_law_861 : decode cL_law 861 = .ok (.invokevirtual 116, 3) := by decide +kernel
theorem d_L_law_864 : decode cL_law 864 = .ok (.if_icmp .eq 137, 3) := by decide +kernel
theorem d_L_law_867 : decode cL_law 867 = .ok (.iconst 0, 1) := by decide +kernel
theorem d_L_law_868 : decode cL_law 868 = .ok (.ireturn, 1) := by decide +kernel
theorem d_L_law_869 : decode cL_law 869 = .ok (.aload_n 1, 1) := by decide +kernel
theorem d_L_law_870 : decode cL_law 870 = .ok (.aload_n 0, 1) := by decide +kernel
theorem d_L_law_871 : decode cL_law 871 = .ok (.iload_n 3, 1) := by decide +kernel
theorem d_L_law_872 : decode cL_law 872 = .ok (.iconst 1, 1) := by decide +kernel
theorem d_L_law_873 : decode cL_law 873 = .ok (.iadd, 1) := by decide +kernel
theorem d_L_law_874 : decode cL_law 874 = .ok (.iaload, 1) := by decide +kernel
theorem d_L_law_875 : decode cL_law 875 = .ok (.aload_n 0, 1) := by decide +kernel
theorem d_L_law_876 : decode cL_law 876 = .ok (.iload_n 3, 1) := by decide +kernel
theorem d_L_law_877 : decode cL_law 877 = .ok (.iconst 2, 1) := by decide +kernel
theorem d_L_law_878 : decode cL_law 878 = .ok (.iadd, 1) := by decide +kernel
theorem d_L_law_879 : decode cL_law 879 = .ok (.iaload, 1) := by decide +kernel
theorem d_L_law_880 : decode cL_law 880 = .ok (.aload_n 0, 1) := by decide +kernel
theorem d_L_law_881 : decode cL_law 881 = .ok (.iload_n 3, 1) := by decide +kernel
theorem d_L_law_882 : decode cL_law 882 = .ok (.iconst 3, 1) := by decide +kernel
theorem d_L_law_883 : decode cL_law 883 = .ok (.iadd, 1) := by decide +kernel
theorem d_L_law_884 : decode cL_law 884 = .ok (.iaload, 1) := by decide +kernel
theorem d_L_law_885 : decode cL_law 885 = .ok (.invokevirtual 117, 3) := by decide +kernel
theorem d_L_law_888 : decode cL_law 888 = .ok (.aload_n 2, 1) := by decide +kernel
theorem d_L_law_889 : decode cL_law 889 = .ok (.aload_n 0, 1) := by decide +kernel
theorem d_L_law_890 : decode cL_law 890 = .ok (.iload_n 3, 1) := by decide +kernel
theorem d_L_law_891 : decode cL_law 891 = .ok (.iconst 1, 1) := by decide +kernel
theorem d_L_law_892 : decode cL_law 892 = .ok (.iadd, 1) := by decide +kernel
theorem d_L_law_893 : decode cL_law 893 = .ok (.iaload, 1) := by decide +kernel
theorem d_L_law_894 : decode cL_law 894 = .ok (.aload_n 0, 1) := by decide +kernel
theorem d_L_law_895 : decode cL_law 895 = .ok (.iload_n 3, 1) := by decide +kernel
theorem d_L_law_896 : decode cL_law 896 = .ok (.iconst 2, 1) := by decide +kernel
theorem d_L_law_897 : decode cL_law 897 = .ok (.iadd, 1) := by decide +kernel
theorem d_L_law_898 : decode cL_law 898 = .ok (.iaload, 1) := by decide +kernel
theorem d_L_law_899 : decode cL_law 899 = .ok (.aload_n 0, 1) := by decide +kernel
theorem d_L_law_900 : decode cL_law 900 = .ok (.iload_n 3, 1) := by decide +kernel
theorem d_L_law_901 : decode cL_law 901 = .ok (.iconst 3, 1) := by decide +kernel
theorem d_L_law_902 : decode cL_law 902 = .ok (.iadd, 1) := by decide +kernel
theorem d_L_law_903 : decode cL_law 903 = .ok (.iaload, 1) := by decide +kernel
theorem d_L_law_904 : decode cL_law 904 = .ok (.invokevirtual 120, 3) := by decide +kernel
theorem d_L_law_907 : decode cL_law 907 = .ok (.if_icmp .eq 94, 3) := by decide +kernel
theorem d_L_law_910 : decode cL_law 910 = .ok (.iconst 0, 1) := by decide +kernel
theorem d_L_law_911 : decode cL_law 911 = .ok (.ireturn, 1) := by decide +kernel
theorem d_L_law_912 : decode cL_law 912 = .ok (.aload_n 1, 1) := by decide +kernel
theorem d_L_law_913 : decode cL_law 913 = .ok (.aload_n 0, 1) := by decide +kernel
theorem d_L_law_914 : decode cL_law 914 = .ok (.iload_n 3, 1) := by decide +kernel
theorem d_L_law_915 : decode cL_law 915 = .ok (.iconst 1, 1) := by decide +kernel
theorem d_L_law_916 : decode cL_law 916 = .ok (.iadd, 1) := by decide +kernel
theorem d_L_law_917 : decode cL_law 917 = .ok (.iaload, 1) := by decide +kernel
theorem d_L_law_918 : decode cL_law 918 = .ok (.aload_n 0, 1) := by decide +kernel
theorem d_L_law_919 : decode cL_law 919 = .ok (.iload_n 3, 1) := by decide +kernel
theorem d_L_law_920 : decode cL_law 920 = .ok (.iconst 2, 1) := by decide +kernel
theorem d_L_law_921 : decode cL_law 921 = .ok (.iadd, 1) := by decide +kernel
theorem d_L_law_922 : decode cL_law 922 = .ok (.iaload, 1) := by decide +kernel
theorem d_L_law_923 : decode cL_law 923 = .ok (.aload_n 0, 1) := by decide +kernel
theorem d_L_law_924 : decode cL_law 924 = .ok (.iload_n 3, 1) := by decide +kernel
theorem d_L_law_925 : decode cL_law 925 = .ok (.iconst 3, 1) := by decide +kernel
theorem d_L_law_926 : decode cL_law 926 = .ok (.iadd, 1) := by decide +kernel
theorem d_L_law_927 : decode cL_law 927 = .ok (.iaload, 1) := by decide +kernel
theorem d_L_law_928 : decode cL_law 928 = .ok (.aload_n 0, 1) := by decide +kernel
theorem d_L_law_929 : decode cL_law 929 = .ok (.iload_n 3, 1) := by decide +kernel
theorem d_L_law_930 : decode cL_law 930 = .ok (.iconst 4, 1) := by decide +kernel
theorem d_L_law_931 : decode cL_law 931 = .ok (.iadd, 1) := by decide +kernel
theorem d_L_law_932 : decode cL_law 932 = .ok (.iaload, 1) := by decide +kernel
theorem d_L_law_933 : decode cL_law 933 = .ok (.invokevirtual 121, 3) := by decide +kernel
theorem d_L_law_936 : decode cL_law 936 = .ok (.aload_n 2, 1) := by decide +kernel
theorem d_L_law_937 : decode cL_law 937 = .ok (.aload_n 0, 1) := by decide +kernel
theorem d_L_law_938 : decode cL_law 938 = .ok (.iload_n 3, 1) := by decide +kernel
theorem d_L_law_939 : decode cL_law 939 = .ok (.iconst 1, 1) := by decide +kernel
theorem d_L_law_940 : decode cL_law 940 = .ok (.iadd, 1) := by decide +kernel
theorem d_L_law_941 : decode cL_law 941 = .ok (.iaload, 1) := by decide +kernel
theorem d_L_law_942 : decode cL_law 942 = .ok (.aload_n 0, 1) := by decide +kernel
theorem d_L_law_943 : decode cL_law 943 = .ok (.iload_n 3, 1) := by decide +kernel
theorem d_L_law_944 : decode cL_law 944 = .ok (.iconst 2, 1) := by decide +kernel
theorem d_L_law_945 : decode cL_law 945 = .ok (.iadd, 1) := by decide +kernel
theorem d_L_law_946 : decode cL_law 946 = .ok (.iaload, 1) := by decide +kernel
theorem d_L_law_947 : decode cL_law 947 = .ok (.aload_n 0, 1) := by decide +kernel
theorem d_L_law_948 : decode cL_law 948 = .ok (.iload_n 3, 1) := by decide +kernel
theorem d_L_law_949 : decode cL_law 949 = .ok (.iconst 3, 1) := by decide +kernel
theorem d_L_law_950 : decode cL_law 950 = .ok (.iadd, 1) := by decide +kernel
theorem d_L_law_951 : decode cL_law 951 = .ok (.iaload, 1) := by decide +kernel
theorem d_L_law_952 : decode cL_law 952 = .ok (.aload_n 0, 1) := by decide +kernel
theorem d_L_law_953 : decode cL_law 953 = .ok (.iload_n 3, 1) := by decide +kernel
theorem d_L_law_954 : decode cL_law 954 = .ok (.iconst 4, 1) := by decide +kernel
theorem d_L_law_955 : decode cL_law 955 = .ok (.iadd, 1) := by decide +kernel
theorem d_L_law_956 : decode cL_law 956 = .ok (.iaload, 1) := by decide +kernel
theorem d_L_law_957 : decode cL_law 957 = .ok (.invokevirtual 125, 3) := by decide +kernel
theorem d_L_law_960 : decode cL_law 960 = .ok (.if_icmp .eq 41, 3) := by decide +kernel
theorem d_L_law_963 : decode cL_law 963 = .ok (.iconst 0, 1) := by decide +kernel
theorem d_L_law_964 : decode cL_law 964 = .ok (.ireturn, 1) := by decide +kernel
theorem d_L_law_965 : decode cL_law 965 = .ok (.aload_n 1, 1) := by decide +kernel
theorem d_L_law_966 : decode cL_law 966 = .ok (.invokevirtual 126, 3) := by decide +kernel
theorem d_L_law_969 : decode cL_law 969 = .ok (.aload_n 2, 1) := by decide +kernel
theorem d_L_law_970 : decode cL_law 970 = .ok (.invokevirtual 129, 3) := by decide +kernel
theorem d_L_law_973 : decode cL_law 973 = .ok (.if_icmp .eq 28, 3) := by decide +kernel
theorem d_L_law_976 : decode cL_law 976 = .ok (.iconst 0, 1) := by decide +kernel
theorem d_L_law_977 : decode cL_law 977 = .ok (.ireturn, 1) := by decide +kernel
theorem d_L_law_978 : decode cL_law 978 = .ok (.aload_n 1, 1) := by decide +kernel
theorem d_L_law_979 : decode cL_law 979 = .ok (.aload_n 0, 1) := by decide +kernel
theorem d_L_law_980 : decode cL_law 980 = .ok (.iload_n 3, 1) := by decide +kernel
theorem d_L_law_981 : decode cL_law 981 = .ok (.iconst 1, 1) := by decide +kernel
theorem d_L_law_982 : decode cL_law 982 = .ok (.iadd, 1) := by decide +kernel
theorem d_L_law_983 : decode cL_law 983 = .ok (.iaload, 1) := by decide +kernel
theorem d_L_law_984 : decode cL_law 984 = .ok (.invokevirtual 130, 3) := by decide +kernel
theorem d_L_law_987 : decode cL_law 987 = .ok (.aload_n 2, 1) := by decide +kernel
theorem d_L_law_988 : decode cL_law 988 = .ok (.aload_n 0, 1) := by decide +kernel
theorem d_L_law_989 : decode cL_law 989 = .ok (.iload_n 3, 1) := by decide +kernel
theorem d_L_law_990 : decode cL_law 990 = .ok (.iconst 1, 1) := by decide +kernel
theorem d_L_law_991 : decode cL_law 991 = .ok (.iadd, 1) := by decide +kernel
theorem d_L_law_992 : decode cL_law 992 = .ok (.iaload, 1) := by decide +kernel
theorem d_L_law_993 : decode cL_law 993 = .ok (.invokevirtual 133, 3) := by decide +kernel
theorem d_L_law_996 : decode cL_law 996 = .ok (.if_icmp .eq 5, 3) := by decide +kernel
theorem d_L_law_999 : decode cL_law 999 = .ok (.iconst 0, 1) := by decide +kernel
theorem d_L_law_1000 : decode cL_law 1000 = .ok (.ireturn, 1) := by decide +kernel
theorem d_L_law_1001 : decode cL_law 1001 = .ok (.iinc 3 5, 3) := by decide +kernel
theorem d_L_law_1004 : decode cL_law 1004 = .ok (.goto (-986), 3) := by decide +kernel
theorem d_L_law_1007 : decode cL_law 1007 = .ok (.iconst 1, 1) := by decide +kernel
theorem d_L_law_1008 : decode cL_law 1008 = .ok (.ireturn, 1) := by decide +kernel
theorem b_L_law_0 {X : cX} {R R' : Room} {cs sl : Nat} {μ : mM} {K : Option Value → mM → Prop}  (hc1 : cs + 1 ≤ R.cells) (hs14 : sl + 14 ≤ R.slots) (h : G X R mL_law 3 [(0, .ref X.2.2.2.2.2.2.1)] [.ref (sz μ)] (al μ (0, 11)) (cs + 1) (sl + 14) K) : G X R mL_law 0 [(0, .ref X.2.2.2.2.2.2.1)] [] μ cs sl K := by
  refine G_new 11 cok11 cdf11 (by decide) cl_L_7 ins_X11 in_X11 hc1 hs14 d_L_law_0 ?_
  exact h
theorem b_L_law_3 {X : cX} {R R' : Room} {cs sl : Nat} {μ : mM} {K : Option Value → mM → Prop} {q0 : Nat} (hru : ru R R' 2 cs sl) (hc_init : Ct X R' mX11_init [.ref q0] μ (fun r μ2 => G X R mL_law 7 [(0, .ref X.2.2.2.2.2.2.1)] (r.toList ++ [.ref q0]) μ2 (cs + R'.cells) (sl + R'.slots) K)) : G X R mL_law 3 [(0, .ref X.2.2.2.2.2.2.1)] [.ref q0] μ cs sl K := by
  refine G_dup d_L_law_3 rfl ?_
  refine G_callI (M' := mX11_init) (R' := R') (S := [.ref q0]) [] ok_X11_init ml_L_9 pn_X11_init hru (Nat.le_of_ble_eq_true rfl) d_L_law_4 ?_
  exact hc_init
theorem b_L_law_7 {X : cX} {R R' : Room} {cs sl : Nat} {μ : mM} {K : Option Value → mM → Prop} {q0 : Nat} (hc1 : cs + 1 ≤ R.cells) (hs29 : sl + 29 ≤ R.slots) (h : G X R mL_law 11 [(0, .ref X.2.2.2.2.2.2.1), (1, .ref q0)] [.ref (sz μ)] (al μ (0, 12)) (cs + 1) (sl + 29) K) : G X R mL_law 7 [(0, .ref X.2.2.2.2.2.2.1)] [.ref q0] μ cs sl K := by
  refine G_astore_n (L' := [(1, .ref q0), (0, .ref X.2.2.2.2.2.2.1)]) d_L_law_7 rfl (by decide) rfl ?_
  refine G_new 12 cok12 cdf12 (by decide) cl_L_10 ins_X12 in_X12 hc1 hs29 d_L_law_8 ?_
  refine G_sub (L' := [(0, .ref X.2.2.2.2.2.2.1), (1, .ref q0)]) [1, 0] rfl ?_
  exact h
theorem b_L_law_11 {X : cX} {R R' : Room} {cs sl : Nat} {μ : mM} {K : Option Value → mM → Prop} {r1 : Nat} {q0 : Nat} (hru : ru R R' 1 cs sl) (hc_init : Ct X R' mX12_init [.ref q0] μ (fun r μ2 => G X R mL_law 15 [(0, .ref X.2.2.2.2.2.2.1), (1, .ref r1)] (r.toList ++ [.ref q0]) μ2 (cs + R'.cells) (sl + R'.slots) K)) : G X R mL_law 11 [(0, .ref X.2.2.2.2.2.2.1), (1, .ref r1)] [.ref q0] μ cs sl K := by
  refine G_dup d_L_law_11 rfl ?_
  refine G_callI (M' := mX12_init) (R' := R') (S := [.ref q0]) [] ok_X12_init ml_L_12 pn_X12_init hru (Nat.le_of_ble_eq_true rfl) d_L_law_12 ?_
  exact hc_init
theorem b_L_law_15 {X : cX} {R R' : Room} {cs sl : Nat} {μ : mM} {K : Option Value → mM → Prop} {r1 : Nat} {q0 : Nat} (h : G X R mL_law 18 [(0, .ref X.2.2.2.2.2.2.1), (1, .ref r1), (2, .ref q0), (3, .int (nI 0))] [] μ cs sl K) : G X R mL_law 15 [(0, .ref X.2.2.2.2.2.2.1), (1, .ref r1)] [.ref q0] μ cs sl K := by
  refine G_astore_n (L' := [(2, .ref q0), (0, .ref X.2.2.2.2.2.2.1), (1, .ref r1)]) d_L_law_15 rfl (by decide) rfl ?_
  refine G_iconst d_L_law_16 ic_0 ?_
  refine G_istore_n (L' := [(3, .int (nI 0)), (2, .ref q0), (0, .ref X.2.2.2.2.2.2.1), (1, .ref r1)]) d_L_law_17 rfl (by decide) rfl ?_
  refine G_sub (L' := [(0, .ref X.2.2.2.2.2.2.1), (1, .ref r1), (2, .ref q0), (3, .int (nI 0))]) [2, 3, 1, 0] rfl ?_
  exact h
theorem b_L_law_18 {X : cX} {R R' : Room} {cs sl : Nat} {μ : mM} {K : Option Value → mM → Prop} {r1 : Nat} {r2 : Nat} {i3 : Nat} (hK : ((nI X.2.2.2.2.2.2.2.1) - 5) < (nI i3) → K (some (.int 1)) μ) (hcs : cs = R.cells) (hsl : sl = R.slots) (hb : ¬ ((nI X.2.2.2.2.2.2.2.1) - 5) < (nI i3) → i3 < X.2.2.2.2.2.2.2.1) (h31 : X.2.2.2.2.2.2.2.1 < 2 ^ 31) (hb_2 : ¬ ((nI X.2.2.2.2.2.2.2.1) - 5) < (nI i3) → ((X.2.2.2.2.2.2.2.2 i3) &&& 31) = 0 → (i3 + 1) < X.2.2.2.2.2.2.2.1) (hk_r1 : kd μ r1 = (0, 11)) (hru : ru R R' 2 cs sl) (hc_feed : ¬ ((nI X.2.2.2.2.2.2.2.1) - 5) < (nI i3) → ((X.2.2.2.2.2.2.2.2 i3) &&& 31) = 0 → Ct X R' mX11_feed [.ref r1, .int (X.2.2.2.2.2.2.2.2 (i3 + 1))] μ (fun r μ2 => G X R mL_law 173 [(0, .ref X.2.2.2.2.2.2.1), (1, .ref r1), (2, .ref r2), (3, .int (nI i3))] (r.toList ++ []) μ2 (cs + R'.cells) (sl + R'.slots) K)) (hb_3 : ¬ ((nI X.2.2.2.2.2.2.2.1) - 5) < (nI i3) → ((X.2.2.2.2.2.2.2.2 i3) &&& 31) = 1 → (i3 + 1) < X.2.2.2.2.2.2.2.1) (hru_2 : ru R R' 3 cs sl) (hc_end : ¬ ((nI X.2.2.2.2.2.2.2.1) - 5) < (nI i3) → ((X.2.2.2.2.2.2.2.2 i3) &&& 31) = 1 → Ct X R' mX11_end [.ref r1, .int (X.2.2.2.2.2.2.2.2 (i3 + 1))] μ (fun r μ2 => G X R mL_law 196 [(0, .ref X.2.2.2.2.2.2.1), (1, .ref r1), (2, .ref r2), (3, .int (nI i3))] (r.toList ++ []) μ2 (cs + R'.cells) (sl + R'.slots) K)) (hru_3 : ru R R' 4 cs sl) (hc_text : ¬ ((nI X.2.2.2.2.2.2.2.1) - 5) < (nI i3) → ((X.2.2.2.2.2.2.2.2 i3) &&& 31) = 2 → Ct X R' mX11_text [.ref r1] μ (fun r μ2 => G X R mL_law 214 [(0, .ref X.2.2.2.2.2.2.1), (1, .ref r1), (2, .ref r2), (3, .int (nI i3))] (r.toList ++ []) μ2 (cs + R'.cells) (sl + R'.slots) K)) (hru_4 : ru R R' 1 cs sl) (hc_fault : ¬ ((nI X.2.2.2.2.2.2.2.1) - 5) < (nI i3) → ((X.2.2.2.2.2.2.2.2 i3) &&& 31) = 3 → Ct X R' mX11_fault [.ref r1] μ (fun r μ2 => G X R mL_law 227 [(0, .ref X.2.2.2.2.2.2.1), (1, .ref r1), (2, .ref r2), (3, .int (nI i3))] (r.toList ++ []) μ2 (cs + R'.cells) (sl + R'.slots) K)) (hb_4 : ¬ ((nI X.2.2.2.2.2.2.2.1) - 5) < (nI i3) → ((X.2.2.2.2.2.2.2.2 i3) &&& 31) = 4 → (i3 + 1) < X.2.2.2.2.2.2.2.1) (hc_rule : ¬ ((nI X.2.2.2.2.2.2.2.1) - 5) < (nI i3) → ((X.2.2.2.2.2.2.2.2 i3) &&& 31) = 4 → Ct X R' mX11_rule [.ref r1, .int (X.2.2.2.2.2.2.2.2 (i3 + 1))] μ (fun r μ2 => G X R mL_law 245 [(0, .ref X.2.2.2.2.2.2.1), (1, .ref r1), (2, .ref r2), (3, .int (nI i3))] (r.toList ++ []) μ2 (cs + R'.cells) (sl + R'.slots) K)) (hb_5 : ¬ ((nI X.2.2.2.2.2.2.2.1) - 5) < (nI i3) → ((X.2.2.2.2.2.2.2.2 i3) &&& 31) = 5 → (i3 + 1) < X.2.2.2.2.2.2.2.1) (hb_6 : ¬ ((nI X.2.2.2.2.2.2.2.1) - 5) < (nI i3) → ((X.2.2.2.2.2.2.2.2 i3) &&& 31) = 5 → (i3 + 2) < X.2.2.2.2.2.2.2.1) (hc_node : ¬ ((nI X.2.2.2.2.2.2.2.1) - 5) < (nI i3) → ((X.2.2.2.2.2.2.2.2 i3) &&& 31) = 5 → Ct X R' mX11_node [.ref r1, .int (X.2.2.2.2.2.2.2.2 (i3 + 1)), .int (X.2.2.2.2.2.2.2.2 (i3 + 2))] μ (fun r μ2 => G X R mL_law 273 [(0, .ref X.2.2.2.2.2.2.1), (1, .ref r1), (2, .ref r2), (3, .int (nI i3))] (r.toList ++ []) μ2 (cs + R'.cells) (sl + R'.slots) K)) (hb_7 : ¬ ((nI X.2.2.2.2.2.2.2.1) - 5) < (nI i3) → ((X.2.2.2.2.2.2.2.2 i3) &&& 31) = 6 → (i3 + 1) < X.2.2.2.2.2.2.2.1) (hb_8 : ¬ ((nI X.2.2.2.2.2.2.2.1) - 5) < (nI i3) → ((X.2.2.2.2.2.2.2.2 i3) &&& 31) = 6 → (i3 + 2) < X.2.2.2.2.2.2.2.1) (hb_9 : ¬ ((nI X.2.2.2.2.2.2.2.1) - 5) < (nI i3) → ((X.2.2.2.2.2.2.2.2 i3) &&& 31) = 6 → (i3 + 3) < X.2.2.2.2.2.2.2.1) (hru_5 : ru R R' 5 cs sl) (hc_pair : ¬ ((nI X.2.2.2.2.2.2.2.1) - 5) < (nI i3) → ((X.2.2.2.2.2.2.2.2 i3) &&& 31) = 6 → Ct X R' mX11_pair [.ref r1, .int (X.2.2.2.2.2.2.2.2 (i3 + 1)), .int (X.2.2.2.2.2.2.2.2 (i3 + 2)), .int (X.2.2.2.2.2.2.2.2 (i3 + 3))] μ (fun r μ2 => G X R mL_law 311 [(0, .ref X.2.2.2.2.2.2.1), (1, .ref r1), (2, .ref r2), (3, .int (nI i3))] (r.toList ++ []) μ2 (cs + R'.cells) (sl + R'.slots) K)) (hb_10 : ¬ ((nI X.2.2.2.2.2.2.2.1) - 5) < (nI i3) → ((X.2.2.2.2.2.2.2.2 i3) &&& 31) = 7 → (i3 + 1) < X.2.2.2.2.2.2.2.1) (hc_held : ¬ ((nI X.2.2.2.2.2.2.2.1) - 5) < (nI i3) → ((X.2.2.2.2.2.2.2.2 i3) &&& 31) = 7 → Ct X R' mX11_held [.ref r1, .int (X.2.2.2.2.2.2.2.2 (i3 + 1))] μ (fun r μ2 => G X R mL_law 344 [(0, .ref X.2.2.2.2.2.2.1), (1, .ref r1), (2, .ref r2), (3, .int (nI i3))] (r.toList ++ []) μ2 (cs + R'.cells) (sl + R'.slots) K)) (hb_11 : ¬ ((nI X.2.2.2.2.2.2.2.1) - 5) < (nI i3) → ((X.2.2.2.2.2.2.2.2 i3) &&& 31) = 8 → (i3 + 1) < X.2.2.2.2.2.2.2.1) (hc_ask : ¬ ((nI X.2.2.2.2.2.2.2.1) - 5) < (nI i3) → ((X.2.2.2.2.2.2.2.2 i3) &&& 31) = 8 → Ct X R' mX11_ask [.ref r1, .int (X.2.2.2.2.2.2.2.2 (i3 + 1))] μ (fun r μ2 => G X R mL_law 367 [(0, .ref X.2.2.2.2.2.2.1), (1, .ref r1), (2, .ref r2), (3, .int (nI i3))] (r.toList ++ []) μ2 (cs + R'.cells) (sl + R'.slots) K)) (hb_12 : ¬ ((nI X.2.2.2.2.2.2.2.1) - 5) < (nI i3) → ((X.2.2.2.2.2.2.2.2 i3) &&& 31) = 9 → (i3 + 1) < X.2.2.2.2.2.2.2.1) (hb_13 : ¬ ((nI X.2.2.2.2.2.2.2.1) - 5) < (nI i3) → ((X.2.2.2.2.2.2.2.2 i3) &&& 31) = 9 → (i3 + 2) < X.2.2.2.2.2.2.2.1) (hc_formula : ¬ ((nI X.2.2.2.2.2.2.2.1) - 5) < (nI i3) → ((X.2.2.2.2.2.2.2.2 i3) &&& 31) = 9 → Ct X R' mX11_formula [.ref r1, .int (X.2.2.2.2.2.2.2.2 (i3 + 1)), .int (X.2.2.2.2.2.2.2.2 (i3 + 2))] μ (fun r μ2 => G X R mL_law 395 [(0, .ref X.2.2.2.2.2.2.1), (1, .ref r1), (2, .ref r2), (3, .int (nI i3))] (r.toList ++ []) μ2 (cs + R'.cells) (sl + R'.slots) K)) (hb_14 : ¬ ((nI X.2.2.2.2.2.2.2.1) - 5) < (nI i3) → ((X.2.2.2.2.2.2.2.2 i3) &&& 31) = 10 → (i3 + 1) < X.2.2.2.2.2.2.2.1) (hc_add : ¬ ((nI X.2.2.2.2.2.2.2.1) - 5) < (nI i3) → ((X.2.2.2.2.2.2.2.2 i3) &&& 31) = 10 → Ct X R' mX11_add [.ref r1, .int (X.2.2.2.2.2.2.2.2 (i3 + 1))] μ (fun r μ2 => G X R mL_law 423 [(0, .ref X.2.2.2.2.2.2.1), (1, .ref r1), (2, .ref r2), (3, .int (nI i3))] (r.toList ++ []) μ2 (cs + R'.cells) (sl + R'.slots) K)) (hb_15 : ¬ ((nI X.2.2.2.2.2.2.2.1) - 5) < (nI i3) → ((X.2.2.2.2.2.2.2.2 i3) &&& 31) = 11 → (i3 + 1) < X.2.2.2.2.2.2.2.1) (hc_lose : ¬ ((nI X.2.2.2.2.2.2.2.1) - 5) < (nI i3) → ((X.2.2.2.2.2.2.2.2 i3) &&& 31) = 11 → Ct X R' mX11_lose [.ref r1, .int (X.2.2.2.2.2.2.2.2 (i3 + 1))] μ (fun r μ2 => G X R mL_law 446 [(0, .ref X.2.2.2.2.2.2.1), (1, .ref r1), (2, .ref r2), (3, .int (nI i3))] (r.toList ++ []) μ2 (cs + R'.cells) (sl + R'.slots) K)) (hb_16 : ¬ ((nI X.2.2.2.2.2.2.2.1) - 5) < (nI i3) → ((X.2.2.2.2.2.2.2.2 i3) &&& 31) = 12 → (i3 + 1) < X.2.2.2.2.2.2.2.1) (hb_17 : ¬ ((nI X.2.2.2.2.2.2.2.1) - 5) < (nI i3) → ((X.2.2.2.2.2.2.2.2 i3) &&& 31) = 12 → (i3 + 2) < X.2.2.2.2.2.2.2.1) (hc_many : ¬ ((nI X.2.2.2.2.2.2.2.1) - 5) < (nI i3) → ((X.2.2.2.2.2.2.2.2 i3) &&& 31) = 12 → Ct X R' mX11_many [.ref r1, .int (X.2.2.2.2.2.2.2.2 (i3 + 1)), .int (X.2.2.2.2.2.2.2.2 (i3 + 2))] μ (fun r μ2 => G X R mL_law 474 [(0, .ref X.2.2.2.2.2.2.1), (1, .ref r1), (2, .ref r2), (3, .int (nI i3))] (r.toList ++ []) μ2 (cs + R'.cells) (sl + R'.slots) K)) (hb_18 : ¬ ((nI X.2.2.2.2.2.2.2.1) - 5) < (nI i3) → ((X.2.2.2.2.2.2.2.2 i3) &&& 31) = 13 → (i3 + 1) < X.2.2.2.2.2.2.2.1) (hb_19 : ¬ ((nI X.2.2.2.2.2.2.2.1) - 5) < (nI i3) → ((X.2.2.2.2.2.2.2.2 i3) &&& 31) = 13 → (i3 + 2) < X.2.2.2.2.2.2.2.1) (hb_20 : ¬ ((nI X.2.2.2.2.2.2.2.1) - 5) < (nI i3) → ((X.2.2.2.2.2.2.2.2 i3) &&& 31) = 13 → (i3 + 3) < X.2.2.2.2.2.2.2.1) (hc_place : ¬ ((nI X.2.2.2.2.2.2.2.1) - 5) < (nI i3) → ((X.2.2.2.2.2.2.2.2 i3) &&& 31) = 13 → Ct X R' mX11_place [.ref r1, .int (X.2.2.2.2.2.2.2.2 (i3 + 1)), .int (X.2.2.2.2.2.2.2.2 (i3 + 2)), .int (X.2.2.2.2.2.2.2.2 (i3 + 3))] μ (fun r μ2 => G X R mL_law 512 [(0, .ref X.2.2.2.2.2.2.1), (1, .ref r1), (2, .ref r2), (3, .int (nI i3))] (r.toList ++ []) μ2 (cs + R'.cells) (sl + R'.slots) K)) (hb_21 : ¬ ((nI X.2.2.2.2.2.2.2.1) - 5) < (nI i3) → ((X.2.2.2.2.2.2.2.2 i3) &&& 31) = 14 → (i3 + 1) < X.2.2.2.2.2.2.2.1) (hb_22 : ¬ ((nI X.2.2.2.2.2.2.2.1) - 5) < (nI i3) → ((X.2.2.2.2.2.2.2.2 i3) &&& 31) = 14 → (i3 + 2) < X.2.2.2.2.2.2.2.1) (hb_23 : ¬ ((nI X.2.2.2.2.2.2.2.1) - 5) < (nI i3) → ((X.2.2.2.2.2.2.2.2 i3) &&& 31) = 14 → (i3 + 3) < X.2.2.2.2.2.2.2.1) (hc_lead : ¬ ((nI X.2.2.2.2.2.2.2.1) - 5) < (nI i3) → ((X.2.2.2.2.2.2.2.2 i3) &&& 31) = 14 → Ct X R' mX11_lead [.ref r1, .int (X.2.2.2.2.2.2.2.2 (i3 + 1)), .int (X.2.2.2.2.2.2.2.2 (i3 + 2)), .int (X.2.2.2.2.2.2.2.2 (i3 + 3))] μ (fun r μ2 => G X R mL_law 555 [(0, .ref X.2.2.2.2.2.2.1), (1, .ref r1), (2, .ref r2), (3, .int (nI i3))] (r.toList ++ []) μ2 (cs + R'.cells) (sl + R'.slots) K)) (hb_24 : ¬ ((nI X.2.2.2.2.2.2.2.1) - 5) < (nI i3) → ((X.2.2.2.2.2.2.2.2 i3) &&& 31) = 15 → (i3 + 1) < X.2.2.2.2.2.2.2.1) (hb_25 : ¬ ((nI X.2.2.2.2.2.2.2.1) - 5) < (nI i3) → ((X.2.2.2.2.2.2.2.2 i3) &&& 31) = 15 → (i3 + 2) < X.2.2.2.2.2.2.2.1) (hb_26 : ¬ ((nI X.2.2.2.2.2.2.2.1) - 5) < (nI i3) → ((X.2.2.2.2.2.2.2.2 i3) &&& 31) = 15 → (i3 + 3) < X.2.2.2.2.2.2.2.1) (hc_deed : ¬ ((nI X.2.2.2.2.2.2.2.1) - 5) < (nI i3) → ((X.2.2.2.2.2.2.2.2 i3) &&& 31) = 15 → Ct X R' mX11_deed [.ref r1, .int (X.2.2.2.2.2.2.2.2 (i3 + 1)), .int (X.2.2.2.2.2.2.2.2 (i3 + 2)), .int (X.2.2.2.2.2.2.2.2 (i3 + 3))] μ (fun r μ2 => G X R mL_law 598 [(0, .ref X.2.2.2.2.2.2.1), (1, .ref r1), (2, .ref r2), (3, .int (nI i3))] (r.toList ++ []) μ2 (cs + R'.cells) (sl + R'.slots) K)) (hb_27 : ¬ ((nI X.2.2.2.2.2.2.2.1) - 5) < (nI i3) → ((X.2.2.2.2.2.2.2.2 i3) &&& 31) = 16 → (i3 + 1) < X.2.2.2.2.2.2.2.1) (hc_fold : ¬ ((nI X.2.2.2.2.2.2.2.1) - 5) < (nI i3) → ((X.2.2.2.2.2.2.2.2 i3) &&& 31) = 16 → Ct X R' mX11_fold [.ref r1, .int (X.2.2.2.2.2.2.2.2 (i3 + 1))] μ (fun r μ2 => G X R mL_law 631 [(0, .ref X.2.2.2.2.2.2.1), (1, .ref r1), (2, .ref r2), (3, .int (nI i3))] (r.toList ++ []) μ2 (cs + R'.cells) (sl + R'.slots) K)) (hc_sharpen : ¬ ((nI X.2.2.2.2.2.2.2.1) - 5) < (nI i3) → ((X.2.2.2.2.2.2.2.2 i3) &&& 31) = 17 → Ct X R' mX11_sharpen [.ref r1] μ (fun r μ2 => G X R mL_law 649 [(0, .ref X.2.2.2.2.2.2.1), (1, .ref r1), (2, .ref r2), (3, .int (nI i3))] (r.toList ++ []) μ2 (cs + R'.cells) (sl + R'.slots) K)) (hb_28 : ¬ ((nI X.2.2.2.2.2.2.2.1) - 5) < (nI i3) → ((X.2.2.2.2.2.2.2.2 i3) &&& 31) = 18 → (i3 + 1) < X.2.2.2.2.2.2.2.1) (hc_ways : ¬ ((nI X.2.2.2.2.2.2.2.1) - 5) < (nI i3) → ((X.2.2.2.2.2.2.2.2 i3) &&& 31) = 18 → Ct X R' mX11_ways [.ref r1, .int (X.2.2.2.2.2.2.2.2 (i3 + 1))] μ (fun r μ2 => G X R mL_law 667 [(0, .ref X.2.2.2.2.2.2.1), (1, .ref r1), (2, .ref r2), (3, .int (nI i3))] (r.toList ++ []) μ2 (cs + R'.cells) (sl + R'.slots) K)) (hb_29 : ¬ ((nI X.2.2.2.2.2.2.2.1) - 5) < (nI i3) → ((X.2.2.2.2.2.2.2.2 i3) &&& 31) = 19 → (i3 + 1) < X.2.2.2.2.2.2.2.1) (hb_30 : ¬ ((nI X.2.2.2.2.2.2.2.1) - 5) < (nI i3) → ((X.2.2.2.2.2.2.2.2 i3) &&& 31) = 19 → (i3 + 2) < X.2.2.2.2.2.2.2.1) (hc_split : ¬ ((nI X.2.2.2.2.2.2.2.1) - 5) < (nI i3) → ((X.2.2.2.2.2.2.2.2 i3) &&& 31) = 19 → Ct X R' mX11_split [.ref r1, .int (X.2.2.2.2.2.2.2.2 (i3 + 1)), .int (X.2.2.2.2.2.2.2.2 (i3 + 2))] μ (fun r μ2 => G X R mL_law 695 [(0, .ref X.2.2.2.2.2.2.1), (1, .ref r1), (2, .ref r2), (3, .int (nI i3))] (r.toList ++ []) μ2 (cs + R'.cells) (sl + R'.slots) K)) (hb_31 : ¬ ((nI X.2.2.2.2.2.2.2.1) - 5) < (nI i3) → ((X.2.2.2.2.2.2.2.2 i3) &&& 31) = 20 → (i3 + 1) < X.2.2.2.2.2.2.2.1) (hb_32 : ¬ ((nI X.2.2.2.2.2.2.2.1) - 5) < (nI i3) → ((X.2.2.2.2.2.2.2.2 i3) &&& 31) = 20 → (i3 + 2) < X.2.2.2.2.2.2.2.1) (hru_6 : ru R R' 8 cs sl) (hc_run : ¬ ((nI X.2.2.2.2.2.2.2.1) - 5) < (nI i3) → ((X.2.2.2.2.2.2.2.2 i3) &&& 31) = 20 → Ct X R' mX11_run [.ref r1, .int (X.2.2.2.2.2.2.2.2 (i3 + 1)), .int (X.2.2.2.2.2.2.2.2 (i3 + 2))] μ (fun r μ2 => G X R mL_law 728 [(0, .ref X.2.2.2.2.2.2.1), (1, .ref r1), (2, .ref r2), (3, .int (nI i3))] (r.toList ++ []) μ2 (cs + R'.cells) (sl + R'.slots) K)) (hb_33 : ¬ ((nI X.2.2.2.2.2.2.2.1) - 5) < (nI i3) → ((X.2.2.2.2.2.2.2.2 i3) &&& 31) = 21 → (i3 + 1) < X.2.2.2.2.2.2.2.1) (hc_keep : ¬ ((nI X.2.2.2.2.2.2.2.1) - 5) < (nI i3) → ((X.2.2.2.2.2.2.2.2 i3) &&& 31) = 21 → Ct X R' mX11_keep [.ref r1, .int (X.2.2.2.2.2.2.2.2 (i3 + 1))] μ (fun r μ2 => G X R mL_law 756 [(0, .ref X.2.2.2.2.2.2.1), (1, .ref r1), (2, .ref r2), (3, .int (nI i3))] (r.toList ++ []) μ2 (cs + R'.cells) (sl + R'.slots) K)) (hb_34 : ¬ ((nI X.2.2.2.2.2.2.2.1) - 5) < (nI i3) → ((X.2.2.2.2.2.2.2.2 i3) &&& 31) = 22 → (i3 + 1) < X.2.2.2.2.2.2.2.1) (hc_back : ¬ ((nI X.2.2.2.2.2.2.2.1) - 5) < (nI i3) → ((X.2.2.2.2.2.2.2.2 i3) &&& 31) = 22 → Ct X R' mX11_back [.ref r1, .int (X.2.2.2.2.2.2.2.2 (i3 + 1))] μ (fun r μ2 => G X R mL_law 779 [(0, .ref X.2.2.2.2.2.2.1), (1, .ref r1), (2, .ref r2), (3, .int (nI i3))] (r.toList ++ []) μ2 (cs + R'.cells) (sl + R'.slots) K)) (hb_35 : ¬ ((nI X.2.2.2.2.2.2.2.1) - 5) < (nI i3) → ((X.2.2.2.2.2.2.2.2 i3) &&& 31) = 23 → (i3 + 1) < X.2.2.2.2.2.2.2.1) (hb_36 : ¬ ((nI X.2.2.2.2.2.2.2.1) - 5) < (nI i3) → ((X.2.2.2.2.2.2.2.2 i3) &&& 31) = 23 → (i3 + 2) < X.2.2.2.2.2.2.2.1) (hc_covers : ¬ ((nI X.2.2.2.2.2.2.2.1) - 5) < (nI i3) → ((X.2.2.2.2.2.2.2.2 i3) &&& 31) = 23 → Ct X R' mX11_covers [.ref r1, .int (X.2.2.2.2.2.2.2.2 (i3 + 1)), .int (X.2.2.2.2.2.2.2.2 (i3 + 2))] μ (fun r μ2 => G X R mL_law 807 [(0, .ref X.2.2.2.2.2.2.1), (1, .ref r1), (2, .ref r2), (3, .int (nI i3))] (r.toList ++ []) μ2 (cs + R'.cells) (sl + R'.slots) K)) (hb_37 : ¬ ((nI X.2.2.2.2.2.2.2.1) - 5) < (nI i3) → ((X.2.2.2.2.2.2.2.2 i3) &&& 31) = 24 → (i3 + 1) < X.2.2.2.2.2.2.2.1) (hb_38 : ¬ ((nI X.2.2.2.2.2.2.2.1) - 5) < (nI i3) → ((X.2.2.2.2.2.2.2.2 i3) &&& 31) = 24 → (i3 + 2) < X.2.2.2.2.2.2.2.1) (hb_39 : ¬ ((nI X.2.2.2.2.2.2.2.1) - 5) < (nI i3) → ((X.2.2.2.2.2.2.2.2 i3) &&& 31) = 24 → (i3 + 3) < X.2.2.2.2.2.2.2.1) (hc_sheet : ¬ ((nI X.2.2.2.2.2.2.2.1) - 5) < (nI i3) → ((X.2.2.2.2.2.2.2.2 i3) &&& 31) = 24 → Ct X R' mX11_sheet [.ref r1, .int (X.2.2.2.2.2.2.2.2 (i3 + 1)), .int (X.2.2.2.2.2.2.2.2 (i3 + 2)), .int (X.2.2.2.2.2.2.2.2 (i3 + 3))] μ (fun r μ2 => G X R mL_law 845 [(0, .ref X.2.2.2.2.2.2.1), (1, .ref r1), (2, .ref r2), (3, .int (nI i3))] (r.toList ++ []) μ2 (cs + R'.cells) (sl + R'.slots) K)) (hb_40 : ¬ ((nI X.2.2.2.2.2.2.2.1) - 5) < (nI i3) → ((X.2.2.2.2.2.2.2.2 i3) &&& 31) = 25 → (i3 + 1) < X.2.2.2.2.2.2.2.1) (hb_41 : ¬ ((nI X.2.2.2.2.2.2.2.1) - 5) < (nI i3) → ((X.2.2.2.2.2.2.2.2 i3) &&& 31) = 25 → (i3 + 2) < X.2.2.2.2.2.2.2.1) (hb_42 : ¬ ((nI X.2.2.2.2.2.2.2.1) - 5) < (nI i3) → ((X.2.2.2.2.2.2.2.2 i3) &&& 31) = 25 → (i3 + 3) < X.2.2.2.2.2.2.2.1) (hc_lay : ¬ ((nI X.2.2.2.2.2.2.2.1) - 5) < (nI i3) → ((X.2.2.2.2.2.2.2.2 i3) &&& 31) = 25 → Ct X R' mX11_lay [.ref r1, .int (X.2.2.2.2.2.2.2.2 (i3 + 1)), .int (X.2.2.2.2.2.2.2.2 (i3 + 2)), .int (X.2.2.2.2.2.2.2.2 (i3 + 3))] μ (fun r μ2 => G X R mL_law 888 [(0, .ref X.2.2.2.2.2.2.1), (1, .ref r1), (2, .ref r2), (3, .int (nI i3))] (r.toList ++ []) μ2 (cs + R'.cells) (sl + R'.slots) K)) (hb_43 : ¬ ((nI X.2.2.2.2.2.2.2.1) - 5) < (nI i3) → ((X.2.2.2.2.2.2.2.2 i3) &&& 31) = 26 → (i3 + 1) < X.2.2.2.2.2.2.2.1) (hb_44 : ¬ ((nI X.2.2.2.2.2.2.2.1) - 5) < (nI i3) → ((X.2.2.2.2.2.2.2.2 i3) &&& 31) = 26 → (i3 + 2) < X.2.2.2.2.2.2.2.1) (hb_45 : ¬ ((nI X.2.2.2.2.2.2.2.1) - 5) < (nI i3) → ((X.2.2.2.2.2.2.2.2 i3) &&& 31) = 26 → (i3 + 3) < X.2.2.2.2.2.2.2.1) (hb_46 : ¬ ((nI X.2.2.2.2.2.2.2.1) - 5) < (nI i3) → ((X.2.2.2.2.2.2.2.2 i3) &&& 31) = 26 → (i3 + 4) < X.2.2.2.2.2.2.2.1) (hru_7 : ru R R' 11 cs sl) (hc_read : ¬ ((nI X.2.2.2.2.2.2.2.1) - 5) < (nI i3) → ((X.2.2.2.2.2.2.2.2 i3) &&& 31) = 26 → Ct X R' mX11_read [.ref r1, .int (X.2.2.2.2.2.2.2.2 (i3 + 1)), .int (X.2.2.2.2.2.2.2.2 (i3 + 2)), .int (X.2.2.2.2.2.2.2.2 (i3 + 3)), .int (X.2.2.2.2.2.2.2.2 (i3 + 4))] μ (fun r μ2 => G X R mL_law 936 [(0, .ref X.2.2.2.2.2.2.1), (1, .ref r1), (2, .ref r2), (3, .int (nI i3))] (r.toList ++ []) μ2 (cs + R'.cells) (sl + R'.slots) K)) (hc_torn : ¬ ((nI X.2.2.2.2.2.2.2.1) - 5) < (nI i3) → ((X.2.2.2.2.2.2.2.2 i3) &&& 31) = 27 → Ct X R' mX11_torn [.ref r1] μ (fun r μ2 => G X R mL_law 969 [(0, .ref X.2.2.2.2.2.2.1), (1, .ref r1), (2, .ref r2), (3, .int (nI i3))] (r.toList ++ []) μ2 (cs + R'.cells) (sl + R'.slots) K)) (hb_47 : ¬ ((nI X.2.2.2.2.2.2.2.1) - 5) < (nI i3) → ((X.2.2.2.2.2.2.2.2 i3) &&& 31) = 28 → (i3 + 1) < X.2.2.2.2.2.2.2.1) (hc_count : ¬ ((nI X.2.2.2.2.2.2.2.1) - 5) < (nI i3) → ((X.2.2.2.2.2.2.2.2 i3) &&& 31) = 28 → Ct X R' mX11_count [.ref r1, .int (X.2.2.2.2.2.2.2.2 (i3 + 1))] μ (fun r μ2 => G X R mL_law 987 [(0, .ref X.2.2.2.2.2.2.1), (1, .ref r1), (2, .ref r2), (3, .int (nI i3))] (r.toList ++ []) μ2 (cs + R'.cells) (sl + R'.slots) K)) (h : ¬ ((nI X.2.2.2.2.2.2.2.1) - 5) < (nI i3) → (((X.2.2.2.2.2.2.2.2 i3) &&& 31).toInt < 0 ∨ 28 < ((X.2.2.2.2.2.2.2.2 i3) &&& 31).toInt) → G X R mL_law 1001 [(0, .ref X.2.2.2.2.2.2.1), (1, .ref r1), (2, .ref r2), (3, .int (nI i3))] [] μ cs sl K) : G X R mL_law 18 [(0, .ref X.2.2.2.2.2.2.1), (1, .ref r1), (2, .ref r2), (3, .int (nI i3))] [] μ cs sl K := by
  refine G_iload_n d_L_law_18 rfl 3 rfl ?_
  refine G_aload_n d_L_law_19 rfl 0 rfl ?_
  refine G_scLen d_L_law_20 ?_
  refine G_iconst d_L_law_21 ic_5 ?_
  refine G_isub d_L_law_22 ?_
  refine G_icmp_gt (tgt := 1007) d_L_law_23 rfl (fun c0 => ?_) (fun c0 => ?_)
  ·
    refine G_iconst d_L_law_1007 ic_1 ?_
    exact G_zret rfl rfl hcs hsl d_L_law_1008 (hK c0)
  ·
    refine G_aload_n d_L_law_26 rfl 0 rfl ?_
    refine G_iload_n d_L_law_27 rfl 3 rfl ?_
    refine G_scLd (hb c0) h31 d_L_law_28 ?_
    refine G_bipush d_L_law_29 bp_31 ?_
    refine G_iand d_L_law_31 ?_
    by_cases c1 : ((X.2.2.2.2.2.2.2.2 i3) &&& 31) = 0
    ·
      refine G_tableIn (tgt := 164) (off := 132) d_L_law_32 (by rw [c1]; decide) (by rw [c1]; decide) (by rw [c1]; decide) rfl ?_
      refine G_aload_n d_L_law_164 rfl 1 rfl ?_
      refine G_aload_n d_L_law_165 rfl 0 rfl ?_
      refine G_iload_n d_L_law_166 rfl 3 rfl ?_
      refine G_iconst d_L_law_167 ic_1 ?_
      refine G_iadd d_L_law_168 ?_
      refine G_stk (S' := [.int (nI (i3 + 1)), .ref X.2.2.2.2.2.2.1, .ref r1]) (by rw [show (nI i3) + 1 = nI (i3 + 1) from (nadd rfl rfl)]) ?_
      refine G_scLd (hb_2 c0 c1) h31 d_L_law_169 ?_
      refine G_callV (M' := mX11_feed) (R' := R') (S := []) [.int (X.2.2.2.2.2.2.2.2 (i3 + 1))] 11 hk_r1 cok11 rfl ok_X11_feed ml_L_13 pn_X11_feed hru (Nat.le_of_ble_eq_true rfl) d_L_law_170 ?_
      exact (hc_feed c0 c1)
    have z0 := lv_neT c1 (show (0 : Int32).toInt = 0 from rfl)
    by_cases c1 : ((X.2.2.2.2.2.2.2.2 i3) &&& 31) = 1
    ·
      refine G_tableIn (tgt := 187) (off := 155) d_L_law_32 (by rw [c1]; decide) (by rw [c1]; decide) (by rw [c1]; decide) rfl ?_
      refine G_aload_n d_L_law_187 rfl 1 rfl ?_
      refine G_aload_n d_L_law_188 rfl 0 rfl ?_
      refine G_iload_n d_L_law_189 rfl 3 rfl ?_
      refine G_iconst d_L_law_190 ic_1 ?_
      refine G_iadd d_L_law_191 ?_
      refine G_stk (S' := [.int (nI (i3 + 1)), .ref X.2.2.2.2.2.2.1, .ref r1]) (by rw [show (nI i3) + 1 = nI (i3 + 1) from (nadd rfl rfl)]) ?_
      refine G_scLd (hb_3 c0 c1) h31 d_L_law_192 ?_
      refine G_callV (M' := mX11_end) (R' := R') (S := []) [.int (X.2.2.2.2.2.2.2.2 (i3 + 1))] 11 hk_r1 cok11 rfl ok_X11_end ml_L_18 pn_X11_end hru_2 (Nat.le_of_ble_eq_true rfl) d_L_law_193 ?_
      exact (hc_end c0 c1)
    have z1 := lv_neT c1 (show (1 : Int32).toInt = 1 from rfl)
    by_cases c1 : ((X.2.2.2.2.2.2.2.2 i3) &&& 31) = 2
    ·
      refine G_tableIn (tgt := 210) (off := 178) d_L_law_32 (by rw [c1]; decide) (by rw [c1]; decide) (by rw [c1]; decide) rfl ?_
      refine G_aload_n d_L_law_210 rfl 1 rfl ?_
      refine G_callV (M' := mX11_text) (R' := R') (S := []) [] 11 hk_r1 cok11 rfl ok_X11_text ml_L_22 pn_X11_text hru_3 (Nat.le_of_ble_eq_true rfl) d_L_law_211 ?_
      exact (hc_text c0 c1)
    have z2 := lv_neT c1 (show (2 : Int32).toInt = 2 from rfl)
    by_cases c1 : ((X.2.2.2.2.2.2.2.2 i3) &&& 31) = 3
    ·
      refine G_tableIn (tgt := 223) (off := 191) d_L_law_32 (by rw [c1]; decide) (by rw [c1]; decide) (by rw [c1]; decide) rfl ?_
      refine G_aload_n d_L_law_223 rfl 1 rfl ?_
      refine G_callV (M' := mX11_fault) (R' := R') (S := []) [] 11 hk_r1 cok11 rfl ok_X11_fault ml_L_27 pn_X11_fault hru_4 (Nat.le_of_ble_eq_true rfl) d_L_law_224 ?_
      exact (hc_fault c0 c1)
    have z3 := lv_neT c1 (show (3 : Int32).toInt = 3 from rfl)
    by_cases c1 : ((X.2.2.2.2.2.2.2.2 i3) &&& 31) = 4
    ·
      refine G_tableIn (tgt := 236) (off := 204) d_L_law_32 (by rw [c1]; decide) (by rw [c1]; decide) (by rw [c1]; decide) rfl ?_
      refine G_aload_n d_L_law_236 rfl 1 rfl ?_
      refine G_aload_n d_L_law_237 rfl 0 rfl ?_
      refine G_iload_n d_L_law_238 rfl 3 rfl ?_
      refine G_iconst d_L_law_239 ic_1 ?_
      refine G_iadd d_L_law_240 ?_
      refine G_stk (S' := [.int (nI (i3 + 1)), .ref X.2.2.2.2.2.2.1, .ref r1]) (by rw [show (nI i3) + 1 = nI (i3 + 1) from (nadd rfl rfl)]) ?_
      refine G_scLd (hb_4 c0 c1) h31 d_L_law_241 ?_
      refine G_callV (M' := mX11_rule) (R' := R') (S := []) [.int (X.2.2.2.2.2.2.2.2 (i3 + 1))] 11 hk_r1 cok11 rfl ok_X11_rule ml_L_31 pn_X11_rule hru_2 (Nat.le_of_ble_eq_true rfl) d_L_law_242 ?_
      exact (hc_rule c0 c1)
    have z4 := lv_neT c1 (show (4 : Int32).toInt = 4 from rfl)
    by_cases c1 : ((X.2.2.2.2.2.2.2.2 i3) &&& 31) = 5
    ·
      refine G_tableIn (tgt := 259) (off := 227) d_L_law_32 (by rw [c1]; decide) (by rw [c1]; decide) (by rw [c1]; decide) rfl ?_
      refine G_aload_n d_L_law_259 rfl 1 rfl ?_
      refine G_aload_n d_L_law_260 rfl 0 rfl ?_
      refine G_iload_n d_L_law_261 rfl 3 rfl ?_
      refine G_iconst d_L_law_262 ic_1 ?_
      refine G_iadd d_L_law_263 ?_
      refine G_stk (S' := [.int (nI (i3 + 1)), .ref X.2.2.2.2.2.2.1, .ref r1]) (by rw [show (nI i3) + 1 = nI (i3 + 1) from (nadd rfl rfl)]) ?_
      refine G_scLd (hb_5 c0 c1) h31 d_L_law_264 ?_
      refine G_aload_n d_L_law_265 rfl 0 rfl ?_
      refine G_iload_n d_L_law_266 rfl 3 rfl ?_
      refine G_iconst d_L_law_267 ic_2 ?_
      refine G_iadd d_L_law_268 ?_
      refine G_stk (S' := [.int (nI (i3 + 2)), .ref X.2.2.2.2.2.2.1, .int (X.2.2.2.2.2.2.2.2 (i3 + 1)), .ref r1]) (by rw [show (nI i3) + 2 = nI (i3 + 2) from (nadd rfl rfl)]) ?_
      refine G_scLd (hb_6 c0 c1) h31 d_L_law_269 ?_
      refine G_callV (M' := mX11_node) (R' := R') (S := []) [.int (X.2.2.2.2.2.2.2.2 (i3 + 1)), .int (X.2.2.2.2.2.2.2.2 (i3 + 2))] 11 hk_r1 cok11 rfl ok_X11_node ml_L_35 pn_X11_node hru_3 (Nat.le_of_ble_eq_true rfl) d_L_law_270 ?_
      exact (hc_node c0 c1)
    have z5 := lv_neT c1 (show (5 : Int32).toInt = 5 from rfl)
    by_cases c1 : ((X.2.2.2.2.2.2.2.2 i3) &&& 31) = 6
    ·
      refine G_tableIn (tgt := 292) (off := 260) d_L_law_32 (by rw [c1]; decide) (by rw [c1]; decide) (by rw [c1]; decide) rfl ?_
      refine G_aload_n d_L_law_292 rfl 1 rfl ?_
      refine G_aload_n d_L_law_293 rfl 0 rfl ?_
      refine G_iload_n d_L_law_294 rfl 3 rfl ?_
      refine G_iconst d_L_law_295 ic_1 ?_
      refine G_iadd d_L_law_296 ?_
      refine G_stk (S' := [.int (nI (i3 + 1)), .ref X.2.2.2.2.2.2.1, .ref r1]) (by rw [show (nI i3) + 1 = nI (i3 + 1) from (nadd rfl rfl)]) ?_
      refine G_scLd (hb_7 c0 c1) h31 d_L_law_297 ?_
      refine G_aload_n d_L_law_298 rfl 0 rfl ?_
      refine G_iload_n d_L_law_299 rfl 3 rfl ?_
      refine G_iconst d_L_law_300 ic_2 ?_
      refine G_iadd d_L_law_301 ?_
      refine G_stk (S' := [.int (nI (i3 + 2)), .ref X.2.2.2.2.2.2.1, .int (X.2.2.2.2.2.2.2.2 (i3 + 1)), .ref r1]) (by rw [show (nI i3) + 2 = nI (i3 + 2) from (nadd rfl rfl)]) ?_
      refine G_scLd (hb_8 c0 c1) h31 d_L_law_302 ?_
      refine G_aload_n d_L_law_303 rfl 0 rfl ?_
      refine G_iload_n d_L_law_304 rfl 3 rfl ?_
      refine G_iconst d_L_law_305 ic_3 ?_
      refine G_iadd d_L_law_306 ?_
      refine G_stk (S' := [.int (nI (i3 + 3)), .ref X.2.2.2.2.2.2.1, .int (X.2.2.2.2.2.2.2.2 (i3 + 2)), .int (X.2.2.2.2.2.2.2.2 (i3 + 1)), .ref r1]) (by rw [show (nI i3) + 3 = nI (i3 + 3) from (nadd rfl rfl)]) ?_
      refine G_scLd (hb_9 c0 c1) h31 d_L_law_307 ?_
      refine G_callV (M' := mX11_pair) (R' := R') (S := []) [.int (X.2.2.2.2.2.2.2.2 (i3 + 1)), .int (X.2.2.2.2.2.2.2.2 (i3 + 2)), .int (X.2.2.2.2.2.2.2.2 (i3 + 3))] 11 hk_r1 cok11 rfl ok_X11_pair ml_L_40 pn_X11_pair hru_5 (Nat.le_of_ble_eq_true rfl) d_L_law_308 ?_
      exact (hc_pair c0 c1)
    have z6 := lv_neT c1 (show (6 : Int32).toInt = 6 from rfl)
    by_cases c1 : ((X.2.2.2.2.2.2.2.2 i3) &&& 31) = 7
    ·
      refine G_tableIn (tgt := 335) (off := 303) d_L_law_32 (by rw [c1]; decide) (by rw [c1]; decide) (by rw [c1]; decide) rfl ?_
      refine G_aload_n d_L_law_335 rfl 1 rfl ?_
      refine G_aload_n d_L_law_336 rfl 0 rfl ?_
      refine G_iload_n d_L_law_337 rfl 3 rfl ?_
      refine G_iconst d_L_law_338 ic_1 ?_
      refine G_iadd d_L_law_339 ?_
      refine G_stk (S' := [.int (nI (i3 + 1)), .ref X.2.2.2.2.2.2.1, .ref r1]) (by rw [show (nI i3) + 1 = nI (i3 + 1) from (nadd rfl rfl)]) ?_
      refine G_scLd (hb_10 c0 c1) h31 d_L_law_340 ?_
      refine G_callV (M' := mX11_held) (R' := R') (S := []) [.int (X.2.2.2.2.2.2.2.2 (i3 + 1))] 11 hk_r1 cok11 rfl ok_X11_held ml_L_45 pn_X11_held hru (Nat.le_of_ble_eq_true rfl) d_L_law_341 ?_
      exact (hc_held c0 c1)
    have z7 := lv_neT c1 (show (7 : Int32).toInt = 7 from rfl)
    by_cases c1 : ((X.2.2.2.2.2.2.2.2 i3) &&& 31) = 8
    ·
      refine G_tableIn (tgt := 358) (off := 326) d_L_law_32 (by rw [c1]; decide) (by rw [c1]; decide) (by rw [c1]; decide) rfl ?_
      refine G_aload_n d_L_law_358 rfl 1 rfl ?_
      refine G_aload_n d_L_law_359 rfl 0 rfl ?_
      refine G_iload_n d_L_law_360 rfl 3 rfl ?_
      refine G_iconst d_L_law_361 ic_1 ?_
      refine G_iadd d_L_law_362 ?_
      refine G_stk (S' := [.int (nI (i3 + 1)), .ref X.2.2.2.2.2.2.1, .ref r1]) (by rw [show (nI i3) + 1 = nI (i3 + 1) from (nadd rfl rfl)]) ?_
      refine G_scLd (hb_11 c0 c1) h31 d_L_law_363 ?_
      refine G_callV (M' := mX11_ask) (R' := R') (S := []) [.int (X.2.2.2.2.2.2.2.2 (i3 + 1))] 11 hk_r1 cok11 rfl ok_X11_ask ml_L_49 pn_X11_ask hru (Nat.le_of_ble_eq_true rfl) d_L_law_364 ?_
      exact (hc_ask c0 c1)
    have z8 := lv_neT c1 (show (8 : Int32).toInt = 8 from rfl)
    by_cases c1 : ((X.2.2.2.2.2.2.2.2 i3) &&& 31) = 9
    ·
      refine G_tableIn (tgt := 381) (off := 349) d_L_law_32 (by rw [c1]; decide) (by rw [c1]; decide) (by rw [c1]; decide) rfl ?_
      refine G_aload_n d_L_law_381 rfl 1 rfl ?_
      refine G_aload_n d_L_law_382 rfl 0 rfl ?_
      refine G_iload_n d_L_law_383 rfl 3 rfl ?_
      refine G_iconst d_L_law_384 ic_1 ?_
      refine G_iadd d_L_law_385 ?_
      refine G_stk (S' := [.int (nI (i3 + 1)), .ref X.2.2.2.2.2.2.1, .ref r1]) (by rw [show (nI i3) + 1 = nI (i3 + 1) from (nadd rfl rfl)]) ?_
      refine G_scLd (hb_12 c0 c1) h31 d_L_law_386 ?_
      refine G_aload_n d_L_law_387 rfl 0 rfl ?_
      refine G_iload_n d_L_law_388 rfl 3 rfl ?_
      refine G_iconst d_L_law_389 ic_2 ?_
      refine G_iadd d_L_law_390 ?_
      refine G_stk (S' := [.int (nI (i3 + 2)), .ref X.2.2.2.2.2.2.1, .int (X.2.2.2.2.2.2.2.2 (i3 + 1)), .ref r1]) (by rw [show (nI i3) + 2 = nI (i3 + 2) from (nadd rfl rfl)]) ?_
      refine G_scLd (hb_13 c0 c1) h31 d_L_law_391 ?_
      refine G_callV (M' := mX11_formula) (R' := R') (S := []) [.int (X.2.2.2.2.2.2.2.2 (i3 + 1)), .int (X.2.2.2.2.2.2.2.2 (i3 + 2))] 11 hk_r1 cok11 rfl ok_X11_formula ml_L_53 pn_X11_formula hru_3 (Nat.le_of_ble_eq_true rfl) d_L_law_392 ?_
      exact (hc_formula c0 c1)
    have z9 := lv_neT c1 (show (9 : Int32).toInt = 9 from rfl)
    by_cases c1 : ((X.2.2.2.2.2.2.2.2 i3) &&& 31) = 10
    ·
      refine G_tableIn (tgt := 414) (off := 382) d_L_law_32 (by rw [c1]; decide) (by rw [c1]; decide) (by rw [c1]; decide) rfl ?_
      refine G_aload_n d_L_law_414 rfl 1 rfl ?_
      refine G_aload_n d_L_law_415 rfl 0 rfl ?_
      refine G_iload_n d_L_law_416 rfl 3 rfl ?_
      refine G_iconst d_L_law_417 ic_1 ?_
      refine G_iadd d_L_law_418 ?_
      refine G_stk (S' := [.int (nI (i3 + 1)), .ref X.2.2.2.2.2.2.1, .ref r1]) (by rw [show (nI i3) + 1 = nI (i3 + 1) from (nadd rfl rfl)]) ?_
      refine G_scLd (hb_14 c0 c1) h31 d_L_law_419 ?_
      refine G_callV (M' := mX11_add) (R' := R') (S := []) [.int (X.2.2.2.2.2.2.2.2 (i3 + 1))] 11 hk_r1 cok11 rfl ok_X11_add ml_L_57 pn_X11_add hru (Nat.le_of_ble_eq_true rfl) d_L_law_420 ?_
      exact (hc_add c0 c1)
    have z10 := lv_neT c1 (show (10 : Int32).toInt = 10 from rfl)
    by_cases c1 : ((X.2.2.2.2.2.2.2.2 i3) &&& 31) = 11
    ·
      refine G_tableIn (tgt := 437) (off := 405) d_L_law_32 (by rw [c1]; decide) (by rw [c1]; decide) (by rw [c1]; decide) rfl ?_
      refine G_aload_n d_L_law_437 rfl 1 rfl ?_
      refine G_aload_n d_L_law_438 rfl 0 rfl ?_
      refine G_iload_n d_L_law_439 rfl 3 rfl ?_
      refine G_iconst d_L_law_440 ic_1 ?_
      refine G_iadd d_L_law_441 ?_
      refine G_stk (S' := [.int (nI (i3 + 1)), .ref X.2.2.2.2.2.2.1, .ref r1]) (by rw [show (nI i3) + 1 = nI (i3 + 1) from (nadd rfl rfl)]) ?_
      refine G_scLd (hb_15 c0 c1) h31 d_L_law_442 ?_
      refine G_callV (M' := mX11_lose) (R' := R') (S := []) [.int (X.2.2.2.2.2.2.2.2 (i3 + 1))] 11 hk_r1 cok11 rfl ok_X11_lose ml_L_61 pn_X11_lose hru (Nat.le_of_ble_eq_true rfl) d_L_law_443 ?_
      exact (hc_lose c0 c1)
    have z11 := lv_neT c1 (show (11 : Int32).toInt = 11 from rfl)
    by_cases c1 : ((X.2.2.2.2.2.2.2.2 i3) &&& 31) = 12
    ·
      refine G_tableIn (tgt := 460) (off := 428) d_L_law_32 (by rw [c1]; decide) (by rw [c1]; decide) (by rw [c1]; decide) rfl ?_
      refine G_aload_n d_L_law_460 rfl 1 rfl ?_
      refine G_aload_n d_L_law_461 rfl 0 rfl ?_
      refine G_iload_n d_L_law_462 rfl 3 rfl ?_
      refine G_iconst d_L_law_463 ic_1 ?_
      refine G_iadd d_L_law_464 ?_
      refine G_stk (S' := [.int (nI (i3 + 1)), .ref X.2.2.2.2.2.2.1, .ref r1]) (by rw [show (nI i3) + 1 = nI (i3 + 1) from (nadd rfl rfl)]) ?_
      refine G_scLd (hb_16 c0 c1) h31 d_L_law_465 ?_
      refine G_aload_n d_L_law_466 rfl 0 rfl ?_
      refine G_iload_n d_L_law_467 rfl 3 rfl ?_
      refine G_iconst d_L_law_468 ic_2 ?_
      refine G_iadd d_L_law_469 ?_
      refine G_stk (S' := [.int (nI (i3 + 2)), .ref X.2.2.2.2.2.2.1, .int (X.2.2.2.2.2.2.2.2 (i3 + 1)), .ref r1]) (by rw [show (nI i3) + 2 = nI (i3 + 2) from (nadd rfl rfl)]) ?_
      refine G_scLd (hb_17 c0 c1) h31 d_L_law_470 ?_
      refine G_callV (M' := mX11_many) (R' := R') (S := []) [.int (X.2.2.2.2.2.2.2.2 (i3 + 1)), .int (X.2.2.2.2.2.2.2.2 (i3 + 2))] 11 hk_r1 cok11 rfl ok_X11_many ml_L_65 pn_X11_many hru_3 (Nat.le_of_ble_eq_true rfl) d_L_law_471 ?_
      exact (hc_many c0 c1)
    have z12 := lv_neT c1 (show (12 : Int32).toInt = 12 from rfl)
    by_cases c1 : ((X.2.2.2.2.2.2.2.2 i3) &&& 31) = 13
    ·
      refine G_tableIn (tgt := 493) (off := 461) d_L_law_32 (by rw [c1]; decide) (by rw [c1]; decide) (by rw [c1]; decide) rfl ?_
      refine G_aload_n d_L_law_493 rfl 1 rfl ?_
      refine G_aload_n d_L_law_494 rfl 0 rfl ?_
      refine G_iload_n d_L_law_495 rfl 3 rfl ?_
      refine G_iconst d_L_law_496 ic_1 ?_
      refine G_iadd d_L_law_497 ?_
      refine G_stk (S' := [.int (nI (i3 + 1)), .ref X.2.2.2.2.2.2.1, .ref r1]) (by rw [show (nI i3) + 1 = nI (i3 + 1) from (nadd rfl rfl)]) ?_
      refine G_scLd (hb_18 c0 c1) h31 d_L_law_498 ?_
      refine G_aload_n d_L_law_499 rfl 0 rfl ?_
      refine G_iload_n d_L_law_500 rfl 3 rfl ?_
      refine G_iconst d_L_law_501 ic_2 ?_
      refine G_iadd d_L_law_502 ?_
      refine G_stk (S' := [.int (nI (i3 + 2)), .ref X.2.2.2.2.2.2.1, .int (X.2.2.2.2.2.2.2.2 (i3 + 1)), .ref r1]) (by rw [show (nI i3) + 2 = nI (i3 + 2) from (nadd rfl rfl)]) ?_
      refine G_scLd (hb_19 c0 c1) h31 d_L_law_503 ?_
      refine G_aload_n d_L_law_504 rfl 0 rfl ?_
      refine G_iload_n d_L_law_505 rfl 3 rfl ?_
      refine G_iconst d_L_law_506 ic_3 ?_
      refine G_iadd d_L_law_507 ?_
      refine G_stk (S' := [.int (nI (i3 + 3)), .ref X.2.2.2.2.2.2.1, .int (X.2.2.2.2.2.2.2.2 (i3 + 2)), .int (X.2.2.2.2.2.2.2.2 (i3 + 1)), .ref r1]) (by rw [show (nI i3) + 3 = nI (i3 + 3) from (nadd rfl rfl)]) ?_
      refine G_scLd (hb_20 c0 c1) h31 d_L_law_508 ?_
      refine G_callV (M' := mX11_place) (R' := R') (S := []) [.int (X.2.2.2.2.2.2.2.2 (i3 + 1)), .int (X.2.2.2.2.2.2.2.2 (i3 + 2)), .int (X.2.2.2.2.2.2.2.2 (i3 + 3))] 11 hk_r1 cok11 rfl ok_X11_place ml_L_69 pn_X11_place hru_5 (Nat.le_of_ble_eq_true rfl) d_L_law_509 ?_
      exact (hc_place c0 c1)
    have z13 := lv_neT c1 (show (13 : Int32).toInt = 13 from rfl)
    by_cases c1 : ((X.2.2.2.2.2.2.2.2 i3) &&& 31) = 14
    ·
      refine G_tableIn (tgt := 536) (off := 504) d_L_law_32 (by rw [c1]; decide) (by rw [c1]; decide) (by rw [c1]; decide) rfl ?_
      refine G_aload_n d_L_law_536 rfl 1 rfl ?_
      refine G_aload_n d_L_law_537 rfl 0 rfl ?_
      refine G_iload_n d_L_law_538 rfl 3 rfl ?_
      refine G_iconst d_L_law_539 ic_1 ?_
      refine G_iadd d_L_law_540 ?_
      refine G_stk (S' := [.int (nI (i3 + 1)), .ref X.2.2.2.2.2.2.1, .ref r1]) (by rw [show (nI i3) + 1 = nI (i3 + 1) from (nadd rfl rfl)]) ?_
      refine G_scLd (hb_21 c0 c1) h31 d_L_law_541 ?_
      refine G_aload_n d_L_law_542 rfl 0 rfl ?_
      refine G_iload_n d_L_law_543 rfl 3 rfl ?_
      refine G_iconst d_L_law_544 ic_2 ?_
      refine G_iadd d_L_law_545 ?_
      refine G_stk (S' := [.int (nI (i3 + 2)), .ref X.2.2.2.2.2.2.1, .int (X.2.2.2.2.2.2.2.2 (i3 + 1)), .ref r1]) (by rw [show (nI i3) + 2 = nI (i3 + 2) from (nadd rfl rfl)]) ?_
      refine G_scLd (hb_22 c0 c1) h31 d_L_law_546 ?_
      refine G_aload_n d_L_law_547 rfl 0 rfl ?_
      refine G_iload_n d_L_law_548 rfl 3 rfl ?_
      refine G_iconst d_L_law_549 ic_3 ?_
      refine G_iadd d_L_law_550 ?_
      refine G_stk (S' := [.int (nI (i3 + 3)), .ref X.2.2.2.2.2.2.1, .int (X.2.2.2.2.2.2.2.2 (i3 + 2)), .int (X.2.2.2.2.2.2.2.2 (i3 + 1)), .ref r1]) (by rw [show (nI i3) + 3 = nI (i3 + 3) from (nadd rfl rfl)]) ?_
      refine G_scLd (hb_23 c0 c1) h31 d_L_law_551 ?_
      refine G_callV (M' := mX11_lead) (R' := R') (S := []) [.int (X.2.2.2.2.2.2.2.2 (i3 + 1)), .int (X.2.2.2.2.2.2.2.2 (i3 + 2)), .int (X.2.2.2.2.2.2.2.2 (i3 + 3))] 11 hk_r1 cok11 rfl ok_X11_lead ml_L_73 pn_X11_lead hru_5 (Nat.le_of_ble_eq_true rfl) d_L_law_552 ?_
      exact (hc_lead c0 c1)
    have z14 := lv_neT c1 (show (14 : Int32).toInt = 14 from rfl)
    by_cases c1 : ((X.2.2.2.2.2.2.2.2 i3) &&& 31) = 15
    ·
      refine G_tableIn (tgt := 579) (off := 547) d_L_law_32 (by rw [c1]; decide) (by rw [c1]; decide) (by rw [c1]; decide) rfl ?_
      refine G_aload_n d_L_law_579 rfl 1 rfl ?_
      refine G_aload_n d_L_law_580 rfl 0 rfl ?_
      refine G_iload_n d_L_law_581 rfl 3 rfl ?_
      refine G_iconst d_L_law_582 ic_1 ?_
      refine G_iadd d_L_law_583 ?_
      refine G_stk (S' := [.int (nI (i3 + 1)), .ref X.2.2.2.2.2.2.1, .ref r1]) (by rw [show (nI i3) + 1 = nI (i3 + 1) from (nadd rfl rfl)]) ?_
      refine G_scLd (hb_24 c0 c1) h31 d_L_law_584 ?_
      refine G_aload_n d_L_law_585 rfl 0 rfl ?_
      refine G_iload_n d_L_law_586 rfl 3 rfl ?_
      refine G_iconst d_L_law_587 ic_2 ?_
      refine G_iadd d_L_law_588 ?_
      refine G_stk (S' := [.int (nI (i3 + 2)), .ref X.2.2.2.2.2.2.1, .int (X.2.2.2.2.2.2.2.2 (i3 + 1)), .ref r1]) (by rw [show (nI i3) + 2 = nI (i3 + 2) from (nadd rfl rfl)]) ?_
      refine G_scLd (hb_25 c0 c1) h31 d_L_law_589 ?_
      refine G_aload_n d_L_law_590 rfl 0 rfl ?_
      refine G_iload_n d_L_law_591 rfl 3 rfl ?_
      refine G_iconst d_L_law_592 ic_3 ?_
      refine G_iadd d_L_law_593 ?_
      refine G_stk (S' := [.int (nI (i3 + 3)), .ref X.2.2.2.2.2.2.1, .int (X.2.2.2.2.2.2.2.2 (i3 + 2)), .int (X.2.2.2.2.2.2.2.2 (i3 + 1)), .ref r1]) (by rw [show (nI i3) + 3 = nI (i3 + 3) from (nadd rfl rfl)]) ?_
      refine G_scLd (hb_26 c0 c1) h31 d_L_law_594 ?_
      refine G_callV (M' := mX11_deed) (R' := R') (S := []) [.int (X.2.2.2.2.2.2.2.2 (i3 + 1)), .int (X.2.2.2.2.2.2.2.2 (i3 + 2)), .int (X.2.2.2.2.2.2.2.2 (i3 + 3))] 11 hk_r1 cok11 rfl ok_X11_deed ml_L_77 pn_X11_deed hru_3 (Nat.le_of_ble_eq_true rfl) d_L_law_595 ?_
      exact (hc_deed c0 c1)
    have z15 := lv_neT c1 (show (15 : Int32).toInt = 15 from rfl)
    by_cases c1 : ((X.2.2.2.2.2.2.2.2 i3) &&& 31) = 16
    ·
      refine G_tableIn (tgt := 622) (off := 590) d_L_law_32 (by rw [c1]; decide) (by rw [c1]; decide) (by rw [c1]; decide) rfl ?_
      refine G_aload_n d_L_law_622 rfl 1 rfl ?_
      refine G_aload_n d_L_law_623 rfl 0 rfl ?_
      refine G_iload_n d_L_law_624 rfl 3 rfl ?_
      refine G_iconst d_L_law_625 ic_1 ?_
      refine G_iadd d_L_law_626 ?_
      refine G_stk (S' := [.int (nI (i3 + 1)), .ref X.2.2.2.2.2.2.1, .ref r1]) (by rw [show (nI i3) + 1 = nI (i3 + 1) from (nadd rfl rfl)]) ?_
      refine G_scLd (hb_27 c0 c1) h31 d_L_law_627 ?_
      refine G_callV (M' := mX11_fold) (R' := R') (S := []) [.int (X.2.2.2.2.2.2.2.2 (i3 + 1))] 11 hk_r1 cok11 rfl ok_X11_fold ml_L_81 pn_X11_fold hru (Nat.le_of_ble_eq_true rfl) d_L_law_628 ?_
      exact (hc_fold c0 c1)
    have z16 := lv_neT c1 (show (16 : Int32).toInt = 16 from rfl)
    by_cases c1 : ((X.2.2.2.2.2.2.2.2 i3) &&& 31) = 17
    ·
      refine G_tableIn (tgt := 645) (off := 613) d_L_law_32 (by rw [c1]; decide) (by rw [c1]; decide) (by rw [c1]; decide) rfl ?_
      refine G_aload_n d_L_law_645 rfl 1 rfl ?_
      refine G_callV (M' := mX11_sharpen) (R' := R') (S := []) [] 11 hk_r1 cok11 rfl ok_X11_sharpen ml_L_85 pn_X11_sharpen hru_4 (Nat.le_of_ble_eq_true rfl) d_L_law_646 ?_
      exact (hc_sharpen c0 c1)
    have z17 := lv_neT c1 (show (17 : Int32).toInt = 17 from rfl)
    by_cases c1 : ((X.2.2.2.2.2.2.2.2 i3) &&& 31) = 18
    ·
      refine G_tableIn (tgt := 658) (off := 626) d_L_law_32 (by rw [c1]; decide) (by rw [c1]; decide) (by rw [c1]; decide) rfl ?_
      refine G_aload_n d_L_law_658 rfl 1 rfl ?_
      refine G_aload_n d_L_law_659 rfl 0 rfl ?_
      refine G_iload_n d_L_law_660 rfl 3 rfl ?_
      refine G_iconst d_L_law_661 ic_1 ?_
      refine G_iadd d_L_law_662 ?_
      refine G_stk (S' := [.int (nI (i3 + 1)), .ref X.2.2.2.2.2.2.1, .ref r1]) (by rw [show (nI i3) + 1 = nI (i3 + 1) from (nadd rfl rfl)]) ?_
      refine G_scLd (hb_28 c0 c1) h31 d_L_law_663 ?_
      refine G_callV (M' := mX11_ways) (R' := R') (S := []) [.int (X.2.2.2.2.2.2.2.2 (i3 + 1))] 11 hk_r1 cok11 rfl ok_X11_ways ml_L_89 pn_X11_ways hru (Nat.le_of_ble_eq_true rfl) d_L_law_664 ?_
      exact (hc_ways c0 c1)
    have z18 := lv_neT c1 (show (18 : Int32).toInt = 18 from rfl)
    by_cases c1 : ((X.2.2.2.2.2.2.2.2 i3) &&& 31) = 19
    ·
      refine G_tableIn (tgt := 681) (off := 649) d_L_law_32 (by rw [c1]; decide) (by rw [c1]; decide) (by rw [c1]; decide) rfl ?_
      refine G_aload_n d_L_law_681 rfl 1 rfl ?_
      refine G_aload_n d_L_law_682 rfl 0 rfl ?_
      refine G_iload_n d_L_law_683 rfl 3 rfl ?_
      refine G_iconst d_L_law_684 ic_1 ?_
      refine G_iadd d_L_law_685 ?_
      refine G_stk (S' := [.int (nI (i3 + 1)), .ref X.2.2.2.2.2.2.1, .ref r1]) (by rw [show (nI i3) + 1 = nI (i3 + 1) from (nadd rfl rfl)]) ?_
      refine G_scLd (hb_29 c0 c1) h31 d_L_law_686 ?_
      refine G_aload_n d_L_law_687 rfl 0 rfl ?_
      refine G_iload_n d_L_law_688 rfl 3 rfl ?_
      refine G_iconst d_L_law_689 ic_2 ?_
      refine G_iadd d_L_law_690 ?_
      refine G_stk (S' := [.int (nI (i3 + 2)), .ref X.2.2.2.2.2.2.1, .int (X.2.2.2.2.2.2.2.2 (i3 + 1)), .ref r1]) (by rw [show (nI i3) + 2 = nI (i3 + 2) from (nadd rfl rfl)]) ?_
      refine G_scLd (hb_30 c0 c1) h31 d_L_law_691 ?_
      refine G_callV (M' := mX11_split) (R' := R') (S := []) [.int (X.2.2.2.2.2.2.2.2 (i3 + 1)), .int (X.2.2.2.2.2.2.2.2 (i3 + 2))] 11 hk_r1 cok11 rfl ok_X11_split ml_L_93 pn_X11_split hru_2 (Nat.le_of_ble_eq_true rfl) d_L_law_692 ?_
      exact (hc_split c0 c1)
    have z19 := lv_neT c1 (show (19 : Int32).toInt = 19 from rfl)
    by_cases c1 : ((X.2.2.2.2.2.2.2.2 i3) &&& 31) = 20
    ·
      refine G_tableIn (tgt := 714) (off := 682) d_L_law_32 (by rw [c1]; decide) (by rw [c1]; decide) (by rw [c1]; decide) rfl ?_
      refine G_aload_n d_L_law_714 rfl 1 rfl ?_
      refine G_aload_n d_L_law_715 rfl 0 rfl ?_
      refine G_iload_n d_L_law_716 rfl 3 rfl ?_
      refine G_iconst d_L_law_717 ic_1 ?_
      refine G_iadd d_L_law_718 ?_
      refine G_stk (S' := [.int (nI (i3 + 1)), .ref X.2.2.2.2.2.2.1, .ref r1]) (by rw [show (nI i3) + 1 = nI (i3 + 1) from (nadd rfl rfl)]) ?_
      refine G_scLd (hb_31 c0 c1) h31 d_L_law_719 ?_
      refine G_aload_n d_L_law_720 rfl 0 rfl ?_
      refine G_iload_n d_L_law_721 rfl 3 rfl ?_
      refine G_iconst d_L_law_722 ic_2 ?_
      refine G_iadd d_L_law_723 ?_
      refine G_stk (S' := [.int (nI (i3 + 2)), .ref X.2.2.2.2.2.2.1, .int (X.2.2.2.2.2.2.2.2 (i3 + 1)), .ref r1]) (by rw [show (nI i3) + 2 = nI (i3 + 2) from (nadd rfl rfl)]) ?_
      refine G_scLd (hb_32 c0 c1) h31 d_L_law_724 ?_
      refine G_callV (M' := mX11_run) (R' := R') (S := []) [.int (X.2.2.2.2.2.2.2.2 (i3 + 1)), .int (X.2.2.2.2.2.2.2.2 (i3 + 2))] 11 hk_r1 cok11 rfl ok_X11_run ml_L_97 pn_X11_run hru_6 (Nat.le_of_ble_eq_true rfl) d_L_law_725 ?_
      exact (hc_run c0 c1)
    have z20 := lv_neT c1 (show (20 : Int32).toInt = 20 from rfl)
    by_cases c1 : ((X.2.2.2.2.2.2.2.2 i3) &&& 31) = 21
    ·
      refine G_tableIn (tgt := 747) (off := 715) d_L_law_32 (by rw [c1]; decide) (by rw [c1]; decide) (by rw [c1]; decide) rfl ?_
      refine G_aload_n d_L_law_747 rfl 1 rfl ?_
      refine G_aload_n d_L_law_748 rfl 0 rfl ?_
      refine G_iload_n d_L_law_749 rfl 3 rfl ?_
      refine G_iconst d_L_law_750 ic_1 ?_
      refine G_iadd d_L_law_751 ?_
      refine G_stk (S' := [.int (nI (i3 + 1)), .ref X.2.2.2.2.2.2.1, .ref r1]) (by rw [show (nI i3) + 1 = nI (i3 + 1) from (nadd rfl rfl)]) ?_
      refine G_scLd (hb_33 c0 c1) h31 d_L_law_752 ?_
      refine G_callV (M' := mX11_keep) (R' := R') (S := []) [.int (X.2.2.2.2.2.2.2.2 (i3 + 1))] 11 hk_r1 cok11 rfl ok_X11_keep ml_L_101 pn_X11_keep hru_2 (Nat.le_of_ble_eq_true rfl) d_L_law_753 ?_
      exact (hc_keep c0 c1)
    have z21 := lv_neT c1 (show (21 : Int32).toInt = 21 from rfl)
    by_cases c1 : ((X.2.2.2.2.2.2.2.2 i3) &&& 31) = 22
    ·
      refine G_tableIn (tgt := 770) (off := 738) d_L_law_32 (by rw [c1]; decide) (by rw [c1]; decide) (by rw [c1]; decide) rfl ?_
      refine G_aload_n d_L_law_770 rfl 1 rfl ?_
      refine G_aload_n d_L_law_771 rfl 0 rfl ?_
      refine G_iload_n d_L_law_772 rfl 3 rfl ?_
      refine G_iconst d_L_law_773 ic_1 ?_
      refine G_iadd d_L_law_774 ?_
      refine G_stk (S' := [.int (nI (i3 + 1)), .ref X.2.2.2.2.2.2.1, .ref r1]) (by rw [show (nI i3) + 1 = nI (i3 + 1) from (nadd rfl rfl)]) ?_
      refine G_scLd (hb_34 c0 c1) h31 d_L_law_775 ?_
      refine G_callV (M' := mX11_back) (R' := R') (S := []) [.int (X.2.2.2.2.2.2.2.2 (i3 + 1))] 11 hk_r1 cok11 rfl ok_X11_back ml_L_105 pn_X11_back hru (Nat.le_of_ble_eq_true rfl) d_L_law_776 ?_
      exact (hc_back c0 c1)
    have z22 := lv_neT c1 (show (22 : Int32).toInt = 22 from rfl)
    by_cases c1 : ((X.2.2.2.2.2.2.2.2 i3) &&& 31) = 23
    ·
      refine G_tableIn (tgt := 793) (off := 761) d_L_law_32 (by rw [c1]; decide) (by rw [c1]; decide) (by rw [c1]; decide) rfl ?_
      refine G_aload_n d_L_law_793 rfl 1 rfl ?_
      refine G_aload_n d_L_law_794 rfl 0 rfl ?_
      refine G_iload_n d_L_law_795 rfl 3 rfl ?_
      refine G_iconst d_L_law_796 ic_1 ?_
      refine G_iadd d_L_law_797 ?_
      refine G_stk (S' := [.int (nI (i3 + 1)), .ref X.2.2.2.2.2.2.1, .ref r1]) (by rw [show (nI i3) + 1 = nI (i3 + 1) from (nadd rfl rfl)]) ?_
      refine G_scLd (hb_35 c0 c1) h31 d_L_law_798 ?_
      refine G_aload_n d_L_law_799 rfl 0 rfl ?_
      refine G_iload_n d_L_law_800 rfl 3 rfl ?_
      refine G_iconst d_L_law_801 ic_2 ?_
      refine G_iadd d_L_law_802 ?_
      refine G_stk (S' := [.int (nI (i3 + 2)), .ref X.2.2.2.2.2.2.1, .int (X.2.2.2.2.2.2.2.2 (i3 + 1)), .ref r1]) (by rw [show (nI i3) + 2 = nI (i3 + 2) from (nadd rfl rfl)]) ?_
      refine G_scLd (hb_36 c0 c1) h31 d_L_law_803 ?_
      refine G_callV (M' := mX11_covers) (R' := R') (S := []) [.int (X.2.2.2.2.2.2.2.2 (i3 + 1)), .int (X.2.2.2.2.2.2.2.2 (i3 + 2))] 11 hk_r1 cok11 rfl ok_X11_covers ml_L_109 pn_X11_covers hru_3 (Nat.le_of_ble_eq_true rfl) d_L_law_804 ?_
      exact (hc_covers c0 c1)
    have z23 := lv_neT c1 (show (23 : Int32).toInt = 23 from rfl)
    by_cases c1 : ((X.2.2.2.2.2.2.2.2 i3) &&& 31) = 24
    ·
      refine G_tableIn (tgt := 826) (off := 794) d_L_law_32 (by rw [c1]; decide) (by rw [c1]; decide) (by rw [c1]; decide) rfl ?_
      refine G_aload_n d_L_law_826 rfl 1 rfl ?_
      refine G_aload_n d_L_law_827 rfl 0 rfl ?_
      refine G_iload_n d_L_law_828 rfl 3 rfl ?_
      refine G_iconst d_L_law_829 ic_1 ?_
      refine G_iadd d_L_law_830 ?_
      refine G_stk (S' := [.int (nI (i3 + 1)), .ref X.2.2.2.2.2.2.1, .ref r1]) (by rw [show (nI i3) + 1 = nI (i3 + 1) from (nadd rfl rfl)]) ?_
      refine G_scLd (hb_37 c0 c1) h31 d_L_law_831 ?_
      refine G_aload_n d_L_law_832 rfl 0 rfl ?_
      refine G_iload_n d_L_law_833 rfl 3 rfl ?_
      refine G_iconst d_L_law_834 ic_2 ?_
      refine G_iadd d_L_law_835 ?_
      refine G_stk (S' := [.int (nI (i3 + 2)), .ref X.2.2.2.2.2.2.1, .int (X.2.2.2.2.2.2.2.2 (i3 + 1)), .ref r1]) (by rw [show (nI i3) + 2 = nI (i3 + 2) from (nadd rfl rfl)]) ?_
      refine G_scLd (hb_38 c0 c1) h31 d_L_law_836 ?_
      refine G_aload_n d_L_law_837 rfl 0 rfl ?_
      refine G_iload_n d_L_law_838 rfl 3 rfl ?_
      refine G_iconst d_L_law_839 ic_3 ?_
      refine G_iadd d_L_law_840 ?_
      refine G_stk (S' := [.int (nI (i3 + 3)), .ref X.2.2.2.2.2.2.1, .int (X.2.2.2.2.2.2.2.2 (i3 + 2)), .int (X.2.2.2.2.2.2.2.2 (i3 + 1)), .ref r1]) (by rw [show (nI i3) + 3 = nI (i3 + 3) from (nadd rfl rfl)]) ?_
      refine G_scLd (hb_39 c0 c1) h31 d_L_law_841 ?_
      refine G_callV (M' := mX11_sheet) (R' := R') (S := []) [.int (X.2.2.2.2.2.2.2.2 (i3 + 1)), .int (X.2.2.2.2.2.2.2.2 (i3 + 2)), .int (X.2.2.2.2.2.2.2.2 (i3 + 3))] 11 hk_r1 cok11 rfl ok_X11_sheet ml_L_113 pn_X11_sheet hru_3 (Nat.le_of_ble_eq_true rfl) d_L_law_842 ?_
      exact (hc_sheet c0 c1)
    have z24 := lv_neT c1 (show (24 : Int32).toInt = 24 from rfl)
    by_cases c1 : ((X.2.2.2.2.2.2.2.2 i3) &&& 31) = 25
    ·
      refine G_tableIn (tgt := 869) (off := 837) d_L_law_32 (by rw [c1]; decide) (by rw [c1]; decide) (by rw [c1]; decide) rfl ?_
      refine G_aload_n d_L_law_869 rfl 1 rfl ?_
      refine G_aload_n d_L_law_870 rfl 0 rfl ?_
      refine G_iload_n d_L_law_871 rfl 3 rfl ?_
      refine G_iconst d_L_law_872 ic_1 ?_
      refine G_iadd d_L_law_873 ?_
      refine G_stk (S' := [.int (nI (i3 + 1)), .ref X.2.2.2.2.2.2.1, .ref r1]) (by rw [show (nI i3) + 1 = nI (i3 + 1) from (nadd rfl rfl)]) ?_
      refine G_scLd (hb_40 c0 c1) h31 d_L_law_874 ?_
      refine G_aload_n d_L_law_875 rfl 0 rfl ?_
      refine G_iload_n d_L_law_876 rfl 3 rfl ?_
      refine G_iconst d_L_law_877 ic_2 ?_
      refine G_iadd d_L_law_878 ?_
      refine G_stk (S' := [.int (nI (i3 + 2)), .ref X.2.2.2.2.2.2.1, .int (X.2.2.2.2.2.2.2.2 (i3 + 1)), .ref r1]) (by rw [show (nI i3) + 2 = nI (i3 + 2) from (nadd rfl rfl)]) ?_
      refine G_scLd (hb_41 c0 c1) h31 d_L_law_879 ?_
      refine G_aload_n d_L_law_880 rfl 0 rfl ?_
      refine G_iload_n d_L_law_881 rfl 3 rfl ?_
      refine G_iconst d_L_law_882 ic_3 ?_
      refine G_iadd d_L_law_883 ?_
      refine G_stk (S' := [.int (nI (i3 + 3)), .ref X.2.2.2.2.2.2.1, .int (X.2.2.2.2.2.2.2.2 (i3 + 2)), .int (X.2.2.2.2.2.2.2.2 (i3 + 1)), .ref r1]) (by rw [show (nI i3) + 3 = nI (i3 + 3) from (nadd rfl rfl)]) ?_
      refine G_scLd (hb_42 c0 c1) h31 d_L_law_884 ?_
      refine G_callV (M' := mX11_lay) (R' := R') (S := []) [.int (X.2.2.2.2.2.2.2.2 (i3 + 1)), .int (X.2.2.2.2.2.2.2.2 (i3 + 2)), .int (X.2.2.2.2.2.2.2.2 (i3 + 3))] 11 hk_r1 cok11 rfl ok_X11_lay ml_L_117 pn_X11_lay hru_5 (Nat.le_of_ble_eq_true rfl) d_L_law_885 ?_
      exact (hc_lay c0 c1)
    have z25 := lv_neT c1 (show (25 : Int32).toInt = 25 from rfl)
    by_cases c1 : ((X.2.2.2.2.2.2.2.2 i3) &&& 31) = 26
    ·
      refine G_tableIn (tgt := 912) (off := 880) d_L_law_32 (by rw [c1]; decide) (by rw [c1]; decide) (by rw [c1]; decide) rfl ?_
      refine G_aload_n d_L_law_912 rfl 1 rfl ?_
      refine G_aload_n d_L_law_913 rfl 0 rfl ?_
      refine G_iload_n d_L_law_914 rfl 3 rfl ?_
      refine G_iconst d_L_law_915 ic_1 ?_
      refine G_iadd d_L_law_916 ?_
      refine G_stk (S' := [.int (nI (i3 + 1)), .ref X.2.2.2.2.2.2.1, .ref r1]) (by rw [show (nI i3) + 1 = nI (i3 + 1) from (nadd rfl rfl)]) ?_
      refine G_scLd (hb_43 c0 c1) h31 d_L_law_917 ?_
      refine G_aload_n d_L_law_918 rfl 0 rfl ?_
      refine G_iload_n d_L_law_919 rfl 3 rfl ?_
      refine G_iconst d_L_law_920 ic_2 ?_
      refine G_iadd d_L_law_921 ?_
      refine G_stk (S' := [.int (nI (i3 + 2)), .ref X.2.2.2.2.2.2.1, .int (X.2.2.2.2.2.2.2.2 (i3 + 1)), .ref r1]) (by rw [show (nI i3) + 2 = nI (i3 + 2) from (nadd rfl rfl)]) ?_
      refine G_scLd (hb_44 c0 c1) h31 d_L_law_922 ?_
      refine G_aload_n d_L_law_923 rfl 0 rfl ?_
      refine G_iload_n d_L_law_924 rfl 3 rfl ?_
      refine G_iconst d_L_law_925 ic_3 ?_
      refine G_iadd d_L_law_926 ?_
      refine G_stk (S' := [.int (nI (i3 + 3)), .ref X.2.2.2.2.2.2.1, .int (X.2.2.2.2.2.2.2.2 (i3 + 2)), .int (X.2.2.2.2.2.2.2.2 (i3 + 1)), .ref r1]) (by rw [show (nI i3) + 3 = nI (i3 + 3) from (nadd rfl rfl)]) ?_
      refine G_scLd (hb_45 c0 c1) h31 d_L_law_927 ?_
      refine G_aload_n d_L_law_928 rfl 0 rfl ?_
      refine G_iload_n d_L_law_929 rfl 3 rfl ?_
      refine G_iconst d_L_law_930 ic_4 ?_
      refine G_iadd d_L_law_931 ?_
      refine G_stk (S' := [.int (nI (i3 + 4)), .ref X.2.2.2.2.2.2.1, .int (X.2.2.2.2.2.2.2.2 (i3 + 3)), .int (X.2.2.2.2.2.2.2.2 (i3 + 2)), .int (X.2.2.2.2.2.2.2.2 (i3 + 1)), .ref r1]) (by rw [show (nI i3) + 4 = nI (i3 + 4) from (nadd rfl rfl)]) ?_
      refine G_scLd (hb_46 c0 c1) h31 d_L_law_932 ?_
      refine G_callV (M' := mX11_read) (R' := R') (S := []) [.int (X.2.2.2.2.2.2.2.2 (i3 + 1)), .int (X.2.2.2.2.2.2.2.2 (i3 + 2)), .int (X.2.2.2.2.2.2.2.2 (i3 + 3)), .int (X.2.2.2.2.2.2.2.2 (i3 + 4))] 11 hk_r1 cok11 rfl ok_X11_read ml_L_121 pn_X11_read hru_7 (Nat.le_of_ble_eq_true rfl) d_L_law_933 ?_
      exact (hc_read c0 c1)
    have z26 := lv_neT c1 (show (26 : Int32).toInt = 26 from rfl)
    by_cases c1 : ((X.2.2.2.2.2.2.2.2 i3) &&& 31) = 27
    ·
      refine G_tableIn (tgt := 965) (off := 933) d_L_law_32 (by rw [c1]; decide) (by rw [c1]; decide) (by rw [c1]; decide) rfl ?_
      refine G_aload_n d_L_law_965 rfl 1 rfl ?_
      refine G_callV (M' := mX11_torn) (R' := R') (S := []) [] 11 hk_r1 cok11 rfl ok_X11_torn ml_L_126 pn_X11_torn hru_4 (Nat.le_of_ble_eq_true rfl) d_L_law_966 ?_
      exact (hc_torn c0 c1)
    have z27 := lv_neT c1 (show (27 : Int32).toInt = 27 from rfl)
    by_cases c1 : ((X.2.2.2.2.2.2.2.2 i3) &&& 31) = 28
    ·
      refine G_tableIn (tgt := 978) (off := 946) d_L_law_32 (by rw [c1]; decide) (by rw [c1]; decide) (by rw [c1]; decide) rfl ?_
      refine G_aload_n d_L_law_978 rfl 1 rfl ?_
      refine G_aload_n d_L_law_979 rfl 0 rfl ?_
      refine G_iload_n d_L_law_980 rfl 3 rfl ?_
      refine G_iconst d_L_law_981 ic_1 ?_
      refine G_iadd d_L_law_982 ?_
      refine G_stk (S' := [.int (nI (i3 + 1)), .ref X.2.2.2.2.2.2.1, .ref r1]) (by rw [show (nI i3) + 1 = nI (i3 + 1) from (nadd rfl rfl)]) ?_
      refine G_scLd (hb_47 c0 c1) h31 d_L_law_983 ?_
      refine G_callV (M' := mX11_count) (R' := R') (S := []) [.int (X.2.2.2.2.2.2.2.2 (i3 + 1))] 11 hk_r1 cok11 rfl ok_X11_count ml_L_130 pn_X11_count hru (Nat.le_of_ble_eq_true rfl) d_L_law_984 ?_
      exact (hc_count c0 c1)
    have z28 := lv_neT c1 (show (28 : Int32).toInt = 28 from rfl)
    have c1 : ((X.2.2.2.2.2.2.2.2 i3) &&& 31).toInt < 0 ∨ 28 < ((X.2.2.2.2.2.2.2.2 i3) &&& 31).toInt := by omega
    refine G_tableOut (tgt := 1001) d_L_law_32 c1 rfl ?_
    exact (h c0 c1)
theorem b_L_law_173 {X : cX} {R R' : Room} {cs sl : Nat} {μ : mM} {K : Option Value → mM → Prop} {r1 : Nat} {r2 : Nat} {i3 : Nat} {v0 : Int32} (hb : (i3 + 1) < X.2.2.2.2.2.2.2.1) (h31 : X.2.2.2.2.2.2.2.1 < 2 ^ 31) (hk_r2 : kd μ r2 = (0, 12)) (hru : ru R R' 2 cs sl) (hc_feed : Ct X R' mX12_feed [.ref r2, .int (X.2.2.2.2.2.2.2.2 (i3 + 1))] μ (fun r μ2 => G X R mL_law 182 [(0, .ref X.2.2.2.2.2.2.1), (1, .ref r1), (2, .ref r2), (3, .int (nI i3))] (r.toList ++ [.int v0]) μ2 (cs + R'.cells) (sl + R'.slots) K)) : G X R mL_law 173 [(0, .ref X.2.2.2.2.2.2.1), (1, .ref r1), (2, .ref r2), (3, .int (nI i3))] [.int v0] μ cs sl K := by
  refine G_aload_n d_L_law_173 rfl 2 rfl ?_
  refine G_aload_n d_L_law_174 rfl 0 rfl ?_
  refine G_iload_n d_L_law_175 rfl 3 rfl ?_
  refine G_iconst d_L_law_176 ic_1 ?_
  refine G_iadd d_L_law_177 ?_
  refine G_stk (S' := [.int (nI (i3 + 1)), .ref X.2.2.2.2.2.2.1, .ref r2, .int v0]) (by rw [show (nI i3) + 1 = nI (i3 + 1) from (nadd rfl rfl)]) ?_
  refine G_scLd hb h31 d_L_law_178 ?_
  refine G_callV (M' := mX12_feed) (R' := R') (S := [.int v0]) [.int (X.2.2.2.2.2.2.2.2 (i3 + 1))] 12 hk_r2 cok12 rfl ok_X12_feed ml_L_17 pn_X12_feed hru (Nat.le_of_ble_eq_true rfl) d_L_law_179 ?_
  exact hc_feed
theorem b_L_law_182 {X : cX} {R R' : Room} {cs sl : Nat} {μ : mM} {K : Option Value → mM → Prop} {r1 : Nat} {r2 : Nat} {l3 : Int32} {v0 : Int32} {v1 : Int32} (h : v0 = v1 → G X R mL_law 1001 [(0, .ref X.2.2.2.2.2.2.1), (1, .ref r1), (2, .ref r2), (3, .int l3)] [] μ cs sl K) (hK : ¬ v0 = v1 → K (some (.int 0)) μ) (hcs : cs = R.cells) (hsl : sl = R.slots) : G X R mL_law 182 [(0, .ref X.2.2.2.2.2.2.1), (1, .ref r1), (2, .ref r2), (3, .int l3)] [.int v1, .int v0] μ cs sl K := by
  refine G_icmp_eq (tgt := 1001) d_L_law_182 rfl (fun c0 => ?_) (fun c0 => ?_)
  ·
    exact (h c0)
  ·
    refine G_iconst d_L_law_185 ic_0 ?_
    exact G_zret rfl rfl hcs hsl d_L_law_186 (hK c0)
theorem b_L_law_196 {X : cX} {R R' : Room} {cs sl : Nat} {μ : mM} {K : Option Value → mM → Prop} {r1 : Nat} {r2 : Nat} {i3 : Nat} {v0 : Int32} (hb : (i3 + 1) < X.2.2.2.2.2.2.2.1) (h31 : X.2.2.2.2.2.2.2.1 < 2 ^ 31) (hk_r2 : kd μ r2 = (0, 12)) (hru : ru R R' 3 cs sl) (hc_end : Ct X R' mX12_end [.ref r2, .int (X.2.2.2.2.2.2.2.2 (i3 + 1))] μ (fun r μ2 => G X R mL_law 205 [(0, .ref X.2.2.2.2.2.2.1), (1, .ref r1), (2, .ref r2), (3, .int (nI i3))] (r.toList ++ [.int v0]) μ2 (cs + R'.cells) (sl + R'.slots) K)) : G X R mL_law 196 [(0, .ref X.2.2.2.2.2.2.1), (1, .ref r1), (2, .ref r2), (3, .int (nI i3))] [.int v0] μ cs sl K := by
  refine G_aload_n d_L_law_196 rfl 2 rfl ?_
  refine G_aload_n d_L_law_197 rfl 0 rfl ?_
  refine G_iload_n d_L_law_198 rfl 3 rfl ?_
  refine G_iconst d_L_law_199 ic_1 ?_
  refine G_iadd d_L_law_200 ?_
  refine G_stk (S' := [.int (nI (i3 + 1)), .ref X.2.2.2.2.2.2.1, .ref r2, .int v0]) (by rw [show (nI i3) + 1 = nI (i3 + 1) from (nadd rfl rfl)]) ?_
  refine G_scLd hb h31 d_L_law_201 ?_
  refine G_callV (M' := mX12_end) (R' := R') (S := [.int v0]) [.int (X.2.2.2.2.2.2.2.2 (i3 + 1))] 12 hk_r2 cok12 rfl ok_X12_end ml_L_21 pn_X12_end hru (Nat.le_of_ble_eq_true rfl) d_L_law_202 ?_
  exact hc_end
theorem b_L_law_205 {X : cX} {R R' : Room} {cs sl : Nat} {μ : mM} {K : Option Value → mM → Prop} {r1 : Nat} {r2 : Nat} {l3 : Int32} {v0 : Int32} {v1 : Int32} (h : v0 = v1 → G X R mL_law 1001 [(0, .ref X.2.2.2.2.2.2.1), (1, .ref r1), (2, .ref r2), (3, .int l3)] [] μ cs sl K) (hK : ¬ v0 = v1 → K (some (.int 0)) μ) (hcs : cs = R.cells) (hsl : sl = R.slots) : G X R mL_law 205 [(0, .ref X.2.2.2.2.2.2.1), (1, .ref r1), (2, .ref r2), (3, .int l3)] [.int v1, .int v0] μ cs sl K := by
  refine G_icmp_eq (tgt := 1001) d_L_law_205 rfl (fun c0 => ?_) (fun c0 => ?_)
  ·
    exact (h c0)
  ·
    refine G_iconst d_L_law_208 ic_0 ?_
    exact G_zret rfl rfl hcs hsl d_L_law_209 (hK c0)
theorem b_L_law_214 {X : cX} {R R' : Room} {cs sl : Nat} {μ : mM} {K : Option Value → mM → Prop} {r1 : Nat} {r2 : Nat} {l3 : Int32} {v0 : Int32} (hk_r2 : kd μ r2 = (0, 12)) (hru : ru R R' 3 cs sl) (hc_text : Ct X R' mX12_text [.ref r2] μ (fun r μ2 => G X R mL_law 218 [(0, .ref X.2.2.2.2.2.2.1), (1, .ref r1), (2, .ref r2), (3, .int l3)] (r.toList ++ [.int v0]) μ2 (cs + R'.cells) (sl + R'.slots) K)) : G X R mL_law 214 [(0, .ref X.2.2.2.2.2.2.1), (1, .ref r1), (2, .ref r2), (3, .int l3)] [.int v0] μ cs sl K := by
  refine G_aload_n d_L_law_214 rfl 2 rfl ?_
  refine G_callV (M' := mX12_text) (R' := R') (S := [.int v0]) [] 12 hk_r2 cok12 rfl ok_X12_text ml_L_26 pn_X12_text hru (Nat.le_of_ble_eq_true rfl) d_L_law_215 ?_
  exact hc_text
theorem b_L_law_218 {X : cX} {R R' : Room} {cs sl : Nat} {μ : mM} {K : Option Value → mM → Prop} {r1 : Nat} {r2 : Nat} {l3 : Int32} {v0 : Int32} {v1 : Int32} (h : v0 = v1 → G X R mL_law 1001 [(0, .ref X.2.2.2.2.2.2.1), (1, .ref r1), (2, .ref r2), (3, .int l3)] [] μ cs sl K) (hK : ¬ v0 = v1 → K (some (.int 0)) μ) (hcs : cs = R.cells) (hsl : sl = R.slots) : G X R mL_law 218 [(0, .ref X.2.2.2.2.2.2.1), (1, .ref r1), (2, .ref r2), (3, .int l3)] [.int v1, .int v0] μ cs sl K := by
  refine G_icmp_eq (tgt := 1001) d_L_law_218 rfl (fun c0 => ?_) (fun c0 => ?_)
  ·
    exact (h c0)
  ·
    refine G_iconst d_L_law_221 ic_0 ?_
    exact G_zret rfl rfl hcs hsl d_L_law_222 (hK c0)
theorem b_L_law_227 {X : cX} {R R' : Room} {cs sl : Nat} {μ : mM} {K : Option Value → mM → Prop} {r1 : Nat} {r2 : Nat} {l3 : Int32} {v0 : Int32} (hk_r2 : kd μ r2 = (0, 12)) (hru : ru R R' 1 cs sl) (hc_fault : Ct X R' mX12_fault [.ref r2] μ (fun r μ2 => G X R mL_law 231 [(0, .ref X.2.2.2.2.2.2.1), (1, .ref r1), (2, .ref r2), (3, .int l3)] (r.toList ++ [.int v0]) μ2 (cs + R'.cells) (sl + R'.slots) K)) : G X R mL_law 227 [(0, .ref X.2.2.2.2.2.2.1), (1, .ref r1), (2, .ref r2), (3, .int l3)] [.int v0] μ cs sl K := by
  refine G_aload_n d_L_law_227 rfl 2 rfl ?_
  refine G_callV (M' := mX12_fault) (R' := R') (S := [.int v0]) [] 12 hk_r2 cok12 rfl ok_X12_fault ml_L_30 pn_X12_fault hru (Nat.le_of_ble_eq_true rfl) d_L_law_228 ?_
  exact hc_fault
theorem b_L_law_231 {X : cX} {R R' : Room} {cs sl : Nat} {μ : mM} {K : Option Value → mM → Prop} {r1 : Nat} {r2 : Nat} {l3 : Int32} {v0 : Int32} {v1 : Int32} (h : v0 = v1 → G X R mL_law 1001 [(0, .ref X.2.2.2.2.2.2.1), (1, .ref r1), (2, .ref r2), (3, .int l3)] [] μ cs sl K) (hK : ¬ v0 = v1 → K (some (.int 0)) μ) (hcs : cs = R.cells) (hsl : sl = R.slots) : G X R mL_law 231 [(0, .ref X.2.2.2.2.2.2.1), (1, .ref r1), (2, .ref r2), (3, .int l3)] [.int v1, .int v0] μ cs sl K := by
  refine G_icmp_eq (tgt := 1001) d_L_law_231 rfl (fun c0 => ?_) (fun c0 => ?_)
  ·
    exact (h c0)
  ·
    refine G_iconst d_L_law_234 ic_0 ?_
    exact G_zret rfl rfl hcs hsl d_L_law_235 (hK c0)
theorem b_L_law_245 {X : cX} {R R' : Room} {cs sl : Nat} {μ : mM} {K : Option Value → mM → Prop} {r1 : Nat} {r2 : Nat} {i3 : Nat} {v0 : Int32} (hb : (i3 + 1) < X.2.2.2.2.2.2.2.1) (h31 : X.2.2.2.2.2.2.2.1 < 2 ^ 31) (hk_r2 : kd μ r2 = (0, 12)) (hru : ru R R' 2 cs sl) (hc_rule : Ct X R' mX12_rule [.ref r2, .int (X.2.2.2.2.2.2.2.2 (i3 + 1))] μ (fun r μ2 => G X R mL_law 254 [(0, .ref X.2.2.2.2.2.2.1), (1, .ref r1), (2, .ref r2), (3, .int (nI i3))] (r.toList ++ [.int v0]) μ2 (cs + R'.cells) (sl + R'.slots) K)) : G X R mL_law 245 [(0, .ref X.2.2.2.2.2.2.1), (1, .ref r1), (2, .ref r2), (3, .int (nI i3))] [.int v0] μ cs sl K := by
  refine G_aload_n d_L_law_245 rfl 2 rfl ?_
  refine G_aload_n d_L_law_246 rfl 0 rfl ?_
  refine G_iload_n d_L_law_247 rfl 3 rfl ?_
  refine G_iconst d_L_law_248 ic_1 ?_
  refine G_iadd d_L_law_249 ?_
  refine G_stk (S' := [.int (nI (i3 + 1)), .ref X.2.2.2.2.2.2.1, .ref r2, .int v0]) (by rw [show (nI i3) + 1 = nI (i3 + 1) from (nadd rfl rfl)]) ?_
  refine G_scLd hb h31 d_L_law_250 ?_
  refine G_callV (M' := mX12_rule) (R' := R') (S := [.int v0]) [.int (X.2.2.2.2.2.2.2.2 (i3 + 1))] 12 hk_r2 cok12 rfl ok_X12_rule ml_L_34 pn_X12_rule hru (Nat.le_of_ble_eq_true rfl) d_L_law_251 ?_
  exact hc_rule
theorem b_L_law_254 {X : cX} {R R' : Room} {cs sl : Nat} {μ : mM} {K : Option Value → mM → Prop} {r1 : Nat} {r2 : Nat} {l3 : Int32} {v0 : Int32} {v1 : Int32} (h : v0 = v1 → G X R mL_law 1001 [(0, .ref X.2.2.2.2.2.2.1), (1, .ref r1), (2, .ref r2), (3, .int l3)] [] μ cs sl K) (hK : ¬ v0 = v1 → K (some (.int 0)) μ) (hcs : cs = R.cells) (hsl : sl = R.slots) : G X R mL_law 254 [(0, .ref X.2.2.2.2.2.2.1), (1, .ref r1), (2, .ref r2), (3, .int l3)] [.int v1, .int v0] μ cs sl K := by
  refine G_icmp_eq (tgt := 1001) d_L_law_254 rfl (fun c0 => ?_) (fun c0 => ?_)
  ·
    exact (h c0)
  ·
    refine G_iconst d_L_law_257 ic_0 ?_
    exact G_zret rfl rfl hcs hsl d_L_law_258 (hK c0)
theorem b_L_law_273 {X : cX} {R R' : Room} {cs sl : Nat} {μ : mM} {K : Option Value → mM → Prop} {r1 : Nat} {r2 : Nat} {i3 : Nat} {v0 : Int32} (hb : (i3 + 1) < X.2.2.2.2.2.2.2.1) (h31 : X.2.2.2.2.2.2.2.1 < 2 ^ 31) (hb_2 : (i3 + 2) < X.2.2.2.2.2.2.2.1) (hk_r2 : kd μ r2 = (0, 12)) (hru : ru R R' 3 cs sl) (hc_node : Ct X R' mX12_node [.ref r2, .int (X.2.2.2.2.2.2.2.2 (i3 + 1)), .int (X.2.2.2.2.2.2.2.2 (i3 + 2))] μ (fun r μ2 => G X R mL_law 287 [(0, .ref X.2.2.2.2.2.2.1), (1, .ref r1), (2, .ref r2), (3, .int (nI i3))] (r.toList ++ [.int v0]) μ2 (cs + R'.cells) (sl + R'.slots) K)) : G X R mL_law 273 [(0, .ref X.2.2.2.2.2.2.1), (1, .ref r1), (2, .ref r2), (3, .int (nI i3))] [.int v0] μ cs sl K := by
  refine G_aload_n d_L_law_273 rfl 2 rfl ?_
  refine G_aload_n d_L_law_274 rfl 0 rfl ?_
  refine G_iload_n d_L_law_275 rfl 3 rfl ?_
  refine G_iconst d_L_law_276 ic_1 ?_
  refine G_iadd d_L_law_277 ?_
  refine G_stk (S' := [.int (nI (i3 + 1)), .ref X.2.2.2.2.2.2.1, .ref r2, .int v0]) (by rw [show (nI i3) + 1 = nI (i3 + 1) from (nadd rfl rfl)]) ?_
  refine G_scLd hb h31 d_L_law_278 ?_
  refine G_aload_n d_L_law_279 rfl 0 rfl ?_
  refine G_iload_n d_L_law_280 rfl 3 rfl ?_
  refine G_iconst d_L_law_281 ic_2 ?_
  refine G_iadd d_L_law_282 ?_
  refine G_stk (S' := [.int (nI (i3 + 2)), .ref X.2.2.2.2.2.2.1, .int (X.2.2.2.2.2.2.2.2 (i3 + 1)), .ref r2, .int v0]) (by rw [show (nI i3) + 2 = nI (i3 + 2) from (nadd rfl rfl)]) ?_
  refine G_scLd hb_2 h31 d_L_law_283 ?_
  refine G_callV (M' := mX12_node) (R' := R') (S := [.int v0]) [.int (X.2.2.2.2.2.2.2.2 (i3 + 1)), .int (X.2.2.2.2.2.2.2.2 (i3 + 2))] 12 hk_r2 cok12 rfl ok_X12_node ml_L_39 pn_X12_node hru (Nat.le_of_ble_eq_true rfl) d_L_law_284 ?_
  exact hc_node
theorem b_L_law_287 {X : cX} {R R' : Room} {cs sl : Nat} {μ : mM} {K : Option Value → mM → Prop} {r1 : Nat} {r2 : Nat} {l3 : Int32} {v0 : Int32} {v1 : Int32} (h : v0 = v1 → G X R mL_law 1001 [(0, .ref X.2.2.2.2.2.2.1), (1, .ref r1), (2, .ref r2), (3, .int l3)] [] μ cs sl K) (hK : ¬ v0 = v1 → K (some (.int 0)) μ) (hcs : cs = R.cells) (hsl : sl = R.slots) : G X R mL_law 287 [(0, .ref X.2.2.2.2.2.2.1), (1, .ref r1), (2, .ref r2), (3, .int l3)] [.int v1, .int v0] μ cs sl K := by
  refine G_icmp_eq (tgt := 1001) d_L_law_287 rfl (fun c0 => ?_) (fun c0 => ?_)
  ·
    exact (h c0)
  ·
    refine G_iconst d_L_law_290 ic_0 ?_
    exact G_zret rfl rfl hcs hsl d_L_law_291 (hK c0)
theorem b_L_law_311 {X : cX} {R R' : Room} {cs sl : Nat} {μ : mM} {K : Option Value → mM → Prop} {r1 : Nat} {r2 : Nat} {i3 : Nat} {v0 : Int32} (hb : (i3 + 1) < X.2.2.2.2.2.2.2.1) (h31 : X.2.2.2.2.2.2.2.1 < 2 ^ 31) (hb_2 : (i3 + 2) < X.2.2.2.2.2.2.2.1) (hb_3 : (i3 + 3) < X.2.2.2.2.2.2.2.1) (hk_r2 : kd μ r2 = (0, 12)) (hru : ru R R' 4 cs sl) (hc_pair : Ct X R' mX12_pair [.ref r2, .int (X.2.2.2.2.2.2.2.2 (i3 + 1)), .int (X.2.2.2.2.2.2.2.2 (i3 + 2)), .int (X.2.2.2.2.2.2.2.2 (i3 + 3))] μ (fun r μ2 => G X R mL_law 330 [(0, .ref X.2.2.2.2.2.2.1), (1, .ref r1), (2, .ref r2), (3, .int (nI i3))] (r.toList ++ [.int v0]) μ2 (cs + R'.cells) (sl + R'.slots) K)) : G X R mL_law 311 [(0, .ref X.2.2.2.2.2.2.1), (1, .ref r1), (2, .ref r2), (3, .int (nI i3))] [.int v0] μ cs sl K := by
  refine G_aload_n d_L_law_311 rfl 2 rfl ?_
  refine G_aload_n d_L_law_312 rfl 0 rfl ?_
  refine G_iload_n d_L_law_313 rfl 3 rfl ?_
  refine G_iconst d_L_law_314 ic_1 ?_
  refine G_iadd d_L_law_315 ?_
  refine G_stk (S' := [.int (nI (i3 + 1)), .ref X.2.2.2.2.2.2.1, .ref r2, .int v0]) (by rw [show (nI i3) + 1 = nI (i3 + 1) from (nadd rfl rfl)]) ?_
  refine G_scLd hb h31 d_L_law_316 ?_
  refine G_aload_n d_L_law_317 rfl 0 rfl ?_
  refine G_iload_n d_L_law_318 rfl 3 rfl ?_
  refine G_iconst d_L_law_319 ic_2 ?_
  refine G_iadd d_L_law_320 ?_
  refine G_stk (S' := [.int (nI (i3 + 2)), .ref X.2.2.2.2.2.2.1, .int (X.2.2.2.2.2.2.2.2 (i3 + 1)), .ref r2, .int v0]) (by rw [show (nI i3) + 2 = nI (i3 + 2) from (nadd rfl rfl)]) ?_
  refine G_scLd hb_2 h31 d_L_law_321 ?_
  refine G_aload_n d_L_law_322 rfl 0 rfl ?_
  refine G_iload_n d_L_law_323 rfl 3 rfl ?_
  refine G_iconst d_L_law_324 ic_3 ?_
  refine G_iadd d_L_law_325 ?_
  refine G_stk (S' := [.int (nI (i3 + 3)), .ref X.2.2.2.2.2.2.1, .int (X.2.2.2.2.2.2.2.2 (i3 + 2)), .int (X.2.2.2.2.2.2.2.2 (i3 + 1)), .ref r2, .int v0]) (by rw [show (nI i3) + 3 = nI (i3 + 3) from (nadd rfl rfl)]) ?_
  refine G_scLd hb_3 h31 d_L_law_326 ?_
  refine G_callV (M' := mX12_pair) (R' := R') (S := [.int v0]) [.int (X.2.2.2.2.2.2.2.2 (i3 + 1)), .int (X.2.2.2.2.2.2.2.2 (i3 + 2)), .int (X.2.2.2.2.2.2.2.2 (i3 + 3))] 12 hk_r2 cok12 rfl ok_X12_pair ml_L_44 pn_X12_pair hru (Nat.le_of_ble_eq_true rfl) d_L_law_327 ?_
  exact hc_pair
theorem b_L_law_330 {X : cX} {R R' : Room} {cs sl : Nat} {μ : mM} {K : Option Value → mM → Prop} {r1 : Nat} {r2 : Nat} {l3 : Int32} {v0 : Int32} {v1 : Int32} (h : v0 = v1 → G X R mL_law 1001 [(0, .ref X.2.2.2.2.2.2.1), (1, .ref r1), (2, .ref r2), (3, .int l3)] [] μ cs sl K) (hK : ¬ v0 = v1 → K (some (.int 0)) μ) (hcs : cs = R.cells) (hsl : sl = R.slots) : G X R mL_law 330 [(0, .ref X.2.2.2.2.2.2.1), (1, .ref r1), (2, .ref r2), (3, .int l3)] [.int v1, .int v0] μ cs sl K := by
  refine G_icmp_eq (tgt := 1001) d_L_law_330 rfl (fun c0 => ?_) (fun c0 => ?_)
  ·
    exact (h c0)
  ·
    refine G_iconst d_L_law_333 ic_0 ?_
    exact G_zret rfl rfl hcs hsl d_L_law_334 (hK c0)
theorem b_L_law_344 {X : cX} {R R' : Room} {cs sl : Nat} {μ : mM} {K : Option Value → mM → Prop} {r1 : Nat} {r2 : Nat} {i3 : Nat} {v0 : Int32} (hb : (i3 + 1) < X.2.2.2.2.2.2.2.1) (h31 : X.2.2.2.2.2.2.2.1 < 2 ^ 31) (hk_r2 : kd μ r2 = (0, 12)) (hru : ru R R' 2 cs sl) (hc_held : Ct X R' mX12_held [.ref r2, .int (X.2.2.2.2.2.2.2.2 (i3 + 1))] μ (fun r μ2 => G X R mL_law 353 [(0, .ref X.2.2.2.2.2.2.1), (1, .ref r1), (2, .ref r2), (3, .int (nI i3))] (r.toList ++ [.int v0]) μ2 (cs + R'.cells) (sl + R'.slots) K)) : G X R mL_law 344 [(0, .ref X.2.2.2.2.2.2.1), (1, .ref r1), (2, .ref r2), (3, .int (nI i3))] [.int v0] μ cs sl K := by
  refine G_aload_n d_L_law_344 rfl 2 rfl ?_
  refine G_aload_n d_L_law_345 rfl 0 rfl ?_
  refine G_iload_n d_L_law_346 rfl 3 rfl ?_
  refine G_iconst d_L_law_347 ic_1 ?_
  refine G_iadd d_L_law_348 ?_
  refine G_stk (S' := [.int (nI (i3 + 1)), .ref X.2.2.2.2.2.2.1, .ref r2, .int v0]) (by rw [show (nI i3) + 1 = nI (i3 + 1) from (nadd rfl rfl)]) ?_
  refine G_scLd hb h31 d_L_law_349 ?_
  refine G_callV (M' := mX12_held) (R' := R') (S := [.int v0]) [.int (X.2.2.2.2.2.2.2.2 (i3 + 1))] 12 hk_r2 cok12 rfl ok_X12_held ml_L_48 pn_X12_held hru (Nat.le_of_ble_eq_true rfl) d_L_law_350 ?_
  exact hc_held
theorem b_L_law_353 {X : cX} {R R' : Room} {cs sl : Nat} {μ : mM} {K : Option Value → mM → Prop} {r1 : Nat} {r2 : Nat} {l3 : Int32} {v0 : Int32} {v1 : Int32} (h : v0 = v1 → G X R mL_law 1001 [(0, .ref X.2.2.2.2.2.2.1), (1, .ref r1), (2, .ref r2), (3, .int l3)] [] μ cs sl K) (hK : ¬ v0 = v1 → K (some (.int 0)) μ) (hcs : cs = R.cells) (hsl : sl = R.slots) : G X R mL_law 353 [(0, .ref X.2.2.2.2.2.2.1), (1, .ref r1), (2, .ref r2), (3, .int l3)] [.int v1, .int v0] μ cs sl K := by
  refine G_icmp_eq (tgt := 1001) d_L_law_353 rfl (fun c0 => ?_) (fun c0 => ?_)
  ·
    exact (h c0)
  ·
    refine G_iconst d_L_law_356 ic_0 ?_
    exact G_zret rfl rfl hcs hsl d_L_law_357 (hK c0)
theorem b_L_law_367 {X : cX} {R R' : Room} {cs sl : Nat} {μ : mM} {K : Option Value → mM → Prop} {r1 : Nat} {r2 : Nat} {i3 : Nat} {v0 : Int32} (hb : (i3 + 1) < X.2.2.2.2.2.2.2.1) (h31 : X.2.2.2.2.2.2.2.1 < 2 ^ 31) (hk_r2 : kd μ r2 = (0, 12)) (hru : ru R R' 5 cs sl) (hc_ask : Ct X R' mX12_ask [.ref r2, .int (X.2.2.2.2.2.2.2.2 (i3 + 1))] μ (fun r μ2 => G X R mL_law 376 [(0, .ref X.2.2.2.2.2.2.1), (1, .ref r1), (2, .ref r2), (3, .int (nI i3))] (r.toList ++ [.int v0]) μ2 (cs + R'.cells) (sl + R'.slots) K)) : G X R mL_law 367 [(0, .ref X.2.2.2.2.2.2.1), (1, .ref r1), (2, .ref r2), (3, .int (nI i3))] [.int v0] μ cs sl K := by
  refine G_aload_n d_L_law_367 rfl 2 rfl ?_
  refine G_aload_n d_L_law_368 rfl 0 rfl ?_
  refine G_iload_n d_L_law_369 rfl 3 rfl ?_
  refine G_iconst d_L_law_370 ic_1 ?_
  refine G_iadd d_L_law_371 ?_
  refine G_stk (S' := [.int (nI (i3 + 1)), .ref X.2.2.2.2.2.2.1, .ref r2, .int v0]) (by rw [show (nI i3) + 1 = nI (i3 + 1) from (nadd rfl rfl)]) ?_
  refine G_scLd hb h31 d_L_law_372 ?_
  refine G_callV (M' := mX12_ask) (R' := R') (S := [.int v0]) [.int (X.2.2.2.2.2.2.2.2 (i3 + 1))] 12 hk_r2 cok12 rfl ok_X12_ask ml_L_52 pn_X12_ask hru (Nat.le_of_ble_eq_true rfl) d_L_law_373 ?_
  exact hc_ask
theorem b_L_law_376 {X : cX} {R R' : Room} {cs sl : Nat} {μ : mM} {K : Option Value → mM → Prop} {r1 : Nat} {r2 : Nat} {l3 : Int32} {v0 : Int32} {v1 : Int32} (h : v0 = v1 → G X R mL_law 1001 [(0, .ref X.2.2.2.2.2.2.1), (1, .ref r1), (2, .ref r2), (3, .int l3)] [] μ cs sl K) (hK : ¬ v0 = v1 → K (some (.int 0)) μ) (hcs : cs = R.cells) (hsl : sl = R.slots) : G X R mL_law 376 [(0, .ref X.2.2.2.2.2.2.1), (1, .ref r1), (2, .ref r2), (3, .int l3)] [.int v1, .int v0] μ cs sl K := by
  refine G_icmp_eq (tgt := 1001) d_L_law_376 rfl (fun c0 => ?_) (fun c0 => ?_)
  ·
    exact (h c0)
  ·
    refine G_iconst d_L_law_379 ic_0 ?_
    exact G_zret rfl rfl hcs hsl d_L_law_380 (hK c0)
theorem b_L_law_395 {X : cX} {R R' : Room} {cs sl : Nat} {μ : mM} {K : Option Value → mM → Prop} {r1 : Nat} {r2 : Nat} {i3 : Nat} {v0 : Int32} (hb : (i3 + 1) < X.2.2.2.2.2.2.2.1) (h31 : X.2.2.2.2.2.2.2.1 < 2 ^ 31) (hb_2 : (i3 + 2) < X.2.2.2.2.2.2.2.1) (hk_r2 : kd μ r2 = (0, 12)) (hru : ru R R' 3 cs sl) (hc_formula : Ct X R' mX12_formula [.ref r2, .int (X.2.2.2.2.2.2.2.2 (i3 + 1)), .int (X.2.2.2.2.2.2.2.2 (i3 + 2))] μ (fun r μ2 => G X R mL_law 409 [(0, .ref X.2.2.2.2.2.2.1), (1, .ref r1), (2, .ref r2), (3, .int (nI i3))] (r.toList ++ [.int v0]) μ2 (cs + R'.cells) (sl + R'.slots) K)) : G X R mL_law 395 [(0, .ref X.2.2.2.2.2.2.1), (1, .ref r1), (2, .ref r2), (3, .int (nI i3))] [.int v0] μ cs sl K := by
  refine G_aload_n d_L_law_395 rfl 2 rfl ?_
  refine G_aload_n d_L_law_396 rfl 0 rfl ?_
  refine G_iload_n d_L_law_397 rfl 3 rfl ?_
  refine G_iconst d_L_law_398 ic_1 ?_
  refine G_iadd d_L_law_399 ?_
  refine G_stk (S' := [.int (nI (i3 + 1)), .ref X.2.2.2.2.2.2.1, .ref r2, .int v0]) (by rw [show (nI i3) + 1 = nI (i3 + 1) from (nadd rfl rfl)]) ?_
  refine G_scLd hb h31 d_L_law_400 ?_
  refine G_aload_n d_L_law_401 rfl 0 rfl ?_
  refine G_iload_n d_L_law_402 rfl 3 rfl ?_
  refine G_iconst d_L_law_403 ic_2 ?_
  refine G_iadd d_L_law_404 ?_
  refine G_stk (S' := [.int (nI (i3 + 2)), .ref X.2.2.2.2.2.2.1, .int (X.2.2.2.2.2.2.2.2 (i3 + 1)), .ref r2, .int v0]) (by rw [show (nI i3) + 2 = nI (i3 + 2) from (nadd rfl rfl)]) ?_
  refine G_scLd hb_2 h31 d_L_law_405 ?_
  refine G_callV (M' := mX12_formula) (R' := R') (S := [.int v0]) [.int (X.2.2.2.2.2.2.2.2 (i3 + 1)), .int (X.2.2.2.2.2.2.2.2 (i3 + 2))] 12 hk_r2 cok12 rfl ok_X12_formula ml_L_56 pn_X12_formula hru (Nat.le_of_ble_eq_true rfl) d_L_law_406 ?_
  exact hc_formula
theorem b_L_law_409 {X : cX} {R R' : Room} {cs sl : Nat} {μ : mM} {K : Option Value → mM → Prop} {r1 : Nat} {r2 : Nat} {l3 : Int32} {v0 : Int32} {v1 : Int32} (h : v0 = v1 → G X R mL_law 1001 [(0, .ref X.2.2.2.2.2.2.1), (1, .ref r1), (2, .ref r2), (3, .int l3)] [] μ cs sl K) (hK : ¬ v0 = v1 → K (some (.int 0)) μ) (hcs : cs = R.cells) (hsl : sl = R.slots) : G X R mL_law 409 [(0, .ref X.2.2.2.2.2.2.1), (1, .ref r1), (2, .ref r2), (3, .int l3)] [.int v1, .int v0] μ cs sl K := by
  refine G_icmp_eq (tgt := 1001) d_L_law_409 rfl (fun c0 => ?_) (fun c0 => ?_)
  ·
    exact (h c0)
  ·
    refine G_iconst d_L_law_412 ic_0 ?_
    exact G_zret rfl rfl hcs hsl d_L_law_413 (hK c0)
theorem b_L_law_423 {X : cX} {R R' : Room} {cs sl : Nat} {μ : mM} {K : Option Value → mM → Prop} {r1 : Nat} {r2 : Nat} {i3 : Nat} {v0 : Int32} (hb : (i3 + 1) < X.2.2.2.2.2.2.2.1) (h31 : X.2.2.2.2.2.2.2.1 < 2 ^ 31) (hk_r2 : kd μ r2 = (0, 12)) (hru : ru R R' 2 cs sl) (hc_add : Ct X R' mX12_add [.ref r2, .int (X.2.2.2.2.2.2.2.2 (i3 + 1))] μ (fun r μ2 => G X R mL_law 432 [(0, .ref X.2.2.2.2.2.2.1), (1, .ref r1), (2, .ref r2), (3, .int (nI i3))] (r.toList ++ [.int v0]) μ2 (cs + R'.cells) (sl + R'.slots) K)) : G X R mL_law 423 [(0, .ref X.2.2.2.2.2.2.1), (1, .ref r1), (2, .ref r2), (3, .int (nI i3))] [.int v0] μ cs sl K := by
  refine G_aload_n d_L_law_423 rfl 2 rfl ?_
  refine G_aload_n d_L_law_424 rfl 0 rfl ?_
  refine G_iload_n d_L_law_425 rfl 3 rfl ?_
  refine G_iconst d_L_law_426 ic_1 ?_
  refine G_iadd d_L_law_427 ?_
  refine G_stk (S' := [.int (nI (i3 + 1)), .ref X.2.2.2.2.2.2.1, .ref r2, .int v0]) (by rw [show (nI i3) + 1 = nI (i3 + 1) from (nadd rfl rfl)]) ?_
  refine G_scLd hb h31 d_L_law_428 ?_
  refine G_callV (M' := mX12_add) (R' := R') (S := [.int v0]) [.int (X.2.2.2.2.2.2.2.2 (i3 + 1))] 12 hk_r2 cok12 rfl ok_X12_add ml_L_60 pn_X12_add hru (Nat.le_of_ble_eq_true rfl) d_L_law_429 ?_
  exact hc_add
theorem b_L_law_432 {X : cX} {R R' : Room} {cs sl : Nat} {μ : mM} {K : Option Value → mM → Prop} {r1 : Nat} {r2 : Nat} {l3 : Int32} {v0 : Int32} {v1 : Int32} (h : v0 = v1 → G X R mL_law 1001 [(0, .ref X.2.2.2.2.2.2.1), (1, .ref r1), (2, .ref r2), (3, .int l3)] [] μ cs sl K) (hK : ¬ v0 = v1 → K (some (.int 0)) μ) (hcs : cs = R.cells) (hsl : sl = R.slots) : G X R mL_law 432 [(0, .ref X.2.2.2.2.2.2.1), (1, .ref r1), (2, .ref r2), (3, .int l3)] [.int v1, .int v0] μ cs sl K := by
  refine G_icmp_eq (tgt := 1001) d_L_law_432 rfl (fun c0 => ?_) (fun c0 => ?_)
  ·
    exact (h c0)
  ·
    refine G_iconst d_L_law_435 ic_0 ?_
    exact G_zret rfl rfl hcs hsl d_L_law_436 (hK c0)
theorem b_L_law_446 {X : cX} {R R' : Room} {cs sl : Nat} {μ : mM} {K : Option Value → mM → Prop} {r1 : Nat} {r2 : Nat} {i3 : Nat} {v0 : Int32} (hb : (i3 + 1) < X.2.2.2.2.2.2.2.1) (h31 : X.2.2.2.2.2.2.2.1 < 2 ^ 31) (hk_r2 : kd μ r2 = (0, 12)) (hru : ru R R' 4 cs sl) (hc_lose : Ct X R' mX12_lose [.ref r2, .int (X.2.2.2.2.2.2.2.2 (i3 + 1))] μ (fun r μ2 => G X R mL_law 455 [(0, .ref X.2.2.2.2.2.2.1), (1, .ref r1), (2, .ref r2), (3, .int (nI i3))] (r.toList ++ [.int v0]) μ2 (cs + R'.cells) (sl + R'.slots) K)) : G X R mL_law 446 [(0, .ref X.2.2.2.2.2.2.1), (1, .ref r1), (2, .ref r2), (3, .int (nI i3))] [.int v0] μ cs sl K := by
  refine G_aload_n d_L_law_446 rfl 2 rfl ?_
  refine G_aload_n d_L_law_447 rfl 0 rfl ?_
  refine G_iload_n d_L_law_448 rfl 3 rfl ?_
  refine G_iconst d_L_law_449 ic_1 ?_
  refine G_iadd d_L_law_450 ?_
  refine G_stk (S' := [.int (nI (i3 + 1)), .ref X.2.2.2.2.2.2.1, .ref r2, .int v0]) (by rw [show (nI i3) + 1 = nI (i3 + 1) from (nadd rfl rfl)]) ?_
  refine G_scLd hb h31 d_L_law_451 ?_
  refine G_callV (M' := mX12_lose) (R' := R') (S := [.int v0]) [.int (X.2.2.2.2.2.2.2.2 (i3 + 1))] 12 hk_r2 cok12 rfl ok_X12_lose ml_L_64 pn_X12_lose hru (Nat.le_of_ble_eq_true rfl) d_L_law_452 ?_
  exact hc_lose
theorem b_L_law_455 {X : cX} {R R' : Room} {cs sl : Nat} {μ : mM} {K : Option Value → mM → Prop} {r1 : Nat} {r2 : Nat} {l3 : Int32} {v0 : Int32} {v1 : Int32} (h : v0 = v1 → G X R mL_law 1001 [(0, .ref X.2.2.2.2.2.2.1), (1, .ref r1), (2, .ref r2), (3, .int l3)] [] μ cs sl K) (hK : ¬ v0 = v1 → K (some (.int 0)) μ) (hcs : cs = R.cells) (hsl : sl = R.slots) : G X R mL_law 455 [(0, .ref X.2.2.2.2.2.2.1), (1, .ref r1), (2, .ref r2), (3, .int l3)] [.int v1, .int v0] μ cs sl K := by
  refine G_icmp_eq (tgt := 1001) d_L_law_455 rfl (fun c0 => ?_) (fun c0 => ?_)
  ·
    exact (h c0)
  ·
    refine G_iconst d_L_law_458 ic_0 ?_
    exact G_zret rfl rfl hcs hsl d_L_law_459 (hK c0)
theorem b_L_law_474 {X : cX} {R R' : Room} {cs sl : Nat} {μ : mM} {K : Option Value → mM → Prop} {r1 : Nat} {r2 : Nat} {i3 : Nat} {v0 : Int32} (hb : (i3 + 1) < X.2.2.2.2.2.2.2.1) (h31 : X.2.2.2.2.2.2.2.1 < 2 ^ 31) (hb_2 : (i3 + 2) < X.2.2.2.2.2.2.2.1) (hk_r2 : kd μ r2 = (0, 12)) (hru : ru R R' 3 cs sl) (hc_many : Ct X R' mX12_many [.ref r2, .int (X.2.2.2.2.2.2.2.2 (i3 + 1)), .int (X.2.2.2.2.2.2.2.2 (i3 + 2))] μ (fun r μ2 => G X R mL_law 488 [(0, .ref X.2.2.2.2.2.2.1), (1, .ref r1), (2, .ref r2), (3, .int (nI i3))] (r.toList ++ [.int v0]) μ2 (cs + R'.cells) (sl + R'.slots) K)) : G X R mL_law 474 [(0, .ref X.2.2.2.2.2.2.1), (1, .ref r1), (2, .ref r2), (3, .int (nI i3))] [.int v0] μ cs sl K := by
  refine G_aload_n d_L_law_474 rfl 2 rfl ?_
  refine G_aload_n d_L_law_475 rfl 0 rfl ?_
  refine G_iload_n d_L_law_476 rfl 3 rfl ?_
  refine G_iconst d_L_law_477 ic_1 ?_
  refine G_iadd d_L_law_478 ?_
  refine G_stk (S' := [.int (nI (i3 + 1)), .ref X.2.2.2.2.2.2.1, .ref r2, .int v0]) (by rw [show (nI i3) + 1 = nI (i3 + 1) from (nadd rfl rfl)]) ?_
  refine G_scLd hb h31 d_L_law_479 ?_
  refine G_aload_n d_L_law_480 rfl 0 rfl ?_
  refine G_iload_n d_L_law_481 rfl 3 rfl ?_
  refine G_iconst d_L_law_482 ic_2 ?_
  refine G_iadd d_L_law_483 ?_
  refine G_stk (S' := [.int (nI (i3 + 2)), .ref X.2.2.2.2.2.2.1, .int (X.2.2.2.2.2.2.2.2 (i3 + 1)), .ref r2, .int v0]) (by rw [show (nI i3) + 2 = nI (i3 + 2) from (nadd rfl rfl)]) ?_
  refine G_scLd hb_2 h31 d_L_law_484 ?_
  refine G_callV (M' := mX12_many) (R' := R') (S := [.int v0]) [.int (X.2.2.2.2.2.2.2.2 (i3 + 1)), .int (X.2.2.2.2.2.2.2.2 (i3 + 2))] 12 hk_r2 cok12 rfl ok_X12_many ml_L_68 pn_X12_many hru (Nat.le_of_ble_eq_true rfl) d_L_law_485 ?_
  exact hc_many
theorem b_L_law_488 {X : cX} {R R' : Room} {cs sl : Nat} {μ : mM} {K : Option Value → mM → Prop} {r1 : Nat} {r2 : Nat} {l3 : Int32} {v0 : Int32} {v1 : Int32} (h : v0 = v1 → G X R mL_law 1001 [(0, .ref X.2.2.2.2.2.2.1), (1, .ref r1), (2, .ref r2), (3, .int l3)] [] μ cs sl K) (hK : ¬ v0 = v1 → K (some (.int 0)) μ) (hcs : cs = R.cells) (hsl : sl = R.slots) : G X R mL_law 488 [(0, .ref X.2.2.2.2.2.2.1), (1, .ref r1), (2, .ref r2), (3, .int l3)] [.int v1, .int v0] μ cs sl K := by
  refine G_icmp_eq (tgt := 1001) d_L_law_488 rfl (fun c0 => ?_) (fun c0 => ?_)
  ·
    exact (h c0)
  ·
    refine G_iconst d_L_law_491 ic_0 ?_
    exact G_zret rfl rfl hcs hsl d_L_law_492 (hK c0)
theorem b_L_law_512 {X : cX} {R R' : Room} {cs sl : Nat} {μ : mM} {K : Option Value → mM → Prop} {r1 : Nat} {r2 : Nat} {i3 : Nat} {v0 : Int32} (hb : (i3 + 1) < X.2.2.2.2.2.2.2.1) (h31 : X.2.2.2.2.2.2.2.1 < 2 ^ 31) (hb_2 : (i3 + 2) < X.2.2.2.2.2.2.2.1) (hb_3 : (i3 + 3) < X.2.2.2.2.2.2.2.1) (hk_r2 : kd μ r2 = (0, 12)) (hru : ru R R' 4 cs sl) (hc_place : Ct X R' mX12_place [.ref r2, .int (X.2.2.2.2.2.2.2.2 (i3 + 1)), .int (X.2.2.2.2.2.2.2.2 (i3 + 2)), .int (X.2.2.2.2.2.2.2.2 (i3 + 3))] μ (fun r μ2 => G X R mL_law 531 [(0, .ref X.2.2.2.2.2.2.1), (1, .ref r1), (2, .ref r2), (3, .int (nI i3))] (r.toList ++ [.int v0]) μ2 (cs + R'.cells) (sl + R'.slots) K)) : G X R mL_law 512 [(0, .ref X.2.2.2.2.2.2.1), (1, .ref r1), (2, .ref r2), (3, .int (nI i3))] [.int v0] μ cs sl K := by
  refine G_aload_n d_L_law_512 rfl 2 rfl ?_
  refine G_aload_n d_L_law_513 rfl 0 rfl ?_
  refine G_iload_n d_L_law_514 rfl 3 rfl ?_
  refine G_iconst d_L_law_515 ic_1 ?_
  refine G_iadd d_L_law_516 ?_
  refine G_stk (S' := [.int (nI (i3 + 1)), .ref X.2.2.2.2.2.2.1, .ref r2, .int v0]) (by rw [show (nI i3) + 1 = nI (i3 + 1) from (nadd rfl rfl)]) ?_
  refine G_scLd hb h31 d_L_law_517 ?_
  refine G_aload_n d_L_law_518 rfl 0 rfl ?_
  refine G_iload_n d_L_law_519 rfl 3 rfl ?_
  refine G_iconst d_L_law_520 ic_2 ?_
  refine G_iadd d_L_law_521 ?_
  refine G_stk (S' := [.int (nI (i3 + 2)), .ref X.2.2.2.2.2.2.1, .int (X.2.2.2.2.2.2.2.2 (i3 + 1)), .ref r2, .int v0]) (by rw [show (nI i3) + 2 = nI (i3 + 2) from (nadd rfl rfl)]) ?_
  refine G_scLd hb_2 h31 d_L_law_522 ?_
  refine G_aload_n d_L_law_523 rfl 0 rfl ?_
  refine G_iload_n d_L_law_524 rfl 3 rfl ?_
  refine G_iconst d_L_law_525 ic_3 ?_
  refine G_iadd d_L_law_526 ?_
  refine G_stk (S' := [.int (nI (i3 + 3)), .ref X.2.2.2.2.2.2.1, .int (X.2.2.2.2.2.2.2.2 (i3 + 2)), .int (X.2.2.2.2.2.2.2.2 (i3 + 1)), .ref r2, .int v0]) (by rw [show (nI i3) + 3 = nI (i3 + 3) from (nadd rfl rfl)]) ?_
  refine G_scLd hb_3 h31 d_L_law_527 ?_
  refine G_callV (M' := mX12_place) (R' := R') (S := [.int v0]) [.int (X.2.2.2.2.2.2.2.2 (i3 + 1)), .int (X.2.2.2.2.2.2.2.2 (i3 + 2)), .int (X.2.2.2.2.2.2.2.2 (i3 + 3))] 12 hk_r2 cok12 rfl ok_X12_place ml_L_72 pn_X12_place hru (Nat.le_of_ble_eq_true rfl) d_L_law_528 ?_
  exact hc_place
theorem b_L_law_531 {X : cX} {R R' : Room} {cs sl : Nat} {μ : mM} {K : Option Value → mM → Prop} {r1 : Nat} {r2 : Nat} {l3 : Int32} {v0 : Int32} {v1 : Int32} (h : v0 = v1 → G X R mL_law 1001 [(0, .ref X.2.2.2.2.2.2.1), (1, .ref r1), (2, .ref r2), (3, .int l3)] [] μ cs sl K) (hK : ¬ v0 = v1 → K (some (.int 0)) μ) (hcs : cs = R.cells) (hsl : sl = R.slots) : G X R mL_law 531 [(0, .ref X.2.2.2.2.2.2.1), (1, .ref r1), (2, .ref r2), (3, .int l3)] [.int v1, .int v0] μ cs sl K := by
  refine G_icmp_eq (tgt := 1001) d_L_law_531 rfl (fun c0 => ?_) (fun c0 => ?_)
  ·
    exact (h c0)
  ·
    refine G_iconst d_L_law_534 ic_0 ?_
    exact G_zret rfl rfl hcs hsl d_L_law_535 (hK c0)
theorem b_L_law_555 {X : cX} {R R' : Room} {cs sl : Nat} {μ : mM} {K : Option Value → mM → Prop} {r1 : Nat} {r2 : Nat} {i3 : Nat} {v0 : Int32} (hb : (i3 + 1) < X.2.2.2.2.2.2.2.1) (h31 : X.2.2.2.2.2.2.2.1 < 2 ^ 31) (hb_2 : (i3 + 2) < X.2.2.2.2.2.2.2.1) (hb_3 : (i3 + 3) < X.2.2.2.2.2.2.2.1) (hk_r2 : kd μ r2 = (0, 12)) (hru : ru R R' 4 cs sl) (hc_lead : Ct X R' mX12_lead [.ref r2, .int (X.2.2.2.2.2.2.2.2 (i3 + 1)), .int (X.2.2.2.2.2.2.2.2 (i3 + 2)), .int (X.2.2.2.2.2.2.2.2 (i3 + 3))] μ (fun r μ2 => G X R mL_law 574 [(0, .ref X.2.2.2.2.2.2.1), (1, .ref r1), (2, .ref r2), (3, .int (nI i3))] (r.toList ++ [.int v0]) μ2 (cs + R'.cells) (sl + R'.slots) K)) : G X R mL_law 555 [(0, .ref X.2.2.2.2.2.2.1), (1, .ref r1), (2, .ref r2), (3, .int (nI i3))] [.int v0] μ cs sl K := by
  refine G_aload_n d_L_law_555 rfl 2 rfl ?_
  refine G_aload_n d_L_law_556 rfl 0 rfl ?_
  refine G_iload_n d_L_law_557 rfl 3 rfl ?_
  refine G_iconst d_L_law_558 ic_1 ?_
  refine G_iadd d_L_law_559 ?_
  refine G_stk (S' := [.int (nI (i3 + 1)), .ref X.2.2.2.2.2.2.1, .ref r2, .int v0]) (by rw [show (nI i3) + 1 = nI (i3 + 1) from (nadd rfl rfl)]) ?_
  refine G_scLd hb h31 d_L_law_560 ?_
  refine G_aload_n d_L_law_561 rfl 0 rfl ?_
  refine G_iload_n d_L_law_562 rfl 3 rfl ?_
  refine G_iconst d_L_law_563 ic_2 ?_
  refine G_iadd d_L_law_564 ?_
  refine G_stk (S' := [.int (nI (i3 + 2)), .ref X.2.2.2.2.2.2.1, .int (X.2.2.2.2.2.2.2.2 (i3 + 1)), .ref r2, .int v0]) (by rw [show (nI i3) + 2 = nI (i3 + 2) from (nadd rfl rfl)]) ?_
  refine G_scLd hb_2 h31 d_L_law_565 ?_
  refine G_aload_n d_L_law_566 rfl 0 rfl ?_
  refine G_iload_n d_L_law_567 rfl 3 rfl ?_
  refine G_iconst d_L_law_568 ic_3 ?_
  refine G_iadd d_L_law_569 ?_
  refine G_stk (S' := [.int (nI (i3 + 3)), .ref X.2.2.2.2.2.2.1, .int (X.2.2.2.2.2.2.2.2 (i3 + 2)), .int (X.2.2.2.2.2.2.2.2 (i3 + 1)), .ref r2, .int v0]) (by rw [show (nI i3) + 3 = nI (i3 + 3) from (nadd rfl rfl)]) ?_
  refine G_scLd hb_3 h31 d_L_law_570 ?_
  refine G_callV (M' := mX12_lead) (R' := R') (S := [.int v0]) [.int (X.2.2.2.2.2.2.2.2 (i3 + 1)), .int (X.2.2.2.2.2.2.2.2 (i3 + 2)), .int (X.2.2.2.2.2.2.2.2 (i3 + 3))] 12 hk_r2 cok12 rfl ok_X12_lead ml_L_76 pn_X12_lead hru (Nat.le_of_ble_eq_true rfl) d_L_law_571 ?_
  exact hc_lead
theorem b_L_law_574 {X : cX} {R R' : Room} {cs sl : Nat} {μ : mM} {K : Option Value → mM → Prop} {r1 : Nat} {r2 : Nat} {l3 : Int32} {v0 : Int32} {v1 : Int32} (h : v0 = v1 → G X R mL_law 1001 [(0, .ref X.2.2.2.2.2.2.1), (1, .ref r1), (2, .ref r2), (3, .int l3)] [] μ cs sl K) (hK : ¬ v0 = v1 → K (some (.int 0)) μ) (hcs : cs = R.cells) (hsl : sl = R.slots) : G X R mL_law 574 [(0, .ref X.2.2.2.2.2.2.1), (1, .ref r1), (2, .ref r2), (3, .int l3)] [.int v1, .int v0] μ cs sl K := by
  refine G_icmp_eq (tgt := 1001) d_L_law_574 rfl (fun c0 => ?_) (fun c0 => ?_)
  ·
    exact (h c0)
  ·
    refine G_iconst d_L_law_577 ic_0 ?_
    exact G_zret rfl rfl hcs hsl d_L_law_578 (hK c0)
theorem b_L_law_598 {X : cX} {R R' : Room} {cs sl : Nat} {μ : mM} {K : Option Value → mM → Prop} {r1 : Nat} {r2 : Nat} {i3 : Nat} {v0 : Int32} (hb : (i3 + 1) < X.2.2.2.2.2.2.2.1) (h31 : X.2.2.2.2.2.2.2.1 < 2 ^ 31) (hb_2 : (i3 + 2) < X.2.2.2.2.2.2.2.1) (hb_3 : (i3 + 3) < X.2.2.2.2.2.2.2.1) (hk_r2 : kd μ r2 = (0, 12)) (hru : ru R R' 4 cs sl) (hc_deed : Ct X R' mX12_deed [.ref r2, .int (X.2.2.2.2.2.2.2.2 (i3 + 1)), .int (X.2.2.2.2.2.2.2.2 (i3 + 2)), .int (X.2.2.2.2.2.2.2.2 (i3 + 3))] μ (fun r μ2 => G X R mL_law 617 [(0, .ref X.2.2.2.2.2.2.1), (1, .ref r1), (2, .ref r2), (3, .int (nI i3))] (r.toList ++ [.int v0]) μ2 (cs + R'.cells) (sl + R'.slots) K)) : G X R mL_law 598 [(0, .ref X.2.2.2.2.2.2.1), (1, .ref r1), (2, .ref r2), (3, .int (nI i3))] [.int v0] μ cs sl K := by
  refine G_aload_n d_L_law_598 rfl 2 rfl ?_
  refine G_aload_n d_L_law_599 rfl 0 rfl ?_
  refine G_iload_n d_L_law_600 rfl 3 rfl ?_
  refine G_iconst d_L_law_601 ic_1 ?_
  refine G_iadd d_L_law_602 ?_
  refine G_stk (S' := [.int (nI (i3 + 1)), .ref X.2.2.2.2.2.2.1, .ref r2, .int v0]) (by rw [show (nI i3) + 1 = nI (i3 + 1) from (nadd rfl rfl)]) ?_
  refine G_scLd hb h31 d_L_law_603 ?_
  refine G_aload_n d_L_law_604 rfl 0 rfl ?_
  refine G_iload_n d_L_law_605 rfl 3 rfl ?_
  refine G_iconst d_L_law_606 ic_2 ?_
  refine G_iadd d_L_law_607 ?_
  refine G_stk (S' := [.int (nI (i3 + 2)), .ref X.2.2.2.2.2.2.1, .int (X.2.2.2.2.2.2.2.2 (i3 + 1)), .ref r2, .int v0]) (by rw [show (nI i3) + 2 = nI (i3 + 2) from (nadd rfl rfl)]) ?_
  refine G_scLd hb_2 h31 d_L_law_608 ?_
  refine G_aload_n d_L_law_609 rfl 0 rfl ?_
  refine G_iload_n d_L_law_610 rfl 3 rfl ?_
  refine G_iconst d_L_law_611 ic_3 ?_
  refine G_iadd d_L_law_612 ?_
  refine G_stk (S' := [.int (nI (i3 + 3)), .ref X.2.2.2.2.2.2.1, .int (X.2.2.2.2.2.2.2.2 (i3 + 2)), .int (X.2.2.2.2.2.2.2.2 (i3 + 1)), .ref r2, .int v0]) (by rw [show (nI i3) + 3 = nI (i3 + 3) from (nadd rfl rfl)]) ?_
  refine G_scLd hb_3 h31 d_L_law_613 ?_
  refine G_callV (M' := mX12_deed) (R' := R') (S := [.int v0]) [.int (X.2.2.2.2.2.2.2.2 (i3 + 1)), .int (X.2.2.2.2.2.2.2.2 (i3 + 2)), .int (X.2.2.2.2.2.2.2.2 (i3 + 3))] 12 hk_r2 cok12 rfl ok_X12_deed ml_L_80 pn_X12_deed hru (Nat.le_of_ble_eq_true rfl) d_L_law_614 ?_
  exact hc_deed
theorem b_L_law_617 {X : cX} {R R' : Room} {cs sl : Nat} {μ : mM} {K : Option Value → mM → Prop} {r1 : Nat} {r2 : Nat} {l3 : Int32} {v0 : Int32} {v1 : Int32} (h : v0 = v1 → G X R mL_law 1001 [(0, .ref X.2.2.2.2.2.2.1), (1, .ref r1), (2, .ref r2), (3, .int l3)] [] μ cs sl K) (hK : ¬ v0 = v1 → K (some (.int 0)) μ) (hcs : cs = R.cells) (hsl : sl = R.slots) : G X R mL_law 617 [(0, .ref X.2.2.2.2.2.2.1), (1, .ref r1), (2, .ref r2), (3, .int l3)] [.int v1, .int v0] μ cs sl K := by
  refine G_icmp_eq (tgt := 1001) d_L_law_617 rfl (fun c0 => ?_) (fun c0 => ?_)
  ·
    exact (h c0)
  ·
    refine G_iconst d_L_law_620 ic_0 ?_
    exact G_zret rfl rfl hcs hsl d_L_law_621 (hK c0)
theorem b_L_law_631 {X : cX} {R R' : Room} {cs sl : Nat} {μ : mM} {K : Option Value → mM → Prop} {r1 : Nat} {r2 : Nat} {i3 : Nat} {v0 : Int32} (hb : (i3 + 1) < X.2.2.2.2.2.2.2.1) (h31 : X.2.2.2.2.2.2.2.1 < 2 ^ 31) (hk_r2 : kd μ r2 = (0, 12)) (hru : ru R R' 9 cs sl) (hc_fold : Ct X R' mX12_fold [.ref r2, .int (X.2.2.2.2.2.2.2.2 (i3 + 1))] μ (fun r μ2 => G X R mL_law 640 [(0, .ref X.2.2.2.2.2.2.1), (1, .ref r1), (2, .ref r2), (3, .int (nI i3))] (r.toList ++ [.int v0]) μ2 (cs + R'.cells) (sl + R'.slots) K)) : G X R mL_law 631 [(0, .ref X.2.2.2.2.2.2.1), (1, .ref r1), (2, .ref r2), (3, .int (nI i3))] [.int v0] μ cs sl K := by
  refine G_aload_n d_L_law_631 rfl 2 rfl ?_
  refine G_aload_n d_L_law_632 rfl 0 rfl ?_
  refine G_iload_n d_L_law_633 rfl 3 rfl ?_
  refine G_iconst d_L_law_634 ic_1 ?_
  refine G_iadd d_L_law_635 ?_
  refine G_stk (S' := [.int (nI (i3 + 1)), .ref X.2.2.2.2.2.2.1, .ref r2, .int v0]) (by rw [show (nI i3) + 1 = nI (i3 + 1) from (nadd rfl rfl)]) ?_
  refine G_scLd hb h31 d_L_law_636 ?_
  refine G_callV (M' := mX12_fold) (R' := R') (S := [.int v0]) [.int (X.2.2.2.2.2.2.2.2 (i3 + 1))] 12 hk_r2 cok12 rfl ok_X12_fold ml_L_84 pn_X12_fold hru (Nat.le_of_ble_eq_true rfl) d_L_law_637 ?_
  exact hc_fold
theorem b_L_law_640 {X : cX} {R R' : Room} {cs sl : Nat} {μ : mM} {K : Option Value → mM → Prop} {r1 : Nat} {r2 : Nat} {l3 : Int32} {v0 : Int32} {v1 : Int32} (h : v0 = v1 → G X R mL_law 1001 [(0, .ref X.2.2.2.2.2.2.1), (1, .ref r1), (2, .ref r2), (3, .int l3)] [] μ cs sl K) (hK : ¬ v0 = v1 → K (some (.int 0)) μ) (hcs : cs = R.cells) (hsl : sl = R.slots) : G X R mL_law 640 [(0, .ref X.2.2.2.2.2.2.1), (1, .ref r1), (2, .ref r2), (3, .int l3)] [.int v1, .int v0] μ cs sl K := by
  refine G_icmp_eq (tgt := 1001) d_L_law_640 rfl (fun c0 => ?_) (fun c0 => ?_)
  ·
    exact (h c0)
  ·
    refine G_iconst d_L_law_643 ic_0 ?_
    exact G_zret rfl rfl hcs hsl d_L_law_644 (hK c0)
theorem b_L_law_649 {X : cX} {R R' : Room} {cs sl : Nat} {μ : mM} {K : Option Value → mM → Prop} {r1 : Nat} {r2 : Nat} {l3 : Int32} {v0 : Int32} (hk_r2 : kd μ r2 = (0, 12)) (hru : ru R R' 4 cs sl) (hc_sharpen : Ct X R' mX12_sharpen [.ref r2] μ (fun r μ2 => G X R mL_law 653 [(0, .ref X.2.2.2.2.2.2.1), (1, .ref r1), (2, .ref r2), (3, .int l3)] (r.toList ++ [.int v0]) μ2 (cs + R'.cells) (sl + R'.slots) K)) : G X R mL_law 649 [(0, .ref X.2.2.2.2.2.2.1), (1, .ref r1), (2, .ref r2), (3, .int l3)] [.int v0] μ cs sl K := by
  refine G_aload_n d_L_law_649 rfl 2 rfl ?_
  refine G_callV (M' := mX12_sharpen) (R' := R') (S := [.int v0]) [] 12 hk_r2 cok12 rfl ok_X12_sharpen ml_L_88 pn_X12_sharpen hru (Nat.le_of_ble_eq_true rfl) d_L_law_650 ?_
  exact hc_sharpen
theorem b_L_law_653 {X : cX} {R R' : Room} {cs sl : Nat} {μ : mM} {K : Option Value → mM → Prop} {r1 : Nat} {r2 : Nat} {l3 : Int32} {v0 : Int32} {v1 : Int32} (h : v0 = v1 → G X R mL_law 1001 [(0, .ref X.2.2.2.2.2.2.1), (1, .ref r1), (2, .ref r2), (3, .int l3)] [] μ cs sl K) (hK : ¬ v0 = v1 → K (some (.int 0)) μ) (hcs : cs = R.cells) (hsl : sl = R.slots) : G X R mL_law 653 [(0, .ref X.2.2.2.2.2.2.1), (1, .ref r1), (2, .ref r2), (3, .int l3)] [.int v1, .int v0] μ cs sl K := by
  refine G_icmp_eq (tgt := 1001) d_L_law_653 rfl (fun c0 => ?_) (fun c0 => ?_)
  ·
    exact (h c0)
  ·
    refine G_iconst d_L_law_656 ic_0 ?_
    exact G_zret rfl rfl hcs hsl d_L_law_657 (hK c0)
theorem b_L_law_667 {X : cX} {R R' : Room} {cs sl : Nat} {μ : mM} {K : Option Value → mM → Prop} {r1 : Nat} {r2 : Nat} {i3 : Nat} {v0 : Int32} (hb : (i3 + 1) < X.2.2.2.2.2.2.2.1) (h31 : X.2.2.2.2.2.2.2.1 < 2 ^ 31) (hk_r2 : kd μ r2 = (0, 12)) (hru : ru R R' 3 cs sl) (hc_ways : Ct X R' mX12_ways [.ref r2, .int (X.2.2.2.2.2.2.2.2 (i3 + 1))] μ (fun r μ2 => G X R mL_law 676 [(0, .ref X.2.2.2.2.2.2.1), (1, .ref r1), (2, .ref r2), (3, .int (nI i3))] (r.toList ++ [.int v0]) μ2 (cs + R'.cells) (sl + R'.slots) K)) : G X R mL_law 667 [(0, .ref X.2.2.2.2.2.2.1), (1, .ref r1), (2, .ref r2), (3, .int (nI i3))] [.int v0] μ cs sl K := by
  refine G_aload_n d_L_law_667 rfl 2 rfl ?_
  refine G_aload_n d_L_law_668 rfl 0 rfl ?_
  refine G_iload_n d_L_law_669 rfl 3 rfl ?_
  refine G_iconst d_L_law_670 ic_1 ?_
  refine G_iadd d_L_law_671 ?_
  refine G_stk (S' := [.int (nI (i3 + 1)), .ref X.2.2.2.2.2.2.1, .ref r2, .int v0]) (by rw [show (nI i3) + 1 = nI (i3 + 1) from (nadd rfl rfl)]) ?_
  refine G_scLd hb h31 d_L_law_672 ?_
  refine G_callV (M' := mX12_ways) (R' := R') (S := [.int v0]) [.int (X.2.2.2.2.2.2.2.2 (i3 + 1))] 12 hk_r2 cok12 rfl ok_X12_ways ml_L_92 pn_X12_ways hru (Nat.le_of_ble_eq_true rfl) d_L_law_673 ?_
  exact hc_ways
theorem b_L_law_676 {X : cX} {R R' : Room} {cs sl : Nat} {μ : mM} {K : Option Value → mM → Prop} {r1 : Nat} {r2 : Nat} {l3 : Int32} {v0 : Int32} {v1 : Int32} (h : v0 = v1 → G X R mL_law 1001 [(0, .ref X.2.2.2.2.2.2.1), (1, .ref r1), (2, .ref r2), (3, .int l3)] [] μ cs sl K) (hK : ¬ v0 = v1 → K (some (.int 0)) μ) (hcs : cs = R.cells) (hsl : sl = R.slots) : G X R mL_law 676 [(0, .ref X.2.2.2.2.2.2.1), (1, .ref r1), (2, .ref r2), (3, .int l3)] [.int v1, .int v0] μ cs sl K := by
  refine G_icmp_eq (tgt := 1001) d_L_law_676 rfl (fun c0 => ?_) (fun c0 => ?_)
  ·
    exact (h c0)
  ·
    refine G_iconst d_L_law_679 ic_0 ?_
    exact G_zret rfl rfl hcs hsl d_L_law_680 (hK c0)
theorem b_L_law_695 {X : cX} {R R' : Room} {cs sl : Nat} {μ : mM} {K : Option Value → mM → Prop} {r1 : Nat} {r2 : Nat} {i3 : Nat} {v0 : Int32} (hb : (i3 + 1) < X.2.2.2.2.2.2.2.1) (h31 : X.2.2.2.2.2.2.2.1 < 2 ^ 31) (hb_2 : (i3 + 2) < X.2.2.2.2.2.2.2.1) (hk_r2 : kd μ r2 = (0, 12)) (hru : ru R R' 4 cs sl) (hc_split : Ct X R' mX12_split [.ref r2, .int (X.2.2.2.2.2.2.2.2 (i3 + 1)), .int (X.2.2.2.2.2.2.2.2 (i3 + 2))] μ (fun r μ2 => G X R mL_law 709 [(0, .ref X.2.2.2.2.2.2.1), (1, .ref r1), (2, .ref r2), (3, .int (nI i3))] (r.toList ++ [.int v0]) μ2 (cs + R'.cells) (sl + R'.slots) K)) : G X R mL_law 695 [(0, .ref X.2.2.2.2.2.2.1), (1, .ref r1), (2, .ref r2), (3, .int (nI i3))] [.int v0] μ cs sl K := by
  refine G_aload_n d_L_law_695 rfl 2 rfl ?_
  refine G_aload_n d_L_law_696 rfl 0 rfl ?_
  refine G_iload_n d_L_law_697 rfl 3 rfl ?_
  refine G_iconst d_L_law_698 ic_1 ?_
  refine G_iadd d_L_law_699 ?_
  refine G_stk (S' := [.int (nI (i3 + 1)), .ref X.2.2.2.2.2.2.1, .ref r2, .int v0]) (by rw [show (nI i3) + 1 = nI (i3 + 1) from (nadd rfl rfl)]) ?_
  refine G_scLd hb h31 d_L_law_700 ?_
  refine G_aload_n d_L_law_701 rfl 0 rfl ?_
  refine G_iload_n d_L_law_702 rfl 3 rfl ?_
  refine G_iconst d_L_law_703 ic_2 ?_
  refine G_iadd d_L_law_704 ?_
  refine G_stk (S' := [.int (nI (i3 + 2)), .ref X.2.2.2.2.2.2.1, .int (X.2.2.2.2.2.2.2.2 (i3 + 1)), .ref r2, .int v0]) (by rw [show (nI i3) + 2 = nI (i3 + 2) from (nadd rfl rfl)]) ?_
  refine G_scLd hb_2 h31 d_L_law_705 ?_
  refine G_callV (M' := mX12_split) (R' := R') (S := [.int v0]) [.int (X.2.2.2.2.2.2.2.2 (i3 + 1)), .int (X.2.2.2.2.2.2.2.2 (i3 + 2))] 12 hk_r2 cok12 rfl ok_X12_split ml_L_96 pn_X12_split hru (Nat.le_of_ble_eq_true rfl) d_L_law_706 ?_
  exact hc_split
theorem b_L_law_709 {X : cX} {R R' : Room} {cs sl : Nat} {μ : mM} {K : Option Value → mM → Prop} {r1 : Nat} {r2 : Nat} {l3 : Int32} {v0 : Int32} {v1 : Int32} (h : v0 = v1 → G X R mL_law 1001 [(0, .ref X.2.2.2.2.2.2.1), (1, .ref r1), (2, .ref r2), (3, .int l3)] [] μ cs sl K) (hK : ¬ v0 = v1 → K (some (.int 0)) μ) (hcs : cs = R.cells) (hsl : sl = R.slots) : G X R mL_law 709 [(0, .ref X.2.2.2.2.2.2.1), (1, .ref r1), (2, .ref r2), (3, .int l3)] [.int v1, .int v0] μ cs sl K := by
  refine G_icmp_eq (tgt := 1001) d_L_law_709 rfl (fun c0 => ?_) (fun c0 => ?_)
  ·
    exact (h c0)
  ·
    refine G_iconst d_L_law_712 ic_0 ?_
    exact G_zret rfl rfl hcs hsl d_L_law_713 (hK c0)
theorem b_L_law_728 {X : cX} {R R' : Room} {cs sl : Nat} {μ : mM} {K : Option Value → mM → Prop} {r1 : Nat} {r2 : Nat} {i3 : Nat} {v0 : Int32} (hb : (i3 + 1) < X.2.2.2.2.2.2.2.1) (h31 : X.2.2.2.2.2.2.2.1 < 2 ^ 31) (hb_2 : (i3 + 2) < X.2.2.2.2.2.2.2.1) (hk_r2 : kd μ r2 = (0, 12)) (hru : ru R R' 7 cs sl) (hc_run : Ct X R' mX12_run [.ref r2, .int (X.2.2.2.2.2.2.2.2 (i3 + 1)), .int (X.2.2.2.2.2.2.2.2 (i3 + 2))] μ (fun r μ2 => G X R mL_law 742 [(0, .ref X.2.2.2.2.2.2.1), (1, .ref r1), (2, .ref r2), (3, .int (nI i3))] (r.toList ++ [.int v0]) μ2 (cs + R'.cells) (sl + R'.slots) K)) : G X R mL_law 728 [(0, .ref X.2.2.2.2.2.2.1), (1, .ref r1), (2, .ref r2), (3, .int (nI i3))] [.int v0] μ cs sl K := by
  refine G_aload_n d_L_law_728 rfl 2 rfl ?_
  refine G_aload_n d_L_law_729 rfl 0 rfl ?_
  refine G_iload_n d_L_law_730 rfl 3 rfl ?_
  refine G_iconst d_L_law_731 ic_1 ?_
  refine G_iadd d_L_law_732 ?_
  refine G_stk (S' := [.int (nI (i3 + 1)), .ref X.2.2.2.2.2.2.1, .ref r2, .int v0]) (by rw [show (nI i3) + 1 = nI (i3 + 1) from (nadd rfl rfl)]) ?_
  refine G_scLd hb h31 d_L_law_733 ?_
  refine G_aload_n d_L_law_734 rfl 0 rfl ?_
  refine G_iload_n d_L_law_735 rfl 3 rfl ?_
  refine G_iconst d_L_law_736 ic_2 ?_
  refine G_iadd d_L_law_737 ?_
  refine G_stk (S' := [.int (nI (i3 + 2)), .ref X.2.2.2.2.2.2.1, .int (X.2.2.2.2.2.2.2.2 (i3 + 1)), .ref r2, .int v0]) (by rw [show (nI i3) + 2 = nI (i3 + 2) from (nadd rfl rfl)]) ?_
  refine G_scLd hb_2 h31 d_L_law_738 ?_
  refine G_callV (M' := mX12_run) (R' := R') (S := [.int v0]) [.int (X.2.2.2.2.2.2.2.2 (i3 + 1)), .int (X.2.2.2.2.2.2.2.2 (i3 + 2))] 12 hk_r2 cok12 rfl ok_X12_run ml_L_100 pn_X12_run hru (Nat.le_of_ble_eq_true rfl) d_L_law_739 ?_
  exact hc_run
theorem b_L_law_742 {X : cX} {R R' : Room} {cs sl : Nat} {μ : mM} {K : Option Value → mM → Prop} {r1 : Nat} {r2 : Nat} {l3 : Int32} {v0 : Int32} {v1 : Int32} (h : v0 = v1 → G X R mL_law 1001 [(0, .ref X.2.2.2.2.2.2.1), (1, .ref r1), (2, .ref r2), (3, .int l3)] [] μ cs sl K) (hK : ¬ v0 = v1 → K (some (.int 0)) μ) (hcs : cs = R.cells) (hsl : sl = R.slots) : G X R mL_law 742 [(0, .ref X.2.2.2.2.2.2.1), (1, .ref r1), (2, .ref r2), (3, .int l3)] [.int v1, .int v0] μ cs sl K := by
  refine G_icmp_eq (tgt := 1001) d_L_law_742 rfl (fun c0 => ?_) (fun c0 => ?_)
  ·
    exact (h c0)
  ·
    refine G_iconst d_L_law_745 ic_0 ?_
    exact G_zret rfl rfl hcs hsl d_L_law_746 (hK c0)
theorem b_L_law_756 {X : cX} {R R' : Room} {cs sl : Nat} {μ : mM} {K : Option Value → mM → Prop} {r1 : Nat} {r2 : Nat} {i3 : Nat} {v0 : Int32} (hb : (i3 + 1) < X.2.2.2.2.2.2.2.1) (h31 : X.2.2.2.2.2.2.2.1 < 2 ^ 31) (hk_r2 : kd μ r2 = (0, 12)) (hru : ru R R' 3 cs sl) (hc_keep : Ct X R' mX12_keep [.ref r2, .int (X.2.2.2.2.2.2.2.2 (i3 + 1))] μ (fun r μ2 => G X R mL_law 765 [(0, .ref X.2.2.2.2.2.2.1), (1, .ref r1), (2, .ref r2), (3, .int (nI i3))] (r.toList ++ [.int v0]) μ2 (cs + R'.cells) (sl + R'.slots) K)) : G X R mL_law 756 [(0, .ref X.2.2.2.2.2.2.1), (1, .ref r1), (2, .ref r2), (3, .int (nI i3))] [.int v0] μ cs sl K := by
  refine G_aload_n d_L_law_756 rfl 2 rfl ?_
  refine G_aload_n d_L_law_757 rfl 0 rfl ?_
  refine G_iload_n d_L_law_758 rfl 3 rfl ?_
  refine G_iconst d_L_law_759 ic_1 ?_
  refine G_iadd d_L_law_760 ?_
  refine G_stk (S' := [.int (nI (i3 + 1)), .ref X.2.2.2.2.2.2.1, .ref r2, .int v0]) (by rw [show (nI i3) + 1 = nI (i3 + 1) from (nadd rfl rfl)]) ?_
  refine G_scLd hb h31 d_L_law_761 ?_
  refine G_callV (M' := mX12_keep) (R' := R') (S := [.int v0]) [.int (X.2.2.2.2.2.2.2.2 (i3 + 1))] 12 hk_r2 cok12 rfl ok_X12_keep ml_L_104 pn_X12_keep hru (Nat.le_of_ble_eq_true rfl) d_L_law_762 ?_
  exact hc_keep
theorem b_L_law_765 {X : cX} {R R' : Room} {cs sl : Nat} {μ : mM} {K : Option Value → mM → Prop} {r1 : Nat} {r2 : Nat} {l3 : Int32} {v0 : Int32} {v1 : Int32} (h : v0 = v1 → G X R mL_law 1001 [(0, .ref X.2.2.2.2.2.2.1), (1, .ref r1), (2, .ref r2), (3, .int l3)] [] μ cs sl K) (hK : ¬ v0 = v1 → K (some (.int 0)) μ) (hcs : cs = R.cells) (hsl : sl = R.slots) : G X R mL_law 765 [(0, .ref X.2.2.2.2.2.2.1), (1, .ref r1), (2, .ref r2), (3, .int l3)] [.int v1, .int v0] μ cs sl K := by
  refine G_icmp_eq (tgt := 1001) d_L_law_765 rfl (fun c0 => ?_) (fun c0 => ?_)
  ·
    exact (h c0)
  ·
    refine G_iconst d_L_law_768 ic_0 ?_
    exact G_zret rfl rfl hcs hsl d_L_law_769 (hK c0)
theorem b_L_law_779 {X : cX} {R R' : Room} {cs sl : Nat} {μ : mM} {K : Option Value → mM → Prop} {r1 : Nat} {r2 : Nat} {i3 : Nat} {v0 : Int32} (hb : (i3 + 1) < X.2.2.2.2.2.2.2.1) (h31 : X.2.2.2.2.2.2.2.1 < 2 ^ 31) (hk_r2 : kd μ r2 = (0, 12)) (hru : ru R R' 2 cs sl) (hc_back : Ct X R' mX12_back [.ref r2, .int (X.2.2.2.2.2.2.2.2 (i3 + 1))] μ (fun r μ2 => G X R mL_law 788 [(0, .ref X.2.2.2.2.2.2.1), (1, .ref r1), (2, .ref r2), (3, .int (nI i3))] (r.toList ++ [.int v0]) μ2 (cs + R'.cells) (sl + R'.slots) K)) : G X R mL_law 779 [(0, .ref X.2.2.2.2.2.2.1), (1, .ref r1), (2, .ref r2), (3, .int (nI i3))] [.int v0] μ cs sl K := by
  refine G_aload_n d_L_law_779 rfl 2 rfl ?_
  refine G_aload_n d_L_law_780 rfl 0 rfl ?_
  refine G_iload_n d_L_law_781 rfl 3 rfl ?_
  refine G_iconst d_L_law_782 ic_1 ?_
  refine G_iadd d_L_law_783 ?_
  refine G_stk (S' := [.int (nI (i3 + 1)), .ref X.2.2.2.2.2.2.1, .ref r2, .int v0]) (by rw [show (nI i3) + 1 = nI (i3 + 1) from (nadd rfl rfl)]) ?_
  refine G_scLd hb h31 d_L_law_784 ?_
  refine G_callV (M' := mX12_back) (R' := R') (S := [.int v0]) [.int (X.2.2.2.2.2.2.2.2 (i3 + 1))] 12 hk_r2 cok12 rfl ok_X12_back ml_L_108 pn_X12_back hru (Nat.le_of_ble_eq_true rfl) d_L_law_785 ?_
  exact hc_back
theorem b_L_law_788 {X : cX} {R R' : Room} {cs sl : Nat} {μ : mM} {K : Option Value → mM → Prop} {r1 : Nat} {r2 : Nat} {l3 : Int32} {v0 : Int32} {v1 : Int32} (h : v0 = v1 → G X R mL_law 1001 [(0, .ref X.2.2.2.2.2.2.1), (1, .ref r1), (2, .ref r2), (3, .int l3)] [] μ cs sl K) (hK : ¬ v0 = v1 → K (some (.int 0)) μ) (hcs : cs = R.cells) (hsl : sl = R.slots) : G X R mL_law 788 [(0, .ref X.2.2.2.2.2.2.1), (1, .ref r1), (2, .ref r2), (3, .int l3)] [.int v1, .int v0] μ cs sl K := by
  refine G_icmp_eq (tgt := 1001) d_L_law_788 rfl (fun c0 => ?_) (fun c0 => ?_)
  ·
    exact (h c0)
  ·
    refine G_iconst d_L_law_791 ic_0 ?_
    exact G_zret rfl rfl hcs hsl d_L_law_792 (hK c0)
theorem b_L_law_807 {X : cX} {R R' : Room} {cs sl : Nat} {μ : mM} {K : Option Value → mM → Prop} {r1 : Nat} {r2 : Nat} {i3 : Nat} {v0 : Int32} (hb : (i3 + 1) < X.2.2.2.2.2.2.2.1) (h31 : X.2.2.2.2.2.2.2.1 < 2 ^ 31) (hb_2 : (i3 + 2) < X.2.2.2.2.2.2.2.1) (hk_r2 : kd μ r2 = (0, 12)) (hru : ru R R' 4 cs sl) (hc_covers : Ct X R' mX12_covers [.ref r2, .int (X.2.2.2.2.2.2.2.2 (i3 + 1)), .int (X.2.2.2.2.2.2.2.2 (i3 + 2))] μ (fun r μ2 => G X R mL_law 821 [(0, .ref X.2.2.2.2.2.2.1), (1, .ref r1), (2, .ref r2), (3, .int (nI i3))] (r.toList ++ [.int v0]) μ2 (cs + R'.cells) (sl + R'.slots) K)) : G X R mL_law 807 [(0, .ref X.2.2.2.2.2.2.1), (1, .ref r1), (2, .ref r2), (3, .int (nI i3))] [.int v0] μ cs sl K := by
  refine G_aload_n d_L_law_807 rfl 2 rfl ?_
  refine G_aload_n d_L_law_808 rfl 0 rfl ?_
  refine G_iload_n d_L_law_809 rfl 3 rfl ?_
  refine G_iconst d_L_law_810 ic_1 ?_
  refine G_iadd d_L_law_811 ?_
  refine G_stk (S' := [.int (nI (i3 + 1)), .ref X.2.2.2.2.2.2.1, .ref r2, .int v0]) (by rw [show (nI i3) + 1 = nI (i3 + 1) from (nadd rfl rfl)]) ?_
  refine G_scLd hb h31 d_L_law_812 ?_
  refine G_aload_n d_L_law_813 rfl 0 rfl ?_
  refine G_iload_n d_L_law_814 rfl 3 rfl ?_
  refine G_iconst d_L_law_815 ic_2 ?_
  refine G_iadd d_L_law_816 ?_
  refine G_stk (S' := [.int (nI (i3 + 2)), .ref X.2.2.2.2.2.2.1, .int (X.2.2.2.2.2.2.2.2 (i3 + 1)), .ref r2, .int v0]) (by rw [show (nI i3) + 2 = nI (i3 + 2) from (nadd rfl rfl)]) ?_
  refine G_scLd hb_2 h31 d_L_law_817 ?_
  refine G_callV (M' := mX12_covers) (R' := R') (S := [.int v0]) [.int (X.2.2.2.2.2.2.2.2 (i3 + 1)), .int (X.2.2.2.2.2.2.2.2 (i3 + 2))] 12 hk_r2 cok12 rfl ok_X12_covers ml_L_112 pn_X12_covers hru (Nat.le_of_ble_eq_true rfl) d_L_law_818 ?_
  exact hc_covers
theorem b_L_law_821 {X : cX} {R R' : Room} {cs sl : Nat} {μ : mM} {K : Option Value → mM → Prop} {r1 : Nat} {r2 : Nat} {l3 : Int32} {v0 : Int32} {v1 : Int32} (h : v0 = v1 → G X R mL_law 1001 [(0, .ref X.2.2.2.2.2.2.1), (1, .ref r1), (2, .ref r2), (3, .int l3)] [] μ cs sl K) (hK : ¬ v0 = v1 → K (some (.int 0)) μ) (hcs : cs = R.cells) (hsl : sl = R.slots) : G X R mL_law 821 [(0, .ref X.2.2.2.2.2.2.1), (1, .ref r1), (2, .ref r2), (3, .int l3)] [.int v1, .int v0] μ cs sl K := by
  refine G_icmp_eq (tgt := 1001) d_L_law_821 rfl (fun c0 => ?_) (fun c0 => ?_)
  ·
    exact (h c0)
  ·
    refine G_iconst d_L_law_824 ic_0 ?_
    exact G_zret rfl rfl hcs hsl d_L_law_825 (hK c0)
theorem b_L_law_845 {X : cX} {R R' : Room} {cs sl : Nat} {μ : mM} {K : Option Value → mM → Prop} {r1 : Nat} {r2 : Nat} {i3 : Nat} {v0 : Int32} (hb : (i3 + 1) < X.2.2.2.2.2.2.2.1) (h31 : X.2.2.2.2.2.2.2.1 < 2 ^ 31) (hb_2 : (i3 + 2) < X.2.2.2.2.2.2.2.1) (hb_3 : (i3 + 3) < X.2.2.2.2.2.2.2.1) (hk_r2 : kd μ r2 = (0, 12)) (hru : ru R R' 5 cs sl) (hc_sheet : Ct X R' mX12_sheet [.ref r2, .int (X.2.2.2.2.2.2.2.2 (i3 + 1)), .int (X.2.2.2.2.2.2.2.2 (i3 + 2)), .int (X.2.2.2.2.2.2.2.2 (i3 + 3))] μ (fun r μ2 => G X R mL_law 864 [(0, .ref X.2.2.2.2.2.2.1), (1, .ref r1), (2, .ref r2), (3, .int (nI i3))] (r.toList ++ [.int v0]) μ2 (cs + R'.cells) (sl + R'.slots) K)) : G X R mL_law 845 [(0, .ref X.2.2.2.2.2.2.1), (1, .ref r1), (2, .ref r2), (3, .int (nI i3))] [.int v0] μ cs sl K := by
  refine G_aload_n d_L_law_845 rfl 2 rfl ?_
  refine G_aload_n d_L_law_846 rfl 0 rfl ?_
  refine G_iload_n d_L_law_847 rfl 3 rfl ?_
  refine G_iconst d_L_law_848 ic_1 ?_
  refine G_iadd d_L_law_849 ?_
  refine G_stk (S' := [.int (nI (i3 + 1)), .ref X.2.2.2.2.2.2.1, .ref r2, .int v0]) (by rw [show (nI i3) + 1 = nI (i3 + 1) from (nadd rfl rfl)]) ?_
  refine G_scLd hb h31 d_L_law_850 ?_
  refine G_aload_n d_L_law_851 rfl 0 rfl ?_
  refine G_iload_n d_L_law_852 rfl 3 rfl ?_
  refine G_iconst d_L_law_853 ic_2 ?_
  refine G_iadd d_L_law_854 ?_
  refine G_stk (S' := [.int (nI (i3 + 2)), .ref X.2.2.2.2.2.2.1, .int (X.2.2.2.2.2.2.2.2 (i3 + 1)), .ref r2, .int v0]) (by rw [show (nI i3) + 2 = nI (i3 + 2) from (nadd rfl rfl)]) ?_
  refine G_scLd hb_2 h31 d_L_law_855 ?_
  refine G_aload_n d_L_law_856 rfl 0 rfl ?_
  refine G_iload_n d_L_law_857 rfl 3 rfl ?_
  refine G_iconst d_L_law_858 ic_3 ?_
  refine G_iadd d_L_law_859 ?_
  refine G_stk (S' := [.int (nI (i3 + 3)), .ref X.2.2.2.2.2.2.1, .int (X.2.2.2.2.2.2.2.2 (i3 + 2)), .int (X.2.2.2.2.2.2.2.2 (i3 + 1)), .ref r2, .int v0]) (by rw [show (nI i3) + 3 = nI (i3 + 3) from (nadd rfl rfl)]) ?_
  refine G_scLd hb_3 h31 d_L_law_860 ?_
  refine G_callV (M' := mX12_sheet) (R' := R') (S := [.int v0]) [.int (X.2.2.2.2.2.2.2.2 (i3 + 1)), .int (X.2.2.2.2.2.2.2.2 (i3 + 2)), .int (X.2.2.2.2.2.2.2.2 (i3 + 3))] 12 hk_r2 cok12 rfl ok_X12_sheet ml_L_116 pn_X12_sheet hru (Nat.le_of_ble_eq_true rfl) d_L_law_861 ?_
  exact hc_sheet
theorem b_L_law_864 {X : cX} {R R' : Room} {cs sl : Nat} {μ : mM} {K : Option Value → mM → Prop} {r1 : Nat} {r2 : Nat} {l3 : Int32} {v0 : Int32} {v1 : Int32} (h : v0 = v1 → G X R mL_law 1001 [(0, .ref X.2.2.2.2.2.2.1), (1, .ref r1), (2, .ref r2), (3, .int l3)] [] μ cs sl K) (hK : ¬ v0 = v1 → K (some (.int 0)) μ) (hcs : cs = R.cells) (hsl : sl = R.slots) : G X R mL_law 864 [(0, .ref X.2.2.2.2.2.2.1), (1, .ref r1), (2, .ref r2), (3, .int l3)] [.int v1, .int v0] μ cs sl K := by
  refine G_icmp_eq (tgt := 1001) d_L_law_864 rfl (fun c0 => ?_) (fun c0 => ?_)
  ·
    exact (h c0)
  ·
    refine G_iconst d_L_law_867 ic_0 ?_
    exact G_zret rfl rfl hcs hsl d_L_law_868 (hK c0)
theorem b_L_law_888 {X : cX} {R R' : Room} {cs sl : Nat} {μ : mM} {K : Option Value → mM → Prop} {r1 : Nat} {r2 : Nat} {i3 : Nat} {v0 : Int32} (hb : (i3 + 1) < X.2.2.2.2.2.2.2.1) (h31 : X.2.2.2.2.2.2.2.1 < 2 ^ 31) (hb_2 : (i3 + 2) < X.2.2.2.2.2.2.2.1) (hb_3 : (i3 + 3) < X.2.2.2.2.2.2.2.1) (hk_r2 : kd μ r2 = (0, 12)) (hru : ru R R' 4 cs sl) (hc_lay : Ct X R' mX12_lay [.ref r2, .int (X.2.2.2.2.2.2.2.2 (i3 + 1)), .int (X.2.2.2.2.2.2.2.2 (i3 + 2)), .int (X.2.2.2.2.2.2.2.2 (i3 + 3))] μ (fun r μ2 => G X R mL_law 907 [(0, .ref X.2.2.2.2.2.2.1), (1, .ref r1), (2, .ref r2), (3, .int (nI i3))] (r.toList ++ [.int v0]) μ2 (cs + R'.cells) (sl + R'.slots) K)) : G X R mL_law 888 [(0, .ref X.2.2.2.2.2.2.1), (1, .ref r1), (2, .ref r2), (3, .int (nI i3))] [.int v0] μ cs sl K := by
  refine G_aload_n d_L_law_888 rfl 2 rfl ?_
  refine G_aload_n d_L_law_889 rfl 0 rfl ?_
  refine G_iload_n d_L_law_890 rfl 3 rfl ?_
  refine G_iconst d_L_law_891 ic_1 ?_
  refine G_iadd d_L_law_892 ?_
  refine G_stk (S' := [.int (nI (i3 + 1)), .ref X.2.2.2.2.2.2.1, .ref r2, .int v0]) (by rw [show (nI i3) + 1 = nI (i3 + 1) from (nadd rfl rfl)]) ?_
  refine G_scLd hb h31 d_L_law_893 ?_
  refine G_aload_n d_L_law_894 rfl 0 rfl ?_
  refine G_iload_n d_L_law_895 rfl 3 rfl ?_
  refine G_iconst d_L_law_896 ic_2 ?_
  refine G_iadd d_L_law_897 ?_
  refine G_stk (S' := [.int (nI (i3 + 2)), .ref X.2.2.2.2.2.2.1, .int (X.2.2.2.2.2.2.2.2 (i3 + 1)), .ref r2, .int v0]) (by rw [show (nI i3) + 2 = nI (i3 + 2) from (nadd rfl rfl)]) ?_
  refine G_scLd hb_2 h31 d_L_law_898 ?_
  refine G_aload_n d_L_law_899 rfl 0 rfl ?_
  refine G_iload_n d_L_law_900 rfl 3 rfl ?_
  refine G_iconst d_L_law_901 ic_3 ?_
  refine G_iadd d_L_law_902 ?_
  refine G_stk (S' := [.int (nI (i3 + 3)), .ref X.2.2.2.2.2.2.1, .int (X.2.2.2.2.2.2.2.2 (i3 + 2)), .int (X.2.2.2.2.2.2.2.2 (i3 + 1)), .ref r2, .int v0]) (by rw [show (nI i3) + 3 = nI (i3 + 3) from (nadd rfl rfl)]) ?_
  refine G_scLd hb_3 h31 d_L_law_903 ?_
  refine G_callV (M' := mX12_lay) (R' := R') (S := [.int v0]) [.int (X.2.2.2.2.2.2.2.2 (i3 + 1)), .int (X.2.2.2.2.2.2.2.2 (i3 + 2)), .int (X.2.2.2.2.2.2.2.2 (i3 + 3))] 12 hk_r2 cok12 rfl ok_X12_lay ml_L_120 pn_X12_lay hru (Nat.le_of_ble_eq_true rfl) d_L_law_904 ?_
  exact hc_lay
theorem b_L_law_907 {X : cX} {R R' : Room} {cs sl : Nat} {μ : mM} {K : Option Value → mM → Prop} {r1 : Nat} {r2 : Nat} {l3 : Int32} {v0 : Int32} {v1 : Int32} (h : v0 = v1 → G X R mL_law 1001 [(0, .ref X.2.2.2.2.2.2.1), (1, .ref r1), (2, .ref r2), (3, .int l3)] [] μ cs sl K) (hK : ¬ v0 = v1 → K (some (.int 0)) μ) (hcs : cs = R.cells) (hsl : sl = R.slots) : G X R mL_law 907 [(0, .ref X.2.2.2.2.2.2.1), (1, .ref r1), (2, .ref r2), (3, .int l3)] [.int v1, .int v0] μ cs sl K := by
  refine G_icmp_eq (tgt := 1001) d_L_law_907 rfl (fun c0 => ?_) (fun c0 => ?_)
  ·
    exact (h c0)
  ·
    refine G_iconst d_L_law_910 ic_0 ?_
    exact G_zret rfl rfl hcs hsl d_L_law_911 (hK c0)
theorem b_L_law_936 {X : cX} {R R' : Room} {cs sl : Nat} {μ : mM} {K : Option Value → mM → Prop} {r1 : Nat} {r2 : Nat} {i3 : Nat} {v0 : Int32} (hb : (i3 + 1) < X.2.2.2.2.2.2.2.1) (h31 : X.2.2.2.2.2.2.2.1 < 2 ^ 31) (hb_2 : (i3 + 2) < X.2.2.2.2.2.2.2.1) (hb_3 : (i3 + 3) < X.2.2.2.2.2.2.2.1) (hb_4 : (i3 + 4) < X.2.2.2.2.2.2.2.1) (hk_r2 : kd μ r2 = (0, 12)) (hru : ru R R' 11 cs sl) (hc_read : Ct X R' mX12_read [.ref r2, .int (X.2.2.2.2.2.2.2.2 (i3 + 1)), .int (X.2.2.2.2.2.2.2.2 (i3 + 2)), .int (X.2.2.2.2.2.2.2.2 (i3 + 3)), .int (X.2.2.2.2.2.2.2.2 (i3 + 4))] μ (fun r μ2 => G X R mL_law 960 [(0, .ref X.2.2.2.2.2.2.1), (1, .ref r1), (2, .ref r2), (3, .int (nI i3))] (r.toList ++ [.int v0]) μ2 (cs + R'.cells) (sl + R'.slots) K)) : G X R mL_law 936 [(0, .ref X.2.2.2.2.2.2.1), (1, .ref r1), (2, .ref r2), (3, .int (nI i3))] [.int v0] μ cs sl K := by
  refine G_aload_n d_L_law_936 rfl 2 rfl ?_
  refine G_aload_n d_L_law_937 rfl 0 rfl ?_
  refine G_iload_n d_L_law_938 rfl 3 rfl ?_
  refine G_iconst d_L_law_939 ic_1 ?_
  refine G_iadd d_L_law_940 ?_
  refine G_stk (S' := [.int (nI (i3 + 1)), .ref X.2.2.2.2.2.2.1, .ref r2, .int v0]) (by rw [show (nI i3) + 1 = nI (i3 + 1) from (nadd rfl rfl)]) ?_
  refine G_scLd hb h31 d_L_law_941 ?_
  refine G_aload_n d_L_law_942 rfl 0 rfl ?_
  refine G_iload_n d_L_law_943 rfl 3 rfl ?_
  refine G_iconst d_L_law_944 ic_2 ?_
  refine G_iadd d_L_law_945 ?_
  refine G_stk (S' := [.int (nI (i3 + 2)), .ref X.2.2.2.2.2.2.1, .int (X.2.2.2.2.2.2.2.2 (i3 + 1)), .ref r2, .int v0]) (by rw [show (nI i3) + 2 = nI (i3 + 2) from (nadd rfl rfl)]) ?_
  refine G_scLd hb_2 h31 d_L_law_946 ?_
  refine G_aload_n d_L_law_947 rfl 0 rfl ?_
  refine G_iload_n d_L_law_948 rfl 3 rfl ?_
  refine G_iconst d_L_law_949 ic_3 ?_
  refine G_iadd d_L_law_950 ?_
  refine G_stk (S' := [.int (nI (i3 + 3)), .ref X.2.2.2.2.2.2.1, .int (X.2.2.2.2.2.2.2.2 (i3 + 2)), .int (X.2.2.2.2.2.2.2.2 (i3 + 1)), .ref r2, .int v0]) (by rw [show (nI i3) + 3 = nI (i3 + 3) from (nadd rfl rfl)]) ?_
  refine G_scLd hb_3 h31 d_L_law_951 ?_
  refine G_aload_n d_L_law_952 rfl 0 rfl ?_
  refine G_iload_n d_L_law_953 rfl 3 rfl ?_
  refine G_iconst d_L_law_954 ic_4 ?_
  refine G_iadd d_L_law_955 ?_
  refine G_stk (S' := [.int (nI (i3 + 4)), .ref X.2.2.2.2.2.2.1, .int (X.2.2.2.2.2.2.2.2 (i3 + 3)), .int (X.2.2.2.2.2.2.2.2 (i3 + 2)), .int (X.2.2.2.2.2.2.2.2 (i3 + 1)), .ref r2, .int v0]) (by rw [show (nI i3) + 4 = nI (i3 + 4) from (nadd rfl rfl)]) ?_
  refine G_scLd hb_4 h31 d_L_law_956 ?_
  refine G_callV (M' := mX12_read) (R' := R') (S := [.int v0]) [.int (X.2.2.2.2.2.2.2.2 (i3 + 1)), .int (X.2.2.2.2.2.2.2.2 (i3 + 2)), .int (X.2.2.2.2.2.2.2.2 (i3 + 3)), .int (X.2.2.2.2.2.2.2.2 (i3 + 4))] 12 hk_r2 cok12 rfl ok_X12_read ml_L_125 pn_X12_read hru (Nat.le_of_ble_eq_true rfl) d_L_law_957 ?_
  exact hc_read
theorem b_L_law_960 {X : cX} {R R' : Room} {cs sl : Nat} {μ : mM} {K : Option Value → mM → Prop} {r1 : Nat} {r2 : Nat} {l3 : Int32} {v0 : Int32} {v1 : Int32} (h : v0 = v1 → G X R mL_law 1001 [(0, .ref X.2.2.2.2.2.2.1), (1, .ref r1), (2, .ref r2), (3, .int l3)] [] μ cs sl K) (hK : ¬ v0 = v1 → K (some (.int 0)) μ) (hcs : cs = R.cells) (hsl : sl = R.slots) : G X R mL_law 960 [(0, .ref X.2.2.2.2.2.2.1), (1, .ref r1), (2, .ref r2), (3, .int l3)] [.int v1, .int v0] μ cs sl K := by
  refine G_icmp_eq (tgt := 1001) d_L_law_960 rfl (fun c0 => ?_) (fun c0 => ?_)
  ·
    exact (h c0)
  ·
    refine G_iconst d_L_law_963 ic_0 ?_
    exact G_zret rfl rfl hcs hsl d_L_law_964 (hK c0)
theorem b_L_law_969 {X : cX} {R R' : Room} {cs sl : Nat} {μ : mM} {K : Option Value → mM → Prop} {r1 : Nat} {r2 : Nat} {l3 : Int32} {v0 : Int32} (hk_r2 : kd μ r2 = (0, 12)) (hru : ru R R' 1 cs sl) (hc_torn : Ct X R' mX12_torn [.ref r2] μ (fun r μ2 => G X R mL_law 973 [(0, .ref X.2.2.2.2.2.2.1), (1, .ref r1), (2, .ref r2), (3, .int l3)] (r.toList ++ [.int v0]) μ2 (cs + R'.cells) (sl + R'.slots) K)) : G X R mL_law 969 [(0, .ref X.2.2.2.2.2.2.1), (1, .ref r1), (2, .ref r2), (3, .int l3)] [.int v0] μ cs sl K := by
  refine G_aload_n d_L_law_969 rfl 2 rfl ?_
  refine G_callV (M' := mX12_torn) (R' := R') (S := [.int v0]) [] 12 hk_r2 cok12 rfl ok_X12_torn ml_L_129 pn_X12_torn hru (Nat.le_of_ble_eq_true rfl) d_L_law_970 ?_
  exact hc_torn
theorem b_L_law_973 {X : cX} {R R' : Room} {cs sl : Nat} {μ : mM} {K : Option Value → mM → Prop} {r1 : Nat} {r2 : Nat} {l3 : Int32} {v0 : Int32} {v1 : Int32} (h : v0 = v1 → G X R mL_law 1001 [(0, .ref X.2.2.2.2.2.2.1), (1, .ref r1), (2, .ref r2), (3, .int l3)] [] μ cs sl K) (hK : ¬ v0 = v1 → K (some (.int 0)) μ) (hcs : cs = R.cells) (hsl : sl = R.slots) : G X R mL_law 973 [(0, .ref X.2.2.2.2.2.2.1), (1, .ref r1), (2, .ref r2), (3, .int l3)] [.int v1, .int v0] μ cs sl K := by
  refine G_icmp_eq (tgt := 1001) d_L_law_973 rfl (fun c0 => ?_) (fun c0 => ?_)
  ·
    exact (h c0)
  ·
    refine G_iconst d_L_law_976 ic_0 ?_
    exact G_zret rfl rfl hcs hsl d_L_law_977 (hK c0)
theorem b_L_law_987 {X : cX} {R R' : Room} {cs sl : Nat} {μ : mM} {K : Option Value → mM → Prop} {r1 : Nat} {r2 : Nat} {i3 : Nat} {v0 : Int32} (hb : (i3 + 1) < X.2.2.2.2.2.2.2.1) (h31 : X.2.2.2.2.2.2.2.1 < 2 ^ 31) (hk_r2 : kd μ r2 = (0, 12)) (hru : ru R R' 4 cs sl) (hc_count : Ct X R' mX12_count [.ref r2, .int (X.2.2.2.2.2.2.2.2 (i3 + 1))] μ (fun r μ2 => G X R mL_law 996 [(0, .ref X.2.2.2.2.2.2.1), (1, .ref r1), (2, .ref r2), (3, .int (nI i3))] (r.toList ++ [.int v0]) μ2 (cs + R'.cells) (sl + R'.slots) K)) : G X R mL_law 987 [(0, .ref X.2.2.2.2.2.2.1), (1, .ref r1), (2, .ref r2), (3, .int (nI i3))] [.int v0] μ cs sl K := by
  refine G_aload_n d_L_law_987 rfl 2 rfl ?_
  refine G_aload_n d_L_law_988 rfl 0 rfl ?_
  refine G_iload_n d_L_law_989 rfl 3 rfl ?_
  refine G_iconst d_L_law_990 ic_1 ?_
  refine G_iadd d_L_law_991 ?_
  refine G_stk (S' := [.int (nI (i3 + 1)), .ref X.2.2.2.2.2.2.1, .ref r2, .int v0]) (by rw [show (nI i3) + 1 = nI (i3 + 1) from (nadd rfl rfl)]) ?_
  refine G_scLd hb h31 d_L_law_992 ?_
  refine G_callV (M' := mX12_count) (R' := R') (S := [.int v0]) [.int (X.2.2.2.2.2.2.2.2 (i3 + 1))] 12 hk_r2 cok12 rfl ok_X12_count ml_L_133 pn_X12_count hru (Nat.le_of_ble_eq_true rfl) d_L_law_993 ?_
  exact hc_count
theorem b_L_law_996 {X : cX} {R R' : Room} {cs sl : Nat} {μ : mM} {K : Option Value → mM → Prop} {r1 : Nat} {r2 : Nat} {l3 : Int32} {v0 : Int32} {v1 : Int32} (h : v0 = v1 → G X R mL_law 1001 [(0, .ref X.2.2.2.2.2.2.1), (1, .ref r1), (2, .ref r2), (3, .int l3)] [] μ cs sl K) (hK : ¬ v0 = v1 → K (some (.int 0)) μ) (hcs : cs = R.cells) (hsl : sl = R.slots) : G X R mL_law 996 [(0, .ref X.2.2.2.2.2.2.1), (1, .ref r1), (2, .ref r2), (3, .int l3)] [.int v1, .int v0] μ cs sl K := by
  refine G_icmp_eq (tgt := 1001) d_L_law_996 rfl (fun c0 => ?_) (fun c0 => ?_)
  ·
    exact (h c0)
  ·
    refine G_iconst d_L_law_999 ic_0 ?_
    exact G_zret rfl rfl hcs hsl d_L_law_1000 (hK c0)
theorem b_L_law_1001 {X : cX} {R R' : Room} {cs sl : Nat} {μ : mM} {K : Option Value → mM → Prop} {r1 : Nat} {r2 : Nat} {i3 : Nat} (h : G X R mL_law 18 [(0, .ref X.2.2.2.2.2.2.1), (1, .ref r1), (2, .ref r2), (3, .int (nI i3 + 5))] [] μ cs sl K) : G X R mL_law 1001 [(0, .ref X.2.2.2.2.2.2.1), (1, .ref r1), (2, .ref r2), (3, .int (nI i3))] [] μ cs sl K := by
  refine G_iinc (L' := [(3, .int (nI i3 + 5)), (0, .ref X.2.2.2.2.2.2.1), (1, .ref r1), (2, .ref r2)]) d_L_law_1001 3 rfl rfl (by decide) rfl ?_
  refine G_goto (tgt := 18) d_L_law_1004 rfl ?_
  refine G_sub (L' := [(0, .ref X.2.2.2.2.2.2.1), (1, .ref r1), (2, .ref r2), (3, .int (nI i3 + 5))]) [1, 2, 3, 0] rfl ?_
  exact h
