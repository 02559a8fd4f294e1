theorem dW_0 : decode code 0 = .ok (.new 7, 3) := by decide +kernel
theorem dW_3 : decode code 3 = .ok (.dup, 1) := by decide +kernel
theorem dW_4 : decode code 4 = .ok (.aload_n 0, 1) := by decide +kernel
theorem dW_5 : decode code 5 = .ok (.iconst 0, 1) := by decide +kernel
theorem dW_6 : decode code 6 = .ok (.invokestatic 9, 3) := by decide +kernel
theorem dW_9 : decode code 9 = .ok (.aload_n 0, 1) := by decide +kernel
theorem dW_10 : decode code 10 = .ok (.iconst 1, 1) := by decide +kernel
theorem dW_11 : decode code 11 = .ok (.invokestatic 9, 3) := by decide +kernel
theorem dW_14 : decode code 14 = .ok (.aload_n 0, 1) := by decide +kernel
theorem dW_15 : decode code 15 = .ok (.iconst 2, 1) := by decide +kernel
theorem dW_16 : decode code 16 = .ok (.invokestatic 9, 3) := by decide +kernel
theorem dW_19 : decode code 19 = .ok (.invokespecial 15, 3) := by decide +kernel
theorem dW_22 : decode code 22 = .ok (.astore_n 1, 1) := by decide +kernel
theorem dW_23 : decode code 23 = .ok (.new 18, 3) := by decide +kernel
theorem dW_26 : decode code 26 = .ok (.dup, 1) := by decide +kernel
theorem dW_27 : decode code 27 = .ok (.aload_n 0, 1) := by decide +kernel
theorem dW_28 : decode code 28 = .ok (.iconst 0, 1) := by decide +kernel
theorem dW_29 : decode code 29 = .ok (.invokestatic 9, 3) := by decide +kernel
theorem dW_32 : decode code 32 = .ok (.aload_n 0, 1) := by decide +kernel
theorem dW_33 : decode code 33 = .ok (.iconst 1, 1) := by decide +kernel
theorem dW_34 : decode code 34 = .ok (.invokestatic 9, 3) := by decide +kernel
theorem dW_37 : decode code 37 = .ok (.aload_n 0, 1) := by decide +kernel
theorem dW_38 : decode code 38 = .ok (.iconst 2, 1) := by decide +kernel
theorem dW_39 : decode code 39 = .ok (.invokestatic 9, 3) := by decide +kernel
theorem dW_42 : decode code 42 = .ok (.invokespecial 20, 3) := by decide +kernel
theorem dW_45 : decode code 45 = .ok (.astore_n 2, 1) := by decide +kernel
theorem dW_46 : decode code 46 = .ok (.iconst 3, 1) := by decide +kernel
theorem dW_47 : decode code 47 = .ok (.istore_n 3, 1) := by decide +kernel
theorem dW_48 : decode code 48 = .ok (.iload_n 3, 1) := by decide +kernel
theorem dW_49 : decode code 49 = .ok (.aload_n 0, 1) := by decide +kernel
theorem dW_50 : decode code 50 = .ok (.arraylength, 1) := by decide +kernel
theorem dW_51 : decode code 51 = .ok (.iconst 4, 1) := by decide +kernel
theorem dW_52 : decode code 52 = .ok (.isub, 1) := by decide +kernel
theorem dW_53 : decode code 53 = .ok (.if_icmp .gt 671, 3) := by decide +kernel
theorem dW_56 : decode code 56 = .ok (.aload_n 0, 1) := by decide +kernel
theorem dW_57 : decode code 57 = .ok (.iload_n 3, 1) := by decide +kernel
theorem dW_58 : decode code 58 = .ok (.iaload, 1) := by decide +kernel
theorem dW_59 : decode code 59 = .ok (.bipush 31, 2) := by decide +kernel
theorem dW_61 : decode code 61 = .ok (.iand, 1) := by decide +kernel
theorem dW_62 : decode code 62 = .ok (.tableswitch 656 0 17 #[86, 129, 152, 185, 198, 231, 264, 297, 330, 363, 396, 429, 462, 495, 518, 551, 584, 633], 86) := by decide +kernel
theorem dW_148 : decode code 148 = .ok (.aload_n 1, 1) := by decide +kernel
theorem dW_149 : decode code 149 = .ok (.aload_n 0, 1) := by decide +kernel
theorem dW_150 : decode code 150 = .ok (.iload_n 3, 1) := by decide +kernel
theorem dW_151 : decode code 151 = .ok (.iconst 1, 1) := by decide +kernel
theorem dW_152 : decode code 152 = .ok (.iadd, 1) := by decide +kernel
theorem dW_153 : decode code 153 = .ok (.iaload, 1) := by decide +kernel
theorem dW_154 : decode code 154 = .ok (.aload_n 0, 1) := by decide +kernel
theorem dW_155 : decode code 155 = .ok (.iload_n 3, 1) := by decide +kernel
theorem dW_156 : decode code 156 = .ok (.iconst 2, 1) := by decide +kernel
theorem dW_157 : decode code 157 = .ok (.iadd, 1) := by decide +kernel
theorem dW_158 : decode code 158 = .ok (.iaload, 1) := by decide +kernel
theorem dW_159 : decode code 159 = .ok (.aload_n 0, 1) := by decide +kernel
theorem dW_160 : decode code 160 = .ok (.iload_n 3, 1) := by decide +kernel
theorem dW_161 : decode code 161 = .ok (.iconst 3, 1) := by decide +kernel
theorem dW_162 : decode code 162 = .ok (.iadd, 1) := by decide +kernel
theorem dW_163 : decode code 163 = .ok (.iaload, 1) := by decide +kernel
theorem dW_164 : decode code 164 = .ok (.invokevirtual 21, 3) := by decide +kernel
theorem dW_167 : decode code 167 = .ok (.aload_n 2, 1) := by decide +kernel
theorem dW_168 : decode code 168 = .ok (.aload_n 0, 1) := by decide +kernel
theorem dW_169 : decode code 169 = .ok (.iload_n 3, 1) := by decide +kernel
theorem dW_170 : decode code 170 = .ok (.iconst 1, 1) := by decide +kernel
theorem dW_171 : decode code 171 = .ok (.iadd, 1) := by decide +kernel
theorem dW_172 : decode code 172 = .ok (.iaload, 1) := by decide +kernel
theorem dW_173 : decode code 173 = .ok (.aload_n 0, 1) := by decide +kernel
theorem dW_174 : decode code 174 = .ok (.iload_n 3, 1) := by decide +kernel
theorem dW_175 : decode code 175 = .ok (.iconst 2, 1) := by decide +kernel
theorem dW_176 : decode code 176 = .ok (.iadd, 1) := by decide +kernel
theorem dW_177 : decode code 177 = .ok (.iaload, 1) := by decide +kernel
theorem dW_178 : decode code 178 = .ok (.aload_n 0, 1) := by decide +kernel
theorem dW_179 : decode code 179 = .ok (.iload_n 3, 1) := by decide +kernel
theorem dW_180 : decode code 180 = .ok (.iconst 3, 1) := by decide +kernel
theorem dW_181 : decode code 181 = .ok (.iadd, 1) := by decide +kernel
theorem dW_182 : decode code 182 = .ok (.iaload, 1) := by decide +kernel
theorem dW_183 : decode code 183 = .ok (.invokevirtual 25, 3) := by decide +kernel
theorem dW_186 : decode code 186 = .ok (.if_icmp .eq 532, 3) := by decide +kernel
theorem dW_189 : decode code 189 = .ok (.iconst 0, 1) := by decide +kernel
theorem dW_190 : decode code 190 = .ok (.ireturn, 1) := by decide +kernel
theorem dW_191 : decode code 191 = .ok (.aload_n 1, 1) := by decide +kernel
theorem dW_192 : decode code 192 = .ok (.aload_n 0, 1) := by decide +kernel
theorem dW_193 : decode code 193 = .ok (.iload_n 3, 1) := by decide +kernel
theorem dW_194 : decode code 194 = .ok (.iconst 1, 1) := by decide +kernel
theorem dW_195 : decode code 195 = .ok (.iadd, 1) := by decide +kernel
theorem dW_196 : decode code 196 = .ok (.iaload, 1) := by decide +kernel
theorem dW_197 : decode code 197 = .ok (.invokevirtual 26, 3) := by decide +kernel
theorem dW_200 : decode code 200 = .ok (.aload_n 2, 1) := by decide +kernel
theorem dW_201 : decode code 201 = .ok (.aload_n 0, 1) := by decide +kernel
theorem dW_202 : decode code 202 = .ok (.iload_n 3, 1) := by decide +kernel
theorem dW_203 : decode code 203 = .ok (.iconst 1, 1) := by decide +kernel
theorem dW_204 : decode code 204 = .ok (.iadd, 1) := by decide +kernel
theorem dW_205 : decode code 205 = .ok (.iaload, 1) := by decide +kernel
theorem dW_206 : decode code 206 = .ok (.invokevirtual 30, 3) := by decide +kernel
theorem dW_209 : decode code 209 = .ok (.if_icmp .eq 509, 3) := by decide +kernel
theorem dW_212 : decode code 212 = .ok (.iconst 0, 1) := by decide +kernel
theorem dW_213 : decode code 213 = .ok (.ireturn, 1) := by decide +kernel
theorem dW_214 : decode code 214 = .ok (.aload_n 1, 1) := by decide +kernel
theorem dW_215 : decode code 215 = .ok (.aload_n 0, 1) := by decide +kernel
theorem dW_216 : decode code 216 = .ok (.iload_n 3, 1) := by decide +kernel
theorem dW_217 : decode code 217 = .ok (.iconst 1, 1) := by decide +kernel
theorem dW_218 : decode code 218 = .ok (.iadd, 1) := by decide +kernel
theorem dW_219 : decode code 219 = .ok (.iaload, 1) := by decide +kernel
theorem dW_220 : decode code 220 = .ok (.aload_n 0, 1) := by decide +kernel
theorem dW_221 : decode code 221 = .ok (.iload_n 3, 1) := by decide +kernel
theorem dW_222 : decode code 222 = .ok (.iconst 2, 1) := by decide +kernel
theorem dW_223 : decode code 223 = .ok (.iadd, 1) := by decide +kernel
theorem dW_224 : decode code 224 = .ok (.iaload, 1) := by decide +kernel
theorem dW_225 : decode code 225 = .ok (.invokevirtual 31, 3) := by decide +kernel
theorem dW_228 : decode code 228 = .ok (.aload_n 2, 1) := by decide +kernel
theorem dW_229 : decode code 229 = .ok (.aload_n 0, 1) := by decide +kernel
theorem dW_230 : decode code 230 = .ok (.iload_n 3, 1) := by decide +kernel
theorem dW_231 : decode code 231 = .ok (.iconst 1, 1) := by decide +kernel
theorem dW_232 : decode code 232 = .ok (.iadd, 1) := by decide +kernel
theorem dW_233 : decode code 233 = .ok (.iaload, 1) := by decide +kernel
theorem dW_234 : decode code 234 = .ok (.aload_n 0, 1) := by decide +kernel
theorem dW_235 : decode code 235 = .ok (.iload_n 3, 1) := by decide +kernel
theorem dW_236 : decode code 236 = .ok (.iconst 2, 1) := by decide +kernel
theorem dW_237 : decode code 237 = .ok (.iadd, 1) := by decide +kernel
theorem dW_238 : decode code 238 = .ok (.iaload, 1) := by decide +kernel
theorem dW_239 : decode code 239 = .ok (.invokevirtual 35, 3) := by decide +kernel
theorem dW_242 : decode code 242 = .ok (.if_icmp .eq 476, 3) := by decide +kernel
theorem dW_245 : decode code 245 = .ok (.iconst 0, 1) := by decide +kernel
theorem dW_246 : decode code 246 = .ok (.ireturn, 1) := by decide +kernel
theorem dW_247 : decode code 247 = .ok (.aload_n 1, 1) := by decide +kernel
theorem dW_248 : decode code 248 = .ok (.invokevirtual 36, 3) := by decide +kernel
theorem dW_251 : decode code 251 = .ok (.aload_n 2, 1) := by decide +kernel
theorem dW_252 : decode code 252 = .ok (.invokevirtual 40, 3) := by decide +kernel
theorem dW_255 : decode code 255 = .ok (.if_icmp .eq 463, 3) := by decide +kernel
theorem dW_258 : decode code 258 = .ok (.iconst 0, 1) := by decide +kernel
theorem dW_259 : decode code 259 = .ok (.ireturn, 1) := by decide +kernel
theorem dW_260 : decode code 260 = .ok (.aload_n 1, 1) := by decide +kernel
theorem dW_261 : decode code 261 = .ok (.aload_n 0, 1) := by decide +kernel
theorem dW_262 : decode code 262 = .ok (.iload_n 3, 1) := by decide +kernel
theorem dW_263 : decode code 263 = .ok (.iconst 1, 1) := by decide +kernel
theorem dW_264 : decode code 264 = .ok (.iadd, 1) := by decide +kernel
theorem dW_265 : decode code 265 = .ok (.iaload, 1) := by decide +kernel
theorem dW_266 : decode code 266 = .ok (.aload_n 0, 1) := by decide +kernel
theorem dW_267 : decode code 267 = .ok (.iload_n 3, 1) := by decide +kernel
theorem dW_268 : decode code 268 = .ok (.iconst 2, 1) := by decide +kernel
theorem dW_269 : decode code 269 = .ok (.iadd, 1) := by decide +kernel
theorem dW_270 : decode code 270 = .ok (.iaload, 1) := by decide +kernel
theorem dW_271 : decode code 271 = .ok (.invokevirtual 41, 3) := by decide +kernel
theorem dW_274 : decode code 274 = .ok (.aload_n 2, 1) := by decide +kernel
theorem dW_275 : decode code 275 = .ok (.aload_n 0, 1) := by decide +kernel
theorem dW_276 : decode code 276 = .ok (.iload_n 3, 1) := by decide +kernel
theorem dW_277 : decode code 277 = .ok (.iconst 1, 1) := by decide +kernel
theorem dW_278 : decode code 278 = .ok (.iadd, 1) := by decide +kernel
theorem dW_279 : decode code 279 = .ok (.iaload, 1) := by decide +kernel
theorem dW_280 : decode code 280 = .ok (.aload_n 0, 1) := by decide +kernel
theorem dW_281 : decode code 281 = .ok (.iload_n 3, 1) := by decide +kernel
theorem dW_282 : decode code 282 = .ok (.iconst 2, 1) := by decide +kernel
theorem dW_283 : decode code 283 = .ok (.iadd, 1) := by decide +kernel
theorem dW_284 : decode code 284 = .ok (.iaload, 1) := by decide +kernel
theorem dW_285 : decode code 285 = .ok (.invokevirtual 44, 3) := by decide +kernel
theorem dW_288 : decode code 288 = .ok (.if_icmp .eq 430, 3) := by decide +kernel
theorem dW_291 : decode code 291 = .ok (.iconst 0, 1) := by decide +kernel
theorem dW_292 : decode code 292 = .ok (.ireturn, 1) := by decide +kernel
theorem dW_293 : decode code 293 = .ok (.aload_n 1, 1) := by decide +kernel
theorem dW_294 : decode code 294 = .ok (.aload_n 0, 1) := by decide +kernel
theorem dW_295 : decode code 295 = .ok (.iload_n 3, 1) := by decide +kernel
theorem dW_296 : decode code 296 = .ok (.iconst 1, 1) := by decide +kernel
theorem dW_297 : decode code 297 = .ok (.iadd, 1) := by decide +kernel
theorem dW_298 : decode code 298 = .ok (.iaload, 1) := by decide +kernel
theorem dW_299 : decode code 299 = .ok (.aload_n 0, 1) := by decide +kernel
theorem dW_300 : decode code 300 = .ok (.iload_n 3, 1) := by decide +kernel
theorem dW_301 : decode code 301 = .ok (.iconst 2, 1) := by decide +kernel
theorem dW_302 : decode code 302 = .ok (.iadd, 1) := by decide +kernel
theorem dW_303 : decode code 303 = .ok (.iaload, 1) := by decide +kernel
theorem dW_304 : decode code 304 = .ok (.invokevirtual 45, 3) := by decide +kernel
theorem dW_307 : decode code 307 = .ok (.aload_n 2, 1) := by decide +kernel
theorem dW_308 : decode code 308 = .ok (.aload_n 0, 1) := by decide +kernel
theorem dW_309 : decode code 309 = .ok (.iload_n 3, 1) := by decide +kernel
theorem dW_310 : decode code 310 = .ok (.iconst 1, 1) := by decide +kernel
theorem dW_311 : decode code 311 = .ok (.iadd, 1) := by decide +kernel
theorem dW_312 : decode code 312 = .ok (.iaload, 1) := by decide +kernel
theorem dW_313 : decode code 313 = .ok (.aload_n 0, 1) := by decide +kernel
theorem dW_314 : decode code 314 = .ok (.iload_n 3, 1) := by decide +kernel
theorem dW_315 : decode code 315 = .ok (.iconst 2, 1) := by decide +kernel
theorem dW_316 : decode code 316 = .ok (.iadd, 1) := by decide +kernel
theorem dW_317 : decode code 317 = .ok (.iaload, 1) := by decide +kernel
theorem dW_318 : decode code 318 = .ok (.invokevirtual 48, 3) := by decide +kernel
theorem dW_321 : decode code 321 = .ok (.if_icmp .eq 397, 3) := by decide +kernel
theorem dW_324 : decode code 324 = .ok (.iconst 0, 1) := by decide +kernel
theorem dW_325 : decode code 325 = .ok (.ireturn, 1) := by decide +kernel
theorem dW_326 : decode code 326 = .ok (.aload_n 1, 1) := by decide +kernel
theorem dW_327 : decode code 327 = .ok (.aload_n 0, 1) := by decide +kernel
theorem dW_328 : decode code 328 = .ok (.iload_n 3, 1) := by decide +kernel
theorem dW_329 : decode code 329 = .ok (.iconst 1, 1) := by decide +kernel
theorem dW_330 : decode code 330 = .ok (.iadd, 1) := by decide +kernel
theorem dW_331 : decode code 331 = .ok (.iaload, 1) := by decide +kernel
theorem dW_332 : decode code 332 = .ok (.aload_n 0, 1) := by decide +kernel
theorem dW_333 : decode code 333 = .ok (.iload_n 3, 1) := by decide +kernel
theorem dW_334 : decode code 334 = .ok (.iconst 2, 1) := by decide +kernel
theorem dW_335 : decode code 335 = .ok (.iadd, 1) := by decide +kernel
theorem dW_336 : decode code 336 = .ok (.iaload, 1) := by decide +kernel
theorem dW_337 : decode code 337 = .ok (.invokevirtual 49, 3) := by decide +kernel
theorem dW_340 : decode code 340 = .ok (.aload_n 2, 1) := by decide +kernel
theorem dW_341 : decode code 341 = .ok (.aload_n 0, 1) := by decide +kernel
theorem dW_342 : decode code 342 = .ok (.iload_n 3, 1) := by decide +kernel
theorem dW_343 : decode code 343 = .ok (.iconst 1, 1) := by decide +kernel
theorem dW_344 : decode code 344 = .ok (.iadd, 1) := by decide +kernel
theorem dW_345 : decode code 345 = .ok (.iaload, 1) := by decide +kernel
theorem dW_346 : decode code 346 = .ok (.aload_n 0, 1) := by decide +kernel
theorem dW_347 : decode code 347 = .ok (.iload_n 3, 1) := by decide +kernel
theorem dW_348 : decode code 348 = .ok (.iconst 2, 1) := by decide +kernel
theorem dW_349 : decode code 349 = .ok (.iadd, 1) := by decide +kernel
theorem dW_350 : decode code 350 = .ok (.iaload, 1) := by decide +kernel
theorem dW_351 : decode code 351 = .ok (.invokevirtual 52, 3) := by decide +kernel
theorem dW_354 : decode code 354 = .ok (.if_icmp .eq 364, 3) := by decide +kernel
theorem dW_357 : decode code 357 = .ok (.iconst 0, 1) := by decide +kernel
theorem dW_358 : decode code 358 = .ok (.ireturn, 1) := by decide +kernel
theorem dW_359 : decode code 359 = .ok (.aload_n 1, 1) := by decide +kernel
theorem dW_360 : decode code 360 = .ok (.aload_n 0, 1) := by decide +kernel
theorem dW_361 : decode code 361 = .ok (.iload_n 3, 1) := by decide +kernel
theorem dW_362 : decode code 362 = .ok (.iconst 1, 1) := by decide +kernel
theorem dW_363 : decode code 363 = .ok (.iadd, 1) := by decide +kernel
theorem dW_364 : decode code 364 = .ok (.iaload, 1) := by decide +kernel
theorem dW_365 : decode code 365 = .ok (.aload_n 0, 1) := by decide +kernel
theorem dW_366 : decode code 366 = .ok (.iload_n 3, 1) := by decide +kernel
theorem dW_367 : decode code 367 = .ok (.iconst 2, 1) := by decide +kernel
theorem dW_368 : decode code 368 = .ok (.iadd, 1) := by decide +kernel
theorem dW_369 : decode code 369 = .ok (.iaload, 1) := by decide +kernel
theorem dW_370 : decode code 370 = .ok (.invokevirtual 53, 3) := by decide +kernel
theorem dW_373 : decode code 373 = .ok (.aload_n 2, 1) := by decide +kernel
theorem dW_374 : decode code 374 = .ok (.aload_n 0, 1) := by decide +kernel
theorem dW_375 : decode code 375 = .ok (.iload_n 3, 1) := by decide +kernel
theorem dW_376 : decode code 376 = .ok (.iconst 1, 1) := by decide +kernel
theorem dW_377 : decode code 377 = .ok (.iadd, 1) := by decide +kernel
theorem dW_378 : decode code 378 = .ok (.iaload, 1) := by decide +kernel
theorem dW_379 : decode code 379 = .ok (.aload_n 0, 1) := by decide +kernel
theorem dW_380 : decode code 380 = .ok (.iload_n 3, 1) := by decide +kernel
theorem dW_381 : decode code 381 = .ok (.iconst 2, 1) := by decide +kernel
theorem dW_382 : decode code 382 = .ok (.iadd, 1) := by decide +kernel
theorem dW_383 : decode code 383 = .ok (.iaload, 1) := by decide +kernel
theorem dW_384 : decode code 384 = .ok (.invokevirtual 57, 3) := by decide +kernel
theorem dW_387 : decode code 387 = .ok (.if_icmp .eq 331, 3) := by decide +kernel
theorem dW_390 : decode code 390 = .ok (.iconst 0, 1) := by decide +kernel
theorem dW_391 : decode code 391 = .ok (.ireturn, 1) := by decide +kernel
theorem dW_392 : decode code 392 = .ok (.aload_n 1, 1) := by decide +kernel
theorem dW_393 : decode code 393 = .ok (.aload_n 0, 1) := by decide +kernel
theorem dW_394 : decode code 394 = .ok (.iload_n 3, 1) := by decide +kernel
theorem dW_395 : decode code 395 = .ok (.iconst 1, 1) := by decide +kernel
theorem dW_396 : decode code 396 = .ok (.iadd, 1) := by decide +kernel
theorem dW_397 : decode code 397 = .ok (.iaload, 1) := by decide +kernel
theorem dW_398 : decode code 398 = .ok (.aload_n 0, 1) := by decide +kernel
theorem dW_399 : decode code 399 = .ok (.iload_n 3, 1) := by decide +kernel
theorem dW_400 : decode code 400 = .ok (.iconst 2, 1) := by decide +kernel
theorem dW_401 : decode code 401 = .ok (.iadd, 1) := by decide +kernel
theorem dW_402 : decode code 402 = .ok (.iaload, 1) := by decide +kernel
theorem dW_403 : decode code 403 = .ok (.invokevirtual 58, 3) := by decide +kernel
theorem dW_406 : decode code 406 = .ok (.aload_n 2, 1) := by decide +kernel
theorem dW_407 : decode code 407 = .ok (.aload_n 0, 1) := by decide +kernel
theorem dW_408 : decode code 408 = .ok (.iload_n 3, 1) := by decide +kernel
theorem dW_409 : decode code 409 = .ok (.iconst 1, 1) := by decide +kernel
theorem dW_410 : decode code 410 = .ok (.iadd, 1) := by decide +kernel
theorem dW_411 : decode code 411 = .ok (.iaload, 1) := by decide +kernel
theorem dW_412 : decode code 412 = .ok (.aload_n 0, 1) := by decide +kernel
theorem dW_413 : decode code 413 = .ok (.iload_n 3, 1) := by decide +kernel
theorem dW_414 : decode code 414 = .ok (.iconst 2, 1) := by decide +kernel
theorem dW_415 : decode code 415 = .ok (.iadd, 1) := by decide +kernel
theorem dW_416 : decode code 416 = .ok (.iaload, 1) := by decide +kernel
theorem dW_417 : decode code 417 = .ok (.invokevirtual 61, 3) := by decide +kernel
theorem dW_420 : decode code 420 = .ok (.if_icmp .eq 298, 3) := by decide +kernel
theorem dW_423 : decode code 423 = .ok (.iconst 0, 1) := by decide +kernel
theorem dW_424 : decode code 424 = .ok (.ireturn, 1) := by decide +kernel
theorem dW_425 : decode code 425 = .ok (.aload_n 1, 1) := by decide +kernel
theorem dW_426 : decode code 426 = .ok (.aload_n 0, 1) := by decide +kernel
theorem dW_427 : decode code 427 = .ok (.iload_n 3, 1) := by decide +kernel
theorem dW_428 : decode code 428 = .ok (.iconst 1, 1) := by decide +kernel
theorem dW_429 : decode code 429 = .ok (.iadd, 1) := by decide +kernel
theorem dW_430 : decode code 430 = .ok (.iaload, 1) := by decide +kernel
theorem dW_431 : decode code 431 = .ok (.aload_n 0, 1) := by decide +kernel
theorem dW_432 : decode code 432 = .ok (.iload_n 3, 1) := by decide +kernel
theorem dW_433 : decode code 433 = .ok (.iconst 2, 1) := by decide +kernel
theorem dW_434 : decode code 434 = .ok (.iadd, 1) := by decide +kernel
theorem dW_435 : decode code 435 = .ok (.iaload, 1) := by decide +kernel
theorem dW_436 : decode code 436 = .ok (.invokevirtual 62, 3) := by decide +kernel
theorem dW_439 : decode code 439 = .ok (.aload_n 2, 1) := by decide +kernel
theorem dW_440 : decode code 440 = .ok (.aload_n 0, 1) := by decide +kernel
theorem dW_441 : decode code 441 = .ok (.iload_n 3, 1) := by decide +kernel
theorem dW_442 : decode code 442 = .ok (.iconst 1, 1) := by decide +kernel
theorem dW_443 : decode code 443 = .ok (.iadd, 1) := by decide +kernel
theorem dW_444 : decode code 444 = .ok (.iaload, 1) := by decide +kernel
theorem dW_445 : decode code 445 = .ok (.aload_n 0, 1) := by decide +kernel
theorem dW_446 : decode code 446 = .ok (.iload_n 3, 1) := by decide +kernel
theorem dW_447 : decode code 447 = .ok (.iconst 2, 1) := by decide +kernel
theorem dW_448 : decode code 448 = .ok (.iadd, 1) := by decide +kernel
theorem dW_449 : decode code 449 = .ok (.iaload, 1) := by decide +kernel
theorem dW_450 : decode code 450 = .ok (.invokevirtual 65, 3) := by decide +kernel
theorem dW_453 : decode code 453 = .ok (.if_icmp .eq 265, 3) := by decide +kernel
theorem dW_456 : decode code 456 = .ok (.iconst 0, 1) := by decide +kernel
theorem dW_457 : decode code 457 = .ok (.ireturn, 1) := by decide +kernel
theorem dW_458 : decode code 458 = .ok (.aload_n 1, 1) := by decide +kernel
theorem dW_459 : decode code 459 = .ok (.aload_n 0, 1) := by decide +kernel
theorem dW_460 : decode code 460 = .ok (.iload_n 3, 1) := by decide +kernel
theorem dW_461 : decode code 461 = .ok (.iconst 1, 1) := by decide +kernel
theorem dW_462 : decode code 462 = .ok (.iadd, 1) := by decide +kernel
theorem dW_463 : decode code 463 = .ok (.iaload, 1) := by decide +kernel
theorem dW_464 : decode code 464 = .ok (.aload_n 0, 1) := by decide +kernel
theorem dW_465 : decode code 465 = .ok (.iload_n 3, 1) := by decide +kernel
theorem dW_466 : decode code 466 = .ok (.iconst 2, 1) := by decide +kernel
theorem dW_467 : decode code 467 = .ok (.iadd, 1) := by decide +kernel
theorem dW_468 : decode code 468 = .ok (.iaload, 1) := by decide +kernel
theorem dW_469 : decode code 469 = .ok (.invokevirtual 66, 3) := by decide +kernel
theorem dW_472 : decode code 472 = .ok (.aload_n 2, 1) := by decide +kernel
theorem dW_473 : decode code 473 = .ok (.aload_n 0, 1) := by decide +kernel
theorem dW_474 : decode code 474 = .ok (.iload_n 3, 1) := by decide +kernel
theorem dW_475 : decode code 475 = .ok (.iconst 1, 1) := by decide +kernel
theorem dW_476 : decode code 476 = .ok (.iadd, 1) := by decide +kernel
theorem dW_477 : decode code 477 = .ok (.iaload, 1) := by decide +kernel
theorem dW_478 : decode code 478 = .ok (.aload_n 0, 1) := by decide +kernel
theorem dW_479 : decode code 479 = .ok (.iload_n 3, 1) := by decide +kernel
theorem dW_480 : decode code 480 = .ok (.iconst 2, 1) := by decide +kernel
theorem dW_481 : decode code 481 = .ok (.iadd, 1) := by decide +kernel
theorem dW_482 : decode code 482 = .ok (.iaload, 1) := by decide +kernel
theorem dW_483 : decode code 483 = .ok (.invokevirtual 69, 3) := by decide +kernel
theorem dW_486 : decode code 486 = .ok (.if_icmp .eq 232, 3) := by decide +kernel
theorem dW_489 : decode code 489 = .ok (.iconst 0, 1) := by decide +kernel
theorem dW_490 : decode code 490 = .ok (.ireturn, 1) := by decide +kernel
theorem dW_491 : decode code 491 = .ok (.aload_n 1, 1) := by decide +kernel
theorem dW_492 : decode code 492 = .ok (.aload_n 0, 1) := by decide +kernel
theorem dW_493 : decode code 493 = .ok (.iload_n 3, 1) := by decide +kernel
theorem dW_494 : decode code 494 = .ok (.iconst 1, 1) := by decide +kernel
theorem dW_495 : decode code 495 = .ok (.iadd, 1) := by decide +kernel
theorem dW_496 : decode code 496 = .ok (.iaload, 1) := by decide +kernel
theorem dW_497 : decode code 497 = .ok (.aload_n 0, 1) := by decide +kernel
theorem dW_498 : decode code 498 = .ok (.iload_n 3, 1) := by decide +kernel
theorem dW_499 : decode code 499 = .ok (.iconst 2, 1) := by decide +kernel
theorem dW_500 : decode code 500 = .ok (.iadd, 1) := by decide +kernel
theorem dW_501 : decode code 501 = .ok (.iaload, 1) := by decide +kernel
theorem dW_502 : decode code 502 = .ok (.invokevirtual 70, 3) := by decide +kernel
theorem dW_505 : decode code 505 = .ok (.aload_n 2, 1) := by decide +kernel
theorem dW_506 : decode code 506 = .ok (.aload_n 0, 1) := by decide +kernel
theorem dW_507 : decode code 507 = .ok (.iload_n 3, 1) := by decide +kernel
theorem dW_508 : decode code 508 = .ok (.iconst 1, 1) := by decide +kernel
theorem dW_509 : decode code 509 = .ok (.iadd, 1) := by decide +kernel
theorem dW_510 : decode code 510 = .ok (.iaload, 1) := by decide +kernel
theorem dW_511 : decode code 511 = .ok (.aload_n 0, 1) := by decide +kernel
theorem dW_512 : decode code 512 = .ok (.iload_n 3, 1) := by decide +kernel
theorem dW_513 : decode code 513 = .ok (.iconst 2, 1) := by decide +kernel
theorem dW_514 : decode code 514 = .ok (.iadd, 1) := by decide +kernel
theorem dW_515 : decode code 515 = .ok (.iaload, 1) := by decide +kernel
theorem dW_516 : decode code 516 = .ok (.invokevirtual 73, 3) := by decide +kernel
theorem dW_519 : decode code 519 = .ok (.if_icmp .eq 199, 3) := by decide +kernel
theorem dW_522 : decode code 522 = .ok (.iconst 0, 1) := by decide +kernel
theorem dW_523 : decode code 523 = .ok (.ireturn, 1) := by decide +kernel
theorem dW_524 : decode code 524 = .ok (.aload_n 1, 1) := by decide +kernel
theorem dW_525 : decode code 525 = .ok (.aload_n 0, 1) := by decide +kernel
theorem dW_526 : decode code 526 = .ok (.iload_n 3, 1) := by decide +kernel
theorem dW_527 : decode code 527 = .ok (.iconst 1, 1) := by decide +kernel
theorem dW_528 : decode code 528 = .ok (.iadd, 1) := by decide +kernel
theorem dW_529 : decode code 529 = .ok (.iaload, 1) := by decide +kernel
theorem dW_530 : decode code 530 = .ok (.aload_n 0, 1) := by decide +kernel
theorem dW_531 : decode code 531 = .ok (.iload_n 3, 1) := by decide +kernel
theorem dW_532 : decode code 532 = .ok (.iconst 2, 1) := by decide +kernel
theorem dW_533 : decode code 533 = .ok (.iadd, 1) := by decide +kernel
theorem dW_534 : decode code 534 = .ok (.iaload, 1) := by decide +kernel
theorem dW_535 : decode code 535 = .ok (.invokevirtual 74, 3) := by decide +kernel
theorem dW_538 : decode code 538 = .ok (.aload_n 2, 1) := by decide +kernel
theorem dW_539 : decode code 539 = .ok (.aload_n 0, 1) := by decide +kernel
theorem dW_540 : decode code 540 = .ok (.iload_n 3, 1) := by decide +kernel
theorem dW_541 : decode code 541 = .ok (.iconst 1, 1) := by decide +kernel
theorem dW_542 : decode code 542 = .ok (.iadd, 1) := by decide +kernel
theorem dW_543 : decode code 543 = .ok (.iaload, 1) := by decide +kernel
theorem dW_544 : decode code 544 = .ok (.aload_n 0, 1) := by decide +kernel
theorem dW_545 : decode code 545 = .ok (.iload_n 3, 1) := by decide +kernel
theorem dW_546 : decode code 546 = .ok (.iconst 2, 1) := by decide +kernel
theorem dW_547 : decode code 547 = .ok (.iadd, 1) := by decide +kernel
theorem dW_548 : decode code 548 = .ok (.iaload, 1) := by decide +kernel
theorem dW_549 : decode code 549 = .ok (.invokevirtual 77, 3) := by decide +kernel
theorem dW_552 : decode code 552 = .ok (.if_icmp .eq 166, 3) := by decide +kernel
theorem dW_555 : decode code 555 = .ok (.iconst 0, 1) := by decide +kernel
theorem dW_556 : decode code 556 = .ok (.ireturn, 1) := by decide +kernel
theorem dW_557 : decode code 557 = .ok (.aload_n 1, 1) := by decide +kernel
theorem dW_558 : decode code 558 = .ok (.aload_n 0, 1) := by decide +kernel
theorem dW_559 : decode code 559 = .ok (.iload_n 3, 1) := by decide +kernel
theorem dW_560 : decode code 560 = .ok (.iconst 1, 1) := by decide +kernel
theorem dW_561 : decode code 561 = .ok (.iadd, 1) := by decide +kernel
theorem dW_562 : decode code 562 = .ok (.iaload, 1) := by decide +kernel
theorem dW_563 : decode code 563 = .ok (.invokevirtual 78, 3) := by decide +kernel
theorem dW_566 : decode code 566 = .ok (.aload_n 2, 1) := by decide +kernel
theorem dW_567 : decode code 567 = .ok (.aload_n 0, 1) := by decide +kernel
theorem dW_568 : decode code 568 = .ok (.iload_n 3, 1) := by decide +kernel
theorem dW_569 : decode code 569 = .ok (.iconst 1, 1) := by decide +kernel
theorem dW_570 : decode code 570 = .ok (.iadd, 1) := by decide +kernel
theorem dW_571 : decode code 571 = .ok (.iaload, 1) := by decide +kernel
theorem dW_572 : decode code 572 = .ok (.invokevirtual 81, 3) := by decide +kernel
theorem dW_575 : decode code 575 = .ok (.if_icmp .eq 143, 3) := by decide +kernel
theorem dW_578 : decode code 578 = .ok (.iconst 0, 1) := by decide +kernel
theorem dW_579 : decode code 579 = .ok (.ireturn, 1) := by decide +kernel
theorem dW_580 : decode code 580 = .ok (.aload_n 1, 1) := by decide +kernel
theorem dW_581 : decode code 581 = .ok (.aload_n 0, 1) := by decide +kernel
theorem dW_582 : decode code 582 = .ok (.iload_n 3, 1) := by decide +kernel
theorem dW_583 : decode code 583 = .ok (.iconst 1, 1) := by decide +kernel
theorem dW_584 : decode code 584 = .ok (.iadd, 1) := by decide +kernel
theorem dW_585 : decode code 585 = .ok (.iaload, 1) := by decide +kernel
theorem dW_586 : decode code 586 = .ok (.aload_n 0, 1) := by decide +kernel
theorem dW_587 : decode code 587 = .ok (.iload_n 3, 1) := by decide +kernel
theorem dW_588 : decode code 588 = .ok (.iconst 2, 1) := by decide +kernel
theorem dW_589 : decode code 589 = .ok (.iadd, 1) := by decide +kernel
theorem dW_590 : decode code 590 = .ok (.iaload, 1) := by decide +kernel
theorem dW_591 : decode code 591 = .ok (.invokevirtual 82, 3) := by decide +kernel
theorem dW_594 : decode code 594 = .ok (.aload_n 2, 1) := by decide +kernel
theorem dW_595 : decode code 595 = .ok (.aload_n 0, 1) := by decide +kernel
theorem dW_596 : decode code 596 = .ok (.iload_n 3, 1) := by decide +kernel
theorem dW_597 : decode code 597 = .ok (.iconst 1, 1) := by decide +kernel
theorem dW_598 : decode code 598 = .ok (.iadd, 1) := by decide +kernel
theorem dW_599 : decode code 599 = .ok (.iaload, 1) := by decide +kernel
theorem dW_600 : decode code 600 = .ok (.aload_n 0, 1) := by decide +kernel
theorem dW_601 : decode code 601 = .ok (.iload_n 3, 1) := by decide +kernel
theorem dW_602 : decode code 602 = .ok (.iconst 2, 1) := by decide +kernel
theorem dW_603 : decode code 603 = .ok (.iadd, 1) := by decide +kernel
theorem dW_604 : decode code 604 = .ok (.iaload, 1) := by decide +kernel
theorem dW_605 : decode code 605 = .ok (.invokevirtual 85, 3) := by decide +kernel
theorem dW_608 : decode code 608 = .ok (.if_icmp .eq 110, 3) := by decide +kernel
theorem dW_611 : decode code 611 = .ok (.iconst 0, 1) := by decide +kernel
theorem dW_612 : decode code 612 = .ok (.ireturn, 1) := by decide +kernel
theorem dW_613 : decode code 613 = .ok (.aload_n 1, 1) := by decide +kernel
theorem dW_614 : decode code 614 = .ok (.aload_n 0, 1) := by decide +kernel
theorem dW_615 : decode code 615 = .ok (.iload_n 3, 1) := by decide +kernel
theorem dW_616 : decode code 616 = .ok (.iconst 1, 1) := by decide +kernel
theorem dW_617 : decode code 617 = .ok (.iadd, 1) := by decide +kernel
theorem dW_618 : decode code 618 = .ok (.iaload, 1) := by decide +kernel
theorem dW_619 : decode code 619 = .ok (.aload_n 0, 1) := by decide +kernel
theorem dW_620 : decode code 620 = .ok (.iload_n 3, 1) := by decide +kernel
theorem dW_621 : decode code 621 = .ok (.iconst 2, 1) := by decide +kernel
theorem dW_622 : decode code 622 = .ok (.iadd, 1) := by decide +kernel
theorem dW_623 : decode code 623 = .ok (.iaload, 1) := by decide +kernel
theorem dW_624 : decode code 624 = .ok (.invokevirtual 86, 3) := by decide +kernel
theorem dW_627 : decode code 627 = .ok (.aload_n 2, 1) := by decide +kernel
theorem dW_628 : decode code 628 = .ok (.aload_n 0, 1) := by decide +kernel
theorem dW_629 : decode code 629 = .ok (.iload_n 3, 1) := by decide +kernel
theorem dW_630 : decode code 630 = .ok (.iconst 1, 1) := by decide +kernel
theorem dW_631 : decode code 631 = .ok (.iadd, 1) := by decide +kernel
theorem dW_632 : decode code 632 = .ok (.iaload, 1) := by decide +kernel
theorem dW_633 : decode code 633 = .ok (.aload_n 0, 1) := by decide +kernel
theorem dW_634 : decode code 634 = .ok (.iload_n 3, 1) := by decide +kernel
theorem dW_635 : decode code 635 = .ok (.iconst 2, 1) := by decide +kernel
theorem dW_636 : decode code 636 = .ok (.iadd, 1) := by decide +kernel
theorem dW_637 : decode code 637 = .ok (.iaload, 1) := by decide +kernel
theorem dW_638 : decode code 638 = .ok (.invokevirtual 89, 3) := by decide +kernel
theorem dW_641 : decode code 641 = .ok (.if_icmp .eq 77, 3) := by decide +kernel
theorem dW_644 : decode code 644 = .ok (.iconst 0, 1) := by decide +kernel
theorem dW_645 : decode code 645 = .ok (.ireturn, 1) := by decide +kernel
theorem dW_646 : decode code 646 = .ok (.aload_n 1, 1) := by decide +kernel
theorem dW_647 : decode code 647 = .ok (.aload_n 0, 1) := by decide +kernel
theorem dW_648 : decode code 648 = .ok (.iload_n 3, 1) := by decide +kernel
theorem dW_649 : decode code 649 = .ok (.iconst 1, 1) := by decide +kernel
theorem dW_650 : decode code 650 = .ok (.iadd, 1) := by decide +kernel
theorem dW_651 : decode code 651 = .ok (.iaload, 1) := by decide +kernel
theorem dW_652 : decode code 652 = .ok (.aload_n 0, 1) := by decide +kernel
theorem dW_653 : decode code 653 = .ok (.iload_n 3, 1) := by decide +kernel
theorem dW_654 : decode code 654 = .ok (.iconst 2, 1) := by decide +kernel
theorem dW_655 : decode code 655 = .ok (.iadd, 1) := by decide +kernel
theorem dW_656 : decode code 656 = .ok (.iaload, 1) := by decide +kernel
theorem dW_657 : decode code 657 = .ok (.ifCond .eq 7, 3) := by decide +kernel
theorem dW_660 : decode code 660 = .ok (.iconst 1, 1) := by decide +kernel
theorem dW_661 : decode code 661 = .ok (.goto 4, 3) := by decide +kernel
theorem dW_664 : decode code 664 = .ok (.iconst 0, 1) := by decide +kernel
theorem dW_665 : decode code 665 = .ok (.invokevirtual 90, 3) := by decide +kernel
theorem dW_668 : decode code 668 = .ok (.aload_n 2, 1) := by decide +kernel
theorem dW_669 : decode code 669 = .ok (.aload_n 0, 1) := by decide +kernel
theorem dW_670 : decode code 670 = .ok (.iload_n 3, 1) := by decide +kernel
theorem dW_671 : decode code 671 = .ok (.iconst 1, 1) := by decide +kernel
theorem dW_672 : decode code 672 = .ok (.iadd, 1) := by decide +kernel
theorem dW_673 : decode code 673 = .ok (.iaload, 1) := by decide +kernel
theorem dW_674 : decode code 674 = .ok (.aload_n 0, 1) := by decide +kernel
theorem dW_675 : decode code 675 = .ok (.iload_n 3, 1) := by decide +kernel
theorem dW_676 : decode code 676 = .ok (.iconst 2, 1) := by decide +kernel
theorem dW_677 : decode code 677 = .ok (.iadd, 1) := by decide +kernel
theorem dW_678 : decode code 678 = .ok (.iaload, 1) := by decide +kernel
theorem dW_679 : decode code 679 = .ok (.ifCond .eq 7, 3) := by decide +kernel
theorem dW_682 : decode code 682 = .ok (.iconst 1, 1) := by decide +kernel
theorem dW_683 : decode code 683 = .ok (.goto 4, 3) := by decide +kernel
theorem dW_686 : decode code 686 = .ok (.iconst 0, 1) := by decide +kernel
theorem dW_687 : decode code 687 = .ok (.invokevirtual 94, 3) := by decide +kernel
theorem dW_690 : decode code 690 = .ok (.if_icmp .eq 28, 3) := by decide +kernel
theorem dW_693 : decode code 693 = .ok (.iconst 0, 1) := by decide +kernel
theorem dW_694 : decode code 694 = .ok (.ireturn, 1) := by decide +kernel
theorem dW_695 : decode code 695 = .ok (.aload_n 1, 1) := by decide +kernel
theorem dW_696 : decode code 696 = .ok (.aload_n 0, 1) := by decide +kernel
theorem dW_697 : decode code 697 = .ok (.iload_n 3, 1) := by decide +kernel
theorem dW_698 : decode code 698 = .ok (.iconst 1, 1) := by decide +kernel
theorem dW_699 : decode code 699 = .ok (.iadd, 1) := by decide +kernel
theorem dW_700 : decode code 700 = .ok (.iaload, 1) := by decide +kernel
theorem dW_701 : decode code 701 = .ok (.invokevirtual 95, 3) := by decide +kernel
theorem dW_704 : decode code 704 = .ok (.aload_n 2, 1) := by decide +kernel
theorem dW_705 : decode code 705 = .ok (.aload_n 0, 1) := by decide +kernel
theorem dW_706 : decode code 706 = .ok (.iload_n 3, 1) := by decide +kernel
theorem dW_707 : decode code 707 = .ok (.iconst 1, 1) := by decide +kernel
theorem dW_708 : decode code 708 = .ok (.iadd, 1) := by decide +kernel
theorem dW_709 : decode code 709 = .ok (.iaload, 1) := by decide +kernel
theorem dW_710 : decode code 710 = .ok (.invokevirtual 98, 3) := by decide +kernel
theorem dW_713 : decode code 713 = .ok (.if_icmp .eq 5, 3) := by decide +kernel
theorem dW_716 : decode code 716 = .ok (.iconst 0, 1) := by decide +kernel
theorem dW_717 : decode code 717 = .ok (.ireturn, 1) := by decide +kernel
theorem dW_718 : decode code 718 = .ok (.iinc 3 4, 3) := by decide +kernel
theorem dW_721 : decode code 721 = .ok (.goto (-673), 3) := by decide +kernel
theorem dW_724 : decode code 724 = .ok (.iconst 1, 1) := by decide +kernel
theorem dW_725 : decode code 725 = .ok (.ireturn, 1) := by decide +kernel
/-! THE CLAIM OUT OF ONE WALK OF THE LAW'S BODY. Your part is whole_start (and what it stands on); all else here is the same for every law, but numbers. -/
def R_law : String := "FinalityTreeLaw"
def lw_P (b : Addr) (xs : List Int32) (args : Array Value) (s : State) : Prop := args = #[.ref b] ∧ s.IntsAt b xs ∧ xs.length ≤ 2051 ∧ (Jvm.Cond.and given_1 narrow_1).before args s = true
def lw_Q (_ : Array Value) (s : State) (o : Outcome) (t : State) : Prop := o = .returned (some (.int 1)) ∧ Framed s o t [] 614882 7257603
def lw_Z (below : List Frame) (a : Array Value) (s : State) : State → Prop := fun t => ∃ o, t.status = .running ∧ Ended t below o ∧ lw_Q a s o t
/-- the law's own end, with 1 on the stack, nothing written that was there before, its room as the claim has it -/
theorem lw_ret {p : Program} {l : Launch} {e : Env} {s : State} {m : MethodId} {below : List Frame} {meth : Method} {c : Code} {b : Nat} (hx : p.tables.exec = Jvm.exec) (hb : c.code = code) (hr : meth.sig.returnType = ret) (hlocks : meth.locks = false) {pc : Nat} {H : Heap} {ls : Array Slot} (hdg : decode code pc = .ok (.ireturn, 1)) : W p l e room_1 s m #[Value.ref b] below meth c H [] 614882 7257603 (lw_Z below #[Value.ref b] s) (F0 m pc ls [.int 1]) := by
  intro T hT X
  obtain ⟨fs, hret, hrun, hended, hW, hframe⟩ := X.leave (v := some (.int 1)) (hlocks := hlocks) (fun h => by rw [hr] at h; cases h)
  have hmeth' : T.vm.method? m = some meth := X.method'
  refine ⟨T.setFrames fs, ?_, .returned (some (.int 1)), hrun, hended, rfl, ⟨_, rfl⟩, hW, hframe⟩
  jvm_step X.here [X.here.top, hx, hb, hdg, hmeth', hr, ret, narrow_b1]
  (try refine ⟨rfl, ?_⟩); (try refine ⟨rfl, ?_⟩)
  first | (intro acts; rw [hret _ acts rfl rfl rfl]) | rw [hret _ _ rfl rfl rfl]
  exact Steps.refl _
/-- what holds at the law's entry: the machine, the code, the tables' words (any of lw_tbl by 'hts w (by decide +kernel)'), the script of L ints xs at the cell b, what the Statement gives of the start (any of its parts by flat_of_before) -/
def lw_At (p : Program) (s : State) (m : MethodId) (meth : Method) (c : Code) (b L : Nat) (xs : Nat → Int32) : Prop :=
  p.tables.exec = Jvm.exec ∧ c.code = code ∧ meth.sig.returnType = ret ∧ c.maxLocals = 4 ∧ s.vm.findClass R_law = some m.cls ∧ (∀ w ∈ lw_tbl, w.before #[Value.ref b] s = true) ∧ va_X b L xs s s.heap ∧ b < s.heap.size ∧ meth.locks = false ∧ (Jvm.Cond.and given_1 narrow_1).before #[Value.ref b] s = true
