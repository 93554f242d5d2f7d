theorem dc_L_law_141 : decode code 141 = .ok (.aload_n 0, 1) := by decide +kernel
theorem dc_L_law_142 : decode code 142 = .ok (.iload 4, 2) := by decide +kernel
theorem dc_L_law_144 : decode code 144 = .ok (.iconst 1, 1) := by decide +kernel
theorem dc_L_law_145 : decode code 145 = .ok (.iadd, 1) := by decide +kernel
theorem dc_L_law_146 : decode code 146 = .ok (.iaload, 1) := by decide +kernel
theorem dc_L_law_147 : decode code 147 = .ok (.aload_n 0, 1) := by decide +kernel
theorem dc_L_law_148 : decode code 148 = .ok (.iload 4, 2) := by decide +kernel
theorem dc_L_law_150 : decode code 150 = .ok (.iconst 2, 1) := by decide +kernel
theorem dc_L_law_151 : decode code 151 = .ok (.iadd, 1) := by decide +kernel
theorem dc_L_law_152 : decode code 152 = .ok (.iaload, 1) := by decide +kernel
theorem dc_L_law_153 : decode code 153 = .ok (.aload_n 0, 1) := by decide +kernel
theorem dc_L_law_154 : decode code 154 = .ok (.iload 4, 2) := by decide +kernel
theorem dc_L_law_156 : decode code 156 = .ok (.iconst 3, 1) := by decide +kernel
theorem dc_L_law_157 : decode code 157 = .ok (.iadd, 1) := by decide +kernel
theorem dc_L_law_158 : decode code 158 = .ok (.iaload, 1) := by decide +kernel
theorem dc_L_law_159 : decode code 159 = .ok (.aload_n 0, 1) := by decide +kernel
theorem dc_L_law_160 : decode code 160 = .ok (.iload 4, 2) := by decide +kernel
theorem dc_L_law_162 : decode code 162 = .ok (.iconst 4, 1) := by decide +kernel
theorem dc_L_law_163 : decode code 163 = .ok (.iadd, 1) := by decide +kernel
theorem dc_L_law_164 : decode code 164 = .ok (.iaload, 1) := by decide +kernel
theorem dc_L_law_165 : decode code 165 = .ok (.aload_n 3, 1) := by decide +kernel
theorem dc_L_law_166 : decode code 166 = .ok (.invokestatic 72, 3) := by decide +kernel
theorem dc_L_law_169 : decode code 169 = .ok (.istore 5, 2) := by decide +kernel
theorem dc_L_law_171 : decode code 171 = .ok (.aload_n 2, 1) := by decide +kernel
theorem dc_L_law_172 : decode code 172 = .ok (.aload_n 0, 1) := by decide +kernel
theorem dc_L_law_173 : decode code 173 = .ok (.iload 4, 2) := by decide +kernel
theorem dc_L_law_175 : decode code 175 = .ok (.iconst 1, 1) := by decide +kernel
theorem dc_L_law_176 : decode code 176 = .ok (.iadd, 1) := by decide +kernel
theorem dc_L_law_177 : decode code 177 = .ok (.iaload, 1) := by decide +kernel
theorem dc_L_law_178 : decode code 178 = .ok (.aload_n 0, 1) := by decide +kernel
theorem dc_L_law_179 : decode code 179 = .ok (.iload 4, 2) := by decide +kernel
theorem dc_L_law_181 : decode code 181 = .ok (.iconst 2, 1) := by decide +kernel
theorem dc_L_law_182 : decode code 182 = .ok (.iadd, 1) := by decide +kernel
theorem dc_L_law_183 : decode code 183 = .ok (.iaload, 1) := by decide +kernel
theorem dc_L_law_184 : decode code 184 = .ok (.aload_n 0, 1) := by decide +kernel
theorem dc_L_law_185 : decode code 185 = .ok (.iload 4, 2) := by decide +kernel
theorem dc_L_law_187 : decode code 187 = .ok (.iconst 3, 1) := by decide +kernel
theorem dc_L_law_188 : decode code 188 = .ok (.iadd, 1) := by decide +kernel
theorem dc_L_law_189 : decode code 189 = .ok (.iaload, 1) := by decide +kernel
theorem dc_L_law_190 : decode code 190 = .ok (.aload_n 0, 1) := by decide +kernel
theorem dc_L_law_191 : decode code 191 = .ok (.iload 4, 2) := by decide +kernel
theorem dc_L_law_193 : decode code 193 = .ok (.iconst 4, 1) := by decide +kernel
theorem dc_L_law_194 : decode code 194 = .ok (.iadd, 1) := by decide +kernel
theorem dc_L_law_195 : decode code 195 = .ok (.iaload, 1) := by decide +kernel
theorem dc_L_law_196 : decode code 196 = .ok (.invokevirtual 75, 3) := by decide +kernel
theorem dc_L_law_199 : decode code 199 = .ok (.istore 6, 2) := by decide +kernel
theorem dc_L_law_201 : decode code 201 = .ok (.aload_n 2, 1) := by decide +kernel
theorem dc_L_law_202 : decode code 202 = .ok (.invokevirtual 76, 3) := by decide +kernel
theorem dc_L_law_205 : decode code 205 = .ok (.iload 5, 2) := by decide +kernel
theorem dc_L_law_207 : decode code 207 = .ok (.if_icmp .eq 5, 3) := by decide +kernel
theorem dc_L_law_212 : decode code 212 = .ok (.iload 5, 2) := by decide +kernel
theorem dc_L_law_214 : decode code 214 = .ok (.ifCond .ne 15, 3) := by decide +kernel
theorem dc_L_law_229 : decode code 229 = .ok (.goto 857, 3) := by decide +kernel
theorem dc_L_law_217 : decode code 217 = .ok (.aload_n 3, 1) := by decide +kernel
theorem dc_L_law_218 : decode code 218 = .ok (.iconst 0, 1) := by decide +kernel
theorem dc_L_law_219 : decode code 219 = .ok (.laload, 1) := by decide +kernel
theorem dc_L_law_220 : decode code 220 = .ok (.iload 6, 2) := by decide +kernel
theorem dc_L_law_222 : decode code 222 = .ok (.i2l, 1) := by decide +kernel
theorem dc_L_law_223 : decode code 223 = .ok (.lcmp, 1) := by decide +kernel
theorem dc_L_law_224 : decode code 224 = .ok (.ifCond .eq 5, 3) := by decide +kernel
theorem dc_L_law_227 : decode code 227 = .ok (.iconst 0, 1) := by decide +kernel
theorem dc_L_law_210 : decode code 210 = .ok (.iconst 0, 1) := by decide +kernel
theorem dc_L_law_232 : decode code 232 = .ok (.aload_n 1, 1) := by decide +kernel
theorem dc_L_law_233 : decode code 233 = .ok (.aload_n 0, 1) := by decide +kernel
theorem dc_L_law_234 : decode code 234 = .ok (.iload 4, 2) := by decide +kernel
theorem dc_L_law_236 : decode code 236 = .ok (.iconst 1, 1) := by decide +kernel
theorem dc_L_law_237 : decode code 237 = .ok (.iadd, 1) := by decide +kernel
theorem dc_L_law_238 : decode code 238 = .ok (.iaload, 1) := by decide +kernel
theorem dc_L_law_239 : decode code 239 = .ok (.aload_n 0, 1) := by decide +kernel
theorem dc_L_law_240 : decode code 240 = .ok (.iload 4, 2) := by decide +kernel
theorem dc_L_law_242 : decode code 242 = .ok (.iconst 2, 1) := by decide +kernel
theorem dc_L_law_243 : decode code 243 = .ok (.iadd, 1) := by decide +kernel
theorem dc_L_law_244 : decode code 244 = .ok (.iaload, 1) := by decide +kernel
theorem dc_L_law_245 : decode code 245 = .ok (.aload_n 3, 1) := by decide +kernel
theorem dc_L_law_246 : decode code 246 = .ok (.invokestatic 80, 3) := by decide +kernel
theorem dc_L_law_249 : decode code 249 = .ok (.istore 5, 2) := by decide +kernel
theorem dc_L_law_251 : decode code 251 = .ok (.aload_n 2, 1) := by decide +kernel
theorem dc_L_law_252 : decode code 252 = .ok (.aload_n 0, 1) := by decide +kernel
theorem dc_L_law_253 : decode code 253 = .ok (.iload 4, 2) := by decide +kernel
theorem dc_L_law_255 : decode code 255 = .ok (.iconst 1, 1) := by decide +kernel
theorem dc_L_law_256 : decode code 256 = .ok (.iadd, 1) := by decide +kernel
theorem dc_L_law_257 : decode code 257 = .ok (.iaload, 1) := by decide +kernel
theorem dc_L_law_258 : decode code 258 = .ok (.aload_n 0, 1) := by decide +kernel
theorem dc_L_law_259 : decode code 259 = .ok (.iload 4, 2) := by decide +kernel
theorem dc_L_law_261 : decode code 261 = .ok (.iconst 2, 1) := by decide +kernel
theorem dc_L_law_262 : decode code 262 = .ok (.iadd, 1) := by decide +kernel
theorem dc_L_law_263 : decode code 263 = .ok (.iaload, 1) := by decide +kernel
theorem dc_L_law_264 : decode code 264 = .ok (.invokevirtual 83, 3) := by decide +kernel
theorem dc_L_law_267 : decode code 267 = .ok (.istore 6, 2) := by decide +kernel
theorem dc_L_law_269 : decode code 269 = .ok (.aload_n 2, 1) := by decide +kernel
theorem dc_L_law_270 : decode code 270 = .ok (.invokevirtual 76, 3) := by decide +kernel
theorem dc_L_law_273 : decode code 273 = .ok (.iload 5, 2) := by decide +kernel
theorem dc_L_law_275 : decode code 275 = .ok (.if_icmp .eq 5, 3) := by decide +kernel
theorem dc_L_law_280 : decode code 280 = .ok (.iload 5, 2) := by decide +kernel
theorem dc_L_law_282 : decode code 282 = .ok (.ifCond .ne 15, 3) := by decide +kernel
theorem dc_L_law_297 : decode code 297 = .ok (.goto 789, 3) := by decide +kernel
theorem dc_L_law_285 : decode code 285 = .ok (.aload_n 3, 1) := by decide +kernel
theorem dc_L_law_286 : decode code 286 = .ok (.iconst 0, 1) := by decide +kernel
theorem dc_L_law_287 : decode code 287 = .ok (.laload, 1) := by decide +kernel
theorem dc_L_law_288 : decode code 288 = .ok (.iload 6, 2) := by decide +kernel
theorem dc_L_law_290 : decode code 290 = .ok (.i2l, 1) := by decide +kernel
theorem dc_L_law_291 : decode code 291 = .ok (.lcmp, 1) := by decide +kernel
theorem dc_L_law_292 : decode code 292 = .ok (.ifCond .eq 5, 3) := by decide +kernel
theorem dc_L_law_295 : decode code 295 = .ok (.iconst 0, 1) := by decide +kernel
theorem dc_L_law_278 : decode code 278 = .ok (.iconst 0, 1) := by decide +kernel
theorem dc_L_law_300 : decode code 300 = .ok (.aload_n 1, 1) := by decide +kernel
theorem dc_L_law_301 : decode code 301 = .ok (.aload_n 0, 1) := by decide +kernel
theorem dc_L_law_302 : decode code 302 = .ok (.iload 4, 2) := by decide +kernel
theorem dc_L_law_304 : decode code 304 = .ok (.iconst 1, 1) := by decide +kernel
theorem dc_L_law_305 : decode code 305 = .ok (.iadd, 1) := by decide +kernel
theorem dc_L_law_306 : decode code 306 = .ok (.iaload, 1) := by decide +kernel
theorem dc_L_law_307 : decode code 307 = .ok (.aload_n 0, 1) := by decide +kernel
theorem dc_L_law_308 : decode code 308 = .ok (.iload 4, 2) := by decide +kernel
theorem dc_L_law_310 : decode code 310 = .ok (.iconst 2, 1) := by decide +kernel
theorem dc_L_law_311 : decode code 311 = .ok (.iadd, 1) := by decide +kernel
theorem dc_L_law_312 : decode code 312 = .ok (.iaload, 1) := by decide +kernel
theorem dc_L_law_313 : decode code 313 = .ok (.aload_n 0, 1) := by decide +kernel
theorem dc_L_law_314 : decode code 314 = .ok (.iload 4, 2) := by decide +kernel
theorem dc_L_law_316 : decode code 316 = .ok (.iconst 3, 1) := by decide +kernel
theorem dc_L_law_317 : decode code 317 = .ok (.iadd, 1) := by decide +kernel
theorem dc_L_law_318 : decode code 318 = .ok (.iaload, 1) := by decide +kernel
theorem dc_L_law_319 : decode code 319 = .ok (.aload_n 3, 1) := by decide +kernel
theorem dc_L_law_320 : decode code 320 = .ok (.invokestatic 84, 3) := by decide +kernel
theorem dc_L_law_323 : decode code 323 = .ok (.istore 5, 2) := by decide +kernel
theorem dc_L_law_325 : decode code 325 = .ok (.aload_n 2, 1) := by decide +kernel
theorem dc_L_law_326 : decode code 326 = .ok (.aload_n 0, 1) := by decide +kernel
theorem dc_L_law_327 : decode code 327 = .ok (.iload 4, 2) := by decide +kernel
theorem dc_L_law_329 : decode code 329 = .ok (.iconst 1, 1) := by decide +kernel
theorem dc_L_law_330 : decode code 330 = .ok (.iadd, 1) := by decide +kernel
theorem dc_L_law_331 : decode code 331 = .ok (.iaload, 1) := by decide +kernel
theorem dc_L_law_332 : decode code 332 = .ok (.aload_n 0, 1) := by decide +kernel
theorem dc_L_law_333 : decode code 333 = .ok (.iload 4, 2) := by decide +kernel
theorem dc_L_law_335 : decode code 335 = .ok (.iconst 2, 1) := by decide +kernel
theorem dc_L_law_336 : decode code 336 = .ok (.iadd, 1) := by decide +kernel
theorem dc_L_law_337 : decode code 337 = .ok (.iaload, 1) := by decide +kernel
theorem dc_L_law_338 : decode code 338 = .ok (.aload_n 0, 1) := by decide +kernel
theorem dc_L_law_339 : decode code 339 = .ok (.iload 4, 2) := by decide +kernel
theorem dc_L_law_341 : decode code 341 = .ok (.iconst 3, 1) := by decide +kernel
theorem dc_L_law_342 : decode code 342 = .ok (.iadd, 1) := by decide +kernel
theorem dc_L_law_343 : decode code 343 = .ok (.iaload, 1) := by decide +kernel
theorem dc_L_law_344 : decode code 344 = .ok (.invokevirtual 87, 3) := by decide +kernel
theorem dc_L_law_347 : decode code 347 = .ok (.istore 6, 2) := by decide +kernel
theorem dc_L_law_349 : decode code 349 = .ok (.aload_n 2, 1) := by decide +kernel
theorem dc_L_law_350 : decode code 350 = .ok (.invokevirtual 76, 3) := by decide +kernel
theorem dc_L_law_353 : decode code 353 = .ok (.iload 5, 2) := by decide +kernel
theorem dc_L_law_355 : decode code 355 = .ok (.if_icmp .eq 5, 3) := by decide +kernel
theorem dc_L_law_360 : decode code 360 = .ok (.iload 5, 2) := by decide +kernel
theorem dc_L_law_362 : decode code 362 = .ok (.ifCond .ne 15, 3) := by decide +kernel
theorem dc_L_law_377 : decode code 377 = .ok (.goto 709, 3) := by decide +kernel
theorem dc_L_law_365 : decode code 365 = .ok (.aload_n 3, 1) := by decide +kernel
theorem dc_L_law_366 : decode code 366 = .ok (.iconst 0, 1) := by decide +kernel
theorem dc_L_law_367 : decode code 367 = .ok (.laload, 1) := by decide +kernel
theorem dc_L_law_368 : decode code 368 = .ok (.iload 6, 2) := by decide +kernel
theorem dc_L_law_370 : decode code 370 = .ok (.i2l, 1) := by decide +kernel
theorem dc_L_law_371 : decode code 371 = .ok (.lcmp, 1) := by decide +kernel
theorem dc_L_law_372 : decode code 372 = .ok (.ifCond .eq 5, 3) := by decide +kernel
theorem dc_L_law_375 : decode code 375 = .ok (.iconst 0, 1) := by decide +kernel
theorem dc_L_law_358 : decode code 358 = .ok (.iconst 0, 1) := by decide +kernel
theorem dc_L_law_380 : decode code 380 = .ok (.aload_n 1, 1) := by decide +kernel
theorem dc_L_law_381 : decode code 381 = .ok (.aload_n 0, 1) := by decide +kernel
theorem dc_L_law_382 : decode code 382 = .ok (.iload 4, 2) := by decide +kernel
theorem dc_L_law_384 : decode code 384 = .ok (.iconst 1, 1) := by decide +kernel
theorem dc_L_law_385 : decode code 385 = .ok (.iadd, 1) := by decide +kernel
theorem dc_L_law_386 : decode code 386 = .ok (.iaload, 1) := by decide +kernel
theorem dc_L_law_387 : decode code 387 = .ok (.aload_n 0, 1) := by decide +kernel
theorem dc_L_law_388 : decode code 388 = .ok (.iload 4, 2) := by decide +kernel
theorem dc_L_law_390 : decode code 390 = .ok (.iconst 2, 1) := by decide +kernel
theorem dc_L_law_391 : decode code 391 = .ok (.iadd, 1) := by decide +kernel
theorem dc_L_law_392 : decode code 392 = .ok (.iaload, 1) := by decide +kernel
theorem dc_L_law_393 : decode code 393 = .ok (.aload_n 0, 1) := by decide +kernel
theorem dc_L_law_394 : decode code 394 = .ok (.iload 4, 2) := by decide +kernel
theorem dc_L_law_396 : decode code 396 = .ok (.iconst 3, 1) := by decide +kernel
theorem dc_L_law_397 : decode code 397 = .ok (.iadd, 1) := by decide +kernel
theorem dc_L_law_398 : decode code 398 = .ok (.iaload, 1) := by decide +kernel
theorem dc_L_law_399 : decode code 399 = .ok (.aload_n 0, 1) := by decide +kernel
theorem dc_L_law_400 : decode code 400 = .ok (.iload 4, 2) := by decide +kernel
theorem dc_L_law_402 : decode code 402 = .ok (.iconst 4, 1) := by decide +kernel
theorem dc_L_law_403 : decode code 403 = .ok (.iadd, 1) := by decide +kernel
theorem dc_L_law_404 : decode code 404 = .ok (.iaload, 1) := by decide +kernel
theorem dc_L_law_405 : decode code 405 = .ok (.aload_n 3, 1) := by decide +kernel
theorem dc_L_law_406 : decode code 406 = .ok (.invokestatic 88, 3) := by decide +kernel
theorem dc_L_law_409 : decode code 409 = .ok (.istore 5, 2) := by decide +kernel
theorem dc_L_law_411 : decode code 411 = .ok (.aload_n 2, 1) := by decide +kernel
theorem dc_L_law_412 : decode code 412 = .ok (.aload_n 0, 1) := by decide +kernel
theorem dc_L_law_413 : decode code 413 = .ok (.iload 4, 2) := by decide +kernel
theorem dc_L_law_415 : decode code 415 = .ok (.iconst 1, 1) := by decide +kernel
theorem dc_L_law_416 : decode code 416 = .ok (.iadd, 1) := by decide +kernel
theorem dc_L_law_417 : decode code 417 = .ok (.iaload, 1) := by decide +kernel
theorem dc_L_law_418 : decode code 418 = .ok (.aload_n 0, 1) := by decide +kernel
theorem dc_L_law_419 : decode code 419 = .ok (.iload 4, 2) := by decide +kernel
theorem dc_L_law_421 : decode code 421 = .ok (.iconst 2, 1) := by decide +kernel
theorem dc_L_law_422 : decode code 422 = .ok (.iadd, 1) := by decide +kernel
theorem dc_L_law_423 : decode code 423 = .ok (.iaload, 1) := by decide +kernel
theorem dc_L_law_424 : decode code 424 = .ok (.aload_n 0, 1) := by decide +kernel
theorem dc_L_law_425 : decode code 425 = .ok (.iload 4, 2) := by decide +kernel
theorem dc_L_law_427 : decode code 427 = .ok (.iconst 3, 1) := by decide +kernel
theorem dc_L_law_428 : decode code 428 = .ok (.iadd, 1) := by decide +kernel
theorem dc_L_law_429 : decode code 429 = .ok (.iaload, 1) := by decide +kernel
theorem dc_L_law_430 : decode code 430 = .ok (.aload_n 0, 1) := by decide +kernel
theorem dc_L_law_431 : decode code 431 = .ok (.iload 4, 2) := by decide +kernel
theorem dc_L_law_433 : decode code 433 = .ok (.iconst 4, 1) := by decide +kernel
theorem dc_L_law_434 : decode code 434 = .ok (.iadd, 1) := by decide +kernel
theorem dc_L_law_435 : decode code 435 = .ok (.iaload, 1) := by decide +kernel
theorem dc_L_law_436 : decode code 436 = .ok (.invokevirtual 90, 3) := by decide +kernel
theorem dc_L_law_439 : decode code 439 = .ok (.istore 6, 2) := by decide +kernel
theorem dc_L_law_441 : decode code 441 = .ok (.aload_n 2, 1) := by decide +kernel
theorem dc_L_law_442 : decode code 442 = .ok (.invokevirtual 76, 3) := by decide +kernel
theorem dc_L_law_445 : decode code 445 = .ok (.iload 5, 2) := by decide +kernel
theorem dc_L_law_447 : decode code 447 = .ok (.if_icmp .eq 5, 3) := by decide +kernel
theorem dc_L_law_452 : decode code 452 = .ok (.iload 5, 2) := by decide +kernel
theorem dc_L_law_454 : decode code 454 = .ok (.ifCond .ne 15, 3) := by decide +kernel
theorem dc_L_law_469 : decode code 469 = .ok (.goto 617, 3) := by decide +kernel
theorem dc_L_law_457 : decode code 457 = .ok (.aload_n 3, 1) := by decide +kernel
theorem dc_L_law_458 : decode code 458 = .ok (.iconst 0, 1) := by decide +kernel
theorem dc_L_law_459 : decode code 459 = .ok (.laload, 1) := by decide +kernel
theorem dc_L_law_460 : decode code 460 = .ok (.iload 6, 2) := by decide +kernel
theorem dc_L_law_462 : decode code 462 = .ok (.i2l, 1) := by decide +kernel
theorem dc_L_law_463 : decode code 463 = .ok (.lcmp, 1) := by decide +kernel
theorem dc_L_law_464 : decode code 464 = .ok (.ifCond .eq 5, 3) := by decide +kernel
theorem dc_L_law_467 : decode code 467 = .ok (.iconst 0, 1) := by decide +kernel
