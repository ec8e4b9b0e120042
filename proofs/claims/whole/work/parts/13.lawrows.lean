/-! the law: its rows decoded -/
theorem dl_0 : decode code 0 = .ok (.new 7, 3) := by decide +kernel
theorem dl_3 : decode code 3 = .ok (.dup, 1) := by decide +kernel
theorem dl_4 : decode code 4 = .ok (.invokespecial 9, 3) := by decide +kernel
theorem dl_7 : decode code 7 = .ok (.astore_n 1, 1) := by decide +kernel
theorem dl_8 : decode code 8 = .ok (.new 10, 3) := by decide +kernel
theorem dl_11 : decode code 11 = .ok (.dup, 1) := by decide +kernel
theorem dl_12 : decode code 12 = .ok (.invokespecial 12, 3) := by decide +kernel
theorem dl_15 : decode code 15 = .ok (.astore_n 2, 1) := by decide +kernel
theorem dl_16 : decode code 16 = .ok (.iconst 0, 1) := by decide +kernel
theorem dl_17 : decode code 17 = .ok (.istore_n 3, 1) := by decide +kernel
theorem dl_18 : decode code 18 = .ok (.iload_n 3, 1) := by decide +kernel
theorem dl_19 : decode code 19 = .ok (.aload_n 0, 1) := by decide +kernel
theorem dl_20 : decode code 20 = .ok (.arraylength, 1) := by decide +kernel
theorem dl_21 : decode code 21 = .ok (.bipush 6, 2) := by decide +kernel
theorem dl_23 : decode code 23 = .ok (.isub, 1) := by decide +kernel
theorem dl_24 : decode code 24 = .ok (.if_icmp .gt 762, 3) := by decide +kernel
theorem dl_27 : decode code 27 = .ok (.aload_n 0, 1) := by decide +kernel
theorem dl_28 : decode code 28 = .ok (.iload_n 3, 1) := by decide +kernel
theorem dl_29 : decode code 29 = .ok (.iaload, 1) := by decide +kernel
theorem dl_30 : decode code 30 = .ok (.bipush 31, 2) := by decide +kernel
theorem dl_32 : decode code 32 = .ok (.iand, 1) := by decide +kernel
theorem dl_33 : decode code 33 = .ok (.tableswitch 747 0 19 #[95, 180, 233, 296, 339, 362, 395, 428, 461, 474, 497, 520, 543, 586, 629, 652, 665, 688, 711, 734], 95) := by decide +kernel
theorem dl_128 : decode code 128 = .ok (.aload_n 1, 1) := by decide +kernel
theorem dl_129 : decode code 129 = .ok (.aload_n 0, 1) := by decide +kernel
theorem dl_130 : decode code 130 = .ok (.iload_n 3, 1) := by decide +kernel
theorem dl_131 : decode code 131 = .ok (.iconst 1, 1) := by decide +kernel
theorem dl_132 : decode code 132 = .ok (.iadd, 1) := by decide +kernel
theorem dl_133 : decode code 133 = .ok (.iaload, 1) := by decide +kernel
theorem dl_134 : decode code 134 = .ok (.aload_n 0, 1) := by decide +kernel
theorem dl_135 : decode code 135 = .ok (.iload_n 3, 1) := by decide +kernel
theorem dl_136 : decode code 136 = .ok (.iconst 2, 1) := by decide +kernel
theorem dl_137 : decode code 137 = .ok (.iadd, 1) := by decide +kernel
theorem dl_138 : decode code 138 = .ok (.iaload, 1) := by decide +kernel
theorem dl_139 : decode code 139 = .ok (.aload_n 0, 1) := by decide +kernel
theorem dl_140 : decode code 140 = .ok (.iload_n 3, 1) := by decide +kernel
theorem dl_141 : decode code 141 = .ok (.iconst 3, 1) := by decide +kernel
theorem dl_142 : decode code 142 = .ok (.iadd, 1) := by decide +kernel
theorem dl_143 : decode code 143 = .ok (.iaload, 1) := by decide +kernel
theorem dl_144 : decode code 144 = .ok (.ifCond .eq 7, 3) := by decide +kernel
theorem dl_147 : decode code 147 = .ok (.iconst 1, 1) := by decide +kernel
theorem dl_148 : decode code 148 = .ok (.goto 4, 3) := by decide +kernel
theorem dl_151 : decode code 151 = .ok (.iconst 0, 1) := by decide +kernel
theorem dl_152 : decode code 152 = .ok (.aload_n 0, 1) := by decide +kernel
theorem dl_153 : decode code 153 = .ok (.iload_n 3, 1) := by decide +kernel
theorem dl_154 : decode code 154 = .ok (.iconst 4, 1) := by decide +kernel
theorem dl_155 : decode code 155 = .ok (.iadd, 1) := by decide +kernel
theorem dl_156 : decode code 156 = .ok (.iaload, 1) := by decide +kernel
theorem dl_157 : decode code 157 = .ok (.ifCond .eq 7, 3) := by decide +kernel
theorem dl_160 : decode code 160 = .ok (.iconst 1, 1) := by decide +kernel
theorem dl_161 : decode code 161 = .ok (.goto 4, 3) := by decide +kernel
theorem dl_164 : decode code 164 = .ok (.iconst 0, 1) := by decide +kernel
theorem dl_165 : decode code 165 = .ok (.invokevirtual 13, 3) := by decide +kernel
theorem dl_168 : decode code 168 = .ok (.aload_n 2, 1) := by decide +kernel
theorem dl_169 : decode code 169 = .ok (.aload_n 0, 1) := by decide +kernel
theorem dl_170 : decode code 170 = .ok (.iload_n 3, 1) := by decide +kernel
theorem dl_171 : decode code 171 = .ok (.iconst 1, 1) := by decide +kernel
theorem dl_172 : decode code 172 = .ok (.iadd, 1) := by decide +kernel
theorem dl_173 : decode code 173 = .ok (.iaload, 1) := by decide +kernel
theorem dl_174 : decode code 174 = .ok (.aload_n 0, 1) := by decide +kernel
theorem dl_175 : decode code 175 = .ok (.iload_n 3, 1) := by decide +kernel
theorem dl_176 : decode code 176 = .ok (.iconst 2, 1) := by decide +kernel
theorem dl_177 : decode code 177 = .ok (.iadd, 1) := by decide +kernel
theorem dl_178 : decode code 178 = .ok (.iaload, 1) := by decide +kernel
theorem dl_179 : decode code 179 = .ok (.aload_n 0, 1) := by decide +kernel
theorem dl_180 : decode code 180 = .ok (.iload_n 3, 1) := by decide +kernel
theorem dl_181 : decode code 181 = .ok (.iconst 3, 1) := by decide +kernel
theorem dl_182 : decode code 182 = .ok (.iadd, 1) := by decide +kernel
theorem dl_183 : decode code 183 = .ok (.iaload, 1) := by decide +kernel
theorem dl_184 : decode code 184 = .ok (.ifCond .eq 7, 3) := by decide +kernel
theorem dl_187 : decode code 187 = .ok (.iconst 1, 1) := by decide +kernel
theorem dl_188 : decode code 188 = .ok (.goto 4, 3) := by decide +kernel
theorem dl_191 : decode code 191 = .ok (.iconst 0, 1) := by decide +kernel
theorem dl_192 : decode code 192 = .ok (.aload_n 0, 1) := by decide +kernel
theorem dl_193 : decode code 193 = .ok (.iload_n 3, 1) := by decide +kernel
theorem dl_194 : decode code 194 = .ok (.iconst 4, 1) := by decide +kernel
theorem dl_195 : decode code 195 = .ok (.iadd, 1) := by decide +kernel
theorem dl_196 : decode code 196 = .ok (.iaload, 1) := by decide +kernel
theorem dl_197 : decode code 197 = .ok (.ifCond .eq 7, 3) := by decide +kernel
theorem dl_200 : decode code 200 = .ok (.iconst 1, 1) := by decide +kernel
theorem dl_201 : decode code 201 = .ok (.goto 4, 3) := by decide +kernel
theorem dl_204 : decode code 204 = .ok (.iconst 0, 1) := by decide +kernel
theorem dl_205 : decode code 205 = .ok (.invokevirtual 17, 3) := by decide +kernel
theorem dl_208 : decode code 208 = .ok (.if_icmp .eq 572, 3) := by decide +kernel
theorem dl_211 : decode code 211 = .ok (.iconst 0, 1) := by decide +kernel
theorem dl_212 : decode code 212 = .ok (.ireturn, 1) := by decide +kernel
theorem dl_213 : decode code 213 = .ok (.aload_n 1, 1) := by decide +kernel
theorem dl_214 : decode code 214 = .ok (.aload_n 0, 1) := by decide +kernel
theorem dl_215 : decode code 215 = .ok (.iload_n 3, 1) := by decide +kernel
theorem dl_216 : decode code 216 = .ok (.iconst 1, 1) := by decide +kernel
theorem dl_217 : decode code 217 = .ok (.iadd, 1) := by decide +kernel
theorem dl_218 : decode code 218 = .ok (.iaload, 1) := by decide +kernel
theorem dl_219 : decode code 219 = .ok (.aload_n 0, 1) := by decide +kernel
theorem dl_220 : decode code 220 = .ok (.iload_n 3, 1) := by decide +kernel
theorem dl_221 : decode code 221 = .ok (.iconst 2, 1) := by decide +kernel
theorem dl_222 : decode code 222 = .ok (.iadd, 1) := by decide +kernel
theorem dl_223 : decode code 223 = .ok (.iaload, 1) := by decide +kernel
theorem dl_224 : decode code 224 = .ok (.aload_n 0, 1) := by decide +kernel
theorem dl_225 : decode code 225 = .ok (.iload_n 3, 1) := by decide +kernel
theorem dl_226 : decode code 226 = .ok (.iconst 3, 1) := by decide +kernel
theorem dl_227 : decode code 227 = .ok (.iadd, 1) := by decide +kernel
theorem dl_228 : decode code 228 = .ok (.iaload, 1) := by decide +kernel
theorem dl_229 : decode code 229 = .ok (.aload_n 0, 1) := by decide +kernel
theorem dl_230 : decode code 230 = .ok (.iload_n 3, 1) := by decide +kernel
theorem dl_231 : decode code 231 = .ok (.iconst 4, 1) := by decide +kernel
theorem dl_232 : decode code 232 = .ok (.iadd, 1) := by decide +kernel
theorem dl_233 : decode code 233 = .ok (.iaload, 1) := by decide +kernel
theorem dl_234 : decode code 234 = .ok (.invokevirtual 18, 3) := by decide +kernel
theorem dl_237 : decode code 237 = .ok (.aload_n 2, 1) := by decide +kernel
theorem dl_238 : decode code 238 = .ok (.aload_n 0, 1) := by decide +kernel
theorem dl_239 : decode code 239 = .ok (.iload_n 3, 1) := by decide +kernel
theorem dl_240 : decode code 240 = .ok (.iconst 1, 1) := by decide +kernel
theorem dl_241 : decode code 241 = .ok (.iadd, 1) := by decide +kernel
theorem dl_242 : decode code 242 = .ok (.iaload, 1) := by decide +kernel
theorem dl_243 : decode code 243 = .ok (.aload_n 0, 1) := by decide +kernel
theorem dl_244 : decode code 244 = .ok (.iload_n 3, 1) := by decide +kernel
theorem dl_245 : decode code 245 = .ok (.iconst 2, 1) := by decide +kernel
theorem dl_246 : decode code 246 = .ok (.iadd, 1) := by decide +kernel
theorem dl_247 : decode code 247 = .ok (.iaload, 1) := by decide +kernel
theorem dl_248 : decode code 248 = .ok (.aload_n 0, 1) := by decide +kernel
theorem dl_249 : decode code 249 = .ok (.iload_n 3, 1) := by decide +kernel
theorem dl_250 : decode code 250 = .ok (.iconst 3, 1) := by decide +kernel
theorem dl_251 : decode code 251 = .ok (.iadd, 1) := by decide +kernel
theorem dl_252 : decode code 252 = .ok (.iaload, 1) := by decide +kernel
theorem dl_253 : decode code 253 = .ok (.aload_n 0, 1) := by decide +kernel
theorem dl_254 : decode code 254 = .ok (.iload_n 3, 1) := by decide +kernel
theorem dl_255 : decode code 255 = .ok (.iconst 4, 1) := by decide +kernel
theorem dl_256 : decode code 256 = .ok (.iadd, 1) := by decide +kernel
theorem dl_257 : decode code 257 = .ok (.iaload, 1) := by decide +kernel
theorem dl_258 : decode code 258 = .ok (.invokevirtual 22, 3) := by decide +kernel
theorem dl_261 : decode code 261 = .ok (.if_icmp .eq 519, 3) := by decide +kernel
theorem dl_264 : decode code 264 = .ok (.iconst 0, 1) := by decide +kernel
theorem dl_265 : decode code 265 = .ok (.ireturn, 1) := by decide +kernel
theorem dl_266 : decode code 266 = .ok (.aload_n 1, 1) := by decide +kernel
theorem dl_267 : decode code 267 = .ok (.aload_n 0, 1) := by decide +kernel
theorem dl_268 : decode code 268 = .ok (.iload_n 3, 1) := by decide +kernel
theorem dl_269 : decode code 269 = .ok (.iconst 1, 1) := by decide +kernel
theorem dl_270 : decode code 270 = .ok (.iadd, 1) := by decide +kernel
theorem dl_271 : decode code 271 = .ok (.iaload, 1) := by decide +kernel
theorem dl_272 : decode code 272 = .ok (.aload_n 0, 1) := by decide +kernel
theorem dl_273 : decode code 273 = .ok (.iload_n 3, 1) := by decide +kernel
theorem dl_274 : decode code 274 = .ok (.iconst 2, 1) := by decide +kernel
theorem dl_275 : decode code 275 = .ok (.iadd, 1) := by decide +kernel
theorem dl_276 : decode code 276 = .ok (.iaload, 1) := by decide +kernel
theorem dl_277 : decode code 277 = .ok (.aload_n 0, 1) := by decide +kernel
theorem dl_278 : decode code 278 = .ok (.iload_n 3, 1) := by decide +kernel
theorem dl_279 : decode code 279 = .ok (.iconst 3, 1) := by decide +kernel
theorem dl_280 : decode code 280 = .ok (.iadd, 1) := by decide +kernel
theorem dl_281 : decode code 281 = .ok (.iaload, 1) := by decide +kernel
theorem dl_282 : decode code 282 = .ok (.aload_n 0, 1) := by decide +kernel
theorem dl_283 : decode code 283 = .ok (.iload_n 3, 1) := by decide +kernel
theorem dl_284 : decode code 284 = .ok (.iconst 4, 1) := by decide +kernel
theorem dl_285 : decode code 285 = .ok (.iadd, 1) := by decide +kernel
theorem dl_286 : decode code 286 = .ok (.iaload, 1) := by decide +kernel
theorem dl_287 : decode code 287 = .ok (.aload_n 0, 1) := by decide +kernel
theorem dl_288 : decode code 288 = .ok (.iload_n 3, 1) := by decide +kernel
theorem dl_289 : decode code 289 = .ok (.iconst 5, 1) := by decide +kernel
theorem dl_290 : decode code 290 = .ok (.iadd, 1) := by decide +kernel
theorem dl_291 : decode code 291 = .ok (.iaload, 1) := by decide +kernel
theorem dl_292 : decode code 292 = .ok (.invokevirtual 23, 3) := by decide +kernel
theorem dl_295 : decode code 295 = .ok (.aload_n 2, 1) := by decide +kernel
theorem dl_296 : decode code 296 = .ok (.aload_n 0, 1) := by decide +kernel
theorem dl_297 : decode code 297 = .ok (.iload_n 3, 1) := by decide +kernel
theorem dl_298 : decode code 298 = .ok (.iconst 1, 1) := by decide +kernel
theorem dl_299 : decode code 299 = .ok (.iadd, 1) := by decide +kernel
theorem dl_300 : decode code 300 = .ok (.iaload, 1) := by decide +kernel
theorem dl_301 : decode code 301 = .ok (.aload_n 0, 1) := by decide +kernel
theorem dl_302 : decode code 302 = .ok (.iload_n 3, 1) := by decide +kernel
theorem dl_303 : decode code 303 = .ok (.iconst 2, 1) := by decide +kernel
theorem dl_304 : decode code 304 = .ok (.iadd, 1) := by decide +kernel
theorem dl_305 : decode code 305 = .ok (.iaload, 1) := by decide +kernel
theorem dl_306 : decode code 306 = .ok (.aload_n 0, 1) := by decide +kernel
theorem dl_307 : decode code 307 = .ok (.iload_n 3, 1) := by decide +kernel
theorem dl_308 : decode code 308 = .ok (.iconst 3, 1) := by decide +kernel
theorem dl_309 : decode code 309 = .ok (.iadd, 1) := by decide +kernel
theorem dl_310 : decode code 310 = .ok (.iaload, 1) := by decide +kernel
theorem dl_311 : decode code 311 = .ok (.aload_n 0, 1) := by decide +kernel
theorem dl_312 : decode code 312 = .ok (.iload_n 3, 1) := by decide +kernel
theorem dl_313 : decode code 313 = .ok (.iconst 4, 1) := by decide +kernel
theorem dl_314 : decode code 314 = .ok (.iadd, 1) := by decide +kernel
theorem dl_315 : decode code 315 = .ok (.iaload, 1) := by decide +kernel
theorem dl_316 : decode code 316 = .ok (.aload_n 0, 1) := by decide +kernel
theorem dl_317 : decode code 317 = .ok (.iload_n 3, 1) := by decide +kernel
theorem dl_318 : decode code 318 = .ok (.iconst 5, 1) := by decide +kernel
theorem dl_319 : decode code 319 = .ok (.iadd, 1) := by decide +kernel
theorem dl_320 : decode code 320 = .ok (.iaload, 1) := by decide +kernel
theorem dl_321 : decode code 321 = .ok (.invokevirtual 27, 3) := by decide +kernel
theorem dl_324 : decode code 324 = .ok (.if_icmp .eq 456, 3) := by decide +kernel
theorem dl_327 : decode code 327 = .ok (.iconst 0, 1) := by decide +kernel
theorem dl_328 : decode code 328 = .ok (.ireturn, 1) := by decide +kernel
theorem dl_329 : decode code 329 = .ok (.aload_n 1, 1) := by decide +kernel
theorem dl_330 : decode code 330 = .ok (.aload_n 0, 1) := by decide +kernel
theorem dl_331 : decode code 331 = .ok (.iload_n 3, 1) := by decide +kernel
theorem dl_332 : decode code 332 = .ok (.iconst 1, 1) := by decide +kernel
theorem dl_333 : decode code 333 = .ok (.iadd, 1) := by decide +kernel
theorem dl_334 : decode code 334 = .ok (.iaload, 1) := by decide +kernel
theorem dl_335 : decode code 335 = .ok (.aload_n 0, 1) := by decide +kernel
theorem dl_336 : decode code 336 = .ok (.iload_n 3, 1) := by decide +kernel
theorem dl_337 : decode code 337 = .ok (.iconst 2, 1) := by decide +kernel
theorem dl_338 : decode code 338 = .ok (.iadd, 1) := by decide +kernel
theorem dl_339 : decode code 339 = .ok (.iaload, 1) := by decide +kernel
theorem dl_340 : decode code 340 = .ok (.aload_n 0, 1) := by decide +kernel
theorem dl_341 : decode code 341 = .ok (.iload_n 3, 1) := by decide +kernel
theorem dl_342 : decode code 342 = .ok (.iconst 3, 1) := by decide +kernel
theorem dl_343 : decode code 343 = .ok (.iadd, 1) := by decide +kernel
theorem dl_344 : decode code 344 = .ok (.iaload, 1) := by decide +kernel
theorem dl_345 : decode code 345 = .ok (.invokevirtual 28, 3) := by decide +kernel
theorem dl_348 : decode code 348 = .ok (.aload_n 2, 1) := by decide +kernel
theorem dl_349 : decode code 349 = .ok (.aload_n 0, 1) := by decide +kernel
theorem dl_350 : decode code 350 = .ok (.iload_n 3, 1) := by decide +kernel
theorem dl_351 : decode code 351 = .ok (.iconst 1, 1) := by decide +kernel
theorem dl_352 : decode code 352 = .ok (.iadd, 1) := by decide +kernel
theorem dl_353 : decode code 353 = .ok (.iaload, 1) := by decide +kernel
theorem dl_354 : decode code 354 = .ok (.aload_n 0, 1) := by decide +kernel
theorem dl_355 : decode code 355 = .ok (.iload_n 3, 1) := by decide +kernel
theorem dl_356 : decode code 356 = .ok (.iconst 2, 1) := by decide +kernel
theorem dl_357 : decode code 357 = .ok (.iadd, 1) := by decide +kernel
theorem dl_358 : decode code 358 = .ok (.iaload, 1) := by decide +kernel
theorem dl_359 : decode code 359 = .ok (.aload_n 0, 1) := by decide +kernel
theorem dl_360 : decode code 360 = .ok (.iload_n 3, 1) := by decide +kernel
theorem dl_361 : decode code 361 = .ok (.iconst 3, 1) := by decide +kernel
theorem dl_362 : decode code 362 = .ok (.iadd, 1) := by decide +kernel
theorem dl_363 : decode code 363 = .ok (.iaload, 1) := by decide +kernel
theorem dl_364 : decode code 364 = .ok (.invokevirtual 32, 3) := by decide +kernel
theorem dl_367 : decode code 367 = .ok (.if_icmp .eq 413, 3) := by decide +kernel
theorem dl_370 : decode code 370 = .ok (.iconst 0, 1) := by decide +kernel
theorem dl_371 : decode code 371 = .ok (.ireturn, 1) := by decide +kernel
theorem dl_372 : decode code 372 = .ok (.aload_n 1, 1) := by decide +kernel
theorem dl_373 : decode code 373 = .ok (.aload_n 0, 1) := by decide +kernel
theorem dl_374 : decode code 374 = .ok (.iload_n 3, 1) := by decide +kernel
theorem dl_375 : decode code 375 = .ok (.iconst 1, 1) := by decide +kernel
theorem dl_376 : decode code 376 = .ok (.iadd, 1) := by decide +kernel
theorem dl_377 : decode code 377 = .ok (.iaload, 1) := by decide +kernel
theorem dl_378 : decode code 378 = .ok (.invokevirtual 33, 3) := by decide +kernel
theorem dl_381 : decode code 381 = .ok (.aload_n 2, 1) := by decide +kernel
theorem dl_382 : decode code 382 = .ok (.aload_n 0, 1) := by decide +kernel
theorem dl_383 : decode code 383 = .ok (.iload_n 3, 1) := by decide +kernel
theorem dl_384 : decode code 384 = .ok (.iconst 1, 1) := by decide +kernel
theorem dl_385 : decode code 385 = .ok (.iadd, 1) := by decide +kernel
theorem dl_386 : decode code 386 = .ok (.iaload, 1) := by decide +kernel
theorem dl_387 : decode code 387 = .ok (.invokevirtual 37, 3) := by decide +kernel
theorem dl_390 : decode code 390 = .ok (.if_icmp .eq 390, 3) := by decide +kernel
theorem dl_393 : decode code 393 = .ok (.iconst 0, 1) := by decide +kernel
theorem dl_394 : decode code 394 = .ok (.ireturn, 1) := by decide +kernel
theorem dl_395 : decode code 395 = .ok (.aload_n 1, 1) := by decide +kernel
theorem dl_396 : decode code 396 = .ok (.aload_n 0, 1) := by decide +kernel
theorem dl_397 : decode code 397 = .ok (.iload_n 3, 1) := by decide +kernel
theorem dl_398 : decode code 398 = .ok (.iconst 1, 1) := by decide +kernel
theorem dl_399 : decode code 399 = .ok (.iadd, 1) := by decide +kernel
theorem dl_400 : decode code 400 = .ok (.iaload, 1) := by decide +kernel
theorem dl_401 : decode code 401 = .ok (.aload_n 0, 1) := by decide +kernel
theorem dl_402 : decode code 402 = .ok (.iload_n 3, 1) := by decide +kernel
theorem dl_403 : decode code 403 = .ok (.iconst 2, 1) := by decide +kernel
theorem dl_404 : decode code 404 = .ok (.iadd, 1) := by decide +kernel
theorem dl_405 : decode code 405 = .ok (.iaload, 1) := by decide +kernel
theorem dl_406 : decode code 406 = .ok (.invokevirtual 38, 3) := by decide +kernel
theorem dl_409 : decode code 409 = .ok (.aload_n 2, 1) := by decide +kernel
theorem dl_410 : decode code 410 = .ok (.aload_n 0, 1) := by decide +kernel
theorem dl_411 : decode code 411 = .ok (.iload_n 3, 1) := by decide +kernel
theorem dl_412 : decode code 412 = .ok (.iconst 1, 1) := by decide +kernel
theorem dl_413 : decode code 413 = .ok (.iadd, 1) := by decide +kernel
theorem dl_414 : decode code 414 = .ok (.iaload, 1) := by decide +kernel
theorem dl_415 : decode code 415 = .ok (.aload_n 0, 1) := by decide +kernel
theorem dl_416 : decode code 416 = .ok (.iload_n 3, 1) := by decide +kernel
theorem dl_417 : decode code 417 = .ok (.iconst 2, 1) := by decide +kernel
theorem dl_418 : decode code 418 = .ok (.iadd, 1) := by decide +kernel
theorem dl_419 : decode code 419 = .ok (.iaload, 1) := by decide +kernel
theorem dl_420 : decode code 420 = .ok (.invokevirtual 42, 3) := by decide +kernel
theorem dl_423 : decode code 423 = .ok (.if_icmp .eq 357, 3) := by decide +kernel
theorem dl_426 : decode code 426 = .ok (.iconst 0, 1) := by decide +kernel
theorem dl_427 : decode code 427 = .ok (.ireturn, 1) := by decide +kernel
theorem dl_428 : decode code 428 = .ok (.aload_n 1, 1) := by decide +kernel
theorem dl_429 : decode code 429 = .ok (.aload_n 0, 1) := by decide +kernel
theorem dl_430 : decode code 430 = .ok (.iload_n 3, 1) := by decide +kernel
theorem dl_431 : decode code 431 = .ok (.iconst 1, 1) := by decide +kernel
theorem dl_432 : decode code 432 = .ok (.iadd, 1) := by decide +kernel
theorem dl_433 : decode code 433 = .ok (.iaload, 1) := by decide +kernel
theorem dl_434 : decode code 434 = .ok (.aload_n 0, 1) := by decide +kernel
theorem dl_435 : decode code 435 = .ok (.iload_n 3, 1) := by decide +kernel
theorem dl_436 : decode code 436 = .ok (.iconst 2, 1) := by decide +kernel
theorem dl_437 : decode code 437 = .ok (.iadd, 1) := by decide +kernel
theorem dl_438 : decode code 438 = .ok (.iaload, 1) := by decide +kernel
theorem dl_439 : decode code 439 = .ok (.invokevirtual 43, 3) := by decide +kernel
theorem dl_442 : decode code 442 = .ok (.aload_n 2, 1) := by decide +kernel
theorem dl_443 : decode code 443 = .ok (.aload_n 0, 1) := by decide +kernel
theorem dl_444 : decode code 444 = .ok (.iload_n 3, 1) := by decide +kernel
theorem dl_445 : decode code 445 = .ok (.iconst 1, 1) := by decide +kernel
theorem dl_446 : decode code 446 = .ok (.iadd, 1) := by decide +kernel
theorem dl_447 : decode code 447 = .ok (.iaload, 1) := by decide +kernel
theorem dl_448 : decode code 448 = .ok (.aload_n 0, 1) := by decide +kernel
theorem dl_449 : decode code 449 = .ok (.iload_n 3, 1) := by decide +kernel
theorem dl_450 : decode code 450 = .ok (.iconst 2, 1) := by decide +kernel
theorem dl_451 : decode code 451 = .ok (.iadd, 1) := by decide +kernel
theorem dl_452 : decode code 452 = .ok (.iaload, 1) := by decide +kernel
theorem dl_453 : decode code 453 = .ok (.invokevirtual 46, 3) := by decide +kernel
theorem dl_456 : decode code 456 = .ok (.if_icmp .eq 324, 3) := by decide +kernel
theorem dl_459 : decode code 459 = .ok (.iconst 0, 1) := by decide +kernel
theorem dl_460 : decode code 460 = .ok (.ireturn, 1) := by decide +kernel
theorem dl_461 : decode code 461 = .ok (.aload_n 1, 1) := by decide +kernel
theorem dl_462 : decode code 462 = .ok (.aload_n 0, 1) := by decide +kernel
theorem dl_463 : decode code 463 = .ok (.iload_n 3, 1) := by decide +kernel
theorem dl_464 : decode code 464 = .ok (.iconst 1, 1) := by decide +kernel
theorem dl_465 : decode code 465 = .ok (.iadd, 1) := by decide +kernel
theorem dl_466 : decode code 466 = .ok (.iaload, 1) := by decide +kernel
theorem dl_467 : decode code 467 = .ok (.aload_n 0, 1) := by decide +kernel
theorem dl_468 : decode code 468 = .ok (.iload_n 3, 1) := by decide +kernel
theorem dl_469 : decode code 469 = .ok (.iconst 2, 1) := by decide +kernel
theorem dl_470 : decode code 470 = .ok (.iadd, 1) := by decide +kernel
theorem dl_471 : decode code 471 = .ok (.iaload, 1) := by decide +kernel
theorem dl_472 : decode code 472 = .ok (.invokevirtual 47, 3) := by decide +kernel
theorem dl_475 : decode code 475 = .ok (.aload_n 2, 1) := by decide +kernel
theorem dl_476 : decode code 476 = .ok (.aload_n 0, 1) := by decide +kernel
theorem dl_477 : decode code 477 = .ok (.iload_n 3, 1) := by decide +kernel
theorem dl_478 : decode code 478 = .ok (.iconst 1, 1) := by decide +kernel
theorem dl_479 : decode code 479 = .ok (.iadd, 1) := by decide +kernel
theorem dl_480 : decode code 480 = .ok (.iaload, 1) := by decide +kernel
theorem dl_481 : decode code 481 = .ok (.aload_n 0, 1) := by decide +kernel
theorem dl_482 : decode code 482 = .ok (.iload_n 3, 1) := by decide +kernel
theorem dl_483 : decode code 483 = .ok (.iconst 2, 1) := by decide +kernel
theorem dl_484 : decode code 484 = .ok (.iadd, 1) := by decide +kernel
theorem dl_485 : decode code 485 = .ok (.iaload, 1) := by decide +kernel
theorem dl_486 : decode code 486 = .ok (.invokevirtual 50, 3) := by decide +kernel
theorem dl_489 : decode code 489 = .ok (.if_icmp .eq 291, 3) := by decide +kernel
theorem dl_492 : decode code 492 = .ok (.iconst 0, 1) := by decide +kernel
theorem dl_493 : decode code 493 = .ok (.ireturn, 1) := by decide +kernel
theorem dl_494 : decode code 494 = .ok (.aload_n 1, 1) := by decide +kernel
theorem dl_495 : decode code 495 = .ok (.invokevirtual 51, 3) := by decide +kernel
theorem dl_498 : decode code 498 = .ok (.aload_n 2, 1) := by decide +kernel
theorem dl_499 : decode code 499 = .ok (.invokevirtual 55, 3) := by decide +kernel
theorem dl_502 : decode code 502 = .ok (.if_icmp .eq 278, 3) := by decide +kernel
theorem dl_505 : decode code 505 = .ok (.iconst 0, 1) := by decide +kernel
theorem dl_506 : decode code 506 = .ok (.ireturn, 1) := by decide +kernel
theorem dl_507 : decode code 507 = .ok (.aload_n 1, 1) := by decide +kernel
theorem dl_508 : decode code 508 = .ok (.aload_n 0, 1) := by decide +kernel
theorem dl_509 : decode code 509 = .ok (.iload_n 3, 1) := by decide +kernel
theorem dl_510 : decode code 510 = .ok (.iconst 1, 1) := by decide +kernel
theorem dl_511 : decode code 511 = .ok (.iadd, 1) := by decide +kernel
theorem dl_512 : decode code 512 = .ok (.iaload, 1) := by decide +kernel
theorem dl_513 : decode code 513 = .ok (.invokevirtual 56, 3) := by decide +kernel
theorem dl_516 : decode code 516 = .ok (.aload_n 2, 1) := by decide +kernel
theorem dl_517 : decode code 517 = .ok (.aload_n 0, 1) := by decide +kernel
theorem dl_518 : decode code 518 = .ok (.iload_n 3, 1) := by decide +kernel
theorem dl_519 : decode code 519 = .ok (.iconst 1, 1) := by decide +kernel
theorem dl_520 : decode code 520 = .ok (.iadd, 1) := by decide +kernel
theorem dl_521 : decode code 521 = .ok (.iaload, 1) := by decide +kernel
theorem dl_522 : decode code 522 = .ok (.invokevirtual 59, 3) := by decide +kernel
theorem dl_525 : decode code 525 = .ok (.if_icmp .eq 255, 3) := by decide +kernel
theorem dl_528 : decode code 528 = .ok (.iconst 0, 1) := by decide +kernel
theorem dl_529 : decode code 529 = .ok (.ireturn, 1) := by decide +kernel
theorem dl_530 : decode code 530 = .ok (.aload_n 1, 1) := by decide +kernel
theorem dl_531 : decode code 531 = .ok (.aload_n 0, 1) := by decide +kernel
theorem dl_532 : decode code 532 = .ok (.iload_n 3, 1) := by decide +kernel
theorem dl_533 : decode code 533 = .ok (.iconst 1, 1) := by decide +kernel
theorem dl_534 : decode code 534 = .ok (.iadd, 1) := by decide +kernel
theorem dl_535 : decode code 535 = .ok (.iaload, 1) := by decide +kernel
theorem dl_536 : decode code 536 = .ok (.invokevirtual 60, 3) := by decide +kernel
theorem dl_539 : decode code 539 = .ok (.aload_n 2, 1) := by decide +kernel
theorem dl_540 : decode code 540 = .ok (.aload_n 0, 1) := by decide +kernel
theorem dl_541 : decode code 541 = .ok (.iload_n 3, 1) := by decide +kernel
theorem dl_542 : decode code 542 = .ok (.iconst 1, 1) := by decide +kernel
theorem dl_543 : decode code 543 = .ok (.iadd, 1) := by decide +kernel
theorem dl_544 : decode code 544 = .ok (.iaload, 1) := by decide +kernel
theorem dl_545 : decode code 545 = .ok (.invokevirtual 64, 3) := by decide +kernel
theorem dl_548 : decode code 548 = .ok (.if_icmp .eq 232, 3) := by decide +kernel
theorem dl_551 : decode code 551 = .ok (.iconst 0, 1) := by decide +kernel
theorem dl_552 : decode code 552 = .ok (.ireturn, 1) := by decide +kernel
theorem dl_553 : decode code 553 = .ok (.aload_n 1, 1) := by decide +kernel
theorem dl_554 : decode code 554 = .ok (.aload_n 0, 1) := by decide +kernel
theorem dl_555 : decode code 555 = .ok (.iload_n 3, 1) := by decide +kernel
theorem dl_556 : decode code 556 = .ok (.iconst 1, 1) := by decide +kernel
theorem dl_557 : decode code 557 = .ok (.iadd, 1) := by decide +kernel
theorem dl_558 : decode code 558 = .ok (.iaload, 1) := by decide +kernel
theorem dl_559 : decode code 559 = .ok (.invokevirtual 65, 3) := by decide +kernel
theorem dl_562 : decode code 562 = .ok (.aload_n 2, 1) := by decide +kernel
theorem dl_563 : decode code 563 = .ok (.aload_n 0, 1) := by decide +kernel
theorem dl_564 : decode code 564 = .ok (.iload_n 3, 1) := by decide +kernel
theorem dl_565 : decode code 565 = .ok (.iconst 1, 1) := by decide +kernel
theorem dl_566 : decode code 566 = .ok (.iadd, 1) := by decide +kernel
theorem dl_567 : decode code 567 = .ok (.iaload, 1) := by decide +kernel
theorem dl_568 : decode code 568 = .ok (.invokevirtual 68, 3) := by decide +kernel
theorem dl_571 : decode code 571 = .ok (.if_icmp .eq 209, 3) := by decide +kernel
theorem dl_574 : decode code 574 = .ok (.iconst 0, 1) := by decide +kernel
theorem dl_575 : decode code 575 = .ok (.ireturn, 1) := by decide +kernel
theorem dl_576 : decode code 576 = .ok (.aload_n 1, 1) := by decide +kernel
theorem dl_577 : decode code 577 = .ok (.aload_n 0, 1) := by decide +kernel
theorem dl_578 : decode code 578 = .ok (.iload_n 3, 1) := by decide +kernel
theorem dl_579 : decode code 579 = .ok (.iconst 1, 1) := by decide +kernel
theorem dl_580 : decode code 580 = .ok (.iadd, 1) := by decide +kernel
theorem dl_581 : decode code 581 = .ok (.iaload, 1) := by decide +kernel
theorem dl_582 : decode code 582 = .ok (.aload_n 0, 1) := by decide +kernel
theorem dl_583 : decode code 583 = .ok (.iload_n 3, 1) := by decide +kernel
theorem dl_584 : decode code 584 = .ok (.iconst 2, 1) := by decide +kernel
theorem dl_585 : decode code 585 = .ok (.iadd, 1) := by decide +kernel
theorem dl_586 : decode code 586 = .ok (.iaload, 1) := by decide +kernel
theorem dl_587 : decode code 587 = .ok (.aload_n 0, 1) := by decide +kernel
theorem dl_588 : decode code 588 = .ok (.iload_n 3, 1) := by decide +kernel
theorem dl_589 : decode code 589 = .ok (.iconst 3, 1) := by decide +kernel
theorem dl_590 : decode code 590 = .ok (.iadd, 1) := by decide +kernel
theorem dl_591 : decode code 591 = .ok (.iaload, 1) := by decide +kernel
theorem dl_592 : decode code 592 = .ok (.invokevirtual 69, 3) := by decide +kernel
theorem dl_595 : decode code 595 = .ok (.aload_n 2, 1) := by decide +kernel
theorem dl_596 : decode code 596 = .ok (.aload_n 0, 1) := by decide +kernel
theorem dl_597 : decode code 597 = .ok (.iload_n 3, 1) := by decide +kernel
theorem dl_598 : decode code 598 = .ok (.iconst 1, 1) := by decide +kernel
theorem dl_599 : decode code 599 = .ok (.iadd, 1) := by decide +kernel
theorem dl_600 : decode code 600 = .ok (.iaload, 1) := by decide +kernel
theorem dl_601 : decode code 601 = .ok (.aload_n 0, 1) := by decide +kernel
theorem dl_602 : decode code 602 = .ok (.iload_n 3, 1) := by decide +kernel
theorem dl_603 : decode code 603 = .ok (.iconst 2, 1) := by decide +kernel
theorem dl_604 : decode code 604 = .ok (.iadd, 1) := by decide +kernel
theorem dl_605 : decode code 605 = .ok (.iaload, 1) := by decide +kernel
theorem dl_606 : decode code 606 = .ok (.aload_n 0, 1) := by decide +kernel
theorem dl_607 : decode code 607 = .ok (.iload_n 3, 1) := by decide +kernel
theorem dl_608 : decode code 608 = .ok (.iconst 3, 1) := by decide +kernel
theorem dl_609 : decode code 609 = .ok (.iadd, 1) := by decide +kernel
theorem dl_610 : decode code 610 = .ok (.iaload, 1) := by decide +kernel
theorem dl_611 : decode code 611 = .ok (.invokevirtual 72, 3) := by decide +kernel
theorem dl_614 : decode code 614 = .ok (.if_icmp .eq 166, 3) := by decide +kernel
theorem dl_617 : decode code 617 = .ok (.iconst 0, 1) := by decide +kernel
theorem dl_618 : decode code 618 = .ok (.ireturn, 1) := by decide +kernel
theorem dl_619 : decode code 619 = .ok (.aload_n 1, 1) := by decide +kernel
theorem dl_620 : decode code 620 = .ok (.aload_n 0, 1) := by decide +kernel
theorem dl_621 : decode code 621 = .ok (.iload_n 3, 1) := by decide +kernel
theorem dl_622 : decode code 622 = .ok (.iconst 1, 1) := by decide +kernel
theorem dl_623 : decode code 623 = .ok (.iadd, 1) := by decide +kernel
theorem dl_624 : decode code 624 = .ok (.iaload, 1) := by decide +kernel
theorem dl_625 : decode code 625 = .ok (.aload_n 0, 1) := by decide +kernel
theorem dl_626 : decode code 626 = .ok (.iload_n 3, 1) := by decide +kernel
theorem dl_627 : decode code 627 = .ok (.iconst 2, 1) := by decide +kernel
theorem dl_628 : decode code 628 = .ok (.iadd, 1) := by decide +kernel
theorem dl_629 : decode code 629 = .ok (.iaload, 1) := by decide +kernel
theorem dl_630 : decode code 630 = .ok (.aload_n 0, 1) := by decide +kernel
theorem dl_631 : decode code 631 = .ok (.iload_n 3, 1) := by decide +kernel
theorem dl_632 : decode code 632 = .ok (.iconst 3, 1) := by decide +kernel
theorem dl_633 : decode code 633 = .ok (.iadd, 1) := by decide +kernel
theorem dl_634 : decode code 634 = .ok (.iaload, 1) := by decide +kernel
theorem dl_635 : decode code 635 = .ok (.invokevirtual 73, 3) := by decide +kernel
theorem dl_638 : decode code 638 = .ok (.aload_n 2, 1) := by decide +kernel
theorem dl_639 : decode code 639 = .ok (.aload_n 0, 1) := by decide +kernel
theorem dl_640 : decode code 640 = .ok (.iload_n 3, 1) := by decide +kernel
theorem dl_641 : decode code 641 = .ok (.iconst 1, 1) := by decide +kernel
theorem dl_642 : decode code 642 = .ok (.iadd, 1) := by decide +kernel
theorem dl_643 : decode code 643 = .ok (.iaload, 1) := by decide +kernel
theorem dl_644 : decode code 644 = .ok (.aload_n 0, 1) := by decide +kernel
theorem dl_645 : decode code 645 = .ok (.iload_n 3, 1) := by decide +kernel
theorem dl_646 : decode code 646 = .ok (.iconst 2, 1) := by decide +kernel
theorem dl_647 : decode code 647 = .ok (.iadd, 1) := by decide +kernel
theorem dl_648 : decode code 648 = .ok (.iaload, 1) := by decide +kernel
theorem dl_649 : decode code 649 = .ok (.aload_n 0, 1) := by decide +kernel
theorem dl_650 : decode code 650 = .ok (.iload_n 3, 1) := by decide +kernel
theorem dl_651 : decode code 651 = .ok (.iconst 3, 1) := by decide +kernel
theorem dl_652 : decode code 652 = .ok (.iadd, 1) := by decide +kernel
theorem dl_653 : decode code 653 = .ok (.iaload, 1) := by decide +kernel
theorem dl_654 : decode code 654 = .ok (.invokevirtual 76, 3) := by decide +kernel
theorem dl_657 : decode code 657 = .ok (.if_icmp .eq 123, 3) := by decide +kernel
theorem dl_660 : decode code 660 = .ok (.iconst 0, 1) := by decide +kernel
theorem dl_661 : decode code 661 = .ok (.ireturn, 1) := by decide +kernel
theorem dl_662 : decode code 662 = .ok (.aload_n 1, 1) := by decide +kernel
theorem dl_663 : decode code 663 = .ok (.aload_n 0, 1) := by decide +kernel
theorem dl_664 : decode code 664 = .ok (.iload_n 3, 1) := by decide +kernel
theorem dl_665 : decode code 665 = .ok (.iconst 1, 1) := by decide +kernel
theorem dl_666 : decode code 666 = .ok (.iadd, 1) := by decide +kernel
theorem dl_667 : decode code 667 = .ok (.iaload, 1) := by decide +kernel
theorem dl_668 : decode code 668 = .ok (.invokevirtual 77, 3) := by decide +kernel
theorem dl_671 : decode code 671 = .ok (.aload_n 2, 1) := by decide +kernel
theorem dl_672 : decode code 672 = .ok (.aload_n 0, 1) := by decide +kernel
theorem dl_673 : decode code 673 = .ok (.iload_n 3, 1) := by decide +kernel
theorem dl_674 : decode code 674 = .ok (.iconst 1, 1) := by decide +kernel
theorem dl_675 : decode code 675 = .ok (.iadd, 1) := by decide +kernel
theorem dl_676 : decode code 676 = .ok (.iaload, 1) := by decide +kernel
theorem dl_677 : decode code 677 = .ok (.invokevirtual 80, 3) := by decide +kernel
theorem dl_680 : decode code 680 = .ok (.if_icmp .eq 100, 3) := by decide +kernel
theorem dl_683 : decode code 683 = .ok (.iconst 0, 1) := by decide +kernel
theorem dl_684 : decode code 684 = .ok (.ireturn, 1) := by decide +kernel
theorem dl_685 : decode code 685 = .ok (.aload_n 1, 1) := by decide +kernel
theorem dl_686 : decode code 686 = .ok (.invokevirtual 81, 3) := by decide +kernel
theorem dl_689 : decode code 689 = .ok (.aload_n 2, 1) := by decide +kernel
theorem dl_690 : decode code 690 = .ok (.invokevirtual 84, 3) := by decide +kernel
theorem dl_693 : decode code 693 = .ok (.if_icmp .eq 87, 3) := by decide +kernel
theorem dl_696 : decode code 696 = .ok (.iconst 0, 1) := by decide +kernel
theorem dl_697 : decode code 697 = .ok (.ireturn, 1) := by decide +kernel
theorem dl_698 : decode code 698 = .ok (.aload_n 1, 1) := by decide +kernel
theorem dl_699 : decode code 699 = .ok (.aload_n 0, 1) := by decide +kernel
theorem dl_700 : decode code 700 = .ok (.iload_n 3, 1) := by decide +kernel
theorem dl_701 : decode code 701 = .ok (.iconst 1, 1) := by decide +kernel
theorem dl_702 : decode code 702 = .ok (.iadd, 1) := by decide +kernel
theorem dl_703 : decode code 703 = .ok (.iaload, 1) := by decide +kernel
theorem dl_704 : decode code 704 = .ok (.invokevirtual 85, 3) := by decide +kernel
theorem dl_707 : decode code 707 = .ok (.aload_n 2, 1) := by decide +kernel
theorem dl_708 : decode code 708 = .ok (.aload_n 0, 1) := by decide +kernel
theorem dl_709 : decode code 709 = .ok (.iload_n 3, 1) := by decide +kernel
theorem dl_710 : decode code 710 = .ok (.iconst 1, 1) := by decide +kernel
theorem dl_711 : decode code 711 = .ok (.iadd, 1) := by decide +kernel
theorem dl_712 : decode code 712 = .ok (.iaload, 1) := by decide +kernel
theorem dl_713 : decode code 713 = .ok (.invokevirtual 88, 3) := by decide +kernel
theorem dl_716 : decode code 716 = .ok (.if_icmp .eq 64, 3) := by decide +kernel
theorem dl_719 : decode code 719 = .ok (.iconst 0, 1) := by decide +kernel
theorem dl_720 : decode code 720 = .ok (.ireturn, 1) := by decide +kernel
theorem dl_721 : decode code 721 = .ok (.aload_n 1, 1) := by decide +kernel
theorem dl_722 : decode code 722 = .ok (.aload_n 0, 1) := by decide +kernel
theorem dl_723 : decode code 723 = .ok (.iload_n 3, 1) := by decide +kernel
theorem dl_724 : decode code 724 = .ok (.iconst 1, 1) := by decide +kernel
theorem dl_725 : decode code 725 = .ok (.iadd, 1) := by decide +kernel
theorem dl_726 : decode code 726 = .ok (.iaload, 1) := by decide +kernel
theorem dl_727 : decode code 727 = .ok (.invokevirtual 89, 3) := by decide +kernel
theorem dl_730 : decode code 730 = .ok (.aload_n 2, 1) := by decide +kernel
theorem dl_731 : decode code 731 = .ok (.aload_n 0, 1) := by decide +kernel
theorem dl_732 : decode code 732 = .ok (.iload_n 3, 1) := by decide +kernel
theorem dl_733 : decode code 733 = .ok (.iconst 1, 1) := by decide +kernel
theorem dl_734 : decode code 734 = .ok (.iadd, 1) := by decide +kernel
theorem dl_735 : decode code 735 = .ok (.iaload, 1) := by decide +kernel
theorem dl_736 : decode code 736 = .ok (.invokevirtual 92, 3) := by decide +kernel
theorem dl_739 : decode code 739 = .ok (.if_icmp .eq 41, 3) := by decide +kernel
theorem dl_742 : decode code 742 = .ok (.iconst 0, 1) := by decide +kernel
theorem dl_743 : decode code 743 = .ok (.ireturn, 1) := by decide +kernel
theorem dl_744 : decode code 744 = .ok (.aload_n 1, 1) := by decide +kernel
theorem dl_745 : decode code 745 = .ok (.aload_n 0, 1) := by decide +kernel
theorem dl_746 : decode code 746 = .ok (.iload_n 3, 1) := by decide +kernel
theorem dl_747 : decode code 747 = .ok (.iconst 1, 1) := by decide +kernel
theorem dl_748 : decode code 748 = .ok (.iadd, 1) := by decide +kernel
theorem dl_749 : decode code 749 = .ok (.iaload, 1) := by decide +kernel
theorem dl_750 : decode code 750 = .ok (.invokevirtual 93, 3) := by decide +kernel
theorem dl_753 : decode code 753 = .ok (.aload_n 2, 1) := by decide +kernel
theorem dl_754 : decode code 754 = .ok (.aload_n 0, 1) := by decide +kernel
theorem dl_755 : decode code 755 = .ok (.iload_n 3, 1) := by decide +kernel
theorem dl_756 : decode code 756 = .ok (.iconst 1, 1) := by decide +kernel
theorem dl_757 : decode code 757 = .ok (.iadd, 1) := by decide +kernel
theorem dl_758 : decode code 758 = .ok (.iaload, 1) := by decide +kernel
theorem dl_759 : decode code 759 = .ok (.invokevirtual 96, 3) := by decide +kernel
theorem dl_762 : decode code 762 = .ok (.if_icmp .eq 18, 3) := by decide +kernel
theorem dl_765 : decode code 765 = .ok (.iconst 0, 1) := by decide +kernel
theorem dl_766 : decode code 766 = .ok (.ireturn, 1) := by decide +kernel
theorem dl_767 : decode code 767 = .ok (.aload_n 1, 1) := by decide +kernel
theorem dl_768 : decode code 768 = .ok (.invokevirtual 97, 3) := by decide +kernel
theorem dl_771 : decode code 771 = .ok (.aload_n 2, 1) := by decide +kernel
theorem dl_772 : decode code 772 = .ok (.invokevirtual 100, 3) := by decide +kernel
theorem dl_775 : decode code 775 = .ok (.if_icmp .eq 5, 3) := by decide +kernel
theorem dl_778 : decode code 778 = .ok (.iconst 0, 1) := by decide +kernel
theorem dl_779 : decode code 779 = .ok (.ireturn, 1) := by decide +kernel
theorem dl_780 : decode code 780 = .ok (.iinc 3 6, 3) := by decide +kernel
theorem dl_783 : decode code 783 = .ok (.goto (-765), 3) := by decide +kernel
theorem dl_786 : decode code 786 = .ok (.iconst 1, 1) := by decide +kernel
theorem dl_787 : decode code 787 = .ok (.ireturn, 1) := by decide +kernel
