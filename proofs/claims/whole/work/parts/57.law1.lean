theorem dL_0 : decode code 0 = .ok (.new 7, 3) := by decide +kernel
theorem dL_3 : decode code 3 = .ok (.dup, 1) := by decide +kernel
theorem dL_4 : decode code 4 = .ok (.invokespecial 9, 3) := by decide +kernel
theorem dL_7 : decode code 7 = .ok (.astore_n 1, 1) := by decide +kernel
theorem dL_8 : decode code 8 = .ok (.new 10, 3) := by decide +kernel
theorem dL_11 : decode code 11 = .ok (.dup, 1) := by decide +kernel
theorem dL_12 : decode code 12 = .ok (.invokespecial 12, 3) := by decide +kernel
theorem dL_15 : decode code 15 = .ok (.astore_n 2, 1) := by decide +kernel
theorem dL_16 : decode code 16 = .ok (.iconst 0, 1) := by decide +kernel
theorem dL_17 : decode code 17 = .ok (.istore_n 3, 1) := by decide +kernel
theorem dL_18 : decode code 18 = .ok (.iload_n 3, 1) := by decide +kernel
theorem dL_19 : decode code 19 = .ok (.aload_n 0, 1) := by decide +kernel
theorem dL_20 : decode code 20 = .ok (.arraylength, 1) := by decide +kernel
theorem dL_21 : decode code 21 = .ok (.iconst 4, 1) := by decide +kernel
theorem dL_22 : decode code 22 = .ok (.isub, 1) := by decide +kernel
theorem dL_23 : decode code 23 = .ok (.if_icmp .gt 479, 3) := by decide +kernel
theorem dL_26 : decode code 26 = .ok (.aload_n 0, 1) := by decide +kernel
theorem dL_27 : decode code 27 = .ok (.iload_n 3, 1) := by decide +kernel
theorem dL_28 : decode code 28 = .ok (.iaload, 1) := by decide +kernel
theorem dL_29 : decode code 29 = .ok (.bipush 15, 2) := by decide +kernel
theorem dL_31 : decode code 31 = .ok (.iand, 1) := by decide +kernel
theorem dL_32 : decode code 32 = .ok (.tableswitch 464 0 15 #[80, 103, 116, 129, 152, 211, 224, 257, 270, 293, 326, 369, 402, 415, 428, 441], 80) := by decide +kernel
theorem dL_112 : decode code 112 = .ok (.aload_n 1, 1) := by decide +kernel
theorem dL_113 : decode code 113 = .ok (.aload_n 0, 1) := by decide +kernel
theorem dL_114 : decode code 114 = .ok (.iload_n 3, 1) := by decide +kernel
theorem dL_115 : decode code 115 = .ok (.iconst 1, 1) := by decide +kernel
theorem dL_116 : decode code 116 = .ok (.iadd, 1) := by decide +kernel
theorem dL_117 : decode code 117 = .ok (.iaload, 1) := by decide +kernel
theorem dL_118 : decode code 118 = .ok (.invokevirtual 13, 3) := by decide +kernel
theorem dL_121 : decode code 121 = .ok (.aload_n 2, 1) := by decide +kernel
theorem dL_122 : decode code 122 = .ok (.aload_n 0, 1) := by decide +kernel
theorem dL_123 : decode code 123 = .ok (.iload_n 3, 1) := by decide +kernel
theorem dL_124 : decode code 124 = .ok (.iconst 1, 1) := by decide +kernel
theorem dL_125 : decode code 125 = .ok (.iadd, 1) := by decide +kernel
theorem dL_126 : decode code 126 = .ok (.iaload, 1) := by decide +kernel
theorem dL_127 : decode code 127 = .ok (.invokevirtual 17, 3) := by decide +kernel
theorem dL_130 : decode code 130 = .ok (.if_icmp .eq 366, 3) := by decide +kernel
theorem dL_133 : decode code 133 = .ok (.iconst 0, 1) := by decide +kernel
theorem dL_134 : decode code 134 = .ok (.ireturn, 1) := by decide +kernel
theorem dL_135 : decode code 135 = .ok (.aload_n 1, 1) := by decide +kernel
theorem dL_136 : decode code 136 = .ok (.invokevirtual 18, 3) := by decide +kernel
theorem dL_139 : decode code 139 = .ok (.aload_n 2, 1) := by decide +kernel
theorem dL_140 : decode code 140 = .ok (.invokevirtual 22, 3) := by decide +kernel
theorem dL_143 : decode code 143 = .ok (.if_icmp .eq 353, 3) := by decide +kernel
theorem dL_146 : decode code 146 = .ok (.iconst 0, 1) := by decide +kernel
theorem dL_147 : decode code 147 = .ok (.ireturn, 1) := by decide +kernel
theorem dL_148 : decode code 148 = .ok (.aload_n 1, 1) := by decide +kernel
theorem dL_149 : decode code 149 = .ok (.invokevirtual 23, 3) := by decide +kernel
theorem dL_152 : decode code 152 = .ok (.aload_n 2, 1) := by decide +kernel
theorem dL_153 : decode code 153 = .ok (.invokevirtual 26, 3) := by decide +kernel
theorem dL_156 : decode code 156 = .ok (.if_icmp .eq 340, 3) := by decide +kernel
theorem dL_159 : decode code 159 = .ok (.iconst 0, 1) := by decide +kernel
theorem dL_160 : decode code 160 = .ok (.ireturn, 1) := by decide +kernel
theorem dL_161 : decode code 161 = .ok (.aload_n 1, 1) := by decide +kernel
theorem dL_162 : decode code 162 = .ok (.aload_n 0, 1) := by decide +kernel
theorem dL_163 : decode code 163 = .ok (.iload_n 3, 1) := by decide +kernel
theorem dL_164 : decode code 164 = .ok (.iconst 1, 1) := by decide +kernel
theorem dL_165 : decode code 165 = .ok (.iadd, 1) := by decide +kernel
theorem dL_166 : decode code 166 = .ok (.iaload, 1) := by decide +kernel
theorem dL_167 : decode code 167 = .ok (.invokevirtual 27, 3) := by decide +kernel
theorem dL_170 : decode code 170 = .ok (.aload_n 2, 1) := by decide +kernel
theorem dL_171 : decode code 171 = .ok (.aload_n 0, 1) := by decide +kernel
theorem dL_172 : decode code 172 = .ok (.iload_n 3, 1) := by decide +kernel
theorem dL_173 : decode code 173 = .ok (.iconst 1, 1) := by decide +kernel
theorem dL_174 : decode code 174 = .ok (.iadd, 1) := by decide +kernel
theorem dL_175 : decode code 175 = .ok (.iaload, 1) := by decide +kernel
theorem dL_176 : decode code 176 = .ok (.invokevirtual 30, 3) := by decide +kernel
theorem dL_179 : decode code 179 = .ok (.if_icmp .eq 317, 3) := by decide +kernel
theorem dL_182 : decode code 182 = .ok (.iconst 0, 1) := by decide +kernel
theorem dL_183 : decode code 183 = .ok (.ireturn, 1) := by decide +kernel
theorem dL_184 : decode code 184 = .ok (.aload_n 1, 1) := by decide +kernel
theorem dL_185 : decode code 185 = .ok (.aload_n 0, 1) := by decide +kernel
theorem dL_186 : decode code 186 = .ok (.iload_n 3, 1) := by decide +kernel
theorem dL_187 : decode code 187 = .ok (.iconst 1, 1) := by decide +kernel
theorem dL_188 : decode code 188 = .ok (.iadd, 1) := by decide +kernel
theorem dL_189 : decode code 189 = .ok (.iaload, 1) := by decide +kernel
theorem dL_190 : decode code 190 = .ok (.aload_n 0, 1) := by decide +kernel
theorem dL_191 : decode code 191 = .ok (.iload_n 3, 1) := by decide +kernel
theorem dL_192 : decode code 192 = .ok (.iconst 2, 1) := by decide +kernel
theorem dL_193 : decode code 193 = .ok (.iadd, 1) := by decide +kernel
theorem dL_194 : decode code 194 = .ok (.iaload, 1) := by decide +kernel
theorem dL_195 : decode code 195 = .ok (.aload_n 0, 1) := by decide +kernel
theorem dL_196 : decode code 196 = .ok (.iload_n 3, 1) := by decide +kernel
theorem dL_197 : decode code 197 = .ok (.iconst 3, 1) := by decide +kernel
theorem dL_198 : decode code 198 = .ok (.iadd, 1) := by decide +kernel
theorem dL_199 : decode code 199 = .ok (.iaload, 1) := by decide +kernel
theorem dL_200 : decode code 200 = .ok (.ifCond .eq 7, 3) := by decide +kernel
theorem dL_203 : decode code 203 = .ok (.iconst 1, 1) := by decide +kernel
theorem dL_204 : decode code 204 = .ok (.goto 4, 3) := by decide +kernel
theorem dL_207 : decode code 207 = .ok (.iconst 0, 1) := by decide +kernel
theorem dL_208 : decode code 208 = .ok (.invokevirtual 31, 3) := by decide +kernel
theorem dL_211 : decode code 211 = .ok (.aload_n 2, 1) := by decide +kernel
theorem dL_212 : decode code 212 = .ok (.aload_n 0, 1) := by decide +kernel
theorem dL_213 : decode code 213 = .ok (.iload_n 3, 1) := by decide +kernel
theorem dL_214 : decode code 214 = .ok (.iconst 1, 1) := by decide +kernel
theorem dL_215 : decode code 215 = .ok (.iadd, 1) := by decide +kernel
theorem dL_216 : decode code 216 = .ok (.iaload, 1) := by decide +kernel
theorem dL_217 : decode code 217 = .ok (.aload_n 0, 1) := by decide +kernel
theorem dL_218 : decode code 218 = .ok (.iload_n 3, 1) := by decide +kernel
theorem dL_219 : decode code 219 = .ok (.iconst 2, 1) := by decide +kernel
theorem dL_220 : decode code 220 = .ok (.iadd, 1) := by decide +kernel
theorem dL_221 : decode code 221 = .ok (.iaload, 1) := by decide +kernel
theorem dL_222 : decode code 222 = .ok (.aload_n 0, 1) := by decide +kernel
theorem dL_223 : decode code 223 = .ok (.iload_n 3, 1) := by decide +kernel
theorem dL_224 : decode code 224 = .ok (.iconst 3, 1) := by decide +kernel
theorem dL_225 : decode code 225 = .ok (.iadd, 1) := by decide +kernel
theorem dL_226 : decode code 226 = .ok (.iaload, 1) := by decide +kernel
theorem dL_227 : decode code 227 = .ok (.ifCond .eq 7, 3) := by decide +kernel
theorem dL_230 : decode code 230 = .ok (.iconst 1, 1) := by decide +kernel
theorem dL_231 : decode code 231 = .ok (.goto 4, 3) := by decide +kernel
theorem dL_234 : decode code 234 = .ok (.iconst 0, 1) := by decide +kernel
theorem dL_235 : decode code 235 = .ok (.invokevirtual 35, 3) := by decide +kernel
theorem dL_238 : decode code 238 = .ok (.if_icmp .eq 258, 3) := by decide +kernel
theorem dL_241 : decode code 241 = .ok (.iconst 0, 1) := by decide +kernel
theorem dL_242 : decode code 242 = .ok (.ireturn, 1) := by decide +kernel
theorem dL_243 : decode code 243 = .ok (.aload_n 1, 1) := by decide +kernel
theorem dL_244 : decode code 244 = .ok (.invokevirtual 36, 3) := by decide +kernel
theorem dL_247 : decode code 247 = .ok (.aload_n 2, 1) := by decide +kernel
theorem dL_248 : decode code 248 = .ok (.invokevirtual 39, 3) := by decide +kernel
theorem dL_251 : decode code 251 = .ok (.if_icmp .eq 245, 3) := by decide +kernel
theorem dL_254 : decode code 254 = .ok (.iconst 0, 1) := by decide +kernel
theorem dL_255 : decode code 255 = .ok (.ireturn, 1) := by decide +kernel
theorem dL_256 : decode code 256 = .ok (.aload_n 1, 1) := by decide +kernel
theorem dL_257 : decode code 257 = .ok (.aload_n 0, 1) := by decide +kernel
theorem dL_258 : decode code 258 = .ok (.iload_n 3, 1) := by decide +kernel
theorem dL_259 : decode code 259 = .ok (.iconst 1, 1) := by decide +kernel
theorem dL_260 : decode code 260 = .ok (.iadd, 1) := by decide +kernel
theorem dL_261 : decode code 261 = .ok (.iaload, 1) := by decide +kernel
theorem dL_262 : decode code 262 = .ok (.aload_n 0, 1) := by decide +kernel
theorem dL_263 : decode code 263 = .ok (.iload_n 3, 1) := by decide +kernel
theorem dL_264 : decode code 264 = .ok (.iconst 2, 1) := by decide +kernel
theorem dL_265 : decode code 265 = .ok (.iadd, 1) := by decide +kernel
theorem dL_266 : decode code 266 = .ok (.iaload, 1) := by decide +kernel
theorem dL_267 : decode code 267 = .ok (.invokevirtual 40, 3) := by decide +kernel
theorem dL_270 : decode code 270 = .ok (.aload_n 2, 1) := by decide +kernel
theorem dL_271 : decode code 271 = .ok (.aload_n 0, 1) := by decide +kernel
theorem dL_272 : decode code 272 = .ok (.iload_n 3, 1) := by decide +kernel
theorem dL_273 : decode code 273 = .ok (.iconst 1, 1) := by decide +kernel
theorem dL_274 : decode code 274 = .ok (.iadd, 1) := by decide +kernel
theorem dL_275 : decode code 275 = .ok (.iaload, 1) := by decide +kernel
theorem dL_276 : decode code 276 = .ok (.aload_n 0, 1) := by decide +kernel
theorem dL_277 : decode code 277 = .ok (.iload_n 3, 1) := by decide +kernel
theorem dL_278 : decode code 278 = .ok (.iconst 2, 1) := by decide +kernel
theorem dL_279 : decode code 279 = .ok (.iadd, 1) := by decide +kernel
theorem dL_280 : decode code 280 = .ok (.iaload, 1) := by decide +kernel
theorem dL_281 : decode code 281 = .ok (.invokevirtual 44, 3) := by decide +kernel
theorem dL_284 : decode code 284 = .ok (.if_icmp .eq 212, 3) := by decide +kernel
theorem dL_287 : decode code 287 = .ok (.iconst 0, 1) := by decide +kernel
theorem dL_288 : decode code 288 = .ok (.ireturn, 1) := by decide +kernel
theorem dL_289 : decode code 289 = .ok (.aload_n 1, 1) := by decide +kernel
theorem dL_290 : decode code 290 = .ok (.invokevirtual 45, 3) := by decide +kernel
theorem dL_293 : decode code 293 = .ok (.aload_n 2, 1) := by decide +kernel
theorem dL_294 : decode code 294 = .ok (.invokevirtual 48, 3) := by decide +kernel
theorem dL_297 : decode code 297 = .ok (.if_icmp .eq 199, 3) := by decide +kernel
theorem dL_300 : decode code 300 = .ok (.iconst 0, 1) := by decide +kernel
theorem dL_301 : decode code 301 = .ok (.ireturn, 1) := by decide +kernel
theorem dL_302 : decode code 302 = .ok (.aload_n 1, 1) := by decide +kernel
theorem dL_303 : decode code 303 = .ok (.aload_n 0, 1) := by decide +kernel
theorem dL_304 : decode code 304 = .ok (.iload_n 3, 1) := by decide +kernel
theorem dL_305 : decode code 305 = .ok (.iconst 1, 1) := by decide +kernel
theorem dL_306 : decode code 306 = .ok (.iadd, 1) := by decide +kernel
theorem dL_307 : decode code 307 = .ok (.iaload, 1) := by decide +kernel
theorem dL_308 : decode code 308 = .ok (.invokevirtual 49, 3) := by decide +kernel
theorem dL_311 : decode code 311 = .ok (.aload_n 2, 1) := by decide +kernel
theorem dL_312 : decode code 312 = .ok (.aload_n 0, 1) := by decide +kernel
theorem dL_313 : decode code 313 = .ok (.iload_n 3, 1) := by decide +kernel
theorem dL_314 : decode code 314 = .ok (.iconst 1, 1) := by decide +kernel
theorem dL_315 : decode code 315 = .ok (.iadd, 1) := by decide +kernel
theorem dL_316 : decode code 316 = .ok (.iaload, 1) := by decide +kernel
theorem dL_317 : decode code 317 = .ok (.invokevirtual 52, 3) := by decide +kernel
theorem dL_320 : decode code 320 = .ok (.if_icmp .eq 176, 3) := by decide +kernel
theorem dL_323 : decode code 323 = .ok (.iconst 0, 1) := by decide +kernel
theorem dL_324 : decode code 324 = .ok (.ireturn, 1) := by decide +kernel
theorem dL_325 : decode code 325 = .ok (.aload_n 1, 1) := by decide +kernel
theorem dL_326 : decode code 326 = .ok (.aload_n 0, 1) := by decide +kernel
theorem dL_327 : decode code 327 = .ok (.iload_n 3, 1) := by decide +kernel
theorem dL_328 : decode code 328 = .ok (.iconst 1, 1) := by decide +kernel
theorem dL_329 : decode code 329 = .ok (.iadd, 1) := by decide +kernel
theorem dL_330 : decode code 330 = .ok (.iaload, 1) := by decide +kernel
theorem dL_331 : decode code 331 = .ok (.aload_n 0, 1) := by decide +kernel
theorem dL_332 : decode code 332 = .ok (.iload_n 3, 1) := by decide +kernel
theorem dL_333 : decode code 333 = .ok (.iconst 2, 1) := by decide +kernel
theorem dL_334 : decode code 334 = .ok (.iadd, 1) := by decide +kernel
theorem dL_335 : decode code 335 = .ok (.iaload, 1) := by decide +kernel
theorem dL_336 : decode code 336 = .ok (.invokevirtual 53, 3) := by decide +kernel
theorem dL_339 : decode code 339 = .ok (.aload_n 2, 1) := by decide +kernel
theorem dL_340 : decode code 340 = .ok (.aload_n 0, 1) := by decide +kernel
theorem dL_341 : decode code 341 = .ok (.iload_n 3, 1) := by decide +kernel
theorem dL_342 : decode code 342 = .ok (.iconst 1, 1) := by decide +kernel
theorem dL_343 : decode code 343 = .ok (.iadd, 1) := by decide +kernel
theorem dL_344 : decode code 344 = .ok (.iaload, 1) := by decide +kernel
theorem dL_345 : decode code 345 = .ok (.aload_n 0, 1) := by decide +kernel
theorem dL_346 : decode code 346 = .ok (.iload_n 3, 1) := by decide +kernel
theorem dL_347 : decode code 347 = .ok (.iconst 2, 1) := by decide +kernel
theorem dL_348 : decode code 348 = .ok (.iadd, 1) := by decide +kernel
theorem dL_349 : decode code 349 = .ok (.iaload, 1) := by decide +kernel
theorem dL_350 : decode code 350 = .ok (.invokevirtual 56, 3) := by decide +kernel
theorem dL_353 : decode code 353 = .ok (.if_icmp .eq 143, 3) := by decide +kernel
theorem dL_356 : decode code 356 = .ok (.iconst 0, 1) := by decide +kernel
theorem dL_357 : decode code 357 = .ok (.ireturn, 1) := by decide +kernel
theorem dL_358 : decode code 358 = .ok (.aload_n 1, 1) := by decide +kernel
theorem dL_359 : decode code 359 = .ok (.aload_n 0, 1) := by decide +kernel
theorem dL_360 : decode code 360 = .ok (.iload_n 3, 1) := by decide +kernel
theorem dL_361 : decode code 361 = .ok (.iconst 1, 1) := by decide +kernel
theorem dL_362 : decode code 362 = .ok (.iadd, 1) := by decide +kernel
theorem dL_363 : decode code 363 = .ok (.iaload, 1) := by decide +kernel
theorem dL_364 : decode code 364 = .ok (.aload_n 0, 1) := by decide +kernel
theorem dL_365 : decode code 365 = .ok (.iload_n 3, 1) := by decide +kernel
theorem dL_366 : decode code 366 = .ok (.iconst 2, 1) := by decide +kernel
theorem dL_367 : decode code 367 = .ok (.iadd, 1) := by decide +kernel
theorem dL_368 : decode code 368 = .ok (.iaload, 1) := by decide +kernel
theorem dL_369 : decode code 369 = .ok (.aload_n 0, 1) := by decide +kernel
theorem dL_370 : decode code 370 = .ok (.iload_n 3, 1) := by decide +kernel
theorem dL_371 : decode code 371 = .ok (.iconst 3, 1) := by decide +kernel
theorem dL_372 : decode code 372 = .ok (.iadd, 1) := by decide +kernel
theorem dL_373 : decode code 373 = .ok (.iaload, 1) := by decide +kernel
theorem dL_374 : decode code 374 = .ok (.invokevirtual 57, 3) := by decide +kernel
theorem dL_377 : decode code 377 = .ok (.aload_n 2, 1) := by decide +kernel
theorem dL_378 : decode code 378 = .ok (.aload_n 0, 1) := by decide +kernel
theorem dL_379 : decode code 379 = .ok (.iload_n 3, 1) := by decide +kernel
theorem dL_380 : decode code 380 = .ok (.iconst 1, 1) := by decide +kernel
theorem dL_381 : decode code 381 = .ok (.iadd, 1) := by decide +kernel
theorem dL_382 : decode code 382 = .ok (.iaload, 1) := by decide +kernel
theorem dL_383 : decode code 383 = .ok (.aload_n 0, 1) := by decide +kernel
theorem dL_384 : decode code 384 = .ok (.iload_n 3, 1) := by decide +kernel
theorem dL_385 : decode code 385 = .ok (.iconst 2, 1) := by decide +kernel
theorem dL_386 : decode code 386 = .ok (.iadd, 1) := by decide +kernel
theorem dL_387 : decode code 387 = .ok (.iaload, 1) := by decide +kernel
theorem dL_388 : decode code 388 = .ok (.aload_n 0, 1) := by decide +kernel
theorem dL_389 : decode code 389 = .ok (.iload_n 3, 1) := by decide +kernel
theorem dL_390 : decode code 390 = .ok (.iconst 3, 1) := by decide +kernel
theorem dL_391 : decode code 391 = .ok (.iadd, 1) := by decide +kernel
theorem dL_392 : decode code 392 = .ok (.iaload, 1) := by decide +kernel
theorem dL_393 : decode code 393 = .ok (.invokevirtual 61, 3) := by decide +kernel
theorem dL_396 : decode code 396 = .ok (.if_icmp .eq 100, 3) := by decide +kernel
theorem dL_399 : decode code 399 = .ok (.iconst 0, 1) := by decide +kernel
theorem dL_400 : decode code 400 = .ok (.ireturn, 1) := by decide +kernel
theorem dL_401 : decode code 401 = .ok (.aload_n 1, 1) := by decide +kernel
theorem dL_402 : decode code 402 = .ok (.aload_n 0, 1) := by decide +kernel
theorem dL_403 : decode code 403 = .ok (.iload_n 3, 1) := by decide +kernel
theorem dL_404 : decode code 404 = .ok (.iconst 1, 1) := by decide +kernel
theorem dL_405 : decode code 405 = .ok (.iadd, 1) := by decide +kernel
theorem dL_406 : decode code 406 = .ok (.iaload, 1) := by decide +kernel
theorem dL_407 : decode code 407 = .ok (.aload_n 0, 1) := by decide +kernel
theorem dL_408 : decode code 408 = .ok (.iload_n 3, 1) := by decide +kernel
theorem dL_409 : decode code 409 = .ok (.iconst 2, 1) := by decide +kernel
theorem dL_410 : decode code 410 = .ok (.iadd, 1) := by decide +kernel
theorem dL_411 : decode code 411 = .ok (.iaload, 1) := by decide +kernel
theorem dL_412 : decode code 412 = .ok (.invokevirtual 62, 3) := by decide +kernel
theorem dL_415 : decode code 415 = .ok (.aload_n 2, 1) := by decide +kernel
theorem dL_416 : decode code 416 = .ok (.aload_n 0, 1) := by decide +kernel
theorem dL_417 : decode code 417 = .ok (.iload_n 3, 1) := by decide +kernel
theorem dL_418 : decode code 418 = .ok (.iconst 1, 1) := by decide +kernel
theorem dL_419 : decode code 419 = .ok (.iadd, 1) := by decide +kernel
theorem dL_420 : decode code 420 = .ok (.iaload, 1) := by decide +kernel
theorem dL_421 : decode code 421 = .ok (.aload_n 0, 1) := by decide +kernel
theorem dL_422 : decode code 422 = .ok (.iload_n 3, 1) := by decide +kernel
theorem dL_423 : decode code 423 = .ok (.iconst 2, 1) := by decide +kernel
theorem dL_424 : decode code 424 = .ok (.iadd, 1) := by decide +kernel
theorem dL_425 : decode code 425 = .ok (.iaload, 1) := by decide +kernel
theorem dL_426 : decode code 426 = .ok (.invokevirtual 65, 3) := by decide +kernel
theorem dL_429 : decode code 429 = .ok (.if_icmp .eq 67, 3) := by decide +kernel
theorem dL_432 : decode code 432 = .ok (.iconst 0, 1) := by decide +kernel
theorem dL_433 : decode code 433 = .ok (.ireturn, 1) := by decide +kernel
theorem dL_434 : decode code 434 = .ok (.aload_n 1, 1) := by decide +kernel
theorem dL_435 : decode code 435 = .ok (.invokevirtual 66, 3) := by decide +kernel
theorem dL_438 : decode code 438 = .ok (.aload_n 2, 1) := by decide +kernel
theorem dL_439 : decode code 439 = .ok (.invokevirtual 69, 3) := by decide +kernel
theorem dL_442 : decode code 442 = .ok (.if_icmp .eq 54, 3) := by decide +kernel
theorem dL_445 : decode code 445 = .ok (.iconst 0, 1) := by decide +kernel
theorem dL_446 : decode code 446 = .ok (.ireturn, 1) := by decide +kernel
theorem dL_447 : decode code 447 = .ok (.aload_n 1, 1) := by decide +kernel
theorem dL_448 : decode code 448 = .ok (.invokevirtual 70, 3) := by decide +kernel
theorem dL_451 : decode code 451 = .ok (.aload_n 2, 1) := by decide +kernel
theorem dL_452 : decode code 452 = .ok (.invokevirtual 73, 3) := by decide +kernel
theorem dL_455 : decode code 455 = .ok (.if_icmp .eq 41, 3) := by decide +kernel
theorem dL_458 : decode code 458 = .ok (.iconst 0, 1) := by decide +kernel
theorem dL_459 : decode code 459 = .ok (.ireturn, 1) := by decide +kernel
theorem dL_460 : decode code 460 = .ok (.aload_n 1, 1) := by decide +kernel
theorem dL_461 : decode code 461 = .ok (.invokevirtual 74, 3) := by decide +kernel
theorem dL_464 : decode code 464 = .ok (.aload_n 2, 1) := by decide +kernel
theorem dL_465 : decode code 465 = .ok (.invokevirtual 77, 3) := by decide +kernel
theorem dL_468 : decode code 468 = .ok (.if_icmp .eq 28, 3) := by decide +kernel
theorem dL_471 : decode code 471 = .ok (.iconst 0, 1) := by decide +kernel
theorem dL_472 : decode code 472 = .ok (.ireturn, 1) := by decide +kernel
theorem dL_473 : decode code 473 = .ok (.aload_n 1, 1) := by decide +kernel
theorem dL_474 : decode code 474 = .ok (.aload_n 0, 1) := by decide +kernel
theorem dL_475 : decode code 475 = .ok (.iload_n 3, 1) := by decide +kernel
theorem dL_476 : decode code 476 = .ok (.iconst 1, 1) := by decide +kernel
theorem dL_477 : decode code 477 = .ok (.iadd, 1) := by decide +kernel
theorem dL_478 : decode code 478 = .ok (.iaload, 1) := by decide +kernel
theorem dL_479 : decode code 479 = .ok (.invokevirtual 78, 3) := by decide +kernel
theorem dL_482 : decode code 482 = .ok (.aload_n 2, 1) := by decide +kernel
theorem dL_483 : decode code 483 = .ok (.aload_n 0, 1) := by decide +kernel
theorem dL_484 : decode code 484 = .ok (.iload_n 3, 1) := by decide +kernel
theorem dL_485 : decode code 485 = .ok (.iconst 1, 1) := by decide +kernel
theorem dL_486 : decode code 486 = .ok (.iadd, 1) := by decide +kernel
theorem dL_487 : decode code 487 = .ok (.iaload, 1) := by decide +kernel
theorem dL_488 : decode code 488 = .ok (.invokevirtual 81, 3) := by decide +kernel
theorem dL_491 : decode code 491 = .ok (.if_icmp .eq 5, 3) := by decide +kernel
theorem dL_494 : decode code 494 = .ok (.iconst 0, 1) := by decide +kernel
theorem dL_495 : decode code 495 = .ok (.ireturn, 1) := by decide +kernel
theorem dL_496 : decode code 496 = .ok (.iinc 3 4, 3) := by decide +kernel
theorem dL_499 : decode code 499 = .ok (.goto (-481), 3) := by decide +kernel
theorem dL_502 : decode code 502 = .ok (.iconst 1, 1) := by decide +kernel
theorem dL_503 : decode code 503 = .ok (.ireturn, 1) := by decide +kernel
theorem loL_13 : xLink R_law 13 yX5_hop false := ⟨xm 199 (by decide +kernel) rfl, xm 200 (by decide +kernel) rfl, xm 198 (by decide +kernel) rfl⟩
theorem loL_17 : xLink R_law 17 yX6_hop false := ⟨xm 641 (by decide +kernel) rfl, xm 642 (by decide +kernel) rfl, xm 640 (by decide +kernel) rfl⟩
theorem loL_18 : xLink R_law 18 yX5_drop false := ⟨xm 232 (by decide +kernel) rfl, xm 233 (by decide +kernel) rfl, xm 231 (by decide +kernel) rfl⟩
theorem loL_22 : xLink R_law 22 yX6_drop false := ⟨xm 656 (by decide +kernel) rfl, xm 657 (by decide +kernel) rfl, xm 655 (by decide +kernel) rfl⟩
theorem loL_23 : xLink R_law 23 yX5_trace false := ⟨xm 240 (by decide +kernel) rfl, xm 241 (by decide +kernel) rfl, xm 239 (by decide +kernel) rfl⟩
theorem loL_26 : xLink R_law 26 yX6_trace false := ⟨xm 660 (by decide +kernel) rfl, xm 661 (by decide +kernel) rfl, xm 659 (by decide +kernel) rfl⟩
theorem loL_27 : xLink R_law 27 yX5_forget false := ⟨xm 271 (by decide +kernel) rfl, xm 272 (by decide +kernel) rfl, xm 270 (by decide +kernel) rfl⟩
theorem loL_30 : xLink R_law 30 yX6_forget false := ⟨xm 664 (by decide +kernel) rfl, xm 665 (by decide +kernel) rfl, xm 663 (by decide +kernel) rfl⟩
theorem loL_31 : xLink R_law 31 yX5_tell false := ⟨xm 283 (by decide +kernel) rfl, xm 284 (by decide +kernel) rfl, xm 282 (by decide +kernel) rfl⟩
theorem loL_35 : xLink R_law 35 yX6_tell false := ⟨xm 668 (by decide +kernel) rfl, xm 669 (by decide +kernel) rfl, xm 667 (by decide +kernel) rfl⟩
theorem loL_36 : xLink R_law 36 yX5_untell false := ⟨xm 323 (by decide +kernel) rfl, xm 324 (by decide +kernel) rfl, xm 322 (by decide +kernel) rfl⟩
theorem loL_39 : xLink R_law 39 yX6_untell false := ⟨xm 675 (by decide +kernel) rfl, xm 676 (by decide +kernel) rfl, xm 674 (by decide +kernel) rfl⟩
theorem loL_40 : xLink R_law 40 yX5_at false := ⟨xm 338 (by decide +kernel) rfl, xm 339 (by decide +kernel) rfl, xm 337 (by decide +kernel) rfl⟩
theorem loL_44 : xLink R_law 44 yX6_at false := ⟨xm 679 (by decide +kernel) rfl, xm 680 (by decide +kernel) rfl, xm 678 (by decide +kernel) rfl⟩
theorem loL_45 : xLink R_law 45 yX5_nets false := ⟨xm 342 (by decide +kernel) rfl, xm 343 (by decide +kernel) rfl, xm 341 (by decide +kernel) rfl⟩
theorem loL_48 : xLink R_law 48 yX6_nets false := ⟨xm 683 (by decide +kernel) rfl, xm 684 (by decide +kernel) rfl, xm 682 (by decide +kernel) rfl⟩
theorem loL_49 : xLink R_law 49 yX5_shape false := ⟨xm 439 (by decide +kernel) rfl, xm 440 (by decide +kernel) rfl, xm 438 (by decide +kernel) rfl⟩
theorem loL_52 : xLink R_law 52 yX6_shape false := ⟨xm 743 (by decide +kernel) rfl, xm 744 (by decide +kernel) rfl, xm 742 (by decide +kernel) rfl⟩
theorem loL_53 : xLink R_law 53 yX5_boxOf false := ⟨xm 458 (by decide +kernel) rfl, xm 459 (by decide +kernel) rfl, xm 457 (by decide +kernel) rfl⟩
theorem loL_56 : xLink R_law 56 yX6_boxOf false := ⟨xm 747 (by decide +kernel) rfl, xm 748 (by decide +kernel) rfl, xm 746 (by decide +kernel) rfl⟩
theorem loL_57 : xLink R_law 57 yX5_far false := ⟨xm 473 (by decide +kernel) rfl, xm 474 (by decide +kernel) rfl, xm 472 (by decide +kernel) rfl⟩
theorem loL_61 : xLink R_law 61 yX6_far false := ⟨xm 751 (by decide +kernel) rfl, xm 752 (by decide +kernel) rfl, xm 750 (by decide +kernel) rfl⟩
theorem loL_62 : xLink R_law 62 yX5_sure false := ⟨xm 495 (by decide +kernel) rfl, xm 496 (by decide +kernel) rfl, xm 494 (by decide +kernel) rfl⟩
theorem loL_65 : xLink R_law 65 yX6_sure false := ⟨xm 759 (by decide +kernel) rfl, xm 760 (by decide +kernel) rfl, xm 758 (by decide +kernel) rfl⟩
theorem loL_66 : xLink R_law 66 yX5_falses false := ⟨xm 543 (by decide +kernel) rfl, xm 544 (by decide +kernel) rfl, xm 542 (by decide +kernel) rfl⟩
theorem loL_69 : xLink R_law 69 yX6_falses false := ⟨xm 763 (by decide +kernel) rfl, xm 764 (by decide +kernel) rfl, xm 762 (by decide +kernel) rfl⟩
theorem loL_70 : xLink R_law 70 yX5_next false := ⟨xm 549 (by decide +kernel) rfl, xm 550 (by decide +kernel) rfl, xm 548 (by decide +kernel) rfl⟩
theorem loL_73 : xLink R_law 73 yX6_next false := ⟨xm 774 (by decide +kernel) rfl, xm 775 (by decide +kernel) rfl, xm 773 (by decide +kernel) rfl⟩
theorem loL_74 : xLink R_law 74 yX5_worst false := ⟨xm 557 (by decide +kernel) rfl, xm 558 (by decide +kernel) rfl, xm 556 (by decide +kernel) rfl⟩
theorem loL_77 : xLink R_law 77 yX6_worst false := ⟨xm 786 (by decide +kernel) rfl, xm 787 (by decide +kernel) rfl, xm 785 (by decide +kernel) rfl⟩
theorem loL_78 : xLink R_law 78 yX5_count false := ⟨xm 565 (by decide +kernel) rfl, xm 566 (by decide +kernel) rfl, xm 564 (by decide +kernel) rfl⟩
theorem loL_81 : xLink R_law 81 yX6_count false := ⟨xm 790 (by decide +kernel) rfl, xm 791 (by decide +kernel) rfl, xm 789 (by decide +kernel) rfl⟩
/-- the law's body stands at pc, its stack is st, the two objects are as M and N say: it comes to its end -/
def Wl (p : Program) (l : Launch) (e : Env) (s : State) (m : MethodId) (below : List Frame) (meth : Method) (c : Code) (b : Nat) (D : va_G) (T : Nat → ClassId) (ad1 ad2 : Nat → Nat) (ls : Array Slot) (pc : Nat) (st : List Value) (M N : xM) : Prop :=
  ∀ (H : Heap) (locs : List Loc), va_P D vwCl (xW T ad1 LX M) H → va_P D vwCl (xW T ad2 LM N) H → va_S (fun q : Nat => s.heap.size ≤ q) s.heap H locs → W p l e room_1 s m #[Value.ref b] below meth c H locs 29 384428 (lw_Z below #[Value.ref b] s) (F0 m pc ls st)
/-- what stands fast over the law's loop -/
def lwK (p : Program) (s : State) (m : MethodId) (meth : Method) (c : Code) (b L : Nat) (xs : Nat → Int32) (D : va_G) (T : Nat → ClassId) (ad1 ad2 : Nat → Nat) : Prop := lw_At p s m meth c b L xs ∧ L ≤ 2048 ∧ va_K D vwCl [(T 0, .int), (T 1, .boolean)] s ∧ xN s ∧ xOk ad1 LX ∧ xOk ad2 LM ∧ (∀ i j, i < 16 → j < 13 → ad1 i ≠ ad2 j) ∧ (∀ i, i < 16 → s.heap.size ≤ ad1 i) ∧ ∀ j, j < 13 → s.heap.size ≤ ad2 j
section LWB
variable {p : Program} {l : Launch} {e : Env} {s : State} {m : MethodId} {below : List Frame} {meth : Method} {c : Code} {b L : Nat} {xs : Nat → Int32} {D : va_G} {T : Nat → ClassId} {ad1 ad2 : Nat → Nat} {ls : Array Slot} {pc i : Nat} {st rest : List Value} {M N : xM}
theorem rg_to (x : Int32) : rg x.toInt := ⟨Int32.le_toInt x, Int32.toInt_lt x⟩
theorem lawX (K : lwK p s m meth c b L xs D T ad1 ad2) (hsz : ls.size = 4) {Post : xR} {y : MethodName} {ccy : ByteArray} {nLy hc np idx N0 : Nat} {ret : Option FieldType} {as : List xV} {tr : xT} {Tt : u_T}
    (hM : xMet l D T ad1 LX y ccy nLy ret false hc tr) (hh : hc ≤ 100) (hY : xYOk y ccy nLy ret np) (hlk : xLink R_law idx y false) (hcl : vwCl[5]? = some (y.cls, Tt, N0)) (hdec : decode code pc = .ok (.invokevirtual idx, 3)) (hlen : as.length = np) (hrest : (rest.map fun v => v.category).sum ≤ 8) (htr : tr (.inr 0 :: as) M Post)
    (kk : ∀ (r : Int) (M' : xM), Post r M' → Wl p l e s m below meth c b D T ad1 ad2 ls (pc + 3) (.int (xi r) :: rest) M' N) : Wl p l e s m below meth c b D T ad1 ad2 ls pc ((as.map (xv ad1)).reverse ++ .ref (ad1 0) :: rest) M N := by
  obtain ⟨C0, hL, hK, hN, hO1, hO2, hd, hA1, hA2⟩ := K
  intro H locs hP1 hP2 hS
  refine lcallO C0 hK hN hsz hM hh hY hlk rfl hcl (fun q hq => ?_) (fun k q hk hq => ?_) hP1 hP2 hS hdec hlen hrest htr (fun r M' H1 locs1 hp h1 h2 h3 => kk r M' hp H1 locs1 h1 h2 h3)
  · obtain ⟨j, hj, rfl⟩ := hq
    exact hA1 j hj
  · obtain ⟨j, hj, e1⟩ := hq
    obtain ⟨k1, k2⟩ := xW_inv hk
    exact hd j k hj k1 (by rw [← e1, ← k2])
theorem lawM (K : lwK p s m meth c b L xs D T ad1 ad2) (hsz : ls.size = 4) {Post : xR} {y : MethodName} {ccy : ByteArray} {nLy hc np idx N0 : Nat} {ret : Option FieldType} {as : List xV} {tr : xT} {Tt : u_T}
    (hM : xMet l D T ad2 LM y ccy nLy ret false hc tr) (hh : hc ≤ 100) (hY : xYOk y ccy nLy ret np) (hlk : xLink R_law idx y false) (hcl : vwCl[6]? = some (y.cls, Tt, N0)) (hdec : decode code pc = .ok (.invokevirtual idx, 3)) (hlen : as.length = np) (hrest : (rest.map fun v => v.category).sum ≤ 8) (htr : tr (.inr 0 :: as) N Post)
    (kk : ∀ (r : Int) (N' : xM), Post r N' → Wl p l e s m below meth c b D T ad1 ad2 ls (pc + 3) (.int (xi r) :: rest) M N') : Wl p l e s m below meth c b D T ad1 ad2 ls pc ((as.map (xv ad2)).reverse ++ .ref (ad2 0) :: rest) M N := by
  obtain ⟨C0, hL, hK, hN, hO1, hO2, hd, hA1, hA2⟩ := K
  intro H locs hP1 hP2 hS
  refine lcallO C0 hK hN hsz hM hh hY hlk rfl hcl (fun q hq => ?_) (fun k q hk hq => ?_) hP2 hP1 hS hdec hlen hrest htr (fun r N' H1 locs1 hp h1 h2 h3 => kk r N' hp H1 locs1 h2 h1 h3)
  · obtain ⟨j, hj, rfl⟩ := hq
    exact hA2 j hj
  · obtain ⟨j, hj, e1⟩ := hq
    obtain ⟨k1, k2⟩ := xW_inv hk
    exact hd k j k1 hj (by rw [← e1, ← k2])
/-- an aload of an object -/
theorem lawA (K : lwK p s m meth c b L xs D T ad1 ad2) {k : Fin 4} {j a : Nat} (h : decode code pc = .ok (.aload_n k, 1)) (hj : (k : Nat) = j) (hl : ls[j]? = some (.val (.ref a))) (kk : Wl p l e s m below meth c b D T ad1 ad2 ls (pc + 1) (.ref a :: st) M N) : Wl p l e s m below meth c b D T ad1 ad2 ls pc st M N := by
  obtain ⟨⟨hx, hb, hr, hml, hown, hts0, hX, hbl, hlocks, hgv⟩, -⟩ := K
  intro H locs hP1 hP2 hS
  exact lv_aload_n hx hb h hj hl (kk H locs hP1 hP2 hS)
/-- script[i + k] onto the stack -/
theorem ldS (K : lwK p s m meth c b L xs D T ad1 ad2) (hl : lv_has ls 4 [(0, .ref b), (1, .ref (ad1 0)), (2, .ref (ad2 0)), (3, .int (nI i))]) {k : Nat} (hk : k < 4) (hi : i + 3 < L) (d0 : decode code pc = .ok (.aload_n 0, 1)) (d1 : decode code (pc + 1) = .ok (.iload_n 3, 1)) (d2 : decode code (pc + 2) = .ok (.iconst (k : Int), 1)) (d3 : decode code (pc + 3) = .ok (.iadd, 1)) (d4 : decode code (pc + 4) = .ok (.iaload, 1))
    (kk : Wl p l e s m below meth c b D T ad1 ad2 ls (pc + 5) (.int (xi (xs (i + k)).toInt) :: st) M N) : Wl p l e s m below meth c b D T ad1 ad2 ls pc st M N := by
  obtain ⟨⟨hx, hb, hr, hml, hown, hts0, hX, hbl, hlocks, hgv⟩, hL, -⟩ := K
  intro H locs hP1 hP2 hS
  refine lv_aload_n hx hb d0 rfl (lv_at hl 0 rfl) ?_
  refine lv_iload_n hx hb d1 rfl (lv_at hl 3 rfl) ?_
  refine lv_iconst (v := nI k) hx hb d2 Int32.ofInt_eq_ofNat ?_
  refine lv_iadd hx hb d3 ?_
  have e : nI i + nI k = nI (i + k) := by rw [← xi_nI, ← xi_nI, ← xi_nI, xi_add]; rfl
  rw [e]
  refine va_sld hx hb hX hbl (Nat.not_le.mpr hbl) hS (vp_in_nI (by omega) (by omega)) d4 ?_
  rw [nI_clamp (by omega)]
  have := kk H locs hP1 hP2 hS
  rw [xi_to] at this
  exact this
/-- script[i + 3] != 0 onto the stack -/
theorem ldB (K : lwK p s m meth c b L xs D T ad1 ad2) (hl : lv_has ls 4 [(0, .ref b), (1, .ref (ad1 0)), (2, .ref (ad2 0)), (3, .int (nI i))]) (hi : i + 3 < L) (d0 : decode code pc = .ok (.aload_n 0, 1)) (d1 : decode code (pc + 1) = .ok (.iload_n 3, 1)) (d2 : decode code (pc + 2) = .ok (.iconst 3, 1)) (d3 : decode code (pc + 3) = .ok (.iadd, 1)) (d4 : decode code (pc + 4) = .ok (.iaload, 1)) (d5 : decode code (pc + 5) = .ok (.ifCond .eq 7, 3)) (d8 : decode code (pc + 8) = .ok (.iconst 1, 1)) (d9 : decode code (pc + 9) = .ok (.goto 4, 3)) (d12 : decode code (pc + 12) = .ok (.iconst 0, 1))
    (kk : Wl p l e s m below meth c b D T ad1 ad2 ls (pc + 13) (.int (xi (if xs (i + 3) = 0 then 0 else 1)) :: st) M N) : Wl p l e s m below meth c b D T ad1 ad2 ls pc st M N := by
  refine ldS (k := 3) K hl (by omega) hi d0 d1 d2 d3 d4 ?_
  obtain ⟨⟨hx, hb, hr, hml, hown, hts0, hX, hbl, hlocks, hgv⟩, hL, -⟩ := K
  intro H locs hP1 hP2 hS
  rw [xi_to]
  refine lv_if_eq (tgt := pc + 12) hx hb d5 (by omega) (fun z => ?_) (fun z => ?_)
  · rw [if_pos z] at kk
    refine lv_iconst (v := xi 0) hx hb d12 rfl ?_
    exact kk H locs hP1 hP2 hS
  · rw [if_neg z] at kk
    refine lv_iconst (v := xi 1) hx hb d8 rfl ?_
    refine lv_goto (tgt := pc + 13) hx hb d9 (by omega) ?_
    exact kk H locs hP1 hP2 hS
/-- two answers that are one -/
theorem cmpE (K : lwK p s m meth c b L xs D T ad1 ad2) {off : Int} {r r' : Int} (d : decode code pc = .ok (.if_icmp .eq off, 3)) (ht : (pc : Int) + off = 496) (hr : r' = r) (kk : Wl p l e s m below meth c b D T ad1 ad2 ls 496 [] M N) : Wl p l e s m below meth c b D T ad1 ad2 ls pc [.int (xi r'), .int (xi r)] M N := by
  obtain ⟨⟨hx, hb, -⟩, -⟩ := K
  subst hr
  intro H locs hP1 hP2 hS
  exact lv_icmp_eq (tgt := 496) hx hb d ht (fun _ => kk H locs hP1 hP2 hS) (fun z => (z rfl).elim)
end LWB
