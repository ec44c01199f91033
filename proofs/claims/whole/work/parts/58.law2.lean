section LWC
variable {p : Program} {l : Launch} {e : Env} {s : State} {m : MethodId} {below : List Frame} {meth : Method} {c : Code} {b L : Nat} {xs : Nat → Int32} {D : va_G} {T : Nat → ClassId} {ad1 ad2 : Nat → Nat} {ls : Array Slot} {i : Nat} {M N : xM}
theorem case_hop (K : lwK p s m meth c b L xs D T ad1 ad2) (hl : lv_has ls 4 [(0, .ref b), (1, .ref (ad1 0)), (2, .ref (ad2 0)), (3, .int (nI i))]) (hi : i + 3 < L) (h : CP M N) (kk : ∀ M' N', CP M' N' → Wl p l e s m below meth c b D T ad1 ad2 ls 496 [] M' N') : Wl p l e s m below meth c b D T ad1 ad2 ls 112 [] M N := by
  have hO1 := K.2.2.2.2.1
  have hO2 := K.2.2.2.2.2.1
  refine lawA K dL_112 rfl (lv_at hl 1 rfl) ?_
  refine ldS (k := 1) K hl (by omega) hi dL_113 dL_114 dL_115 dL_116 dL_117 ?_
  refine lawX (as := [.inl (xs (i + 1)).toInt]) (rest := []) K hl.1 (k_X5_hop hO1) (by decide) yoX5_hop loL_13 rfl dL_118 rfl (by decide) ⟨_, rfl, cp_hop h (rg_to _)⟩ (fun r M1 h1 => ?_)
  refine lawA K dL_121 rfl (lv_at hl 2 rfl) ?_
  refine ldS (k := 1) K hl (by omega) hi dL_122 dL_123 dL_124 dL_125 dL_126 ?_
  refine lawM (as := [.inl (xs (i + 1)).toInt]) (rest := [.int (xi r)]) K hl.1 (k_X6_hop hO2) (by decide) yoX6_hop loL_17 rfl dL_127 rfl (Nat.le_of_ble_eq_true rfl) ⟨_, rfl, h1⟩ (fun r2 N1 h2 => ?_)
  exact cmpE K dL_130 (by decide) h2.1 (kk M1 N1 h2.2)
theorem case_drop (K : lwK p s m meth c b L xs D T ad1 ad2) (hl : lv_has ls 4 [(0, .ref b), (1, .ref (ad1 0)), (2, .ref (ad2 0)), (3, .int (nI i))]) (hi : i + 3 < L) (h : CP M N) (kk : ∀ M' N', CP M' N' → Wl p l e s m below meth c b D T ad1 ad2 ls 496 [] M' N') : Wl p l e s m below meth c b D T ad1 ad2 ls 135 [] M N := by
  have hO1 := K.2.2.2.2.1
  have hO2 := K.2.2.2.2.2.1
  refine lawA K dL_135 rfl (lv_at hl 1 rfl) ?_
  refine lawX (as := []) (rest := []) K hl.1 (k_X5_drop hO1) (by decide) yoX5_drop loL_18 rfl dL_136 rfl (by decide) ⟨rfl, cp_drop h⟩ (fun r M1 h1 => ?_)
  refine lawA K dL_139 rfl (lv_at hl 2 rfl) ?_
  refine lawM (as := []) (rest := [.int (xi r)]) K hl.1 (k_X6_drop hO2) (by decide) yoX6_drop loL_22 rfl dL_140 rfl (Nat.le_of_ble_eq_true rfl) ⟨rfl, h1⟩ (fun r2 N1 h2 => ?_)
  exact cmpE K dL_143 (by decide) h2.1 (kk M1 N1 h2.2)
theorem case_trace (K : lwK p s m meth c b L xs D T ad1 ad2) (hl : lv_has ls 4 [(0, .ref b), (1, .ref (ad1 0)), (2, .ref (ad2 0)), (3, .int (nI i))]) (hi : i + 3 < L) (h : CP M N) (kk : ∀ M' N', CP M' N' → Wl p l e s m below meth c b D T ad1 ad2 ls 496 [] M' N') : Wl p l e s m below meth c b D T ad1 ad2 ls 148 [] M N := by
  have hO1 := K.2.2.2.2.1
  have hO2 := K.2.2.2.2.2.1
  refine lawA K dL_148 rfl (lv_at hl 1 rfl) ?_
  refine lawX (as := []) (rest := []) K hl.1 (k_X5_trace hO1) (by decide) yoX5_trace loL_23 rfl dL_149 rfl (by decide) ⟨rfl, cp_trace h⟩ (fun r M1 h1 => ?_)
  refine lawA K dL_152 rfl (lv_at hl 2 rfl) ?_
  refine lawM (as := []) (rest := [.int (xi r)]) K hl.1 (k_X6_trace hO2) (by decide) yoX6_trace loL_26 rfl dL_153 rfl (Nat.le_of_ble_eq_true rfl) ⟨rfl, h1⟩ (fun r2 N1 h2 => ?_)
  exact cmpE K dL_156 (by decide) h2.1 (kk M1 N1 h2.2)
theorem case_forget (K : lwK p s m meth c b L xs D T ad1 ad2) (hl : lv_has ls 4 [(0, .ref b), (1, .ref (ad1 0)), (2, .ref (ad2 0)), (3, .int (nI i))]) (hi : i + 3 < L) (h : CP M N) (kk : ∀ M' N', CP M' N' → Wl p l e s m below meth c b D T ad1 ad2 ls 496 [] M' N') : Wl p l e s m below meth c b D T ad1 ad2 ls 161 [] M N := by
  have hO1 := K.2.2.2.2.1
  have hO2 := K.2.2.2.2.2.1
  refine lawA K dL_161 rfl (lv_at hl 1 rfl) ?_
  refine ldS (k := 1) K hl (by omega) hi dL_162 dL_163 dL_164 dL_165 dL_166 ?_
  refine lawX (as := [.inl (xs (i + 1)).toInt]) (rest := []) K hl.1 (k_X5_forget hO1) (by decide) yoX5_forget loL_27 rfl dL_167 rfl (by decide) ⟨_, rfl, cp_forget h (rg_to _)⟩ (fun r M1 h1 => ?_)
  refine lawA K dL_170 rfl (lv_at hl 2 rfl) ?_
  refine ldS (k := 1) K hl (by omega) hi dL_171 dL_172 dL_173 dL_174 dL_175 ?_
  refine lawM (as := [.inl (xs (i + 1)).toInt]) (rest := [.int (xi r)]) K hl.1 (k_X6_forget hO2) (by decide) yoX6_forget loL_30 rfl dL_176 rfl (Nat.le_of_ble_eq_true rfl) ⟨_, rfl, h1⟩ (fun r2 N1 h2 => ?_)
  exact cmpE K dL_179 (by decide) h2.1 (kk M1 N1 h2.2)
theorem case_tell (K : lwK p s m meth c b L xs D T ad1 ad2) (hl : lv_has ls 4 [(0, .ref b), (1, .ref (ad1 0)), (2, .ref (ad2 0)), (3, .int (nI i))]) (hi : i + 3 < L) (h : CP M N) (kk : ∀ M' N', CP M' N' → Wl p l e s m below meth c b D T ad1 ad2 ls 496 [] M' N') : Wl p l e s m below meth c b D T ad1 ad2 ls 184 [] M N := by
  have hO1 := K.2.2.2.2.1
  have hO2 := K.2.2.2.2.2.1
  refine lawA K dL_184 rfl (lv_at hl 1 rfl) ?_
  refine ldS (k := 1) K hl (by omega) hi dL_185 dL_186 dL_187 dL_188 dL_189 ?_
  refine ldS (k := 2) K hl (by omega) hi dL_190 dL_191 dL_192 dL_193 dL_194 ?_
  refine ldB K hl hi dL_195 dL_196 dL_197 dL_198 dL_199 dL_200 dL_203 dL_204 dL_207 ?_
  refine lawX (as := [.inl (xs (i + 1)).toInt, .inl (xs (i + 2)).toInt, .inl (if xs (i + 3) = 0 then (0 : Int) else 1)]) (rest := []) K hl.1 (k_X5_tell hO1) (by decide) yoX5_tell loL_31 rfl dL_208 rfl (by decide) ⟨_, _, _, rfl, cp_tell h (rg_to _) (rg_to _) (by split <;> constructor <;> omega)⟩ (fun r M1 h1 => ?_)
  refine lawA K dL_211 rfl (lv_at hl 2 rfl) ?_
  refine ldS (k := 1) K hl (by omega) hi dL_212 dL_213 dL_214 dL_215 dL_216 ?_
  refine ldS (k := 2) K hl (by omega) hi dL_217 dL_218 dL_219 dL_220 dL_221 ?_
  refine ldB K hl hi dL_222 dL_223 dL_224 dL_225 dL_226 dL_227 dL_230 dL_231 dL_234 ?_
  refine lawM (as := [.inl (xs (i + 1)).toInt, .inl (xs (i + 2)).toInt, .inl (if xs (i + 3) = 0 then (0 : Int) else 1)]) (rest := [.int (xi r)]) K hl.1 (k_X6_tell hO2) (by decide) yoX6_tell loL_35 rfl dL_235 rfl (Nat.le_of_ble_eq_true rfl) ⟨_, _, _, rfl, h1⟩ (fun r2 N1 h2 => ?_)
  exact cmpE K dL_238 (by decide) h2.1 (kk M1 N1 h2.2)
theorem case_untell (K : lwK p s m meth c b L xs D T ad1 ad2) (hl : lv_has ls 4 [(0, .ref b), (1, .ref (ad1 0)), (2, .ref (ad2 0)), (3, .int (nI i))]) (hi : i + 3 < L) (h : CP M N) (kk : ∀ M' N', CP M' N' → Wl p l e s m below meth c b D T ad1 ad2 ls 496 [] M' N') : Wl p l e s m below meth c b D T ad1 ad2 ls 243 [] M N := by
  have hO1 := K.2.2.2.2.1
  have hO2 := K.2.2.2.2.2.1
  refine lawA K dL_243 rfl (lv_at hl 1 rfl) ?_
  refine lawX (as := []) (rest := []) K hl.1 (k_X5_untell hO1) (by decide) yoX5_untell loL_36 rfl dL_244 rfl (by decide) ⟨rfl, cp_untell h⟩ (fun r M1 h1 => ?_)
  refine lawA K dL_247 rfl (lv_at hl 2 rfl) ?_
  refine lawM (as := []) (rest := [.int (xi r)]) K hl.1 (k_X6_untell hO2) (by decide) yoX6_untell loL_39 rfl dL_248 rfl (Nat.le_of_ble_eq_true rfl) ⟨rfl, h1⟩ (fun r2 N1 h2 => ?_)
  exact cmpE K dL_251 (by decide) h2.1 (kk M1 N1 h2.2)
theorem case_at (K : lwK p s m meth c b L xs D T ad1 ad2) (hl : lv_has ls 4 [(0, .ref b), (1, .ref (ad1 0)), (2, .ref (ad2 0)), (3, .int (nI i))]) (hi : i + 3 < L) (h : CP M N) (kk : ∀ M' N', CP M' N' → Wl p l e s m below meth c b D T ad1 ad2 ls 496 [] M' N') : Wl p l e s m below meth c b D T ad1 ad2 ls 256 [] M N := by
  have hO1 := K.2.2.2.2.1
  have hO2 := K.2.2.2.2.2.1
  refine lawA K dL_256 rfl (lv_at hl 1 rfl) ?_
  refine ldS (k := 1) K hl (by omega) hi dL_257 dL_258 dL_259 dL_260 dL_261 ?_
  refine ldS (k := 2) K hl (by omega) hi dL_262 dL_263 dL_264 dL_265 dL_266 ?_
  refine lawX (as := [.inl (xs (i + 1)).toInt, .inl (xs (i + 2)).toInt]) (rest := []) K hl.1 (k_X5_at hO1) (by decide) yoX5_at loL_40 rfl dL_267 rfl (by decide) ⟨_, _, rfl, cp_at h (rg_to _) (rg_to _)⟩ (fun r M1 h1 => ?_)
  refine lawA K dL_270 rfl (lv_at hl 2 rfl) ?_
  refine ldS (k := 1) K hl (by omega) hi dL_271 dL_272 dL_273 dL_274 dL_275 ?_
  refine ldS (k := 2) K hl (by omega) hi dL_276 dL_277 dL_278 dL_279 dL_280 ?_
  refine lawM (as := [.inl (xs (i + 1)).toInt, .inl (xs (i + 2)).toInt]) (rest := [.int (xi r)]) K hl.1 (k_X6_at hO2) (by decide) yoX6_at loL_44 rfl dL_281 rfl (Nat.le_of_ble_eq_true rfl) ⟨_, _, rfl, h1⟩ (fun r2 N1 h2 => ?_)
  exact cmpE K dL_284 (by decide) h2.1 (kk M1 N1 h2.2)
theorem case_nets (K : lwK p s m meth c b L xs D T ad1 ad2) (hl : lv_has ls 4 [(0, .ref b), (1, .ref (ad1 0)), (2, .ref (ad2 0)), (3, .int (nI i))]) (hi : i + 3 < L) (h : CP M N) (kk : ∀ M' N', CP M' N' → Wl p l e s m below meth c b D T ad1 ad2 ls 496 [] M' N') : Wl p l e s m below meth c b D T ad1 ad2 ls 289 [] M N := by
  have hO1 := K.2.2.2.2.1
  have hO2 := K.2.2.2.2.2.1
  refine lawA K dL_289 rfl (lv_at hl 1 rfl) ?_
  refine lawX (as := []) (rest := []) K hl.1 (k_X5_nets hO1) (by decide) yoX5_nets loL_45 rfl dL_290 rfl (by decide) ⟨rfl, cp_nets h⟩ (fun r M1 h1 => ?_)
  refine lawA K dL_293 rfl (lv_at hl 2 rfl) ?_
  refine lawM (as := []) (rest := [.int (xi r)]) K hl.1 (k_X6_nets hO2) (by decide) yoX6_nets loL_48 rfl dL_294 rfl (Nat.le_of_ble_eq_true rfl) ⟨rfl, h1⟩ (fun r2 N1 h2 => ?_)
  exact cmpE K dL_297 (by decide) h2.1 (kk M1 N1 h2.2)
theorem case_shape (K : lwK p s m meth c b L xs D T ad1 ad2) (hl : lv_has ls 4 [(0, .ref b), (1, .ref (ad1 0)), (2, .ref (ad2 0)), (3, .int (nI i))]) (hi : i + 3 < L) (h : CP M N) (kk : ∀ M' N', CP M' N' → Wl p l e s m below meth c b D T ad1 ad2 ls 496 [] M' N') : Wl p l e s m below meth c b D T ad1 ad2 ls 302 [] M N := by
  have hO1 := K.2.2.2.2.1
  have hO2 := K.2.2.2.2.2.1
  refine lawA K dL_302 rfl (lv_at hl 1 rfl) ?_
  refine ldS (k := 1) K hl (by omega) hi dL_303 dL_304 dL_305 dL_306 dL_307 ?_
  refine lawX (as := [.inl (xs (i + 1)).toInt]) (rest := []) K hl.1 (k_X5_shape hO1) (by decide) yoX5_shape loL_49 rfl dL_308 rfl (by decide) ⟨_, rfl, cp_shape h (rg_to _)⟩ (fun r M1 h1 => ?_)
  refine lawA K dL_311 rfl (lv_at hl 2 rfl) ?_
  refine ldS (k := 1) K hl (by omega) hi dL_312 dL_313 dL_314 dL_315 dL_316 ?_
  refine lawM (as := [.inl (xs (i + 1)).toInt]) (rest := [.int (xi r)]) K hl.1 (k_X6_shape hO2) (by decide) yoX6_shape loL_52 rfl dL_317 rfl (Nat.le_of_ble_eq_true rfl) ⟨_, rfl, h1⟩ (fun r2 N1 h2 => ?_)
  exact cmpE K dL_320 (by decide) h2.1 (kk M1 N1 h2.2)
theorem case_boxOf (K : lwK p s m meth c b L xs D T ad1 ad2) (hl : lv_has ls 4 [(0, .ref b), (1, .ref (ad1 0)), (2, .ref (ad2 0)), (3, .int (nI i))]) (hi : i + 3 < L) (h : CP M N) (kk : ∀ M' N', CP M' N' → Wl p l e s m below meth c b D T ad1 ad2 ls 496 [] M' N') : Wl p l e s m below meth c b D T ad1 ad2 ls 325 [] M N := by
  have hO1 := K.2.2.2.2.1
  have hO2 := K.2.2.2.2.2.1
  refine lawA K dL_325 rfl (lv_at hl 1 rfl) ?_
  refine ldS (k := 1) K hl (by omega) hi dL_326 dL_327 dL_328 dL_329 dL_330 ?_
  refine ldS (k := 2) K hl (by omega) hi dL_331 dL_332 dL_333 dL_334 dL_335 ?_
  refine lawX (as := [.inl (xs (i + 1)).toInt, .inl (xs (i + 2)).toInt]) (rest := []) K hl.1 (k_X5_boxOf hO1) (by decide) yoX5_boxOf loL_53 rfl dL_336 rfl (by decide) ⟨_, _, rfl, cp_boxOf h (rg_to _) (rg_to _)⟩ (fun r M1 h1 => ?_)
  refine lawA K dL_339 rfl (lv_at hl 2 rfl) ?_
  refine ldS (k := 1) K hl (by omega) hi dL_340 dL_341 dL_342 dL_343 dL_344 ?_
  refine ldS (k := 2) K hl (by omega) hi dL_345 dL_346 dL_347 dL_348 dL_349 ?_
  refine lawM (as := [.inl (xs (i + 1)).toInt, .inl (xs (i + 2)).toInt]) (rest := [.int (xi r)]) K hl.1 (k_X6_boxOf hO2) (by decide) yoX6_boxOf loL_56 rfl dL_350 rfl (Nat.le_of_ble_eq_true rfl) ⟨_, _, rfl, h1⟩ (fun r2 N1 h2 => ?_)
  exact cmpE K dL_353 (by decide) h2.1 (kk M1 N1 h2.2)
theorem case_far (K : lwK p s m meth c b L xs D T ad1 ad2) (hl : lv_has ls 4 [(0, .ref b), (1, .ref (ad1 0)), (2, .ref (ad2 0)), (3, .int (nI i))]) (hi : i + 3 < L) (h : CP M N) (kk : ∀ M' N', CP M' N' → Wl p l e s m below meth c b D T ad1 ad2 ls 496 [] M' N') : Wl p l e s m below meth c b D T ad1 ad2 ls 358 [] M N := by
  have hO1 := K.2.2.2.2.1
  have hO2 := K.2.2.2.2.2.1
  refine lawA K dL_358 rfl (lv_at hl 1 rfl) ?_
  refine ldS (k := 1) K hl (by omega) hi dL_359 dL_360 dL_361 dL_362 dL_363 ?_
  refine ldS (k := 2) K hl (by omega) hi dL_364 dL_365 dL_366 dL_367 dL_368 ?_
  refine ldS (k := 3) K hl (by omega) hi dL_369 dL_370 dL_371 dL_372 dL_373 ?_
  refine lawX (as := [.inl (xs (i + 1)).toInt, .inl (xs (i + 2)).toInt, .inl (xs (i + 3)).toInt]) (rest := []) K hl.1 (k_X5_far hO1) (by decide) yoX5_far loL_57 rfl dL_374 rfl (by decide) ⟨_, _, _, rfl, cp_far h (rg_to _) (rg_to _) (rg_to _)⟩ (fun r M1 h1 => ?_)
  refine lawA K dL_377 rfl (lv_at hl 2 rfl) ?_
  refine ldS (k := 1) K hl (by omega) hi dL_378 dL_379 dL_380 dL_381 dL_382 ?_
  refine ldS (k := 2) K hl (by omega) hi dL_383 dL_384 dL_385 dL_386 dL_387 ?_
  refine ldS (k := 3) K hl (by omega) hi dL_388 dL_389 dL_390 dL_391 dL_392 ?_
  refine lawM (as := [.inl (xs (i + 1)).toInt, .inl (xs (i + 2)).toInt, .inl (xs (i + 3)).toInt]) (rest := [.int (xi r)]) K hl.1 (k_X6_far hO2) (by decide) yoX6_far loL_61 rfl dL_393 rfl (Nat.le_of_ble_eq_true rfl) ⟨_, _, _, rfl, h1⟩ (fun r2 N1 h2 => ?_)
  exact cmpE K dL_396 (by decide) h2.1 (kk M1 N1 h2.2)
theorem case_sure (K : lwK p s m meth c b L xs D T ad1 ad2) (hl : lv_has ls 4 [(0, .ref b), (1, .ref (ad1 0)), (2, .ref (ad2 0)), (3, .int (nI i))]) (hi : i + 3 < L) (h : CP M N) (kk : ∀ M' N', CP M' N' → Wl p l e s m below meth c b D T ad1 ad2 ls 496 [] M' N') : Wl p l e s m below meth c b D T ad1 ad2 ls 401 [] M N := by
  have hO1 := K.2.2.2.2.1
  have hO2 := K.2.2.2.2.2.1
  refine lawA K dL_401 rfl (lv_at hl 1 rfl) ?_
  refine ldS (k := 1) K hl (by omega) hi dL_402 dL_403 dL_404 dL_405 dL_406 ?_
  refine ldS (k := 2) K hl (by omega) hi dL_407 dL_408 dL_409 dL_410 dL_411 ?_
  refine lawX (as := [.inl (xs (i + 1)).toInt, .inl (xs (i + 2)).toInt]) (rest := []) K hl.1 (k_X5_sure hO1) (by decide) yoX5_sure loL_62 rfl dL_412 rfl (by decide) ⟨_, _, rfl, cp_sure h (rg_to _) (rg_to _)⟩ (fun r M1 h1 => ?_)
  refine lawA K dL_415 rfl (lv_at hl 2 rfl) ?_
  refine ldS (k := 1) K hl (by omega) hi dL_416 dL_417 dL_418 dL_419 dL_420 ?_
  refine ldS (k := 2) K hl (by omega) hi dL_421 dL_422 dL_423 dL_424 dL_425 ?_
  refine lawM (as := [.inl (xs (i + 1)).toInt, .inl (xs (i + 2)).toInt]) (rest := [.int (xi r)]) K hl.1 (k_X6_sure hO2) (by decide) yoX6_sure loL_65 rfl dL_426 rfl (Nat.le_of_ble_eq_true rfl) ⟨_, _, rfl, h1⟩ (fun r2 N1 h2 => ?_)
  exact cmpE K dL_429 (by decide) h2.1 (kk M1 N1 h2.2)
theorem case_falses (K : lwK p s m meth c b L xs D T ad1 ad2) (hl : lv_has ls 4 [(0, .ref b), (1, .ref (ad1 0)), (2, .ref (ad2 0)), (3, .int (nI i))]) (hi : i + 3 < L) (h : CP M N) (kk : ∀ M' N', CP M' N' → Wl p l e s m below meth c b D T ad1 ad2 ls 496 [] M' N') : Wl p l e s m below meth c b D T ad1 ad2 ls 434 [] M N := by
  have hO1 := K.2.2.2.2.1
  have hO2 := K.2.2.2.2.2.1
  refine lawA K dL_434 rfl (lv_at hl 1 rfl) ?_
  refine lawX (as := []) (rest := []) K hl.1 (k_X5_falses hO1) (by decide) yoX5_falses loL_66 rfl dL_435 rfl (by decide) ⟨rfl, cp_falses h⟩ (fun r M1 h1 => ?_)
  refine lawA K dL_438 rfl (lv_at hl 2 rfl) ?_
  refine lawM (as := []) (rest := [.int (xi r)]) K hl.1 (k_X6_falses hO2) (by decide) yoX6_falses loL_69 rfl dL_439 rfl (Nat.le_of_ble_eq_true rfl) ⟨rfl, h1⟩ (fun r2 N1 h2 => ?_)
  exact cmpE K dL_442 (by decide) h2.1 (kk M1 N1 h2.2)
theorem case_next (K : lwK p s m meth c b L xs D T ad1 ad2) (hl : lv_has ls 4 [(0, .ref b), (1, .ref (ad1 0)), (2, .ref (ad2 0)), (3, .int (nI i))]) (hi : i + 3 < L) (h : CP M N) (kk : ∀ M' N', CP M' N' → Wl p l e s m below meth c b D T ad1 ad2 ls 496 [] M' N') : Wl p l e s m below meth c b D T ad1 ad2 ls 447 [] M N := by
  have hO1 := K.2.2.2.2.1
  have hO2 := K.2.2.2.2.2.1
  refine lawA K dL_447 rfl (lv_at hl 1 rfl) ?_
  refine lawX (as := []) (rest := []) K hl.1 (k_X5_next hO1) (by decide) yoX5_next loL_70 rfl dL_448 rfl (by decide) ⟨rfl, cp_next h⟩ (fun r M1 h1 => ?_)
  refine lawA K dL_451 rfl (lv_at hl 2 rfl) ?_
  refine lawM (as := []) (rest := [.int (xi r)]) K hl.1 (k_X6_next hO2) (by decide) yoX6_next loL_73 rfl dL_452 rfl (Nat.le_of_ble_eq_true rfl) ⟨rfl, h1⟩ (fun r2 N1 h2 => ?_)
  exact cmpE K dL_455 (by decide) h2.1 (kk M1 N1 h2.2)
theorem case_worst (K : lwK p s m meth c b L xs D T ad1 ad2) (hl : lv_has ls 4 [(0, .ref b), (1, .ref (ad1 0)), (2, .ref (ad2 0)), (3, .int (nI i))]) (hi : i + 3 < L) (h : CP M N) (kk : ∀ M' N', CP M' N' → Wl p l e s m below meth c b D T ad1 ad2 ls 496 [] M' N') : Wl p l e s m below meth c b D T ad1 ad2 ls 460 [] M N := by
  have hO1 := K.2.2.2.2.1
  have hO2 := K.2.2.2.2.2.1
  refine lawA K dL_460 rfl (lv_at hl 1 rfl) ?_
  refine lawX (as := []) (rest := []) K hl.1 (k_X5_worst hO1) (by decide) yoX5_worst loL_74 rfl dL_461 rfl (by decide) ⟨rfl, cp_worst h⟩ (fun r M1 h1 => ?_)
  refine lawA K dL_464 rfl (lv_at hl 2 rfl) ?_
  refine lawM (as := []) (rest := [.int (xi r)]) K hl.1 (k_X6_worst hO2) (by decide) yoX6_worst loL_77 rfl dL_465 rfl (Nat.le_of_ble_eq_true rfl) ⟨rfl, h1⟩ (fun r2 N1 h2 => ?_)
  exact cmpE K dL_468 (by decide) h2.1 (kk M1 N1 h2.2)
theorem case_count (K : lwK p s m meth c b L xs D T ad1 ad2) (hl : lv_has ls 4 [(0, .ref b), (1, .ref (ad1 0)), (2, .ref (ad2 0)), (3, .int (nI i))]) (hi : i + 3 < L) (h : CP M N) (kk : ∀ M' N', CP M' N' → Wl p l e s m below meth c b D T ad1 ad2 ls 496 [] M' N') : Wl p l e s m below meth c b D T ad1 ad2 ls 473 [] M N := by
  have hO1 := K.2.2.2.2.1
  have hO2 := K.2.2.2.2.2.1
  refine lawA K dL_473 rfl (lv_at hl 1 rfl) ?_
  refine ldS (k := 1) K hl (by omega) hi dL_474 dL_475 dL_476 dL_477 dL_478 ?_
  refine lawX (as := [.inl (xs (i + 1)).toInt]) (rest := []) K hl.1 (k_X5_count hO1) (by decide) yoX5_count loL_78 rfl dL_479 rfl (by decide) ⟨_, rfl, cp_count h (rg_to _)⟩ (fun r M1 h1 => ?_)
  refine lawA K dL_482 rfl (lv_at hl 2 rfl) ?_
  refine ldS (k := 1) K hl (by omega) hi dL_483 dL_484 dL_485 dL_486 dL_487 ?_
  refine lawM (as := [.inl (xs (i + 1)).toInt]) (rest := [.int (xi r)]) K hl.1 (k_X6_count hO2) (by decide) yoX6_count loL_81 rfl dL_488 rfl (Nat.le_of_ble_eq_true rfl) ⟨_, rfl, h1⟩ (fun r2 N1 h2 => ?_)
  exact cmpE K dL_491 (by decide) h2.1 (kk M1 N1 h2.2)
end LWC
