theorem xR (y : Int32) : inR y.toInt := ⟨by have := Int32.le_toInt y; omega, by have := Int32.toInt_lt y; omega⟩
theorem CX.bw {h : HP} {B : BS} (c : CX h B) : BW B := by
  obtain ⟨a, ha⟩ := c
  exact ha.2.2.2.2.2.2.2.2
section LawCases
variable {l : Launch} {b L : Nat} {xs : Nat → Int32} {cu su : Nat} {h : HP} {B : BS} {i : Int}
theorem lc_0 (hL : L ≤ 2560) (hb : cu ≤ 600000 ∧ su ≤ 7302250) (i0 : 0 ≤ i) (i5 : i + 5 ≤ L) (cx : CX h B) (mx : MX h B) (b9 : B95 h) (nx : ∀ h' B', CX h' B' → MX h' B' → B95 h' → SL l b L xs cu su 1021 [none, some (vR 0), some (vR 75), some (vI i)] [] G0 h') : SL l b L xs cu su 164 [none, some (vR 0), some (vR 75), some (vI i)] [] G0 h := by
  refine l_aload_n (x := 0) dL_law_164 rfl rfl (by decide) ?_
  refine l_get dL_law_165 dL_law_166 dL_law_167 dL_law_168 dL_law_169 rfl (by omega) (by omega) hL ?_
  refine l_callV (d := 20) (M' := MX8_ground) (As := [vI (xs (i + 1).toNat).toInt]) (a := 0) (st := []) dL_law_170 ml_L_13 cv_X8_ground rfl rfl (Nat.zero_le _) hb (by decide) (by decide +kernel) ?_
  refine rX8_ground (xR _) cx (fun r B' h1 hA cx1 fc => ?_)
  have mx1 := mx.fc fc
  have b91 : B95 h1 := fun j j0 j1 => by rw [fc 95 (by decide)]; exact b9 j j0 j1
  show SL l b L xs cu su 173 [none, some (vR 0), some (vR 75), some (vI i)] [vI r] G0 h1
  refine l_aload_n (x := 75) dL_law_173 rfl rfl (by decide) ?_
  refine l_get dL_law_174 dL_law_175 dL_law_176 dL_law_177 dL_law_178 rfl (by omega) (by omega) hL ?_
  refine l_callV (d := 20) (M' := MX9_ground) (As := [vI (xs (i + 1).toNat).toInt]) (a := 75) (st := [vI r]) dL_law_179 ml_L_17 cv_X9_ground rfl rfl (Nat.le_of_ble_eq_true rfl) hb (by decide) (by decide +kernel) ?_
  refine rX9_ground (xR _) mx1 hA (fun h2 mx2 fm => ?_)
  show SL l b L xs cu su 182 [none, some (vR 0), some (vR 75), some (vI i)] [vI r, vI r] G0 h2
  exact l_same dL_law_182 (tgt := 1021) (by decide) (nx h2 B' (cx1.md (fun b hb => fm b (.inl hb))) mx2 (fun j j0 j1 => by rw [fm 95 (.inr rfl)]; exact b91 j j0 j1))
theorem lc_1 (hL : L ≤ 2560) (hb : cu ≤ 600000 ∧ su ≤ 7302250) (i0 : 0 ≤ i) (i5 : i + 5 ≤ L) (cx : CX h B) (mx : MX h B) (b9 : B95 h) (nx : ∀ h' B', CX h' B' → MX h' B' → B95 h' → SL l b L xs cu su 1021 [none, some (vR 0), some (vR 75), some (vI i)] [] G0 h') : SL l b L xs cu su 187 [none, some (vR 0), some (vR 75), some (vI i)] [] G0 h := by
  refine l_aload_n (x := 0) dL_law_187 rfl rfl (by decide) ?_
  refine l_get dL_law_188 dL_law_189 dL_law_190 dL_law_191 dL_law_192 rfl (by omega) (by omega) hL ?_
  refine l_get dL_law_193 dL_law_194 dL_law_195 dL_law_196 dL_law_197 rfl (by omega) (by omega) hL ?_
  refine l_get dL_law_198 dL_law_199 dL_law_200 dL_law_201 dL_law_202 rfl (by omega) (by omega) hL ?_
  refine l_callV (d := 20) (M' := MX8_box) (As := [vI (xs (i + 1).toNat).toInt, vI (xs (i + 2).toNat).toInt, vI (xs (i + 3).toNat).toInt]) (a := 0) (st := []) dL_law_203 ml_L_18 cv_X8_box rfl rfl (Nat.zero_le _) hb (by decide) (by decide +kernel) ?_
  refine rX8_box (xR _) (xR _) (xR _) cx (fun r B' h1 hA cx1 fc => ?_)
  have mx1 := mx.fc fc
  have b91 : B95 h1 := fun j j0 j1 => by rw [fc 95 (by decide)]; exact b9 j j0 j1
  show SL l b L xs cu su 206 [none, some (vR 0), some (vR 75), some (vI i)] [vI r] G0 h1
  refine l_aload_n (x := 75) dL_law_206 rfl rfl (by decide) ?_
  refine l_get dL_law_207 dL_law_208 dL_law_209 dL_law_210 dL_law_211 rfl (by omega) (by omega) hL ?_
  refine l_get dL_law_212 dL_law_213 dL_law_214 dL_law_215 dL_law_216 rfl (by omega) (by omega) hL ?_
  refine l_get dL_law_217 dL_law_218 dL_law_219 dL_law_220 dL_law_221 rfl (by omega) (by omega) hL ?_
  refine l_callV (d := 20) (M' := MX9_box) (As := [vI (xs (i + 1).toNat).toInt, vI (xs (i + 2).toNat).toInt, vI (xs (i + 3).toNat).toInt]) (a := 75) (st := [vI r]) dL_law_222 ml_L_22 cv_X9_box rfl rfl (Nat.le_of_ble_eq_true rfl) hb (by decide) (by decide +kernel) ?_
  refine rX9_box (xR _) (xR _) (xR _) mx1 hA (fun h2 mx2 fm => ?_)
  show SL l b L xs cu su 225 [none, some (vR 0), some (vR 75), some (vI i)] [vI r, vI r] G0 h2
  exact l_same dL_law_225 (tgt := 1021) (by decide) (nx h2 B' (cx1.md (fun b hb => fm b (.inl hb))) mx2 (fun j j0 j1 => by rw [fm 95 (.inr rfl)]; exact b91 j j0 j1))
theorem lc_2 (hL : L ≤ 2560) (hb : cu ≤ 600000 ∧ su ≤ 7302250) (i0 : 0 ≤ i) (i5 : i + 5 ≤ L) (cx : CX h B) (mx : MX h B) (b9 : B95 h) (nx : ∀ h' B', CX h' B' → MX h' B' → B95 h' → SL l b L xs cu su 1021 [none, some (vR 0), some (vR 75), some (vI i)] [] G0 h') : SL l b L xs cu su 230 [none, some (vR 0), some (vR 75), some (vI i)] [] G0 h := by
  refine l_aload_n (x := 0) dL_law_230 rfl rfl (by decide) ?_
  refine l_get dL_law_231 dL_law_232 dL_law_233 dL_law_234 dL_law_235 rfl (by omega) (by omega) hL ?_
  refine l_get dL_law_236 dL_law_237 dL_law_238 dL_law_239 dL_law_240 rfl (by omega) (by omega) hL ?_
  refine l_get dL_law_241 dL_law_242 dL_law_243 dL_law_244 dL_law_245 rfl (by omega) (by omega) hL ?_
  refine l_callV (d := 20) (M' := MX8_tables) (As := [vI (xs (i + 1).toNat).toInt, vI (xs (i + 2).toNat).toInt, vI (xs (i + 3).toNat).toInt]) (a := 0) (st := []) dL_law_246 ml_L_23 cv_X8_tables rfl rfl (Nat.zero_le _) hb (by decide) (by decide +kernel) ?_
  refine rX8_tables (xR _) (xR _) (xR _) cx (fun r B' h1 hA cx1 fc => ?_)
  have mx1 := mx.fc fc
  have b91 : B95 h1 := fun j j0 j1 => by rw [fc 95 (by decide)]; exact b9 j j0 j1
  show SL l b L xs cu su 249 [none, some (vR 0), some (vR 75), some (vI i)] [vI r] G0 h1
  refine l_aload_n (x := 75) dL_law_249 rfl rfl (by decide) ?_
  refine l_get dL_law_250 dL_law_251 dL_law_252 dL_law_253 dL_law_254 rfl (by omega) (by omega) hL ?_
  refine l_get dL_law_255 dL_law_256 dL_law_257 dL_law_258 dL_law_259 rfl (by omega) (by omega) hL ?_
  refine l_get dL_law_260 dL_law_261 dL_law_262 dL_law_263 dL_law_264 rfl (by omega) (by omega) hL ?_
  refine l_callV (d := 20) (M' := MX9_tables) (As := [vI (xs (i + 1).toNat).toInt, vI (xs (i + 2).toNat).toInt, vI (xs (i + 3).toNat).toInt]) (a := 75) (st := [vI r]) dL_law_265 ml_L_26 cv_X9_tables rfl rfl (Nat.le_of_ble_eq_true rfl) hb (by decide) (by decide +kernel) ?_
  refine rX9_tables (xR _) (xR _) (xR _) cx.bw mx1 hA (fun h2 mx2 fm => ?_)
  show SL l b L xs cu su 268 [none, some (vR 0), some (vR 75), some (vI i)] [vI r, vI r] G0 h2
  exact l_same dL_law_268 (tgt := 1021) (by decide) (nx h2 B' (cx1.md (fun b hb => fm b (.inl hb))) mx2 (fun j j0 j1 => by rw [fm 95 (.inr rfl)]; exact b91 j j0 j1))
theorem lc_3 (hL : L ≤ 2560) (hb : cu ≤ 600000 ∧ su ≤ 7302250) (i0 : 0 ≤ i) (i5 : i + 5 ≤ L) (cx : CX h B) (mx : MX h B) (b9 : B95 h) (nx : ∀ h' B', CX h' B' → MX h' B' → B95 h' → SL l b L xs cu su 1021 [none, some (vR 0), some (vR 75), some (vI i)] [] G0 h') : SL l b L xs cu su 273 [none, some (vR 0), some (vR 75), some (vI i)] [] G0 h := by
  refine l_aload_n (x := 0) dL_law_273 rfl rfl (by decide) ?_
  refine l_get dL_law_274 dL_law_275 dL_law_276 dL_law_277 dL_law_278 rfl (by omega) (by omega) hL ?_
  refine l_get dL_law_279 dL_law_280 dL_law_281 dL_law_282 dL_law_283 rfl (by omega) (by omega) hL ?_
  refine l_get dL_law_284 dL_law_285 dL_law_286 dL_law_287 dL_law_288 rfl (by omega) (by omega) hL ?_
  refine l_callV (d := 20) (M' := MX8_rows) (As := [vI (xs (i + 1).toNat).toInt, vI (xs (i + 2).toNat).toInt, vI (xs (i + 3).toNat).toInt]) (a := 0) (st := []) dL_law_289 ml_L_27 cv_X8_rows rfl rfl (Nat.zero_le _) hb (by decide) (by decide +kernel) ?_
  refine rX8_rows (xR _) (xR _) (xR _) cx (fun r B' h1 hA cx1 fc => ?_)
  have mx1 := mx.fc fc
  have b91 : B95 h1 := fun j j0 j1 => by rw [fc 95 (by decide)]; exact b9 j j0 j1
  show SL l b L xs cu su 292 [none, some (vR 0), some (vR 75), some (vI i)] [vI r] G0 h1
  refine l_aload_n (x := 75) dL_law_292 rfl rfl (by decide) ?_
  refine l_get dL_law_293 dL_law_294 dL_law_295 dL_law_296 dL_law_297 rfl (by omega) (by omega) hL ?_
  refine l_get dL_law_298 dL_law_299 dL_law_300 dL_law_301 dL_law_302 rfl (by omega) (by omega) hL ?_
  refine l_get dL_law_303 dL_law_304 dL_law_305 dL_law_306 dL_law_307 rfl (by omega) (by omega) hL ?_
  refine l_callV (d := 20) (M' := MX9_rows) (As := [vI (xs (i + 1).toNat).toInt, vI (xs (i + 2).toNat).toInt, vI (xs (i + 3).toNat).toInt]) (a := 75) (st := [vI r]) dL_law_308 ml_L_30 cv_X9_rows rfl rfl (Nat.le_of_ble_eq_true rfl) hb (by decide) (by decide +kernel) ?_
  refine rX9_rows (xR _) (xR _) (xR _) cx.bw mx1 hA (fun h2 mx2 fm => ?_)
  show SL l b L xs cu su 311 [none, some (vR 0), some (vR 75), some (vI i)] [vI r, vI r] G0 h2
  exact l_same dL_law_311 (tgt := 1021) (by decide) (nx h2 B' (cx1.md (fun b hb => fm b (.inl hb))) mx2 (fun j j0 j1 => by rw [fm 95 (.inr rfl)]; exact b91 j j0 j1))
theorem lc_4 (hL : L ≤ 2560) (hb : cu ≤ 600000 ∧ su ≤ 7302250) (i0 : 0 ≤ i) (i5 : i + 5 ≤ L) (cx : CX h B) (mx : MX h B) (b9 : B95 h) (nx : ∀ h' B', CX h' B' → MX h' B' → B95 h' → SL l b L xs cu su 1021 [none, some (vR 0), some (vR 75), some (vI i)] [] G0 h') : SL l b L xs cu su 316 [none, some (vR 0), some (vR 75), some (vI i)] [] G0 h := by
  refine l_aload_n (x := 0) dL_law_316 rfl rfl (by decide) ?_
  refine l_get dL_law_317 dL_law_318 dL_law_319 dL_law_320 dL_law_321 rfl (by omega) (by omega) hL ?_
  refine l_get dL_law_322 dL_law_323 dL_law_324 dL_law_325 dL_law_326 rfl (by omega) (by omega) hL ?_
  refine l_get dL_law_327 dL_law_328 dL_law_329 dL_law_330 dL_law_331 rfl (by omega) (by omega) hL ?_
  refine l_get dL_law_332 dL_law_333 dL_law_334 dL_law_335 dL_law_336 rfl (by omega) (by omega) hL ?_
  refine l_callV (d := 20) (M' := MX8_set) (As := [vI (xs (i + 1).toNat).toInt, vI (xs (i + 2).toNat).toInt, vI (xs (i + 3).toNat).toInt, vI (xs (i + 4).toNat).toInt]) (a := 0) (st := []) dL_law_337 ml_L_31 cv_X8_set rfl rfl (Nat.zero_le _) hb (by decide) (by decide +kernel) ?_
  refine rX8_set (xR _) (xR _) (xR _) (xR _) cx (fun r B' h1 hA cx1 fc => ?_)
  have mx1 := mx.fc fc
  have b91 : B95 h1 := fun j j0 j1 => by rw [fc 95 (by decide)]; exact b9 j j0 j1
  show SL l b L xs cu su 340 [none, some (vR 0), some (vR 75), some (vI i)] [vI r] G0 h1
  refine l_aload_n (x := 75) dL_law_340 rfl rfl (by decide) ?_
  refine l_get dL_law_341 dL_law_342 dL_law_343 dL_law_344 dL_law_345 rfl (by omega) (by omega) hL ?_
  refine l_get dL_law_346 dL_law_347 dL_law_348 dL_law_349 dL_law_350 rfl (by omega) (by omega) hL ?_
  refine l_get dL_law_351 dL_law_352 dL_law_353 dL_law_354 dL_law_355 rfl (by omega) (by omega) hL ?_
  refine l_get dL_law_356 dL_law_357 dL_law_358 dL_law_359 dL_law_360 rfl (by omega) (by omega) hL ?_
  refine l_callV (d := 20) (M' := MX9_set) (As := [vI (xs (i + 1).toNat).toInt, vI (xs (i + 2).toNat).toInt, vI (xs (i + 3).toNat).toInt, vI (xs (i + 4).toNat).toInt]) (a := 75) (st := [vI r]) dL_law_361 ml_L_35 cv_X9_set rfl rfl (Nat.le_of_ble_eq_true rfl) hb (by decide) (by decide +kernel) ?_
  refine rX9_set (xR _) (xR _) (xR _) (xR _) cx.bw mx1 hA (fun h2 mx2 fm => ?_)
  show SL l b L xs cu su 364 [none, some (vR 0), some (vR 75), some (vI i)] [vI r, vI r] G0 h2
  exact l_same dL_law_364 (tgt := 1021) (by decide) (nx h2 B' (cx1.md (fun b hb => fm b (.inl hb))) mx2 (fun j j0 j1 => by rw [fm 95 (.inr rfl)]; exact b91 j j0 j1))
theorem lc_5 (hL : L ≤ 2560) (hb : cu ≤ 600000 ∧ su ≤ 7302250) (i0 : 0 ≤ i) (i5 : i + 5 ≤ L) (cx : CX h B) (mx : MX h B) (b9 : B95 h) (nx : ∀ h' B', CX h' B' → MX h' B' → B95 h' → SL l b L xs cu su 1021 [none, some (vR 0), some (vR 75), some (vI i)] [] G0 h') : SL l b L xs cu su 369 [none, some (vR 0), some (vR 75), some (vI i)] [] G0 h := by
  refine l_aload_n (x := 0) dL_law_369 rfl rfl (by decide) ?_
  refine l_get dL_law_370 dL_law_371 dL_law_372 dL_law_373 dL_law_374 rfl (by omega) (by omega) hL ?_
  refine l_get dL_law_375 dL_law_376 dL_law_377 dL_law_378 dL_law_379 rfl (by omega) (by omega) hL ?_
  refine l_get dL_law_380 dL_law_381 dL_law_382 dL_law_383 dL_law_384 rfl (by omega) (by omega) hL ?_
  refine l_callV (d := 20) (M' := MX8_at) (As := [vI (xs (i + 1).toNat).toInt, vI (xs (i + 2).toNat).toInt, vI (xs (i + 3).toNat).toInt]) (a := 0) (st := []) dL_law_385 ml_L_36 cv_X8_at rfl rfl (Nat.zero_le _) hb (by decide) (by decide +kernel) ?_
  refine rX8_at (xR _) (xR _) (xR _) cx (fun r B' h1 hA cx1 fc => ?_)
  have mx1 := mx.fc fc
  have b91 : B95 h1 := fun j j0 j1 => by rw [fc 95 (by decide)]; exact b9 j j0 j1
  show SL l b L xs cu su 388 [none, some (vR 0), some (vR 75), some (vI i)] [vI r] G0 h1
  refine l_aload_n (x := 75) dL_law_388 rfl rfl (by decide) ?_
  refine l_get dL_law_389 dL_law_390 dL_law_391 dL_law_392 dL_law_393 rfl (by omega) (by omega) hL ?_
  refine l_get dL_law_394 dL_law_395 dL_law_396 dL_law_397 dL_law_398 rfl (by omega) (by omega) hL ?_
  refine l_get dL_law_399 dL_law_400 dL_law_401 dL_law_402 dL_law_403 rfl (by omega) (by omega) hL ?_
  refine l_callV (d := 20) (M' := MX9_at) (As := [vI (xs (i + 1).toNat).toInt, vI (xs (i + 2).toNat).toInt, vI (xs (i + 3).toNat).toInt]) (a := 75) (st := [vI r]) dL_law_404 ml_L_39 cv_X9_at rfl rfl (Nat.le_of_ble_eq_true rfl) hb (by decide) (by decide +kernel) ?_
  refine rX9_at (xR _) (xR _) (xR _) cx.bw mx1 hA (fun h2 mx2 fm => ?_)
  show SL l b L xs cu su 407 [none, some (vR 0), some (vR 75), some (vI i)] [vI r, vI r] G0 h2
  exact l_same dL_law_407 (tgt := 1021) (by decide) (nx h2 B' (cx1.md (fun b hb => fm b (.inl hb))) mx2 (fun j j0 j1 => by rw [fm 95 (.inr rfl)]; exact b91 j j0 j1))
theorem lc_6 (hL : L ≤ 2560) (hb : cu ≤ 600000 ∧ su ≤ 7302250) (i0 : 0 ≤ i) (i5 : i + 5 ≤ L) (cx : CX h B) (mx : MX h B) (b9 : B95 h) (nx : ∀ h' B', CX h' B' → MX h' B' → B95 h' → SL l b L xs cu su 1021 [none, some (vR 0), some (vR 75), some (vI i)] [] G0 h') : SL l b L xs cu su 412 [none, some (vR 0), some (vR 75), some (vI i)] [] G0 h := by
  refine l_aload_n (x := 0) dL_law_412 rfl rfl (by decide) ?_
  refine l_get dL_law_413 dL_law_414 dL_law_415 dL_law_416 dL_law_417 rfl (by omega) (by omega) hL ?_
  refine l_callV (d := 20) (M' := MX8_many) (As := [vI (xs (i + 1).toNat).toInt]) (a := 0) (st := []) dL_law_418 ml_L_40 cv_X8_many rfl rfl (Nat.zero_le _) hb (by decide) (by decide +kernel) ?_
  refine rX8_many (xR _) cx (fun r B' h1 hA cx1 fc => ?_)
  have mx1 := mx.fc fc
  have b91 : B95 h1 := fun j j0 j1 => by rw [fc 95 (by decide)]; exact b9 j j0 j1
  show SL l b L xs cu su 421 [none, some (vR 0), some (vR 75), some (vI i)] [vI r] G0 h1
  refine l_aload_n (x := 75) dL_law_421 rfl rfl (by decide) ?_
  refine l_get dL_law_422 dL_law_423 dL_law_424 dL_law_425 dL_law_426 rfl (by omega) (by omega) hL ?_
  refine l_callV (d := 20) (M' := MX9_many) (As := [vI (xs (i + 1).toNat).toInt]) (a := 75) (st := [vI r]) dL_law_427 ml_L_43 cv_X9_many rfl rfl (Nat.le_of_ble_eq_true rfl) hb (by decide) (by decide +kernel) ?_
  refine rX9_many (xR _) cx.bw mx1 hA (fun h2 mx2 fm => ?_)
  show SL l b L xs cu su 430 [none, some (vR 0), some (vR 75), some (vI i)] [vI r, vI r] G0 h2
  exact l_same dL_law_430 (tgt := 1021) (by decide) (nx h2 B' (cx1.md (fun b hb => fm b (.inl hb))) mx2 (fun j j0 j1 => by rw [fm 95 (.inr rfl)]; exact b91 j j0 j1))
theorem lc_7 (hL : L ≤ 2560) (hb : cu ≤ 600000 ∧ su ≤ 7302250) (i0 : 0 ≤ i) (i5 : i + 5 ≤ L) (cx : CX h B) (mx : MX h B) (b9 : B95 h) (nx : ∀ h' B', CX h' B' → MX h' B' → B95 h' → SL l b L xs cu su 1021 [none, some (vR 0), some (vR 75), some (vI i)] [] G0 h') : SL l b L xs cu su 435 [none, some (vR 0), some (vR 75), some (vI i)] [] G0 h := by
  refine l_aload_n (x := 0) dL_law_435 rfl rfl (by decide) ?_
  refine l_get dL_law_436 dL_law_437 dL_law_438 dL_law_439 dL_law_440 rfl (by omega) (by omega) hL ?_
  refine l_get dL_law_441 dL_law_442 dL_law_443 dL_law_444 dL_law_445 rfl (by omega) (by omega) hL ?_
  refine l_get dL_law_446 dL_law_447 dL_law_448 dL_law_449 dL_law_450 rfl (by omega) (by omega) hL ?_
  refine l_callV (d := 20) (M' := MX8_time) (As := [vI (xs (i + 1).toNat).toInt, vI (xs (i + 2).toNat).toInt, vI (xs (i + 3).toNat).toInt]) (a := 0) (st := []) dL_law_451 ml_L_44 cv_X8_time rfl rfl (Nat.zero_le _) hb (by decide) (by decide +kernel) ?_
  refine rX8_time (xR _) (xR _) (xR _) cx (fun r B' h1 hA cx1 fc => ?_)
  have mx1 := mx.fc fc
  have b91 : B95 h1 := fun j j0 j1 => by rw [fc 95 (by decide)]; exact b9 j j0 j1
  show SL l b L xs cu su 454 [none, some (vR 0), some (vR 75), some (vI i)] [vI r] G0 h1
  refine l_aload_n (x := 75) dL_law_454 rfl rfl (by decide) ?_
  refine l_get dL_law_455 dL_law_456 dL_law_457 dL_law_458 dL_law_459 rfl (by omega) (by omega) hL ?_
  refine l_get dL_law_460 dL_law_461 dL_law_462 dL_law_463 dL_law_464 rfl (by omega) (by omega) hL ?_
  refine l_get dL_law_465 dL_law_466 dL_law_467 dL_law_468 dL_law_469 rfl (by omega) (by omega) hL ?_
  refine l_callV (d := 20) (M' := MX9_time) (As := [vI (xs (i + 1).toNat).toInt, vI (xs (i + 2).toNat).toInt, vI (xs (i + 3).toNat).toInt]) (a := 75) (st := [vI r]) dL_law_470 ml_L_47 cv_X9_time rfl rfl (Nat.le_of_ble_eq_true rfl) hb (by decide) (by decide +kernel) ?_
  refine rX9_time (xR _) (xR _) (xR _) cx.bw mx1 hA (fun h2 mx2 fm => ?_)
  show SL l b L xs cu su 473 [none, some (vR 0), some (vR 75), some (vI i)] [vI r, vI r] G0 h2
  exact l_same dL_law_473 (tgt := 1021) (by decide) (nx h2 B' (cx1.md (fun b hb => fm b (.inl hb))) mx2 (fun j j0 j1 => by rw [fm 95 (.inr rfl)]; exact b91 j j0 j1))
theorem lc_8 (hL : L ≤ 2560) (hb : cu ≤ 600000 ∧ su ≤ 7302250) (i0 : 0 ≤ i) (i5 : i + 5 ≤ L) (cx : CX h B) (mx : MX h B) (b9 : B95 h) (nx : ∀ h' B', CX h' B' → MX h' B' → B95 h' → SL l b L xs cu su 1021 [none, some (vR 0), some (vR 75), some (vI i)] [] G0 h') : SL l b L xs cu su 478 [none, some (vR 0), some (vR 75), some (vI i)] [] G0 h := by
  refine l_aload_n (x := 0) dL_law_478 rfl rfl (by decide) ?_
  refine l_get dL_law_479 dL_law_480 dL_law_481 dL_law_482 dL_law_483 rfl (by omega) (by omega) hL ?_
  refine l_get dL_law_484 dL_law_485 dL_law_486 dL_law_487 dL_law_488 rfl (by omega) (by omega) hL ?_
  refine l_callV (d := 20) (M' := MX8_row) (As := [vI (xs (i + 1).toNat).toInt, vI (xs (i + 2).toNat).toInt]) (a := 0) (st := []) dL_law_489 ml_L_48 cv_X8_row rfl rfl (Nat.zero_le _) hb (by decide) (by decide +kernel) ?_
  refine rX8_row (xR _) (xR _) cx (fun r B' h1 hA cx1 fc => ?_)
  have mx1 := mx.fc fc
  have b91 : B95 h1 := fun j j0 j1 => by rw [fc 95 (by decide)]; exact b9 j j0 j1
  show SL l b L xs cu su 492 [none, some (vR 0), some (vR 75), some (vI i)] [vI r] G0 h1
  refine l_aload_n (x := 75) dL_law_492 rfl rfl (by decide) ?_
  refine l_get dL_law_493 dL_law_494 dL_law_495 dL_law_496 dL_law_497 rfl (by omega) (by omega) hL ?_
  refine l_get dL_law_498 dL_law_499 dL_law_500 dL_law_501 dL_law_502 rfl (by omega) (by omega) hL ?_
  refine l_callV (d := 20) (M' := MX9_row) (As := [vI (xs (i + 1).toNat).toInt, vI (xs (i + 2).toNat).toInt]) (a := 75) (st := [vI r]) dL_law_503 ml_L_52 cv_X9_row rfl rfl (Nat.le_of_ble_eq_true rfl) hb (by decide) (by decide +kernel) ?_
  refine rX9_row (xR _) (xR _) cx.bw mx1 hA (fun h2 mx2 fm => ?_)
  show SL l b L xs cu su 506 [none, some (vR 0), some (vR 75), some (vI i)] [vI r, vI r] G0 h2
  exact l_same dL_law_506 (tgt := 1021) (by decide) (nx h2 B' (cx1.md (fun b hb => fm b (.inl hb))) mx2 (fun j j0 j1 => by rw [fm 95 (.inr rfl)]; exact b91 j j0 j1))
theorem lc_9 (hL : L ≤ 2560) (hb : cu ≤ 600000 ∧ su ≤ 7302250) (i0 : 0 ≤ i) (i5 : i + 5 ≤ L) (cx : CX h B) (mx : MX h B) (b9 : B95 h) (nx : ∀ h' B', CX h' B' → MX h' B' → B95 h' → SL l b L xs cu su 1021 [none, some (vR 0), some (vR 75), some (vI i)] [] G0 h') : SL l b L xs cu su 511 [none, some (vR 0), some (vR 75), some (vI i)] [] G0 h := by
  refine l_aload_n (x := 0) dL_law_511 rfl rfl (by decide) ?_
  refine l_get dL_law_512 dL_law_513 dL_law_514 dL_law_515 dL_law_516 rfl (by omega) (by omega) hL ?_
  refine l_get dL_law_517 dL_law_518 dL_law_519 dL_law_520 dL_law_521 rfl (by omega) (by omega) hL ?_
  refine l_get dL_law_522 dL_law_523 dL_law_524 dL_law_525 dL_law_526 rfl (by omega) (by omega) hL ?_
  refine l_callV (d := 20) (M' := MX8_change) (As := [vI (xs (i + 1).toNat).toInt, vI (xs (i + 2).toNat).toInt, vI (xs (i + 3).toNat).toInt]) (a := 0) (st := []) dL_law_527 ml_L_53 cv_X8_change rfl rfl (Nat.zero_le _) hb (by decide) (by decide +kernel) ?_
  refine rX8_change (xR _) (xR _) (xR _) cx (fun r B' h1 hA cx1 fc => ?_)
  have mx1 := mx.fc fc
  have b91 : B95 h1 := fun j j0 j1 => by rw [fc 95 (by decide)]; exact b9 j j0 j1
  show SL l b L xs cu su 530 [none, some (vR 0), some (vR 75), some (vI i)] [vI r] G0 h1
  refine l_aload_n (x := 75) dL_law_530 rfl rfl (by decide) ?_
  refine l_get dL_law_531 dL_law_532 dL_law_533 dL_law_534 dL_law_535 rfl (by omega) (by omega) hL ?_
  refine l_get dL_law_536 dL_law_537 dL_law_538 dL_law_539 dL_law_540 rfl (by omega) (by omega) hL ?_
  refine l_get dL_law_541 dL_law_542 dL_law_543 dL_law_544 dL_law_545 rfl (by omega) (by omega) hL ?_
  refine l_callV (d := 20) (M' := MX9_change) (As := [vI (xs (i + 1).toNat).toInt, vI (xs (i + 2).toNat).toInt, vI (xs (i + 3).toNat).toInt]) (a := 75) (st := [vI r]) dL_law_546 ml_L_56 cv_X9_change rfl rfl (Nat.le_of_ble_eq_true rfl) hb (by decide) (by decide +kernel) ?_
  refine rX9_change (xR _) (xR _) (xR _) cx.bw mx1 hA (fun h2 mx2 fm => ?_)
  show SL l b L xs cu su 549 [none, some (vR 0), some (vR 75), some (vI i)] [vI r, vI r] G0 h2
  exact l_same dL_law_549 (tgt := 1021) (by decide) (nx h2 B' (cx1.md (fun b hb => fm b (.inl hb))) mx2 (fun j j0 j1 => by rw [fm 95 (.inr rfl)]; exact b91 j j0 j1))
theorem lc_10 (hL : L ≤ 2560) (hb : cu ≤ 600000 ∧ su ≤ 7302250) (i0 : 0 ≤ i) (i5 : i + 5 ≤ L) (cx : CX h B) (mx : MX h B) (b9 : B95 h) (nx : ∀ h' B', CX h' B' → MX h' B' → B95 h' → SL l b L xs cu su 1021 [none, some (vR 0), some (vR 75), some (vI i)] [] G0 h') : SL l b L xs cu su 554 [none, some (vR 0), some (vR 75), some (vI i)] [] G0 h := by
  refine l_aload_n (x := 0) dL_law_554 rfl rfl (by decide) ?_
  refine l_get dL_law_555 dL_law_556 dL_law_557 dL_law_558 dL_law_559 rfl (by omega) (by omega) hL ?_
  refine l_callV (d := 20) (M' := MX8_drop) (As := [vI (xs (i + 1).toNat).toInt]) (a := 0) (st := []) dL_law_560 ml_L_57 cv_X8_drop rfl rfl (Nat.zero_le _) hb (by decide) (by decide +kernel) ?_
  refine rX8_drop (xR _) cx (fun r B' h1 hA cx1 fc => ?_)
  have mx1 := mx.fc fc
  have b91 : B95 h1 := fun j j0 j1 => by rw [fc 95 (by decide)]; exact b9 j j0 j1
  show SL l b L xs cu su 563 [none, some (vR 0), some (vR 75), some (vI i)] [vI r] G0 h1
  refine l_aload_n (x := 75) dL_law_563 rfl rfl (by decide) ?_
  refine l_get dL_law_564 dL_law_565 dL_law_566 dL_law_567 dL_law_568 rfl (by omega) (by omega) hL ?_
  refine l_callV (d := 20) (M' := MX9_drop) (As := [vI (xs (i + 1).toNat).toInt]) (a := 75) (st := [vI r]) dL_law_569 ml_L_60 cv_X9_drop rfl rfl (Nat.le_of_ble_eq_true rfl) hb (by decide) (by decide +kernel) ?_
  refine rX9_drop (xR _) cx.bw mx1 hA (fun h2 mx2 fm => ?_)
  show SL l b L xs cu su 572 [none, some (vR 0), some (vR 75), some (vI i)] [vI r, vI r] G0 h2
  exact l_same dL_law_572 (tgt := 1021) (by decide) (nx h2 B' (cx1.md (fun b hb => fm b (.inl hb))) mx2 (fun j j0 j1 => by rw [fm 95 (.inr rfl)]; exact b91 j j0 j1))
theorem lc_11 (hL : L ≤ 2560) (hb : cu ≤ 600000 ∧ su ≤ 7302250) (i0 : 0 ≤ i) (i5 : i + 5 ≤ L) (cx : CX h B) (mx : MX h B) (b9 : B95 h) (nx : ∀ h' B', CX h' B' → MX h' B' → B95 h' → SL l b L xs cu su 1021 [none, some (vR 0), some (vR 75), some (vI i)] [] G0 h') : SL l b L xs cu su 577 [none, some (vR 0), some (vR 75), some (vI i)] [] G0 h := by
  refine l_aload_n (x := 0) dL_law_577 rfl rfl (by decide) ?_
  refine l_callV (d := 20) (M' := MX8_plain) (As := []) (a := 0) (st := []) dL_law_578 ml_L_61 cv_X8_plain rfl rfl (Nat.zero_le _) hb (by decide) (by decide +kernel) ?_
  refine rX8_plain  cx (fun r B' h1 hA cx1 fc => ?_)
  have mx1 := mx.fc fc
  have b91 : B95 h1 := fun j j0 j1 => by rw [fc 95 (by decide)]; exact b9 j j0 j1
  show SL l b L xs cu su 581 [none, some (vR 0), some (vR 75), some (vI i)] [vI r] G0 h1
  refine l_aload_n (x := 75) dL_law_581 rfl rfl (by decide) ?_
  refine l_callV (d := 20) (M' := MX9_plain) (As := []) (a := 75) (st := [vI r]) dL_law_582 ml_L_65 cv_X9_plain rfl rfl (Nat.le_of_ble_eq_true rfl) hb (by decide) (by decide +kernel) ?_
  refine rX9_plain  cx.bw mx1 hA (fun h2 mx2 fm => ?_)
  show SL l b L xs cu su 585 [none, some (vR 0), some (vR 75), some (vI i)] [vI r, vI r] G0 h2
  exact l_same dL_law_585 (tgt := 1021) (by decide) (nx h2 B' (cx1.md (fun b hb => fm b (.inl hb))) mx2 (fun j j0 j1 => by rw [fm 95 (.inr rfl)]; exact b91 j j0 j1))
theorem lc_12 (hL : L ≤ 2560) (hb : cu ≤ 600000 ∧ su ≤ 7302250) (i0 : 0 ≤ i) (i5 : i + 5 ≤ L) (cx : CX h B) (mx : MX h B) (b9 : B95 h) (nx : ∀ h' B', CX h' B' → MX h' B' → B95 h' → SL l b L xs cu su 1021 [none, some (vR 0), some (vR 75), some (vI i)] [] G0 h') : SL l b L xs cu su 590 [none, some (vR 0), some (vR 75), some (vI i)] [] G0 h := by
  refine l_aload_n (x := 0) dL_law_590 rfl rfl (by decide) ?_
  refine l_callV (d := 20) (M' := MX8_makes) (As := []) (a := 0) (st := []) dL_law_591 ml_L_66 cv_X8_makes rfl rfl (Nat.zero_le _) hb (by decide) (by decide +kernel) ?_
  refine rX8_makes  cx (fun r B' h1 hA cx1 fc => ?_)
  have mx1 := mx.fc fc
  have b91 : B95 h1 := fun j j0 j1 => by rw [fc 95 (by decide)]; exact b9 j j0 j1
  show SL l b L xs cu su 594 [none, some (vR 0), some (vR 75), some (vI i)] [vI r] G0 h1
  refine l_aload_n (x := 75) dL_law_594 rfl rfl (by decide) ?_
  refine l_callV (d := 20) (M' := MX9_makes) (As := []) (a := 75) (st := [vI r]) dL_law_595 ml_L_70 cv_X9_makes rfl rfl (Nat.le_of_ble_eq_true rfl) hb (by decide) (by decide +kernel) ?_
  refine rX9_makes  cx.bw mx1 hA (fun h2 mx2 fm => ?_)
  show SL l b L xs cu su 598 [none, some (vR 0), some (vR 75), some (vI i)] [vI r, vI r] G0 h2
  exact l_same dL_law_598 (tgt := 1021) (by decide) (nx h2 B' (cx1.md (fun b hb => fm b (.inl hb))) mx2 (fun j j0 j1 => by rw [fm 95 (.inr rfl)]; exact b91 j j0 j1))
theorem lc_13 (hL : L ≤ 2560) (hb : cu ≤ 600000 ∧ su ≤ 7302250) (i0 : 0 ≤ i) (i5 : i + 5 ≤ L) (cx : CX h B) (mx : MX h B) (b9 : B95 h) (nx : ∀ h' B', CX h' B' → MX h' B' → B95 h' → SL l b L xs cu su 1021 [none, some (vR 0), some (vR 75), some (vI i)] [] G0 h') : SL l b L xs cu su 603 [none, some (vR 0), some (vR 75), some (vI i)] [] G0 h := by
  refine l_aload_n (x := 0) dL_law_603 rfl rfl (by decide) ?_
  refine l_get dL_law_604 dL_law_605 dL_law_606 dL_law_607 dL_law_608 rfl (by omega) (by omega) hL ?_
  refine l_callV (d := 20) (M' := MX8_off) (As := [vI (xs (i + 1).toNat).toInt]) (a := 0) (st := []) dL_law_609 ml_L_71 cv_X8_off rfl rfl (Nat.zero_le _) hb (by decide) (by decide +kernel) ?_
  refine rX8_off (xR _) cx (fun r B' h1 hA cx1 fc => ?_)
  have mx1 := mx.fc fc
  have b91 : B95 h1 := fun j j0 j1 => by rw [fc 95 (by decide)]; exact b9 j j0 j1
  show SL l b L xs cu su 612 [none, some (vR 0), some (vR 75), some (vI i)] [vI r] G0 h1
  refine l_aload_n (x := 75) dL_law_612 rfl rfl (by decide) ?_
  refine l_get dL_law_613 dL_law_614 dL_law_615 dL_law_616 dL_law_617 rfl (by omega) (by omega) hL ?_
  refine l_callV (d := 20) (M' := MX9_off) (As := [vI (xs (i + 1).toNat).toInt]) (a := 75) (st := [vI r]) dL_law_618 ml_L_74 cv_X9_off rfl rfl (Nat.le_of_ble_eq_true rfl) hb (by decide) (by decide +kernel) ?_
  refine rX9_off (xR _) cx.bw mx1 hA (fun h2 mx2 fm => ?_)
  show SL l b L xs cu su 621 [none, some (vR 0), some (vR 75), some (vI i)] [vI r, vI r] G0 h2
  exact l_same dL_law_621 (tgt := 1021) (by decide) (nx h2 B' (cx1.md (fun b hb => fm b (.inl hb))) mx2 (fun j j0 j1 => by rw [fm 95 (.inr rfl)]; exact b91 j j0 j1))
theorem lc_14 (hL : L ≤ 2560) (hb : cu ≤ 600000 ∧ su ≤ 7302250) (i0 : 0 ≤ i) (i5 : i + 5 ≤ L) (cx : CX h B) (mx : MX h B) (b9 : B95 h) (nx : ∀ h' B', CX h' B' → MX h' B' → B95 h' → SL l b L xs cu su 1021 [none, some (vR 0), some (vR 75), some (vI i)] [] G0 h') : SL l b L xs cu su 626 [none, some (vR 0), some (vR 75), some (vI i)] [] G0 h := by
  refine l_aload_n (x := 0) dL_law_626 rfl rfl (by decide) ?_
  refine l_callV (d := 20) (M' := MX8_less) (As := []) (a := 0) (st := []) dL_law_627 ml_L_75 cv_X8_less rfl rfl (Nat.zero_le _) hb (by decide) (by decide +kernel) ?_
  refine rX8_less  cx (fun r B' h1 hA cx1 fc => ?_)
  have mx1 := mx.fc fc
  have b91 : B95 h1 := fun j j0 j1 => by rw [fc 95 (by decide)]; exact b9 j j0 j1
  show SL l b L xs cu su 630 [none, some (vR 0), some (vR 75), some (vI i)] [vI r] G0 h1
  refine l_aload_n (x := 75) dL_law_630 rfl rfl (by decide) ?_
  refine l_callV (d := 20) (M' := MX9_less) (As := []) (a := 75) (st := [vI r]) dL_law_631 ml_L_78 cv_X9_less rfl rfl (Nat.le_of_ble_eq_true rfl) hb (by decide) (by decide +kernel) ?_
  refine rX9_less  cx.bw mx1 hA (fun h2 mx2 fm => ?_)
  show SL l b L xs cu su 634 [none, some (vR 0), some (vR 75), some (vI i)] [vI r, vI r] G0 h2
  exact l_same dL_law_634 (tgt := 1021) (by decide) (nx h2 B' (cx1.md (fun b hb => fm b (.inl hb))) mx2 (fun j j0 j1 => by rw [fm 95 (.inr rfl)]; exact b91 j j0 j1))
theorem lc_15 (hL : L ≤ 2560) (hb : cu ≤ 600000 ∧ su ≤ 7302250) (i0 : 0 ≤ i) (i5 : i + 5 ≤ L) (cx : CX h B) (mx : MX h B) (b9 : B95 h) (nx : ∀ h' B', CX h' B' → MX h' B' → B95 h' → SL l b L xs cu su 1021 [none, some (vR 0), some (vR 75), some (vI i)] [] G0 h') : SL l b L xs cu su 639 [none, some (vR 0), some (vR 75), some (vI i)] [] G0 h := by
  refine l_aload_n (x := 0) dL_law_639 rfl rfl (by decide) ?_
  refine l_get dL_law_640 dL_law_641 dL_law_642 dL_law_643 dL_law_644 rfl (by omega) (by omega) hL ?_
  refine l_get dL_law_645 dL_law_646 dL_law_647 dL_law_648 dL_law_649 rfl (by omega) (by omega) hL ?_
  refine l_get dL_law_650 dL_law_651 dL_law_652 dL_law_653 dL_law_654 rfl (by omega) (by omega) hL ?_
  refine l_callV (d := 20) (M' := MX8_move) (As := [vI (xs (i + 1).toNat).toInt, vI (xs (i + 2).toNat).toInt, vI (xs (i + 3).toNat).toInt]) (a := 0) (st := []) dL_law_655 ml_L_79 cv_X8_move rfl rfl (Nat.zero_le _) hb (by decide) (by decide +kernel) ?_
  refine rX8_move (xR _) (xR _) (xR _) cx (fun r B' h1 hA cx1 fc => ?_)
  have mx1 := mx.fc fc
  have b91 : B95 h1 := fun j j0 j1 => by rw [fc 95 (by decide)]; exact b9 j j0 j1
  show SL l b L xs cu su 658 [none, some (vR 0), some (vR 75), some (vI i)] [vI r] G0 h1
  refine l_aload_n (x := 75) dL_law_658 rfl rfl (by decide) ?_
  refine l_get dL_law_659 dL_law_660 dL_law_661 dL_law_662 dL_law_663 rfl (by omega) (by omega) hL ?_
  refine l_get dL_law_664 dL_law_665 dL_law_666 dL_law_667 dL_law_668 rfl (by omega) (by omega) hL ?_
  refine l_get dL_law_669 dL_law_670 dL_law_671 dL_law_672 dL_law_673 rfl (by omega) (by omega) hL ?_
  refine l_callV (d := 20) (M' := MX9_move) (As := [vI (xs (i + 1).toNat).toInt, vI (xs (i + 2).toNat).toInt, vI (xs (i + 3).toNat).toInt]) (a := 75) (st := [vI r]) dL_law_674 ml_L_82 cv_X9_move rfl rfl (Nat.le_of_ble_eq_true rfl) hb (by decide) (by decide +kernel) ?_
  refine rX9_move (xR _) (xR _) (xR _) cx.bw mx1 hA (fun h2 mx2 fm => ?_)
  show SL l b L xs cu su 677 [none, some (vR 0), some (vR 75), some (vI i)] [vI r, vI r] G0 h2
  exact l_same dL_law_677 (tgt := 1021) (by decide) (nx h2 B' (cx1.md (fun b hb => fm b (.inl hb))) mx2 (fun j j0 j1 => by rw [fm 95 (.inr rfl)]; exact b91 j j0 j1))
theorem lc_16 (hL : L ≤ 2560) (hb : cu ≤ 600000 ∧ su ≤ 7302250) (i0 : 0 ≤ i) (i5 : i + 5 ≤ L) (cx : CX h B) (mx : MX h B) (b9 : B95 h) (nx : ∀ h' B', CX h' B' → MX h' B' → B95 h' → SL l b L xs cu su 1021 [none, some (vR 0), some (vR 75), some (vI i)] [] G0 h') : SL l b L xs cu su 682 [none, some (vR 0), some (vR 75), some (vI i)] [] G0 h := by
  refine l_aload_n (x := 0) dL_law_682 rfl rfl (by decide) ?_
  refine l_get dL_law_683 dL_law_684 dL_law_685 dL_law_686 dL_law_687 rfl (by omega) (by omega) hL ?_
  refine l_get dL_law_688 dL_law_689 dL_law_690 dL_law_691 dL_law_692 rfl (by omega) (by omega) hL ?_
  refine l_callV (d := 20) (M' := MX8_walk) (As := [vI (xs (i + 1).toNat).toInt, vI (xs (i + 2).toNat).toInt]) (a := 0) (st := []) dL_law_693 ml_L_83 cv_X8_walk rfl rfl (Nat.zero_le _) hb (by decide) (by decide +kernel) ?_
  refine rX8_walk (xR _) cx (fun r B' h1 hA cx1 fc => ?_)
  have mx1 := mx.fc fc
  have b91 : B95 h1 := fun j j0 j1 => by rw [fc 95 (by decide)]; exact b9 j j0 j1
  show SL l b L xs cu su 696 [none, some (vR 0), some (vR 75), some (vI i)] [vI r] G0 h1
  refine l_aload_n (x := 75) dL_law_696 rfl rfl (by decide) ?_
  refine l_get dL_law_697 dL_law_698 dL_law_699 dL_law_700 dL_law_701 rfl (by omega) (by omega) hL ?_
  refine l_get dL_law_702 dL_law_703 dL_law_704 dL_law_705 dL_law_706 rfl (by omega) (by omega) hL ?_
  refine l_callV (d := 20) (M' := MX9_walk) (As := [vI (xs (i + 1).toNat).toInt, vI (xs (i + 2).toNat).toInt]) (a := 75) (st := [vI r]) dL_law_707 ml_L_86 cv_X9_walk rfl rfl (Nat.le_of_ble_eq_true rfl) hb (by decide) (by decide +kernel) ?_
  refine rX9_walk (xR _) cx.bw mx1 hA (fun h2 mx2 fm => ?_)
  show SL l b L xs cu su 710 [none, some (vR 0), some (vR 75), some (vI i)] [vI r, vI r] G0 h2
  exact l_same dL_law_710 (tgt := 1021) (by decide) (nx h2 B' (cx1.md (fun b hb => fm b (.inl hb))) mx2 (fun j j0 j1 => by rw [fm 95 (.inr rfl)]; exact b91 j j0 j1))
theorem lc_17 (hL : L ≤ 2560) (hb : cu ≤ 600000 ∧ su ≤ 7302250) (i0 : 0 ≤ i) (i5 : i + 5 ≤ L) (cx : CX h B) (mx : MX h B) (b9 : B95 h) (nx : ∀ h' B', CX h' B' → MX h' B' → B95 h' → SL l b L xs cu su 1021 [none, some (vR 0), some (vR 75), some (vI i)] [] G0 h') : SL l b L xs cu su 715 [none, some (vR 0), some (vR 75), some (vI i)] [] G0 h := by
  refine l_aload_n (x := 0) dL_law_715 rfl rfl (by decide) ?_
  refine l_callV (d := 20) (M' := MX8_around) (As := []) (a := 0) (st := []) dL_law_716 ml_L_87 cv_X8_around rfl rfl (Nat.zero_le _) hb (by decide) (by decide +kernel) ?_
  refine rX8_around  cx (fun r B' h1 hA cx1 fc => ?_)
  have mx1 := mx.fc fc
  have b91 : B95 h1 := fun j j0 j1 => by rw [fc 95 (by decide)]; exact b9 j j0 j1
  show SL l b L xs cu su 719 [none, some (vR 0), some (vR 75), some (vI i)] [vI r] G0 h1
  refine l_aload_n (x := 75) dL_law_719 rfl rfl (by decide) ?_
  refine l_callV (d := 20) (M' := MX9_around) (As := []) (a := 75) (st := [vI r]) dL_law_720 ml_L_90 cv_X9_around rfl rfl (Nat.le_of_ble_eq_true rfl) hb (by decide) (by decide +kernel) ?_
  refine rX9_around  cx.bw mx1 hA (fun h2 mx2 fm => ?_)
  show SL l b L xs cu su 723 [none, some (vR 0), some (vR 75), some (vI i)] [vI r, vI r] G0 h2
  exact l_same dL_law_723 (tgt := 1021) (by decide) (nx h2 B' (cx1.md (fun b hb => fm b (.inl hb))) mx2 (fun j j0 j1 => by rw [fm 95 (.inr rfl)]; exact b91 j j0 j1))
theorem lc_18 (hL : L ≤ 2560) (hb : cu ≤ 600000 ∧ su ≤ 7302250) (i0 : 0 ≤ i) (i5 : i + 5 ≤ L) (cx : CX h B) (mx : MX h B) (b9 : B95 h) (nx : ∀ h' B', CX h' B' → MX h' B' → B95 h' → SL l b L xs cu su 1021 [none, some (vR 0), some (vR 75), some (vI i)] [] G0 h') : SL l b L xs cu su 728 [none, some (vR 0), some (vR 75), some (vI i)] [] G0 h := by
  refine l_aload_n (x := 0) dL_law_728 rfl rfl (by decide) ?_
  refine l_get dL_law_729 dL_law_730 dL_law_731 dL_law_732 dL_law_733 rfl (by omega) (by omega) hL ?_
  refine l_get dL_law_734 dL_law_735 dL_law_736 dL_law_737 dL_law_738 rfl (by omega) (by omega) hL ?_
  refine l_get dL_law_739 dL_law_740 dL_law_741 dL_law_742 dL_law_743 rfl (by omega) (by omega) hL ?_
  refine l_get dL_law_744 dL_law_745 dL_law_746 dL_law_747 dL_law_748 rfl (by omega) (by omega) hL ?_
  refine l_callV (d := 20) (M' := MX8_turn) (As := [vI (xs (i + 1).toNat).toInt, vI (xs (i + 2).toNat).toInt, vI (xs (i + 3).toNat).toInt, vI (xs (i + 4).toNat).toInt]) (a := 0) (st := []) dL_law_749 ml_L_91 cv_X8_turn rfl rfl (Nat.zero_le _) hb (by decide) (by decide +kernel) ?_
  refine rX8_turn (xR _) (xR _) (xR _) (xR _) cx (fun r B' h1 hA cx1 fc => ?_)
  have mx1 := mx.fc fc
  have b91 : B95 h1 := fun j j0 j1 => by rw [fc 95 (by decide)]; exact b9 j j0 j1
  show SL l b L xs cu su 752 [none, some (vR 0), some (vR 75), some (vI i)] [vI r] G0 h1
  refine l_aload_n (x := 75) dL_law_752 rfl rfl (by decide) ?_
  refine l_get dL_law_753 dL_law_754 dL_law_755 dL_law_756 dL_law_757 rfl (by omega) (by omega) hL ?_
  refine l_get dL_law_758 dL_law_759 dL_law_760 dL_law_761 dL_law_762 rfl (by omega) (by omega) hL ?_
  refine l_get dL_law_763 dL_law_764 dL_law_765 dL_law_766 dL_law_767 rfl (by omega) (by omega) hL ?_
  refine l_get dL_law_768 dL_law_769 dL_law_770 dL_law_771 dL_law_772 rfl (by omega) (by omega) hL ?_
  refine l_callV (d := 20) (M' := MX9_turn) (As := [vI (xs (i + 1).toNat).toInt, vI (xs (i + 2).toNat).toInt, vI (xs (i + 3).toNat).toInt, vI (xs (i + 4).toNat).toInt]) (a := 75) (st := [vI r]) dL_law_773 ml_L_94 cv_X9_turn rfl rfl (Nat.le_of_ble_eq_true rfl) hb (by decide) (by decide +kernel) ?_
  refine rX9_turn (xR _) (xR _) (xR _) (xR _) cx.bw mx1 hA (fun h2 mx2 fm => ?_)
  show SL l b L xs cu su 776 [none, some (vR 0), some (vR 75), some (vI i)] [vI r, vI r] G0 h2
  exact l_same dL_law_776 (tgt := 1021) (by decide) (nx h2 B' (cx1.md (fun b hb => fm b (.inl hb))) mx2 (fun j j0 j1 => by rw [fm 95 (.inr rfl)]; exact b91 j j0 j1))
theorem lc_19 (hL : L ≤ 2560) (hb : cu ≤ 600000 ∧ su ≤ 7302250) (i0 : 0 ≤ i) (i5 : i + 5 ≤ L) (cx : CX h B) (mx : MX h B) (b9 : B95 h) (nx : ∀ h' B', CX h' B' → MX h' B' → B95 h' → SL l b L xs cu su 1021 [none, some (vR 0), some (vR 75), some (vI i)] [] G0 h') : SL l b L xs cu su 781 [none, some (vR 0), some (vR 75), some (vI i)] [] G0 h := by
  refine l_aload_n (x := 0) dL_law_781 rfl rfl (by decide) ?_
  refine l_get dL_law_782 dL_law_783 dL_law_784 dL_law_785 dL_law_786 rfl (by omega) (by omega) hL ?_
  refine l_callV (d := 20) (M' := MX8_rank) (As := [vI (xs (i + 1).toNat).toInt]) (a := 0) (st := []) dL_law_787 ml_L_95 cv_X8_rank rfl rfl (Nat.zero_le _) hb (by decide) (by decide +kernel) ?_
  refine rX8_rank (xR _) cx (fun r B' h1 hA cx1 fc => ?_)
  have mx1 := mx.fc fc
  have b91 : B95 h1 := fun j j0 j1 => by rw [fc 95 (by decide)]; exact b9 j j0 j1
  show SL l b L xs cu su 790 [none, some (vR 0), some (vR 75), some (vI i)] [vI r] G0 h1
  refine l_aload_n (x := 75) dL_law_790 rfl rfl (by decide) ?_
  refine l_get dL_law_791 dL_law_792 dL_law_793 dL_law_794 dL_law_795 rfl (by omega) (by omega) hL ?_
  refine l_callV (d := 20) (M' := MX9_rank) (As := [vI (xs (i + 1).toNat).toInt]) (a := 75) (st := [vI r]) dL_law_796 ml_L_98 cv_X9_rank rfl rfl (Nat.le_of_ble_eq_true rfl) hb (by decide) (by decide +kernel) ?_
  refine rX9_rank (xR _) cx.bw mx1 hA (fun h2 mx2 fm => ?_)
  show SL l b L xs cu su 799 [none, some (vR 0), some (vR 75), some (vI i)] [vI r, vI r] G0 h2
  exact l_same dL_law_799 (tgt := 1021) (by decide) (nx h2 B' (cx1.md (fun b hb => fm b (.inl hb))) mx2 (fun j j0 j1 => by rw [fm 95 (.inr rfl)]; exact b91 j j0 j1))
theorem lc_20 (hL : L ≤ 2560) (hb : cu ≤ 600000 ∧ su ≤ 7302250) (i0 : 0 ≤ i) (i5 : i + 5 ≤ L) (cx : CX h B) (mx : MX h B) (b9 : B95 h) (nx : ∀ h' B', CX h' B' → MX h' B' → B95 h' → SL l b L xs cu su 1021 [none, some (vR 0), some (vR 75), some (vI i)] [] G0 h') : SL l b L xs cu su 804 [none, some (vR 0), some (vR 75), some (vI i)] [] G0 h := by
  refine l_aload_n (x := 0) dL_law_804 rfl rfl (by decide) ?_
  refine l_callV (d := 20) (M' := MX8_least) (As := []) (a := 0) (st := []) dL_law_805 ml_L_99 cv_X8_least rfl rfl (Nat.zero_le _) hb (by decide) (by decide +kernel) ?_
  refine rX8_least  cx (fun r B' h1 hA cx1 fc => ?_)
  have mx1 := mx.fc fc
  have b91 : B95 h1 := fun j j0 j1 => by rw [fc 95 (by decide)]; exact b9 j j0 j1
  show SL l b L xs cu su 808 [none, some (vR 0), some (vR 75), some (vI i)] [vI r] G0 h1
  refine l_aload_n (x := 75) dL_law_808 rfl rfl (by decide) ?_
  refine l_callV (d := 20) (M' := MX9_least) (As := []) (a := 75) (st := [vI r]) dL_law_809 ml_L_102 cv_X9_least rfl rfl (Nat.le_of_ble_eq_true rfl) hb (by decide) (by decide +kernel) ?_
  refine rX9_least  cx.bw mx1 hA (fun h2 mx2 fm => ?_)
  show SL l b L xs cu su 812 [none, some (vR 0), some (vR 75), some (vI i)] [vI r, vI r] G0 h2
  exact l_same dL_law_812 (tgt := 1021) (by decide) (nx h2 B' (cx1.md (fun b hb => fm b (.inl hb))) mx2 (fun j j0 j1 => by rw [fm 95 (.inr rfl)]; exact b91 j j0 j1))
theorem lc_21 (hL : L ≤ 2560) (hb : cu ≤ 600000 ∧ su ≤ 7302250) (i0 : 0 ≤ i) (i5 : i + 5 ≤ L) (cx : CX h B) (mx : MX h B) (b9 : B95 h) (nx : ∀ h' B', CX h' B' → MX h' B' → B95 h' → SL l b L xs cu su 1021 [none, some (vR 0), some (vR 75), some (vI i)] [] G0 h') : SL l b L xs cu su 817 [none, some (vR 0), some (vR 75), some (vI i)] [] G0 h := by
  refine l_aload_n (x := 0) dL_law_817 rfl rfl (by decide) ?_
  refine l_callV (d := 20) (M' := MX8_find) (As := []) (a := 0) (st := []) dL_law_818 ml_L_103 cv_X8_find rfl rfl (Nat.zero_le _) hb (by decide) (by decide +kernel) ?_
  refine rX8_find  cx (fun r B' h1 hA cx1 fc => ?_)
  have mx1 := mx.fc fc
  have b91 : B95 h1 := fun j j0 j1 => by rw [fc 95 (by decide)]; exact b9 j j0 j1
  show SL l b L xs cu su 821 [none, some (vR 0), some (vR 75), some (vI i)] [vI r] G0 h1
  refine l_aload_n (x := 75) dL_law_821 rfl rfl (by decide) ?_
  refine l_callV (d := 20) (M' := MX9_find) (As := []) (a := 75) (st := [vI r]) dL_law_822 ml_L_106 cv_X9_find rfl rfl (Nat.le_of_ble_eq_true rfl) hb (by decide) (by decide +kernel) ?_
  refine rX9_find cx.bw mx1 b91 hA (fun h2 mx2 fm b92 => ?_)
  show SL l b L xs cu su 825 [none, some (vR 0), some (vR 75), some (vI i)] [vI r, vI r] G0 h2
  exact l_same dL_law_825 (tgt := 1021) (by decide) (nx h2 B' (cx1.md fm) mx2 b92)
theorem lc_22 (hL : L ≤ 2560) (hb : cu ≤ 600000 ∧ su ≤ 7302250) (i0 : 0 ≤ i) (i5 : i + 5 ≤ L) (cx : CX h B) (mx : MX h B) (b9 : B95 h) (nx : ∀ h' B', CX h' B' → MX h' B' → B95 h' → SL l b L xs cu su 1021 [none, some (vR 0), some (vR 75), some (vI i)] [] G0 h') : SL l b L xs cu su 830 [none, some (vR 0), some (vR 75), some (vI i)] [] G0 h := by
  refine l_aload_n (x := 0) dL_law_830 rfl rfl (by decide) ?_
  refine l_get dL_law_831 dL_law_832 dL_law_833 dL_law_834 dL_law_835 rfl (by omega) (by omega) hL ?_
  refine l_get dL_law_836 dL_law_837 dL_law_838 dL_law_839 dL_law_840 rfl (by omega) (by omega) hL ?_
  refine l_get dL_law_841 dL_law_842 dL_law_843 dL_law_844 dL_law_845 rfl (by omega) (by omega) hL ?_
  refine l_callV (d := 20) (M' := MX8_hand) (As := [vI (xs (i + 1).toNat).toInt, vI (xs (i + 2).toNat).toInt, vI (xs (i + 3).toNat).toInt]) (a := 0) (st := []) dL_law_846 ml_L_107 cv_X8_hand rfl rfl (Nat.zero_le _) hb (by decide) (by decide +kernel) ?_
  refine rX8_hand (xR _) (xR _) (xR _) cx (fun r B' h1 hA cx1 fc => ?_)
  have mx1 := mx.fc fc
  have b91 : B95 h1 := fun j j0 j1 => by rw [fc 95 (by decide)]; exact b9 j j0 j1
  show SL l b L xs cu su 849 [none, some (vR 0), some (vR 75), some (vI i)] [vI r] G0 h1
  refine l_aload_n (x := 75) dL_law_849 rfl rfl (by decide) ?_
  refine l_get dL_law_850 dL_law_851 dL_law_852 dL_law_853 dL_law_854 rfl (by omega) (by omega) hL ?_
  refine l_get dL_law_855 dL_law_856 dL_law_857 dL_law_858 dL_law_859 rfl (by omega) (by omega) hL ?_
  refine l_get dL_law_860 dL_law_861 dL_law_862 dL_law_863 dL_law_864 rfl (by omega) (by omega) hL ?_
  refine l_callV (d := 20) (M' := MX9_hand) (As := [vI (xs (i + 1).toNat).toInt, vI (xs (i + 2).toNat).toInt, vI (xs (i + 3).toNat).toInt]) (a := 75) (st := [vI r]) dL_law_865 ml_L_110 cv_X9_hand rfl rfl (Nat.le_of_ble_eq_true rfl) hb (by decide) (by decide +kernel) ?_
  refine rX9_hand (xR _) (xR _) (xR _) cx.bw mx1 hA (fun h2 mx2 fm => ?_)
  show SL l b L xs cu su 868 [none, some (vR 0), some (vR 75), some (vI i)] [vI r, vI r] G0 h2
  exact l_same dL_law_868 (tgt := 1021) (by decide) (nx h2 B' (cx1.md (fun b hb => fm b (.inl hb))) mx2 (fun j j0 j1 => by rw [fm 95 (.inr rfl)]; exact b91 j j0 j1))
theorem lc_23 (hL : L ≤ 2560) (hb : cu ≤ 600000 ∧ su ≤ 7302250) (i0 : 0 ≤ i) (i5 : i + 5 ≤ L) (cx : CX h B) (mx : MX h B) (b9 : B95 h) (nx : ∀ h' B', CX h' B' → MX h' B' → B95 h' → SL l b L xs cu su 1021 [none, some (vR 0), some (vR 75), some (vI i)] [] G0 h') : SL l b L xs cu su 873 [none, some (vR 0), some (vR 75), some (vI i)] [] G0 h := by
  refine l_aload_n (x := 0) dL_law_873 rfl rfl (by decide) ?_
  refine l_get dL_law_874 dL_law_875 dL_law_876 dL_law_877 dL_law_878 rfl (by omega) (by omega) hL ?_
  refine l_callV (d := 20) (M' := MX8_run) (As := [vI (xs (i + 1).toNat).toInt]) (a := 0) (st := []) dL_law_879 ml_L_111 cv_X8_run rfl rfl (Nat.zero_le _) hb (by decide) (by decide +kernel) ?_
  refine rX8_run (xR _) cx (fun r B' h1 hA cx1 fc => ?_)
  have mx1 := mx.fc fc
  have b91 : B95 h1 := fun j j0 j1 => by rw [fc 95 (by decide)]; exact b9 j j0 j1
  show SL l b L xs cu su 882 [none, some (vR 0), some (vR 75), some (vI i)] [vI r] G0 h1
  refine l_aload_n (x := 75) dL_law_882 rfl rfl (by decide) ?_
  refine l_get dL_law_883 dL_law_884 dL_law_885 dL_law_886 dL_law_887 rfl (by omega) (by omega) hL ?_
  refine l_callV (d := 20) (M' := MX9_run) (As := [vI (xs (i + 1).toNat).toInt]) (a := 75) (st := [vI r]) dL_law_888 ml_L_114 cv_X9_run rfl rfl (Nat.le_of_ble_eq_true rfl) hb (by decide) (by decide +kernel) ?_
  refine rX9_run (xR _) cx.bw mx1 hA (fun h2 mx2 fm => ?_)
  show SL l b L xs cu su 891 [none, some (vR 0), some (vR 75), some (vI i)] [vI r, vI r] G0 h2
  exact l_same dL_law_891 (tgt := 1021) (by decide) (nx h2 B' (cx1.md (fun b hb => fm b (.inl hb))) mx2 (fun j j0 j1 => by rw [fm 95 (.inr rfl)]; exact b91 j j0 j1))
theorem lc_24 (hL : L ≤ 2560) (hb : cu ≤ 600000 ∧ su ≤ 7302250) (i0 : 0 ≤ i) (i5 : i + 5 ≤ L) (cx : CX h B) (mx : MX h B) (b9 : B95 h) (nx : ∀ h' B', CX h' B' → MX h' B' → B95 h' → SL l b L xs cu su 1021 [none, some (vR 0), some (vR 75), some (vI i)] [] G0 h') : SL l b L xs cu su 896 [none, some (vR 0), some (vR 75), some (vI i)] [] G0 h := by
  refine l_aload_n (x := 0) dL_law_896 rfl rfl (by decide) ?_
  refine l_get dL_law_897 dL_law_898 dL_law_899 dL_law_900 dL_law_901 rfl (by omega) (by omega) hL ?_
  refine l_get dL_law_902 dL_law_903 dL_law_904 dL_law_905 dL_law_906 rfl (by omega) (by omega) hL ?_
  refine l_callV (d := 20) (M' := MX8_sums) (As := [vI (xs (i + 1).toNat).toInt, vI (xs (i + 2).toNat).toInt]) (a := 0) (st := []) dL_law_907 ml_L_115 cv_X8_sums rfl rfl (Nat.zero_le _) hb (by decide) (by decide +kernel) ?_
  refine rX8_sums (xR _) (xR _) cx (fun r B' h1 hA cx1 fc => ?_)
  have mx1 := mx.fc fc
  have b91 : B95 h1 := fun j j0 j1 => by rw [fc 95 (by decide)]; exact b9 j j0 j1
  show SL l b L xs cu su 910 [none, some (vR 0), some (vR 75), some (vI i)] [vI r] G0 h1
  refine l_aload_n (x := 75) dL_law_910 rfl rfl (by decide) ?_
  refine l_get dL_law_911 dL_law_912 dL_law_913 dL_law_914 dL_law_915 rfl (by omega) (by omega) hL ?_
  refine l_get dL_law_916 dL_law_917 dL_law_918 dL_law_919 dL_law_920 rfl (by omega) (by omega) hL ?_
  refine l_callV (d := 20) (M' := MX9_sums) (As := [vI (xs (i + 1).toNat).toInt, vI (xs (i + 2).toNat).toInt]) (a := 75) (st := [vI r]) dL_law_921 ml_L_118 cv_X9_sums rfl rfl (Nat.le_of_ble_eq_true rfl) hb (by decide) (by decide +kernel) ?_
  refine rX9_sums (xR _) (xR _) cx.bw mx1 hA (fun h2 mx2 fm => ?_)
  show SL l b L xs cu su 924 [none, some (vR 0), some (vR 75), some (vI i)] [vI r, vI r] G0 h2
  exact l_same dL_law_924 (tgt := 1021) (by decide) (nx h2 B' (cx1.md (fun b hb => fm b (.inl hb))) mx2 (fun j j0 j1 => by rw [fm 95 (.inr rfl)]; exact b91 j j0 j1))
theorem lc_25 (hL : L ≤ 2560) (hb : cu ≤ 600000 ∧ su ≤ 7302250) (i0 : 0 ≤ i) (i5 : i + 5 ≤ L) (cx : CX h B) (mx : MX h B) (b9 : B95 h) (nx : ∀ h' B', CX h' B' → MX h' B' → B95 h' → SL l b L xs cu su 1021 [none, some (vR 0), some (vR 75), some (vI i)] [] G0 h') : SL l b L xs cu su 929 [none, some (vR 0), some (vR 75), some (vI i)] [] G0 h := by
  refine l_aload_n (x := 0) dL_law_929 rfl rfl (by decide) ?_
  refine l_get dL_law_930 dL_law_931 dL_law_932 dL_law_933 dL_law_934 rfl (by omega) (by omega) hL ?_
  refine l_callV (d := 20) (M' := MX8_keep) (As := [vI (xs (i + 1).toNat).toInt]) (a := 0) (st := []) dL_law_935 ml_L_119 cv_X8_keep rfl rfl (Nat.zero_le _) hb (by decide) (by decide +kernel) ?_
  refine rX8_keep (xR _) cx (fun r B' h1 hA cx1 fc => ?_)
  have mx1 := mx.fc fc
  have b91 : B95 h1 := fun j j0 j1 => by rw [fc 95 (by decide)]; exact b9 j j0 j1
  show SL l b L xs cu su 938 [none, some (vR 0), some (vR 75), some (vI i)] [vI r] G0 h1
  refine l_aload_n (x := 75) dL_law_938 rfl rfl (by decide) ?_
  refine l_get dL_law_939 dL_law_940 dL_law_941 dL_law_942 dL_law_943 rfl (by omega) (by omega) hL ?_
  refine l_callV (d := 20) (M' := MX9_keep) (As := [vI (xs (i + 1).toNat).toInt]) (a := 75) (st := [vI r]) dL_law_944 ml_L_122 cv_X9_keep rfl rfl (Nat.le_of_ble_eq_true rfl) hb (by decide) (by decide +kernel) ?_
  refine rX9_keep (xR _) cx.bw mx1 hA (fun h2 mx2 fm => ?_)
  show SL l b L xs cu su 947 [none, some (vR 0), some (vR 75), some (vI i)] [vI r, vI r] G0 h2
  exact l_same dL_law_947 (tgt := 1021) (by decide) (nx h2 B' (cx1.md (fun b hb => fm b (.inl hb))) mx2 (fun j j0 j1 => by rw [fm 95 (.inr rfl)]; exact b91 j j0 j1))
theorem lc_26 (hL : L ≤ 2560) (hb : cu ≤ 600000 ∧ su ≤ 7302250) (i0 : 0 ≤ i) (i5 : i + 5 ≤ L) (cx : CX h B) (mx : MX h B) (b9 : B95 h) (nx : ∀ h' B', CX h' B' → MX h' B' → B95 h' → SL l b L xs cu su 1021 [none, some (vR 0), some (vR 75), some (vI i)] [] G0 h') : SL l b L xs cu su 952 [none, some (vR 0), some (vR 75), some (vI i)] [] G0 h := by
  refine l_aload_n (x := 0) dL_law_952 rfl rfl (by decide) ?_
  refine l_get dL_law_953 dL_law_954 dL_law_955 dL_law_956 dL_law_957 rfl (by omega) (by omega) hL ?_
  refine l_callV (d := 20) (M' := MX8_back) (As := [vI (xs (i + 1).toNat).toInt]) (a := 0) (st := []) dL_law_958 ml_L_123 cv_X8_back rfl rfl (Nat.zero_le _) hb (by decide) (by decide +kernel) ?_
  refine rX8_back (xR _) cx (fun r B' h1 hA cx1 fc => ?_)
  have mx1 := mx.fc fc
  have b91 : B95 h1 := fun j j0 j1 => by rw [fc 95 (by decide)]; exact b9 j j0 j1
  show SL l b L xs cu su 961 [none, some (vR 0), some (vR 75), some (vI i)] [vI r] G0 h1
  refine l_aload_n (x := 75) dL_law_961 rfl rfl (by decide) ?_
  refine l_get dL_law_962 dL_law_963 dL_law_964 dL_law_965 dL_law_966 rfl (by omega) (by omega) hL ?_
  refine l_callV (d := 20) (M' := MX9_back) (As := [vI (xs (i + 1).toNat).toInt]) (a := 75) (st := [vI r]) dL_law_967 ml_L_126 cv_X9_back rfl rfl (Nat.le_of_ble_eq_true rfl) hb (by decide) (by decide +kernel) ?_
  refine rX9_back (xR _) cx.bw mx1 hA (fun h2 mx2 fm => ?_)
  show SL l b L xs cu su 970 [none, some (vR 0), some (vR 75), some (vI i)] [vI r, vI r] G0 h2
  exact l_same dL_law_970 (tgt := 1021) (by decide) (nx h2 B' (cx1.md (fun b hb => fm b (.inl hb))) mx2 (fun j j0 j1 => by rw [fm 95 (.inr rfl)]; exact b91 j j0 j1))
theorem lc_27 (hL : L ≤ 2560) (hb : cu ≤ 600000 ∧ su ≤ 7302250) (i0 : 0 ≤ i) (i5 : i + 5 ≤ L) (cx : CX h B) (mx : MX h B) (b9 : B95 h) (nx : ∀ h' B', CX h' B' → MX h' B' → B95 h' → SL l b L xs cu su 1021 [none, some (vR 0), some (vR 75), some (vI i)] [] G0 h') : SL l b L xs cu su 975 [none, some (vR 0), some (vR 75), some (vI i)] [] G0 h := by
  refine l_aload_n (x := 0) dL_law_975 rfl rfl (by decide) ?_
  refine l_get dL_law_976 dL_law_977 dL_law_978 dL_law_979 dL_law_980 rfl (by omega) (by omega) hL ?_
  refine l_callV (d := 20) (M' := MX8_beside) (As := [vI (xs (i + 1).toNat).toInt]) (a := 0) (st := []) dL_law_981 ml_L_127 cv_X8_beside rfl rfl (Nat.zero_le _) hb (by decide) (by decide +kernel) ?_
  refine rX8_beside (xR _) cx (fun r B' h1 hA cx1 fc => ?_)
  have mx1 := mx.fc fc
  have b91 : B95 h1 := fun j j0 j1 => by rw [fc 95 (by decide)]; exact b9 j j0 j1
  show SL l b L xs cu su 984 [none, some (vR 0), some (vR 75), some (vI i)] [vI r] G0 h1
  refine l_aload_n (x := 75) dL_law_984 rfl rfl (by decide) ?_
  refine l_get dL_law_985 dL_law_986 dL_law_987 dL_law_988 dL_law_989 rfl (by omega) (by omega) hL ?_
  refine l_callV (d := 20) (M' := MX9_beside) (As := [vI (xs (i + 1).toNat).toInt]) (a := 75) (st := [vI r]) dL_law_990 ml_L_130 cv_X9_beside rfl rfl (Nat.le_of_ble_eq_true rfl) hb (by decide) (by decide +kernel) ?_
  refine rX9_beside (xR _) cx.bw mx1 hA (fun h2 mx2 fm => ?_)
  show SL l b L xs cu su 993 [none, some (vR 0), some (vR 75), some (vI i)] [vI r, vI r] G0 h2
  exact l_same dL_law_993 (tgt := 1021) (by decide) (nx h2 B' (cx1.md (fun b hb => fm b (.inl hb))) mx2 (fun j j0 j1 => by rw [fm 95 (.inr rfl)]; exact b91 j j0 j1))
theorem lc_28 (hL : L ≤ 2560) (hb : cu ≤ 600000 ∧ su ≤ 7302250) (i0 : 0 ≤ i) (i5 : i + 5 ≤ L) (cx : CX h B) (mx : MX h B) (b9 : B95 h) (nx : ∀ h' B', CX h' B' → MX h' B' → B95 h' → SL l b L xs cu su 1021 [none, some (vR 0), some (vR 75), some (vI i)] [] G0 h') : SL l b L xs cu su 998 [none, some (vR 0), some (vR 75), some (vI i)] [] G0 h := by
  refine l_aload_n (x := 0) dL_law_998 rfl rfl (by decide) ?_
  refine l_get dL_law_999 dL_law_1000 dL_law_1001 dL_law_1002 dL_law_1003 rfl (by omega) (by omega) hL ?_
  refine l_callV (d := 20) (M' := MX8_within) (As := [vI (xs (i + 1).toNat).toInt]) (a := 0) (st := []) dL_law_1004 ml_L_131 cv_X8_within rfl rfl (Nat.zero_le _) hb (by decide) (by decide +kernel) ?_
  refine rX8_within (xR _) cx (fun r B' h1 hA cx1 fc => ?_)
  have mx1 := mx.fc fc
  have b91 : B95 h1 := fun j j0 j1 => by rw [fc 95 (by decide)]; exact b9 j j0 j1
  show SL l b L xs cu su 1007 [none, some (vR 0), some (vR 75), some (vI i)] [vI r] G0 h1
  refine l_aload_n (x := 75) dL_law_1007 rfl rfl (by decide) ?_
  refine l_get dL_law_1008 dL_law_1009 dL_law_1010 dL_law_1011 dL_law_1012 rfl (by omega) (by omega) hL ?_
  refine l_callV (d := 20) (M' := MX9_within) (As := [vI (xs (i + 1).toNat).toInt]) (a := 75) (st := [vI r]) dL_law_1013 ml_L_134 cv_X9_within rfl rfl (Nat.le_of_ble_eq_true rfl) hb (by decide) (by decide +kernel) ?_
  refine rX9_within (xR _) cx.bw mx1 hA (fun h2 mx2 fm => ?_)
  show SL l b L xs cu su 1016 [none, some (vR 0), some (vR 75), some (vI i)] [vI r, vI r] G0 h2
  exact l_same dL_law_1016 (tgt := 1021) (by decide) (nx h2 B' (cx1.md (fun b hb => fm b (.inl hb))) mx2 (fun j j0 j1 => by rw [fm 95 (.inr rfl)]; exact b91 j j0 j1))
end LawCases
