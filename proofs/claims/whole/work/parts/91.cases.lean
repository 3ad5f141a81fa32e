/-! ===== the law: one call of each kind ===== -/
section
variable {p : Program} {l : Launch} {e : Env} {s : State} {m : MethodId} {below : List Frame} {meth : Method} {c : Code} {cs : Nat → ClassId} {D : va_G} {b L : Nat} {xs : Nat → Int32} {i : Nat} {hB hM : hp_H}
set_option maxHeartbeats 1000000 in
set_option maxRecDepth 20000 in
theorem lw_c0 (E : hp_Env p room_1 s m #[.ref b] meth c cs D RL code 4 ret) (hX : va_X b L xs s s.heap) (hbl : b < s.heap.size) (hL : L ≤ 2560) (hi : i + 4 < L) (hR : R hB hM) (nx : ∀ hB hM : hp_H, R hB hM → lw_G p l e s m b below meth c cs D hB hM 1137 (lw_lv s b i) []) : lw_G p l e s m b below meth c cs D hB hM 156 (lw_lv s b i) [] := by
  refine gi_aload_n E 1 dL_156 rfl rfl ?_
  refine lw_arg (j := 1) E hX hbl hL (show i + 1 < L by omega) dL_157 dL_158 dL_159 dL_160 dL_161 (by decide) ?_
  refine lw_arg (j := 2) E hX hbl hL (show i + 2 < L by omega) dL_162 dL_163 dL_164 dL_165 dL_166 (by decide) ?_
  refine lw_arg (j := 3) E hX hbl hL (show i + 3 < L by omega) dL_167 dL_168 dL_169 dL_170 dL_171 (by decide) ?_
  refine lw_callB (As := [.int (xs (i + 1)), .int (xs (i + 2)), .int (xs (i + 3))]) (rest := []) E (c_X11_shared l lw_JB (t_shared hR.1 (xs (i + 1)) (xs (i + 2)) (xs (i + 3)))) F_X11_shared mL_13 ⟨rfl, rfl⟩ (by decide) rfl rfl (by decide) dL_172 (fun r hB1 hq => ?_)
  refine gi_aload_n E 2 dL_175 rfl rfl ?_
  refine lw_arg (j := 1) E hX hbl hL (show i + 1 < L by omega) dL_176 dL_177 dL_178 dL_179 dL_180 (by decide) ?_
  refine lw_arg (j := 2) E hX hbl hL (show i + 2 < L by omega) dL_181 dL_182 dL_183 dL_184 dL_185 (by decide) ?_
  refine lw_arg (j := 3) E hX hbl hL (show i + 3 < L by omega) dL_186 dL_187 dL_188 dL_189 dL_190 (by decide) ?_
  refine lw_callM (As := [.int (xs (i + 1)), .int (xs (i + 2)), .int (xs (i + 3))]) (rest := [.int r]) E (c_X12_shared l lw_JM hq) F_X12_shared mL_17 ⟨rfl, rfl⟩ (by decide) rfl rfl (Nat.le_of_ble_eq_true rfl) dL_191 (fun r1 hM1 hq => ?_)
  exact gi_icmp_eq E 1137 dL_194 (by decide) (fun _ => nx _ _ (TT.r hR hq.2)) (fun z => absurd hq.1 z)
set_option maxHeartbeats 1000000 in
set_option maxRecDepth 20000 in
theorem lw_c1 (E : hp_Env p room_1 s m #[.ref b] meth c cs D RL code 4 ret) (hX : va_X b L xs s s.heap) (hbl : b < s.heap.size) (hL : L ≤ 2560) (hi : i + 4 < L) (hR : R hB hM) (nx : ∀ hB hM : hp_H, R hB hM → lw_G p l e s m b below meth c cs D hB hM 1137 (lw_lv s b i) []) : lw_G p l e s m b below meth c cs D hB hM 199 (lw_lv s b i) [] := by
  refine gi_aload_n E 1 dL_199 rfl rfl ?_
  refine lw_arg (j := 1) E hX hbl hL (show i + 1 < L by omega) dL_200 dL_201 dL_202 dL_203 dL_204 (by decide) ?_
  refine lw_callB (As := [.int (xs (i + 1))]) (rest := []) E (c_X11_role l lw_JB (t_role hR.1 (xs (i + 1)))) F_X11_role mL_18 ⟨rfl, rfl⟩ (by decide) rfl rfl (by decide) dL_205 (fun r hB1 hq => ?_)
  refine gi_aload_n E 2 dL_208 rfl rfl ?_
  refine lw_arg (j := 1) E hX hbl hL (show i + 1 < L by omega) dL_209 dL_210 dL_211 dL_212 dL_213 (by decide) ?_
  refine lw_callM (As := [.int (xs (i + 1))]) (rest := [.int r]) E (c_X12_role l lw_JM hq) F_X12_role mL_22 ⟨rfl, rfl⟩ (by decide) rfl rfl (Nat.le_of_ble_eq_true rfl) dL_214 (fun r1 hM1 hq => ?_)
  exact gi_icmp_eq E 1137 dL_217 (by decide) (fun _ => nx _ _ (TT.r hR hq.2)) (fun z => absurd hq.1 z)
set_option maxHeartbeats 1000000 in
set_option maxRecDepth 20000 in
theorem lw_c2 (E : hp_Env p room_1 s m #[.ref b] meth c cs D RL code 4 ret) (hX : va_X b L xs s s.heap) (hbl : b < s.heap.size) (hL : L ≤ 2560) (hi : i + 4 < L) (hR : R hB hM) (nx : ∀ hB hM : hp_H, R hB hM → lw_G p l e s m b below meth c cs D hB hM 1137 (lw_lv s b i) []) : lw_G p l e s m b below meth c cs D hB hM 222 (lw_lv s b i) [] := by
  refine gi_aload_n E 1 dL_222 rfl rfl ?_
  refine lw_arg (j := 1) E hX hbl hL (show i + 1 < L by omega) dL_223 dL_224 dL_225 dL_226 dL_227 (by decide) ?_
  refine lw_arg (j := 2) E hX hbl hL (show i + 2 < L by omega) dL_228 dL_229 dL_230 dL_231 dL_232 (by decide) ?_
  refine lw_arg (j := 3) E hX hbl hL (show i + 3 < L by omega) dL_233 dL_234 dL_235 dL_236 dL_237 (by decide) ?_
  refine lw_arg (j := 4) E hX hbl hL (show i + 4 < L by omega) dL_238 dL_239 dL_240 dL_241 dL_242 (by decide) ?_
  refine lw_callB (As := [.int (xs (i + 1)), .int (xs (i + 2)), .int (xs (i + 3)), .int (xs (i + 4))]) (rest := []) E (c_X11_own l lw_JB (t_own hR.1 (xs (i + 1)) (xs (i + 2)) (xs (i + 3)) (xs (i + 4)))) F_X11_own mL_23 ⟨rfl, rfl⟩ (by decide) rfl rfl (by decide) dL_243 (fun r hB1 hq => ?_)
  refine gi_aload_n E 2 dL_246 rfl rfl ?_
  refine lw_arg (j := 1) E hX hbl hL (show i + 1 < L by omega) dL_247 dL_248 dL_249 dL_250 dL_251 (by decide) ?_
  refine lw_arg (j := 2) E hX hbl hL (show i + 2 < L by omega) dL_252 dL_253 dL_254 dL_255 dL_256 (by decide) ?_
  refine lw_arg (j := 3) E hX hbl hL (show i + 3 < L by omega) dL_257 dL_258 dL_259 dL_260 dL_261 (by decide) ?_
  refine lw_arg (j := 4) E hX hbl hL (show i + 4 < L by omega) dL_262 dL_263 dL_264 dL_265 dL_266 (by decide) ?_
  refine lw_callM (As := [.int (xs (i + 1)), .int (xs (i + 2)), .int (xs (i + 3)), .int (xs (i + 4))]) (rest := [.int r]) E (c_X12_own l lw_JM hq) F_X12_own mL_27 ⟨rfl, rfl⟩ (by decide) rfl rfl (Nat.le_of_ble_eq_true rfl) dL_267 (fun r1 hM1 hq => ?_)
  exact gi_icmp_eq E 1137 dL_270 (by decide) (fun _ => nx _ _ (TT.r hR hq.2)) (fun z => absurd hq.1 z)
set_option maxHeartbeats 1000000 in
set_option maxRecDepth 20000 in
theorem lw_c3 (E : hp_Env p room_1 s m #[.ref b] meth c cs D RL code 4 ret) (hX : va_X b L xs s s.heap) (hbl : b < s.heap.size) (hL : L ≤ 2560) (hi : i + 4 < L) (hR : R hB hM) (nx : ∀ hB hM : hp_H, R hB hM → lw_G p l e s m b below meth c cs D hB hM 1137 (lw_lv s b i) []) : lw_G p l e s m b below meth c cs D hB hM 275 (lw_lv s b i) [] := by
  refine gi_aload_n E 1 dL_275 rfl rfl ?_
  refine lw_arg (j := 1) E hX hbl hL (show i + 1 < L by omega) dL_276 dL_277 dL_278 dL_279 dL_280 (by decide) ?_
  refine lw_arg (j := 2) E hX hbl hL (show i + 2 < L by omega) dL_281 dL_282 dL_283 dL_284 dL_285 (by decide) ?_
  refine lw_callB (As := [.int (xs (i + 1)), .int (xs (i + 2))]) (rest := []) E (c_X11_end l lw_JB (t_end hR.1 (xs (i + 1)) (xs (i + 2)))) F_X11_end mL_28 ⟨rfl, rfl⟩ (by decide) rfl rfl (by decide) dL_286 (fun r hB1 hq => ?_)
  refine gi_aload_n E 2 dL_289 rfl rfl ?_
  refine lw_arg (j := 1) E hX hbl hL (show i + 1 < L by omega) dL_290 dL_291 dL_292 dL_293 dL_294 (by decide) ?_
  refine lw_arg (j := 2) E hX hbl hL (show i + 2 < L by omega) dL_295 dL_296 dL_297 dL_298 dL_299 (by decide) ?_
  refine lw_callM (As := [.int (xs (i + 1)), .int (xs (i + 2))]) (rest := [.int r]) E (c_X12_end l lw_JM hq) F_X12_end mL_32 ⟨rfl, rfl⟩ (by decide) rfl rfl (Nat.le_of_ble_eq_true rfl) dL_300 (fun r1 hM1 hq => ?_)
  exact gi_icmp_eq E 1137 dL_303 (by decide) (fun _ => nx _ _ (TT.r hR hq.2)) (fun z => absurd hq.1 z)
set_option maxHeartbeats 1000000 in
set_option maxRecDepth 20000 in
theorem lw_c4 (E : hp_Env p room_1 s m #[.ref b] meth c cs D RL code 4 ret) (hX : va_X b L xs s s.heap) (hbl : b < s.heap.size) (hL : L ≤ 2560) (hi : i + 4 < L) (hR : R hB hM) (nx : ∀ hB hM : hp_H, R hB hM → lw_G p l e s m b below meth c cs D hB hM 1137 (lw_lv s b i) []) : lw_G p l e s m b below meth c cs D hB hM 308 (lw_lv s b i) [] := by
  refine gi_aload_n E 1 dL_308 rfl rfl ?_
  refine lw_arg (j := 1) E hX hbl hL (show i + 1 < L by omega) dL_309 dL_310 dL_311 dL_312 dL_313 (by decide) ?_
  refine lw_arg (j := 2) E hX hbl hL (show i + 2 < L by omega) dL_314 dL_315 dL_316 dL_317 dL_318 (by decide) ?_
  refine lw_bool (pc := 319) E dL_319 dL_322 dL_323 dL_326 (by decide) (by decide) ?_
  refine lw_arg (j := 3) E hX hbl hL (show i + 3 < L by omega) dL_327 dL_328 dL_329 dL_330 dL_331 (by decide) ?_
  refine lw_bool (pc := 332) E dL_332 dL_335 dL_336 dL_339 (by decide) (by decide) ?_
  refine lw_callB (As := [.int (xs (i + 1)), .int (lw_z (xs (i + 2))), .int (lw_z (xs (i + 3)))]) (rest := []) E (c_X11_channel l lw_JB (t_channel hR.1 (xs (i + 1)) (lw_z (xs (i + 2))) (lw_z (xs (i + 3))) (lw_bz _) (lw_bz _))) F_X11_channel mL_33 ⟨rfl, rfl⟩ (by decide) rfl rfl (by decide) dL_340 (fun r hB1 hq => ?_)
  refine gi_aload_n E 2 dL_343 rfl rfl ?_
  refine lw_arg (j := 1) E hX hbl hL (show i + 1 < L by omega) dL_344 dL_345 dL_346 dL_347 dL_348 (by decide) ?_
  refine lw_arg (j := 2) E hX hbl hL (show i + 2 < L by omega) dL_349 dL_350 dL_351 dL_352 dL_353 (by decide) ?_
  refine lw_bool (pc := 354) E dL_354 dL_357 dL_358 dL_361 (by decide) (by decide) ?_
  refine lw_arg (j := 3) E hX hbl hL (show i + 3 < L by omega) dL_362 dL_363 dL_364 dL_365 dL_366 (by decide) ?_
  refine lw_bool (pc := 367) E dL_367 dL_370 dL_371 dL_374 (by decide) (by decide) ?_
  refine lw_callM (As := [.int (xs (i + 1)), .int (lw_z (xs (i + 2))), .int (lw_z (xs (i + 3)))]) (rest := [.int r]) E (c_X12_channel l lw_JM hq) F_X12_channel mL_37 ⟨rfl, rfl⟩ (by decide) rfl rfl (Nat.le_of_ble_eq_true rfl) dL_375 (fun r1 hM1 hq => ?_)
  exact gi_icmp_eq E 1137 dL_378 (by decide) (fun _ => nx _ _ (TT.r hR hq.2)) (fun z => absurd hq.1 z)
set_option maxHeartbeats 1000000 in
set_option maxRecDepth 20000 in
theorem lw_c5 (E : hp_Env p room_1 s m #[.ref b] meth c cs D RL code 4 ret) (hX : va_X b L xs s s.heap) (hbl : b < s.heap.size) (hL : L ≤ 2560) (hi : i + 4 < L) (hR : R hB hM) (nx : ∀ hB hM : hp_H, R hB hM → lw_G p l e s m b below meth c cs D hB hM 1137 (lw_lv s b i) []) : lw_G p l e s m b below meth c cs D hB hM 383 (lw_lv s b i) [] := by
  refine gi_aload_n E 1 dL_383 rfl rfl ?_
  refine lw_arg (j := 1) E hX hbl hL (show i + 1 < L by omega) dL_384 dL_385 dL_386 dL_387 dL_388 (by decide) ?_
  refine lw_arg (j := 2) E hX hbl hL (show i + 2 < L by omega) dL_389 dL_390 dL_391 dL_392 dL_393 (by decide) ?_
  refine lw_arg (j := 3) E hX hbl hL (show i + 3 < L by omega) dL_394 dL_395 dL_396 dL_397 dL_398 (by decide) ?_
  refine lw_arg (j := 4) E hX hbl hL (show i + 4 < L by omega) dL_399 dL_400 dL_401 dL_402 dL_403 (by decide) ?_
  refine lw_callB (As := [.int (xs (i + 1)), .int (xs (i + 2)), .int (xs (i + 3)), .int (xs (i + 4))]) (rest := []) E (c_X11_expr l lw_JB (t_expr hR.1 (xs (i + 1)) (xs (i + 2)) (xs (i + 3)) (xs (i + 4)))) F_X11_expr mL_38 ⟨rfl, rfl⟩ (by decide) rfl rfl (by decide) dL_404 (fun r hB1 hq => ?_)
  refine gi_aload_n E 2 dL_407 rfl rfl ?_
  refine lw_arg (j := 1) E hX hbl hL (show i + 1 < L by omega) dL_408 dL_409 dL_410 dL_411 dL_412 (by decide) ?_
  refine lw_arg (j := 2) E hX hbl hL (show i + 2 < L by omega) dL_413 dL_414 dL_415 dL_416 dL_417 (by decide) ?_
  refine lw_arg (j := 3) E hX hbl hL (show i + 3 < L by omega) dL_418 dL_419 dL_420 dL_421 dL_422 (by decide) ?_
  refine lw_arg (j := 4) E hX hbl hL (show i + 4 < L by omega) dL_423 dL_424 dL_425 dL_426 dL_427 (by decide) ?_
  refine lw_callM (As := [.int (xs (i + 1)), .int (xs (i + 2)), .int (xs (i + 3)), .int (xs (i + 4))]) (rest := [.int r]) E (c_X12_expr l lw_JM hq) F_X12_expr mL_41 ⟨rfl, rfl⟩ (by decide) rfl rfl (Nat.le_of_ble_eq_true rfl) dL_428 (fun r1 hM1 hq => ?_)
  exact gi_icmp_eq E 1137 dL_431 (by decide) (fun _ => nx _ _ (TT.r hR hq.2)) (fun z => absurd hq.1 z)
set_option maxHeartbeats 1000000 in
set_option maxRecDepth 20000 in
theorem lw_c6 (E : hp_Env p room_1 s m #[.ref b] meth c cs D RL code 4 ret) (hX : va_X b L xs s s.heap) (hbl : b < s.heap.size) (hL : L ≤ 2560) (hi : i + 4 < L) (hR : R hB hM) (nx : ∀ hB hM : hp_H, R hB hM → lw_G p l e s m b below meth c cs D hB hM 1137 (lw_lv s b i) []) : lw_G p l e s m b below meth c cs D hB hM 436 (lw_lv s b i) [] := by
  refine gi_aload_n E 1 dL_436 rfl rfl ?_
  refine lw_arg (j := 1) E hX hbl hL (show i + 1 < L by omega) dL_437 dL_438 dL_439 dL_440 dL_441 (by decide) ?_
  refine lw_arg (j := 2) E hX hbl hL (show i + 2 < L by omega) dL_442 dL_443 dL_444 dL_445 dL_446 (by decide) ?_
  refine lw_arg (j := 3) E hX hbl hL (show i + 3 < L by omega) dL_447 dL_448 dL_449 dL_450 dL_451 (by decide) ?_
  refine lw_arg (j := 4) E hX hbl hL (show i + 4 < L by omega) dL_452 dL_453 dL_454 dL_455 dL_456 (by decide) ?_
  refine lw_callB (As := [.int (xs (i + 1)), .int (xs (i + 2)), .int (xs (i + 3)), .int (xs (i + 4))]) (rest := []) E (c_X11_step l lw_JB (t_step hR.1 (xs (i + 1)) (xs (i + 2)) (xs (i + 3)) (xs (i + 4)))) F_X11_step mL_42 ⟨rfl, rfl⟩ (by decide) rfl rfl (by decide) dL_457 (fun r hB1 hq => ?_)
  refine gi_aload_n E 2 dL_460 rfl rfl ?_
  refine lw_arg (j := 1) E hX hbl hL (show i + 1 < L by omega) dL_461 dL_462 dL_463 dL_464 dL_465 (by decide) ?_
  refine lw_arg (j := 2) E hX hbl hL (show i + 2 < L by omega) dL_466 dL_467 dL_468 dL_469 dL_470 (by decide) ?_
  refine lw_arg (j := 3) E hX hbl hL (show i + 3 < L by omega) dL_471 dL_472 dL_473 dL_474 dL_475 (by decide) ?_
  refine lw_arg (j := 4) E hX hbl hL (show i + 4 < L by omega) dL_476 dL_477 dL_478 dL_479 dL_480 (by decide) ?_
  refine lw_callM (As := [.int (xs (i + 1)), .int (xs (i + 2)), .int (xs (i + 3)), .int (xs (i + 4))]) (rest := [.int r]) E (c_X12_step l lw_JM hq) F_X12_step mL_45 ⟨rfl, rfl⟩ (by decide) rfl rfl (Nat.le_of_ble_eq_true rfl) dL_481 (fun r1 hM1 hq => ?_)
  exact gi_icmp_eq E 1137 dL_484 (by decide) (fun _ => nx _ _ (TT.r hR hq.2)) (fun z => absurd hq.1 z)
set_option maxHeartbeats 1000000 in
set_option maxRecDepth 20000 in
theorem lw_c7 (E : hp_Env p room_1 s m #[.ref b] meth c cs D RL code 4 ret) (hX : va_X b L xs s s.heap) (hbl : b < s.heap.size) (hL : L ≤ 2560) (hi : i + 4 < L) (hR : R hB hM) (nx : ∀ hB hM : hp_H, R hB hM → lw_G p l e s m b below meth c cs D hB hM 1137 (lw_lv s b i) []) : lw_G p l e s m b below meth c cs D hB hM 489 (lw_lv s b i) [] := by
  refine gi_aload_n E 1 dL_489 rfl rfl ?_
  refine lw_arg (j := 1) E hX hbl hL (show i + 1 < L by omega) dL_490 dL_491 dL_492 dL_493 dL_494 (by decide) ?_
  refine lw_arg (j := 2) E hX hbl hL (show i + 2 < L by omega) dL_495 dL_496 dL_497 dL_498 dL_499 (by decide) ?_
  refine lw_arg (j := 3) E hX hbl hL (show i + 3 < L by omega) dL_500 dL_501 dL_502 dL_503 dL_504 (by decide) ?_
  refine lw_arg (j := 4) E hX hbl hL (show i + 4 < L by omega) dL_505 dL_506 dL_507 dL_508 dL_509 (by decide) ?_
  refine lw_callB (As := [.int (xs (i + 1)), .int (xs (i + 2)), .int (xs (i + 3)), .int (xs (i + 4))]) (rest := []) E (c_X11_act l lw_JB (t_act hR.1 (xs (i + 1)) (xs (i + 2)) (xs (i + 3)) (xs (i + 4)))) F_X11_act mL_46 ⟨rfl, rfl⟩ (by decide) rfl rfl (by decide) dL_510 (fun r hB1 hq => ?_)
  refine gi_aload_n E 2 dL_513 rfl rfl ?_
  refine lw_arg (j := 1) E hX hbl hL (show i + 1 < L by omega) dL_514 dL_515 dL_516 dL_517 dL_518 (by decide) ?_
  refine lw_arg (j := 2) E hX hbl hL (show i + 2 < L by omega) dL_519 dL_520 dL_521 dL_522 dL_523 (by decide) ?_
  refine lw_arg (j := 3) E hX hbl hL (show i + 3 < L by omega) dL_524 dL_525 dL_526 dL_527 dL_528 (by decide) ?_
  refine lw_arg (j := 4) E hX hbl hL (show i + 4 < L by omega) dL_529 dL_530 dL_531 dL_532 dL_533 (by decide) ?_
  refine lw_callM (As := [.int (xs (i + 1)), .int (xs (i + 2)), .int (xs (i + 3)), .int (xs (i + 4))]) (rest := [.int r]) E (c_X12_act l lw_JM hq) F_X12_act mL_49 ⟨rfl, rfl⟩ (by decide) rfl rfl (Nat.le_of_ble_eq_true rfl) dL_534 (fun r1 hM1 hq => ?_)
  exact gi_icmp_eq E 1137 dL_537 (by decide) (fun _ => nx _ _ (TT.r hR hq.2)) (fun z => absurd hq.1 z)
set_option maxHeartbeats 1000000 in
set_option maxRecDepth 20000 in
theorem lw_c8 (E : hp_Env p room_1 s m #[.ref b] meth c cs D RL code 4 ret) (hX : va_X b L xs s s.heap) (hbl : b < s.heap.size) (hL : L ≤ 2560) (hi : i + 4 < L) (hR : R hB hM) (nx : ∀ hB hM : hp_H, R hB hM → lw_G p l e s m b below meth c cs D hB hM 1137 (lw_lv s b i) []) : lw_G p l e s m b below meth c cs D hB hM 542 (lw_lv s b i) [] := by
  refine gi_aload_n E 1 dL_542 rfl rfl ?_
  refine lw_arg (j := 1) E hX hbl hL (show i + 1 < L by omega) dL_543 dL_544 dL_545 dL_546 dL_547 (by decide) ?_
  refine lw_bool (pc := 548) E dL_548 dL_551 dL_552 dL_555 (by decide) (by decide) ?_
  refine lw_callB (As := [.int (lw_z (xs (i + 1)))]) (rest := []) E (c_X11_alike l lw_JB (t_alike hR.1 (lw_z (xs (i + 1))) (lw_bz _))) F_X11_alike mL_50 ⟨rfl, rfl⟩ (by decide) rfl rfl (by decide) dL_556 (fun r hB1 hq => ?_)
  refine gi_aload_n E 2 dL_559 rfl rfl ?_
  refine lw_arg (j := 1) E hX hbl hL (show i + 1 < L by omega) dL_560 dL_561 dL_562 dL_563 dL_564 (by decide) ?_
  refine lw_bool (pc := 565) E dL_565 dL_568 dL_569 dL_572 (by decide) (by decide) ?_
  refine lw_callM (As := [.int (lw_z (xs (i + 1)))]) (rest := [.int r]) E (c_X12_alike l lw_JM hq) F_X12_alike mL_54 ⟨rfl, rfl⟩ (by decide) rfl rfl (Nat.le_of_ble_eq_true rfl) dL_573 (fun r1 hM1 hq => ?_)
  exact gi_icmp_eq E 1137 dL_576 (by decide) (fun _ => nx _ _ (TT.r hR hq.2)) (fun z => absurd hq.1 z)
set_option maxHeartbeats 1000000 in
set_option maxRecDepth 20000 in
theorem lw_c9 (E : hp_Env p room_1 s m #[.ref b] meth c cs D RL code 4 ret) (hX : va_X b L xs s s.heap) (hbl : b < s.heap.size) (hL : L ≤ 2560) (hi : i + 4 < L) (hR : R hB hM) (nx : ∀ hB hM : hp_H, R hB hM → lw_G p l e s m b below meth c cs D hB hM 1137 (lw_lv s b i) []) : lw_G p l e s m b below meth c cs D hB hM 581 (lw_lv s b i) [] := by
  refine gi_aload_n E 1 dL_581 rfl rfl ?_
  refine lw_callB (As := []) (rest := []) E (c_X11_search l lw_JB (t_search hR)) F_X11_search mL_55 ⟨rfl, rfl⟩ (by decide) rfl rfl (by decide) dL_582 (fun r hB1 hq => ?_)
  refine gi_aload_n E 2 dL_585 rfl rfl ?_
  refine lw_callM (As := []) (rest := [.int r]) E (c_X12_search l lw_JM hq) F_X12_search mL_59 ⟨rfl, rfl⟩ (by decide) rfl rfl (Nat.le_of_ble_eq_true rfl) dL_586 (fun r1 hM1 hq => ?_)
  exact gi_icmp_eq E 1137 dL_589 (by decide) (fun _ => nx _ _ (hq.2)) (fun z => absurd hq.1 z)
set_option maxHeartbeats 1000000 in
set_option maxRecDepth 20000 in
theorem lw_c10 (E : hp_Env p room_1 s m #[.ref b] meth c cs D RL code 4 ret) (hX : va_X b L xs s s.heap) (hbl : b < s.heap.size) (hL : L ≤ 2560) (hi : i + 4 < L) (hR : R hB hM) (nx : ∀ hB hM : hp_H, R hB hM → lw_G p l e s m b below meth c cs D hB hM 1137 (lw_lv s b i) []) : lw_G p l e s m b below meth c cs D hB hM 594 (lw_lv s b i) [] := by
  refine gi_aload_n E 1 dL_594 rfl rfl ?_
  refine lw_arg (j := 1) E hX hbl hL (show i + 1 < L by omega) dL_595 dL_596 dL_597 dL_598 dL_599 (by decide) ?_
  refine lw_arg (j := 2) E hX hbl hL (show i + 2 < L by omega) dL_600 dL_601 dL_602 dL_603 dL_604 (by decide) ?_
  refine lw_callB (As := [.int (xs (i + 1)), .int (xs (i + 2))]) (rest := []) E (c_X11_tells l lw_JB (t_tells hR (xs (i + 1)) (xs (i + 2)))) F_X11_tells mL_60 ⟨rfl, rfl⟩ (by decide) rfl rfl (by decide) dL_605 (fun r hB1 hq => ?_)
  refine gi_aload_n E 2 dL_608 rfl rfl ?_
  refine lw_arg (j := 1) E hX hbl hL (show i + 1 < L by omega) dL_609 dL_610 dL_611 dL_612 dL_613 (by decide) ?_
  refine lw_arg (j := 2) E hX hbl hL (show i + 2 < L by omega) dL_614 dL_615 dL_616 dL_617 dL_618 (by decide) ?_
  refine lw_callM (As := [.int (xs (i + 1)), .int (xs (i + 2))]) (rest := [.int r]) E (c_X12_tells l lw_JM hq) F_X12_tells mL_63 ⟨rfl, rfl⟩ (by decide) rfl rfl (Nat.le_of_ble_eq_true rfl) dL_619 (fun r1 hM1 hq => ?_)
  exact gi_icmp_eq E 1137 dL_622 (by decide) (fun _ => nx _ _ (hq.2)) (fun z => absurd hq.1 z)
set_option maxHeartbeats 1000000 in
set_option maxRecDepth 20000 in
theorem lw_c11 (E : hp_Env p room_1 s m #[.ref b] meth c cs D RL code 4 ret) (hX : va_X b L xs s s.heap) (hbl : b < s.heap.size) (hL : L ≤ 2560) (hi : i + 4 < L) (hR : R hB hM) (nx : ∀ hB hM : hp_H, R hB hM → lw_G p l e s m b below meth c cs D hB hM 1137 (lw_lv s b i) []) : lw_G p l e s m b below meth c cs D hB hM 627 (lw_lv s b i) [] := by
  refine gi_aload_n E 1 dL_627 rfl rfl ?_
  refine lw_arg (j := 1) E hX hbl hL (show i + 1 < L by omega) dL_628 dL_629 dL_630 dL_631 dL_632 (by decide) ?_
  refine lw_arg (j := 2) E hX hbl hL (show i + 2 < L by omega) dL_633 dL_634 dL_635 dL_636 dL_637 (by decide) ?_
  refine lw_arg (j := 3) E hX hbl hL (show i + 3 < L by omega) dL_638 dL_639 dL_640 dL_641 dL_642 (by decide) ?_
  refine lw_callB (As := [.int (xs (i + 1)), .int (xs (i + 2)), .int (xs (i + 3))]) (rest := []) E (c_X11_place l lw_JB (t_place hR (xs (i + 1)) (xs (i + 2)) (xs (i + 3)))) F_X11_place mL_64 ⟨rfl, rfl⟩ (by decide) rfl rfl (by decide) dL_643 (fun r hB1 hq => ?_)
  refine gi_aload_n E 2 dL_646 rfl rfl ?_
  refine lw_arg (j := 1) E hX hbl hL (show i + 1 < L by omega) dL_647 dL_648 dL_649 dL_650 dL_651 (by decide) ?_
  refine lw_arg (j := 2) E hX hbl hL (show i + 2 < L by omega) dL_652 dL_653 dL_654 dL_655 dL_656 (by decide) ?_
  refine lw_arg (j := 3) E hX hbl hL (show i + 3 < L by omega) dL_657 dL_658 dL_659 dL_660 dL_661 (by decide) ?_
  refine lw_callM (As := [.int (xs (i + 1)), .int (xs (i + 2)), .int (xs (i + 3))]) (rest := [.int r]) E (c_X12_place l lw_JM hq) F_X12_place mL_67 ⟨rfl, rfl⟩ (by decide) rfl rfl (Nat.le_of_ble_eq_true rfl) dL_662 (fun r1 hM1 hq => ?_)
  obtain ⟨hq, rfl⟩ := hq
  exact gi_icmp_eq E 1137 dL_665 (by decide) (fun _ => nx _ _ (hq.2)) (fun z => absurd hq.1 z)
set_option maxHeartbeats 1000000 in
set_option maxRecDepth 20000 in
theorem lw_c12 (E : hp_Env p room_1 s m #[.ref b] meth c cs D RL code 4 ret) (hX : va_X b L xs s s.heap) (hbl : b < s.heap.size) (hL : L ≤ 2560) (hi : i + 4 < L) (hR : R hB hM) (nx : ∀ hB hM : hp_H, R hB hM → lw_G p l e s m b below meth c cs D hB hM 1137 (lw_lv s b i) []) : lw_G p l e s m b below meth c cs D hB hM 670 (lw_lv s b i) [] := by
  refine gi_aload_n E 1 dL_670 rfl rfl ?_
  refine lw_arg (j := 1) E hX hbl hL (show i + 1 < L by omega) dL_671 dL_672 dL_673 dL_674 dL_675 (by decide) ?_
  refine lw_arg (j := 2) E hX hbl hL (show i + 2 < L by omega) dL_676 dL_677 dL_678 dL_679 dL_680 (by decide) ?_
  refine lw_arg (j := 3) E hX hbl hL (show i + 3 < L by omega) dL_681 dL_682 dL_683 dL_684 dL_685 (by decide) ?_
  refine lw_arg (j := 4) E hX hbl hL (show i + 4 < L by omega) dL_686 dL_687 dL_688 dL_689 dL_690 (by decide) ?_
  refine lw_callB (As := [.int (xs (i + 1)), .int (xs (i + 2)), .int (xs (i + 3)), .int (xs (i + 4))]) (rest := []) E (c_X11_owned l lw_JB (t_owned hR (xs (i + 1)) (xs (i + 2)) (xs (i + 3)) (xs (i + 4)))) F_X11_owned mL_68 ⟨rfl, rfl⟩ (by decide) rfl rfl (by decide) dL_691 (fun r hB1 hq => ?_)
  refine gi_aload_n E 2 dL_694 rfl rfl ?_
  refine lw_arg (j := 1) E hX hbl hL (show i + 1 < L by omega) dL_695 dL_696 dL_697 dL_698 dL_699 (by decide) ?_
  refine lw_arg (j := 2) E hX hbl hL (show i + 2 < L by omega) dL_700 dL_701 dL_702 dL_703 dL_704 (by decide) ?_
  refine lw_arg (j := 3) E hX hbl hL (show i + 3 < L by omega) dL_705 dL_706 dL_707 dL_708 dL_709 (by decide) ?_
  refine lw_arg (j := 4) E hX hbl hL (show i + 4 < L by omega) dL_710 dL_711 dL_712 dL_713 dL_714 (by decide) ?_
  refine lw_callM (As := [.int (xs (i + 1)), .int (xs (i + 2)), .int (xs (i + 3)), .int (xs (i + 4))]) (rest := [.int r]) E (c_X12_owned l lw_JM hq) F_X12_owned mL_71 ⟨rfl, rfl⟩ (by decide) rfl rfl (Nat.le_of_ble_eq_true rfl) dL_715 (fun r1 hM1 hq => ?_)
  obtain ⟨hq, rfl⟩ := hq
  exact gi_icmp_eq E 1137 dL_718 (by decide) (fun _ => nx _ _ (hq.2)) (fun z => absurd hq.1 z)
set_option maxHeartbeats 1000000 in
set_option maxRecDepth 20000 in
theorem lw_c13 (E : hp_Env p room_1 s m #[.ref b] meth c cs D RL code 4 ret) (hX : va_X b L xs s s.heap) (hbl : b < s.heap.size) (hL : L ≤ 2560) (hi : i + 4 < L) (hR : R hB hM) (nx : ∀ hB hM : hp_H, R hB hM → lw_G p l e s m b below meth c cs D hB hM 1137 (lw_lv s b i) []) : lw_G p l e s m b below meth c cs D hB hM 723 (lw_lv s b i) [] := by
  refine gi_aload_n E 1 dL_723 rfl rfl ?_
  refine lw_arg (j := 1) E hX hbl hL (show i + 1 < L by omega) dL_724 dL_725 dL_726 dL_727 dL_728 (by decide) ?_
  refine lw_arg (j := 2) E hX hbl hL (show i + 2 < L by omega) dL_729 dL_730 dL_731 dL_732 dL_733 (by decide) ?_
  refine lw_arg (j := 3) E hX hbl hL (show i + 3 < L by omega) dL_734 dL_735 dL_736 dL_737 dL_738 (by decide) ?_
  refine lw_callB (As := [.int (xs (i + 1)), .int (xs (i + 2)), .int (xs (i + 3))]) (rest := []) E (c_X11_letter l lw_JB (t_letter hR (xs (i + 1)) (xs (i + 2)) (xs (i + 3)))) F_X11_letter mL_72 ⟨rfl, rfl⟩ (by decide) rfl rfl (by decide) dL_739 (fun r hB1 hq => ?_)
  refine gi_aload_n E 2 dL_742 rfl rfl ?_
  refine lw_arg (j := 1) E hX hbl hL (show i + 1 < L by omega) dL_743 dL_744 dL_745 dL_746 dL_747 (by decide) ?_
  refine lw_arg (j := 2) E hX hbl hL (show i + 2 < L by omega) dL_748 dL_749 dL_750 dL_751 dL_752 (by decide) ?_
  refine lw_arg (j := 3) E hX hbl hL (show i + 3 < L by omega) dL_753 dL_754 dL_755 dL_756 dL_757 (by decide) ?_
  refine lw_callM (As := [.int (xs (i + 1)), .int (xs (i + 2)), .int (xs (i + 3))]) (rest := [.int r]) E (c_X12_letter l lw_JM hq) F_X12_letter mL_75 ⟨rfl, rfl⟩ (by decide) rfl rfl (Nat.le_of_ble_eq_true rfl) dL_758 (fun r1 hM1 hq => ?_)
  obtain ⟨hq, rfl⟩ := hq
  exact gi_icmp_eq E 1137 dL_761 (by decide) (fun _ => nx _ _ (hq.2)) (fun z => absurd hq.1 z)
set_option maxHeartbeats 1000000 in
set_option maxRecDepth 20000 in
theorem lw_c14 (E : hp_Env p room_1 s m #[.ref b] meth c cs D RL code 4 ret) (hX : va_X b L xs s s.heap) (hbl : b < s.heap.size) (hL : L ≤ 2560) (hi : i + 4 < L) (hR : R hB hM) (nx : ∀ hB hM : hp_H, R hB hM → lw_G p l e s m b below meth c cs D hB hM 1137 (lw_lv s b i) []) : lw_G p l e s m b below meth c cs D hB hM 766 (lw_lv s b i) [] := by
  refine gi_aload_n E 1 dL_766 rfl rfl ?_
  refine lw_arg (j := 1) E hX hbl hL (show i + 1 < L by omega) dL_767 dL_768 dL_769 dL_770 dL_771 (by decide) ?_
  refine lw_callB (As := [.int (xs (i + 1))]) (rest := []) E (c_X11_moves l lw_JB (t_moves hR (xs (i + 1)))) F_X11_moves mL_76 ⟨rfl, rfl⟩ (by decide) rfl rfl (by decide) dL_772 (fun r hB1 hq => ?_)
  obtain ⟨hq, rfl⟩ := hq
  refine gi_aload_n E 2 dL_775 rfl rfl ?_
  refine lw_arg (j := 1) E hX hbl hL (show i + 1 < L by omega) dL_776 dL_777 dL_778 dL_779 dL_780 (by decide) ?_
  refine lw_callM (As := [.int (xs (i + 1))]) (rest := [.int r]) E (c_X12_moves l lw_JM hq) F_X12_moves mL_79 ⟨rfl, rfl⟩ (by decide) rfl rfl (Nat.le_of_ble_eq_true rfl) dL_781 (fun r1 hM1 hq => ?_)
  obtain ⟨hq, rfl⟩ := hq
  exact gi_icmp_eq E 1137 dL_784 (by decide) (fun _ => nx _ _ (hq.2)) (fun z => absurd hq.1 z)
set_option maxHeartbeats 1000000 in
set_option maxRecDepth 20000 in
theorem lw_c15 (E : hp_Env p room_1 s m #[.ref b] meth c cs D RL code 4 ret) (hX : va_X b L xs s s.heap) (hbl : b < s.heap.size) (hL : L ≤ 2560) (hi : i + 4 < L) (hR : R hB hM) (nx : ∀ hB hM : hp_H, R hB hM → lw_G p l e s m b below meth c cs D hB hM 1137 (lw_lv s b i) []) : lw_G p l e s m b below meth c cs D hB hM 789 (lw_lv s b i) [] := by
  refine gi_aload_n E 1 dL_789 rfl rfl ?_
  refine lw_arg (j := 1) E hX hbl hL (show i + 1 < L by omega) dL_790 dL_791 dL_792 dL_793 dL_794 (by decide) ?_
  refine lw_arg (j := 2) E hX hbl hL (show i + 2 < L by omega) dL_795 dL_796 dL_797 dL_798 dL_799 (by decide) ?_
  refine lw_arg (j := 3) E hX hbl hL (show i + 3 < L by omega) dL_800 dL_801 dL_802 dL_803 dL_804 (by decide) ?_
  refine lw_callB (As := [.int (xs (i + 1)), .int (xs (i + 2)), .int (xs (i + 3))]) (rest := []) E (c_X11_move l lw_JB (t_move hR (xs (i + 1)) (xs (i + 2)) (xs (i + 3)))) F_X11_move mL_80 ⟨rfl, rfl⟩ (by decide) rfl rfl (by decide) dL_805 (fun r hB1 hq => ?_)
  obtain ⟨hq, rfl⟩ := hq
  refine gi_aload_n E 2 dL_808 rfl rfl ?_
  refine lw_arg (j := 1) E hX hbl hL (show i + 1 < L by omega) dL_809 dL_810 dL_811 dL_812 dL_813 (by decide) ?_
  refine lw_arg (j := 2) E hX hbl hL (show i + 2 < L by omega) dL_814 dL_815 dL_816 dL_817 dL_818 (by decide) ?_
  refine lw_arg (j := 3) E hX hbl hL (show i + 3 < L by omega) dL_819 dL_820 dL_821 dL_822 dL_823 (by decide) ?_
  refine lw_callM (As := [.int (xs (i + 1)), .int (xs (i + 2)), .int (xs (i + 3))]) (rest := [.int r]) E (c_X12_move l lw_JM hq) F_X12_move mL_83 ⟨rfl, rfl⟩ (by decide) rfl rfl (Nat.le_of_ble_eq_true rfl) dL_824 (fun r1 hM1 hq => ?_)
  obtain ⟨hq, rfl⟩ := hq
  exact gi_icmp_eq E 1137 dL_827 (by decide) (fun _ => nx _ _ (hq.2)) (fun z => absurd hq.1 z)
set_option maxHeartbeats 1000000 in
set_option maxRecDepth 20000 in
theorem lw_c16 (E : hp_Env p room_1 s m #[.ref b] meth c cs D RL code 4 ret) (hX : va_X b L xs s s.heap) (hbl : b < s.heap.size) (hL : L ≤ 2560) (hi : i + 4 < L) (hR : R hB hM) (nx : ∀ hB hM : hp_H, R hB hM → lw_G p l e s m b below meth c cs D hB hM 1137 (lw_lv s b i) []) : lw_G p l e s m b below meth c cs D hB hM 832 (lw_lv s b i) [] := by
  refine gi_aload_n E 1 dL_832 rfl rfl ?_
  refine lw_arg (j := 1) E hX hbl hL (show i + 1 < L by omega) dL_833 dL_834 dL_835 dL_836 dL_837 (by decide) ?_
  refine lw_callB (As := [.int (xs (i + 1))]) (rest := []) E (c_X11_depth l lw_JB (t_depth hR (xs (i + 1)))) F_X11_depth mL_84 ⟨rfl, rfl⟩ (by decide) rfl rfl (by decide) dL_838 (fun r hB1 hq => ?_)
  obtain ⟨hq, rfl⟩ := hq
  refine gi_aload_n E 2 dL_841 rfl rfl ?_
  refine lw_arg (j := 1) E hX hbl hL (show i + 1 < L by omega) dL_842 dL_843 dL_844 dL_845 dL_846 (by decide) ?_
  refine lw_callM (As := [.int (xs (i + 1))]) (rest := [.int r]) E (c_X12_depth l lw_JM hq) F_X12_depth mL_87 ⟨rfl, rfl⟩ (by decide) rfl rfl (Nat.le_of_ble_eq_true rfl) dL_847 (fun r1 hM1 hq => ?_)
  obtain ⟨hq, rfl⟩ := hq
  exact gi_icmp_eq E 1137 dL_850 (by decide) (fun _ => nx _ _ (hq.2)) (fun z => absurd hq.1 z)
set_option maxHeartbeats 1000000 in
set_option maxRecDepth 20000 in
theorem lw_c17 (E : hp_Env p room_1 s m #[.ref b] meth c cs D RL code 4 ret) (hX : va_X b L xs s s.heap) (hbl : b < s.heap.size) (hL : L ≤ 2560) (hi : i + 4 < L) (hR : R hB hM) (nx : ∀ hB hM : hp_H, R hB hM → lw_G p l e s m b below meth c cs D hB hM 1137 (lw_lv s b i) []) : lw_G p l e s m b below meth c cs D hB hM 855 (lw_lv s b i) [] := by
  refine gi_aload_n E 1 dL_855 rfl rfl ?_
  refine lw_arg (j := 1) E hX hbl hL (show i + 1 < L by omega) dL_856 dL_857 dL_858 dL_859 dL_860 (by decide) ?_
  refine lw_arg (j := 2) E hX hbl hL (show i + 2 < L by omega) dL_861 dL_862 dL_863 dL_864 dL_865 (by decide) ?_
  refine lw_callB (As := [.int (xs (i + 1)), .int (xs (i + 2))]) (rest := []) E (c_X11_came l lw_JB (t_came hR (xs (i + 1)) (xs (i + 2)))) F_X11_came mL_88 ⟨rfl, rfl⟩ (by decide) rfl rfl (by decide) dL_866 (fun r hB1 hq => ?_)
  obtain ⟨hq, rfl⟩ := hq
  refine gi_aload_n E 2 dL_869 rfl rfl ?_
  refine lw_arg (j := 1) E hX hbl hL (show i + 1 < L by omega) dL_870 dL_871 dL_872 dL_873 dL_874 (by decide) ?_
  refine lw_arg (j := 2) E hX hbl hL (show i + 2 < L by omega) dL_875 dL_876 dL_877 dL_878 dL_879 (by decide) ?_
  refine lw_callM (As := [.int (xs (i + 1)), .int (xs (i + 2))]) (rest := [.int r]) E (c_X12_came l lw_JM hq) F_X12_came mL_91 ⟨rfl, rfl⟩ (by decide) rfl rfl (Nat.le_of_ble_eq_true rfl) dL_880 (fun r1 hM1 hq => ?_)
  obtain ⟨hq, rfl⟩ := hq
  exact gi_icmp_eq E 1137 dL_883 (by decide) (fun _ => nx _ _ (hq.2)) (fun z => absurd hq.1 z)
set_option maxHeartbeats 1000000 in
set_option maxRecDepth 20000 in
theorem lw_c18 (E : hp_Env p room_1 s m #[.ref b] meth c cs D RL code 4 ret) (hX : va_X b L xs s s.heap) (hbl : b < s.heap.size) (hL : L ≤ 2560) (hi : i + 4 < L) (hR : R hB hM) (nx : ∀ hB hM : hp_H, R hB hM → lw_G p l e s m b below meth c cs D hB hM 1137 (lw_lv s b i) []) : lw_G p l e s m b below meth c cs D hB hM 888 (lw_lv s b i) [] := by
  refine gi_aload_n E 1 dL_888 rfl rfl ?_
  refine lw_callB (As := []) (rest := []) E (c_X11_stuck l lw_JB (t_stuck hR)) F_X11_stuck mL_92 ⟨rfl, rfl⟩ (by decide) rfl rfl (by decide) dL_889 (fun r hB1 hq => ?_)
  refine gi_aload_n E 2 dL_892 rfl rfl ?_
  refine lw_callM (As := []) (rest := [.int r]) E (c_X12_stuck l lw_JM hq) F_X12_stuck mL_95 ⟨rfl, rfl⟩ (by decide) rfl rfl (Nat.le_of_ble_eq_true rfl) dL_893 (fun r1 hM1 hq => ?_)
  obtain ⟨hq, rfl⟩ := hq
  exact gi_icmp_eq E 1137 dL_896 (by decide) (fun _ => nx _ _ (hq.2)) (fun z => absurd hq.1 z)
set_option maxHeartbeats 1000000 in
set_option maxRecDepth 20000 in
theorem lw_c19 (E : hp_Env p room_1 s m #[.ref b] meth c cs D RL code 4 ret) (hX : va_X b L xs s s.heap) (hbl : b < s.heap.size) (hL : L ≤ 2560) (hi : i + 4 < L) (hR : R hB hM) (nx : ∀ hB hM : hp_H, R hB hM → lw_G p l e s m b below meth c cs D hB hM 1137 (lw_lv s b i) []) : lw_G p l e s m b below meth c cs D hB hM 901 (lw_lv s b i) [] := by
  refine gi_aload_n E 1 dL_901 rfl rfl ?_
  refine lw_arg (j := 1) E hX hbl hL (show i + 1 < L by omega) dL_902 dL_903 dL_904 dL_905 dL_906 (by decide) ?_
  refine lw_callB (As := [.int (xs (i + 1))]) (rest := []) E (c_X11_fault l lw_JB (t_fault hR (xs (i + 1)))) F_X11_fault mL_96 ⟨rfl, rfl⟩ (by decide) rfl rfl (by decide) dL_907 (fun r hB1 hq => ?_)
  obtain ⟨hq, rfl⟩ := hq
  refine gi_aload_n E 2 dL_910 rfl rfl ?_
  refine lw_arg (j := 1) E hX hbl hL (show i + 1 < L by omega) dL_911 dL_912 dL_913 dL_914 dL_915 (by decide) ?_
  refine lw_callM (As := [.int (xs (i + 1))]) (rest := [.int r]) E (c_X12_fault_ l lw_JM hq) F_X12_fault_ mL_99 ⟨rfl, rfl⟩ (by decide) rfl rfl (Nat.le_of_ble_eq_true rfl) dL_916 (fun r1 hM1 hq => ?_)
  obtain ⟨hq, rfl⟩ := hq
  exact gi_icmp_eq E 1137 dL_919 (by decide) (fun _ => nx _ _ (hq.2)) (fun z => absurd hq.1 z)
set_option maxHeartbeats 1000000 in
set_option maxRecDepth 20000 in
theorem lw_c20 (E : hp_Env p room_1 s m #[.ref b] meth c cs D RL code 4 ret) (hX : va_X b L xs s s.heap) (hbl : b < s.heap.size) (hL : L ≤ 2560) (hi : i + 4 < L) (hR : R hB hM) (nx : ∀ hB hM : hp_H, R hB hM → lw_G p l e s m b below meth c cs D hB hM 1137 (lw_lv s b i) []) : lw_G p l e s m b below meth c cs D hB hM 924 (lw_lv s b i) [] := by
  refine gi_aload_n E 1 dL_924 rfl rfl ?_
  refine lw_arg (j := 1) E hX hbl hL (show i + 1 < L by omega) dL_925 dL_926 dL_927 dL_928 dL_929 (by decide) ?_
  refine lw_callB (As := [.int (xs (i + 1))]) (rest := []) E (c_X11_always l lw_JB (t_always hR (xs (i + 1)))) F_X11_always mL_100 ⟨rfl, rfl⟩ (by decide) rfl rfl (by decide) dL_930 (fun r hB1 hq => ?_)
  refine gi_aload_n E 2 dL_933 rfl rfl ?_
  refine lw_arg (j := 1) E hX hbl hL (show i + 1 < L by omega) dL_934 dL_935 dL_936 dL_937 dL_938 (by decide) ?_
  refine lw_callM (As := [.int (xs (i + 1))]) (rest := [.int r]) E (c_X12_always l lw_JM hq) F_X12_always mL_103 ⟨rfl, rfl⟩ (by decide) rfl rfl (Nat.le_of_ble_eq_true rfl) dL_939 (fun r1 hM1 hq => ?_)
  exact gi_icmp_eq E 1137 dL_942 (by decide) (fun _ => nx _ _ (hq.2)) (fun z => absurd hq.1 z)
set_option maxHeartbeats 1000000 in
set_option maxRecDepth 20000 in
theorem lw_c21 (E : hp_Env p room_1 s m #[.ref b] meth c cs D RL code 4 ret) (hX : va_X b L xs s s.heap) (hbl : b < s.heap.size) (hL : L ≤ 2560) (hi : i + 4 < L) (hR : R hB hM) (nx : ∀ hB hM : hp_H, R hB hM → lw_G p l e s m b below meth c cs D hB hM 1137 (lw_lv s b i) []) : lw_G p l e s m b below meth c cs D hB hM 947 (lw_lv s b i) [] := by
  refine gi_aload_n E 1 dL_947 rfl rfl ?_
  refine lw_arg (j := 1) E hX hbl hL (show i + 1 < L by omega) dL_948 dL_949 dL_950 dL_951 dL_952 (by decide) ?_
  refine lw_arg (j := 2) E hX hbl hL (show i + 2 < L by omega) dL_953 dL_954 dL_955 dL_956 dL_957 (by decide) ?_
  refine lw_bool (pc := 958) E dL_958 dL_961 dL_962 dL_965 (by decide) (by decide) ?_
  refine lw_callB (As := [.int (xs (i + 1)), .int (lw_z (xs (i + 2)))]) (rest := []) E (c_X11_again l lw_JB (t_again hR (xs (i + 1)) (lw_z (xs (i + 2))) (lw_bz _))) F_X11_again mL_104 ⟨rfl, rfl⟩ (by decide) rfl rfl (by decide) dL_966 (fun r hB1 hq => ?_)
  refine gi_aload_n E 2 dL_969 rfl rfl ?_
  refine lw_arg (j := 1) E hX hbl hL (show i + 1 < L by omega) dL_970 dL_971 dL_972 dL_973 dL_974 (by decide) ?_
  refine lw_arg (j := 2) E hX hbl hL (show i + 2 < L by omega) dL_975 dL_976 dL_977 dL_978 dL_979 (by decide) ?_
  refine lw_bool (pc := 980) E dL_980 dL_983 dL_984 dL_987 (by decide) (by decide) ?_
  refine lw_callM (As := [.int (xs (i + 1)), .int (lw_z (xs (i + 2)))]) (rest := [.int r]) E (c_X12_again l lw_JM hq) F_X12_again mL_108 ⟨rfl, rfl⟩ (by decide) rfl rfl (Nat.le_of_ble_eq_true rfl) dL_988 (fun r1 hM1 hq => ?_)
  exact gi_icmp_eq E 1137 dL_991 (by decide) (fun _ => nx _ _ (hq.2)) (fun z => absurd hq.1 z)
set_option maxHeartbeats 1000000 in
set_option maxRecDepth 20000 in
theorem lw_c22 (E : hp_Env p room_1 s m #[.ref b] meth c cs D RL code 4 ret) (hX : va_X b L xs s s.heap) (hbl : b < s.heap.size) (hL : L ≤ 2560) (hi : i + 4 < L) (hR : R hB hM) (nx : ∀ hB hM : hp_H, R hB hM → lw_G p l e s m b below meth c cs D hB hM 1137 (lw_lv s b i) []) : lw_G p l e s m b below meth c cs D hB hM 996 (lw_lv s b i) [] := by
  refine gi_aload_n E 1 dL_996 rfl rfl ?_
  refine lw_arg (j := 1) E hX hbl hL (show i + 1 < L by omega) dL_997 dL_998 dL_999 dL_1000 dL_1001 (by decide) ?_
  refine lw_arg (j := 2) E hX hbl hL (show i + 2 < L by omega) dL_1002 dL_1003 dL_1004 dL_1005 dL_1006 (by decide) ?_
  refine lw_arg (j := 3) E hX hbl hL (show i + 3 < L by omega) dL_1007 dL_1008 dL_1009 dL_1010 dL_1011 (by decide) ?_
  refine lw_bool (pc := 1012) E dL_1012 dL_1015 dL_1016 dL_1019 (by decide) (by decide) ?_
  refine lw_callB (As := [.int (xs (i + 1)), .int (xs (i + 2)), .int (lw_z (xs (i + 3)))]) (rest := []) E (c_X11_fromTo l lw_JB (t_fromTo hR (xs (i + 1)) (xs (i + 2)) (lw_z (xs (i + 3))) (lw_bz _))) F_X11_fromTo mL_109 ⟨rfl, rfl⟩ (by decide) rfl rfl (by decide) dL_1020 (fun r hB1 hq => ?_)
  refine gi_aload_n E 2 dL_1023 rfl rfl ?_
  refine lw_arg (j := 1) E hX hbl hL (show i + 1 < L by omega) dL_1024 dL_1025 dL_1026 dL_1027 dL_1028 (by decide) ?_
  refine lw_arg (j := 2) E hX hbl hL (show i + 2 < L by omega) dL_1029 dL_1030 dL_1031 dL_1032 dL_1033 (by decide) ?_
  refine lw_arg (j := 3) E hX hbl hL (show i + 3 < L by omega) dL_1034 dL_1035 dL_1036 dL_1037 dL_1038 (by decide) ?_
  refine lw_bool (pc := 1039) E dL_1039 dL_1042 dL_1043 dL_1046 (by decide) (by decide) ?_
  refine lw_callM (As := [.int (xs (i + 1)), .int (xs (i + 2)), .int (lw_z (xs (i + 3)))]) (rest := [.int r]) E (c_X12_fromTo l lw_JM hq) F_X12_fromTo mL_113 ⟨rfl, rfl⟩ (by decide) rfl rfl (Nat.le_of_ble_eq_true rfl) dL_1047 (fun r1 hM1 hq => ?_)
  exact gi_icmp_eq E 1137 dL_1050 (by decide) (fun _ => nx _ _ (hq.2)) (fun z => absurd hq.1 z)
set_option maxHeartbeats 1000000 in
set_option maxRecDepth 20000 in
theorem lw_c23 (E : hp_Env p room_1 s m #[.ref b] meth c cs D RL code 4 ret) (hX : va_X b L xs s s.heap) (hbl : b < s.heap.size) (hL : L ≤ 2560) (hi : i + 4 < L) (hR : R hB hM) (nx : ∀ hB hM : hp_H, R hB hM → lw_G p l e s m b below meth c cs D hB hM 1137 (lw_lv s b i) []) : lw_G p l e s m b below meth c cs D hB hM 1055 (lw_lv s b i) [] := by
  refine gi_aload_n E 1 dL_1055 rfl rfl ?_
  refine lw_arg (j := 1) E hX hbl hL (show i + 1 < L by omega) dL_1056 dL_1057 dL_1058 dL_1059 dL_1060 (by decide) ?_
  refine lw_callB (As := [.int (xs (i + 1))]) (rest := []) E (c_X11_observe l lw_JB (t_observe hR (xs (i + 1)))) F_X11_observe mL_114 ⟨rfl, rfl⟩ (by decide) rfl rfl (by decide) dL_1061 (fun r hB1 hq => ?_)
  refine gi_aload_n E 2 dL_1064 rfl rfl ?_
  refine lw_arg (j := 1) E hX hbl hL (show i + 1 < L by omega) dL_1065 dL_1066 dL_1067 dL_1068 dL_1069 (by decide) ?_
  refine lw_callM (As := [.int (xs (i + 1))]) (rest := [.int r]) E (c_X12_observe l lw_JM hq) F_X12_observe mL_117 ⟨rfl, rfl⟩ (by decide) rfl rfl (Nat.le_of_ble_eq_true rfl) dL_1070 (fun r1 hM1 hq => ?_)
  exact gi_icmp_eq E 1137 dL_1073 (by decide) (fun _ => nx _ _ (hq.2)) (fun z => absurd hq.1 z)
set_option maxHeartbeats 1000000 in
set_option maxRecDepth 20000 in
theorem lw_c24 (E : hp_Env p room_1 s m #[.ref b] meth c cs D RL code 4 ret) (hX : va_X b L xs s s.heap) (hbl : b < s.heap.size) (hL : L ≤ 2560) (hi : i + 4 < L) (hR : R hB hM) (nx : ∀ hB hM : hp_H, R hB hM → lw_G p l e s m b below meth c cs D hB hM 1137 (lw_lv s b i) []) : lw_G p l e s m b below meth c cs D hB hM 1078 (lw_lv s b i) [] := by
  refine gi_aload_n E 1 dL_1078 rfl rfl ?_
  refine lw_callB (As := []) (rest := []) E (c_X11_classes l lw_JB (t_classes hR)) F_X11_classes mL_118 ⟨rfl, rfl⟩ (by decide) rfl rfl (by decide) dL_1079 (fun r hB1 hq => ?_)
  refine gi_aload_n E 2 dL_1082 rfl rfl ?_
  refine lw_callM (As := []) (rest := [.int r]) E (c_X12_classes l lw_JM hq) F_X12_classes mL_121 ⟨rfl, rfl⟩ (by decide) rfl rfl (Nat.le_of_ble_eq_true rfl) dL_1083 (fun r1 hM1 hq => ?_)
  exact gi_icmp_eq E 1137 dL_1086 (by decide) (fun _ => nx _ _ (hq.2)) (fun z => absurd hq.1 z)
set_option maxHeartbeats 1000000 in
set_option maxRecDepth 20000 in
theorem lw_c25 (E : hp_Env p room_1 s m #[.ref b] meth c cs D RL code 4 ret) (hX : va_X b L xs s s.heap) (hbl : b < s.heap.size) (hL : L ≤ 2560) (hi : i + 4 < L) (hR : R hB hM) (nx : ∀ hB hM : hp_H, R hB hM → lw_G p l e s m b below meth c cs D hB hM 1137 (lw_lv s b i) []) : lw_G p l e s m b below meth c cs D hB hM 1091 (lw_lv s b i) [] := by
  refine gi_aload_n E 1 dL_1091 rfl rfl ?_
  refine lw_arg (j := 1) E hX hbl hL (show i + 1 < L by omega) dL_1092 dL_1093 dL_1094 dL_1095 dL_1096 (by decide) ?_
  refine lw_callB (As := [.int (xs (i + 1))]) (rest := []) E (c_X11_classOf l lw_JB (t_classOf hR (xs (i + 1)))) F_X11_classOf mL_122 ⟨rfl, rfl⟩ (by decide) rfl rfl (by decide) dL_1097 (fun r hB1 hq => ?_)
  refine gi_aload_n E 2 dL_1100 rfl rfl ?_
  refine lw_arg (j := 1) E hX hbl hL (show i + 1 < L by omega) dL_1101 dL_1102 dL_1103 dL_1104 dL_1105 (by decide) ?_
  refine lw_callM (As := [.int (xs (i + 1))]) (rest := [.int r]) E (c_X12_classOf l lw_JM hq) F_X12_classOf mL_125 ⟨rfl, rfl⟩ (by decide) rfl rfl (Nat.le_of_ble_eq_true rfl) dL_1106 (fun r1 hM1 hq => ?_)
  exact gi_icmp_eq E 1137 dL_1109 (by decide) (fun _ => nx _ _ (hq.2)) (fun z => absurd hq.1 z)
set_option maxHeartbeats 1000000 in
set_option maxRecDepth 20000 in
theorem lw_c26 (E : hp_Env p room_1 s m #[.ref b] meth c cs D RL code 4 ret) (hX : va_X b L xs s s.heap) (hbl : b < s.heap.size) (hL : L ≤ 2560) (hi : i + 4 < L) (hR : R hB hM) (nx : ∀ hB hM : hp_H, R hB hM → lw_G p l e s m b below meth c cs D hB hM 1137 (lw_lv s b i) []) : lw_G p l e s m b below meth c cs D hB hM 1114 (lw_lv s b i) [] := by
  refine gi_aload_n E 1 dL_1114 rfl rfl ?_
  refine lw_arg (j := 1) E hX hbl hL (show i + 1 < L by omega) dL_1115 dL_1116 dL_1117 dL_1118 dL_1119 (by decide) ?_
  refine lw_callB (As := [.int (xs (i + 1))]) (rest := []) E (c_X11_count l lw_JB (t_count hR (xs (i + 1)))) F_X11_count mL_126 ⟨rfl, rfl⟩ (by decide) rfl rfl (by decide) dL_1120 (fun r hB1 hq => ?_)
  obtain ⟨hq, rfl⟩ := hq
  refine gi_aload_n E 2 dL_1123 rfl rfl ?_
  refine lw_arg (j := 1) E hX hbl hL (show i + 1 < L by omega) dL_1124 dL_1125 dL_1126 dL_1127 dL_1128 (by decide) ?_
  refine lw_callM (As := [.int (xs (i + 1))]) (rest := [.int r]) E (c_X12_count l lw_JM hq) F_X12_count mL_129 ⟨rfl, rfl⟩ (by decide) rfl rfl (Nat.le_of_ble_eq_true rfl) dL_1129 (fun r1 hM1 hq => ?_)
  obtain ⟨hq, rfl⟩ := hq
  exact gi_icmp_eq E 1137 dL_1132 (by decide) (fun _ => nx _ _ (hq.2)) (fun z => absurd hq.1 z)
end
