/-! THE LAW'S WALK: the calls, 1 -/
section LC
variable {x : Cxt} {b L i kc ks T : Nat} {xs : Nat → Int32} {A : Nat → Nat → Nat → Nat} {h : Hp} {σ ρ : Zs}
theorem law_feed (hsc : scrOk x b L xs) (hrm : m_rm 2048 177588 8563342 x) (hL : L ≤ 3072) (hi : i + 6 ≤ L) (hz : Rp A h σ ρ) (hR : Rel T σ ρ) (h1 : kc + 3 * T + 210 ≤ 177588) (h2 : ks + 22 * T + 8000 ≤ 8563342) (nx : NX x b i T kc ks) : wp x mLaw 168 (LI b A i) [] h kc ks := by
  obtain ⟨P, Q, S, g, Lg, d, X, hRl⟩ := id hR
  obtain ⟨v, σ1, w, ρ1, e1, e2, hA, hR1⟩ := f_feed hRl (xs (i + 1)) (xs (i + 2)) (xs (i + 3)) (xs (i + 4)) (xs (i + 5))
  obtain ⟨T9, hT9⟩ : ∃ T9, T9 = T + 20 := ⟨_, rfl⟩
  rw [← hT9] at hR1
  refine w_aload_n 3 dL_law_168 rfl rfl rfl ?_
  refine w_sarg (c := 1) 4 0 hsc hL (by omega) rfl rfl rfl dL_law_169 dL_law_170 dL_law_172 dL_law_173 dL_law_174 rfl ?_
  refine w_sarg (c := 2) 4 0 hsc hL (by omega) rfl rfl rfl dL_law_175 dL_law_176 dL_law_178 dL_law_179 dL_law_180 rfl ?_
  refine w_sarg (c := 3) 4 0 hsc hL (by omega) rfl rfl rfl dL_law_181 dL_law_182 dL_law_184 dL_law_185 dL_law_186 rfl ?_
  refine w_sarg (c := 4) 4 0 hsc hL (by omega) rfl rfl rfl dL_law_187 dL_law_188 dL_law_190 dL_law_191 dL_law_192 rfl ?_
  refine w_sarg (c := 5) 4 0 hsc hL (by omega) rfl rfl rfl dL_law_193 dL_law_194 dL_law_196 dL_law_197 dL_law_198 rfl ?_
  refine w_aload_n 1 dL_law_199 rfl rfl rfl ?_
  refine c_L_87 (b := 0) (As := [.ref (A 11 0 0), .int (xs (i + 1)), .int (xs (i + 2)), .int (xs (i + 3)), .int (xs (i + 4)), .int (xs (i + 5)), .ref (A 1984 0 0)]) (rest := []) (fun l => s_L_feed hz e1 (ans_E hA) l) hrm dL_law_200 rfl rfl (by decide) (by omega) (by omega) rfl (by decide) (fun vr h9 hq => ?_) (fun _ _ hq => hq.elim)
  obtain ⟨rfl, hz1⟩ := qw_n hq
  refine w_istore ((5, .int (kO ["java/lang/IllegalStateException"] (toJ v))) :: LI b A i) dL_law_203 rfl (by decide) rfl ?_
  refine w_aload_n 3 dL_law_205 rfl rfl rfl ?_
  refine w_sarg (c := 1) 5 1 hsc hL (by omega) rfl rfl rfl dL_law_206 dL_law_207 dL_law_209 dL_law_210 dL_law_211 rfl ?_
  refine w_sarg (c := 2) 5 1 hsc hL (by omega) rfl rfl rfl dL_law_212 dL_law_213 dL_law_215 dL_law_216 dL_law_217 rfl ?_
  refine w_sarg (c := 3) 5 1 hsc hL (by omega) rfl rfl rfl dL_law_218 dL_law_219 dL_law_221 dL_law_222 dL_law_223 rfl ?_
  refine w_sarg (c := 4) 5 1 hsc hL (by omega) rfl rfl rfl dL_law_224 dL_law_225 dL_law_227 dL_law_228 dL_law_229 rfl ?_
  refine w_sarg (c := 5) 5 1 hsc hL (by omega) rfl rfl rfl dL_law_230 dL_law_231 dL_law_233 dL_law_234 dL_law_235 rfl ?_
  refine c_L_92 (b := A 14 0 0) (As := [.int (xs (i + 1)), .int (xs (i + 2)), .int (xs (i + 3)), .int (xs (i + 4)), .int (xs (i + 5))]) (rest := []) (fun l => s_X14_feed hz1 e2 l) hrm dL_law_236 rfl rfl (by decide) (by omega) (by omega) (hz1.o14 rfl) rfl (by decide) (fun vr h9 hq => ?_) (fun _ _ hq => hq.elim)
  obtain ⟨rfl, hz2⟩ := hq
  exact tail_i (p := 239) hrm hz2 (ans_I hA) cn_S (by omega) (by omega) dL_law_239 dL_law_241 dL_law_242 dL_law_245 dL_law_247 dL_law_252 dL_law_254 dL_law_257 dL_law_258 dL_law_259 dL_law_260 dL_law_262 dL_law_263 dL_law_264 dL_law_269 (by decide) (fun h9 hz3 => nx A h9 (oS (toJ v) σ1) ρ1 (T9) _ _ hz3 (rel_o hR1) (by omega) (by omega))
theorem law_trim (hsc : scrOk x b L xs) (hrm : m_rm 2048 177588 8563342 x) (hL : L ≤ 3072) (hi : i + 6 ≤ L) (hz : Rp A h σ ρ) (hR : Rel T σ ρ) (h1 : kc + 3 * T + 210 ≤ 177588) (h2 : ks + 22 * T + 8000 ≤ 8563342) (nx : NX x b i T kc ks) : wp x mLaw 272 (LI b A i) [] h kc ks := by
  obtain ⟨P, Q, S, g, Lg, d, X, hRl⟩ := id hR
  obtain ⟨v, σ1, w, ρ1, e1, e2, hA, hR1⟩ := f_trim hRl (xs (i + 1))
  refine w_aload_n 3 dL_law_272 rfl rfl rfl ?_
  refine w_sarg (c := 1) 4 0 hsc hL (by omega) rfl rfl rfl dL_law_273 dL_law_274 dL_law_276 dL_law_277 dL_law_278 rfl ?_
  refine w_aload_n 1 dL_law_279 rfl rfl rfl ?_
  refine c_L_96 (b := 0) (As := [.ref (A 11 0 0), .int (xs (i + 1)), .ref (A 1984 0 0)]) (rest := []) (fun l => s_L_trim hz e1 (ans_E hA) l) hrm dL_law_280 rfl rfl (by decide) (by omega) (by omega) rfl (by decide) (fun vr h9 hq => ?_) (fun _ _ hq => hq.elim)
  obtain ⟨rfl, hz1⟩ := qw_n hq
  refine w_istore ((5, .int (kO ["java/lang/IllegalArgumentException"] (toJ v))) :: LI b A i) dL_law_283 rfl (by decide) rfl ?_
  refine w_aload_n 3 dL_law_285 rfl rfl rfl ?_
  refine w_sarg (c := 1) 5 1 hsc hL (by omega) rfl rfl rfl dL_law_286 dL_law_287 dL_law_289 dL_law_290 dL_law_291 rfl ?_
  refine c_L_99 (b := A 14 0 0) (As := [.int (xs (i + 1))]) (rest := []) (fun l => s_X14_trim hz1 e2 l) hrm dL_law_292 rfl rfl (by decide) (by omega) (by omega) (hz1.o14 rfl) rfl (by decide) (fun vr h9 hq => ?_) (fun _ _ hq => hq.elim)
  obtain ⟨rfl, hz2⟩ := hq
  exact tail_i (p := 295) hrm hz2 (ans_I hA) cn_A (by omega) (by omega) dL_law_295 dL_law_297 dL_law_298 dL_law_301 dL_law_303 dL_law_308 dL_law_310 dL_law_313 dL_law_314 dL_law_315 dL_law_316 dL_law_318 dL_law_319 dL_law_320 dL_law_325 (by decide) (fun h9 hz3 => nx A h9 (oS (toJ v) σ1) ρ1 (T) _ _ hz3 (rel_o hR1) (by omega) (by omega))
theorem law_count (hsc : scrOk x b L xs) (hrm : m_rm 2048 177588 8563342 x) (hL : L ≤ 3072) (hi : i + 6 ≤ L) (hz : Rp A h σ ρ) (hR : Rel T σ ρ) (h1 : kc + 3 * T + 210 ≤ 177588) (h2 : ks + 22 * T + 8000 ≤ 8563342) (nx : NX x b i T kc ks) : wp x mLaw 367 (LI b A i) [] h kc ks := by
  obtain ⟨P, Q, S, g, Lg, d, X, hRl⟩ := id hR
  obtain ⟨v, σ1, w, ρ1, e1, e2, hA, hR1⟩ := f_count hRl (xs (i + 1))
  refine w_aload_n 3 dL_law_367 rfl rfl rfl ?_
  refine w_sarg (c := 1) 4 0 hsc hL (by omega) rfl rfl rfl dL_law_368 dL_law_369 dL_law_371 dL_law_372 dL_law_373 rfl ?_
  refine w_aload_n 1 dL_law_374 rfl rfl rfl ?_
  refine c_L_112 (b := 0) (As := [.ref (A 11 0 0), .int (xs (i + 1)), .ref (A 1984 0 0)]) (rest := []) (fun l => s_L_count hz e1 (ans_E hA) l) hrm dL_law_375 rfl rfl (by decide) (by omega) (by omega) rfl (by decide) (fun vr h9 hq => ?_) (fun _ _ hq => hq.elim)
  obtain ⟨rfl, hz1⟩ := qw_n hq
  refine w_istore ((5, .int (kO ["java/lang/IndexOutOfBoundsException"] (toJ v))) :: LI b A i) dL_law_378 rfl (by decide) rfl ?_
  refine w_aload_n 3 dL_law_380 rfl rfl rfl ?_
  refine w_sarg (c := 1) 5 1 hsc hL (by omega) rfl rfl rfl dL_law_381 dL_law_382 dL_law_384 dL_law_385 dL_law_386 rfl ?_
  refine c_L_114 (b := A 14 0 0) (As := [.int (xs (i + 1))]) (rest := []) (fun l => s_X14_count hz1 e2 l) hrm dL_law_387 rfl rfl (by decide) (by omega) (by omega) (hz1.o14 rfl) rfl (by decide) (fun vr h9 hq => ?_) (fun _ _ hq => hq.elim)
  obtain ⟨rfl, hz2⟩ := hq
  exact tail_i (p := 390) hrm hz2 (ans_I hA) cn_I (by omega) (by omega) dL_law_390 dL_law_392 dL_law_393 dL_law_396 dL_law_398 dL_law_403 dL_law_405 dL_law_408 dL_law_409 dL_law_410 dL_law_411 dL_law_413 dL_law_414 dL_law_415 dL_law_420 (by decide) (fun h9 hz3 => nx A h9 (oS (toJ v) σ1) ρ1 (T) _ _ hz3 (rel_o hR1) (by omega) (by omega))
theorem law_stream (hsc : scrOk x b L xs) (hrm : m_rm 2048 177588 8563342 x) (hL : L ≤ 3072) (hi : i + 6 ≤ L) (hz : Rp A h σ ρ) (hR : Rel T σ ρ) (h1 : kc + 3 * T + 210 ≤ 177588) (h2 : ks + 22 * T + 8000 ≤ 8563342) (nx : NX x b i T kc ks) : wp x mLaw 423 (LI b A i) [] h kc ks := by
  obtain ⟨P, Q, S, g, Lg, d, X, hRl⟩ := id hR
  obtain ⟨v, σ1, w, ρ1, e1, e2, hA, hR1⟩ := f_stream hRl (xs (i + 1)) (xs (i + 2))
  refine w_aload_n 3 dL_law_423 rfl rfl rfl ?_
  refine w_sarg (c := 1) 4 0 hsc hL (by omega) rfl rfl rfl dL_law_424 dL_law_425 dL_law_427 dL_law_428 dL_law_429 rfl ?_
  refine w_sarg (c := 2) 4 0 hsc hL (by omega) rfl rfl rfl dL_law_430 dL_law_431 dL_law_433 dL_law_434 dL_law_435 rfl ?_
  refine w_aload_n 1 dL_law_436 rfl rfl rfl ?_
  refine c_L_115 (b := 0) (As := [.ref (A 11 0 0), .int (xs (i + 1)), .int (xs (i + 2)), .ref (A 1984 0 0)]) (rest := []) (fun l => s_L_stream hz e1 (ans_E hA) l) hrm dL_law_437 rfl rfl (by decide) (by omega) (by omega) rfl (by decide) (fun vr h9 hq => ?_) (fun _ _ hq => hq.elim)
  obtain ⟨rfl, hz1⟩ := qw_n hq
  refine w_istore ((5, .int (kO ["java/lang/IndexOutOfBoundsException"] (toJ v))) :: LI b A i) dL_law_440 rfl (by decide) rfl ?_
  refine w_aload_n 3 dL_law_442 rfl rfl rfl ?_
  refine w_sarg (c := 1) 5 1 hsc hL (by omega) rfl rfl rfl dL_law_443 dL_law_444 dL_law_446 dL_law_447 dL_law_448 rfl ?_
  refine w_sarg (c := 2) 5 1 hsc hL (by omega) rfl rfl rfl dL_law_449 dL_law_450 dL_law_452 dL_law_453 dL_law_454 rfl ?_
  refine c_L_118 (b := A 14 0 0) (As := [.int (xs (i + 1)), .int (xs (i + 2))]) (rest := []) (fun l => s_X14_stream hz1 e2 l) hrm dL_law_455 rfl rfl (by decide) (by omega) (by omega) (hz1.o14 rfl) rfl (by decide) (fun vr h9 hq => ?_) (fun _ _ hq => hq.elim)
  obtain ⟨rfl, hz2⟩ := hq
  exact tail_i (p := 458) hrm hz2 (ans_I hA) cn_I (by omega) (by omega) dL_law_458 dL_law_460 dL_law_461 dL_law_464 dL_law_466 dL_law_471 dL_law_473 dL_law_476 dL_law_477 dL_law_478 dL_law_479 dL_law_481 dL_law_482 dL_law_483 dL_law_488 (by decide) (fun h9 hz3 => nx A h9 (oS (toJ v) σ1) ρ1 (T) _ _ hz3 (rel_o hR1) (by omega) (by omega))
theorem law_value (hsc : scrOk x b L xs) (hrm : m_rm 2048 177588 8563342 x) (hL : L ≤ 3072) (hi : i + 6 ≤ L) (hz : Rp A h σ ρ) (hR : Rel T σ ρ) (h1 : kc + 3 * T + 210 ≤ 177588) (h2 : ks + 22 * T + 8000 ≤ 8563342) (nx : NX x b i T kc ks) : wp x mLaw 491 (LI b A i) [] h kc ks := by
  obtain ⟨P, Q, S, g, Lg, d, X, hRl⟩ := id hR
  obtain ⟨v, σ1, w, ρ1, e1, e2, hA, hR1⟩ := f_value hRl ((((xs (i + 1)).toInt64 <<< ((32 : Int32).toInt64 &&& 63)) ||| ((xs (i + 2)).toInt64 &&& 4294967295)) : Int64)
  refine w_aload_n 3 dL_law_491 rfl rfl rfl ?_
  refine w_sarg (c := 1) 4 0 hsc hL (by omega) rfl rfl rfl dL_law_492 dL_law_493 dL_law_495 dL_law_496 dL_law_497 rfl ?_
  refine w_i2l dL_law_498 rfl ?_
  refine w_bipush 32 dL_law_499 rfl (by decide) ?_
  refine w_lshl dL_law_501 rfl ?_
  refine w_sarg (c := 2) 4 0 hsc hL (by omega) rfl rfl rfl dL_law_502 dL_law_503 dL_law_505 dL_law_506 dL_law_507 rfl ?_
  refine w_i2l dL_law_508 rfl ?_
  refine w_ldc2 (M := mLaw) dL_law_509 rfl k_L_119 ?_
  refine w_land dL_law_512 rfl ?_
  refine w_lor dL_law_513 rfl ?_
  refine w_aload_n 1 dL_law_514 rfl rfl rfl ?_
  refine c_L_121 (b := 0) (As := [.ref (A 11 0 0), .long ((((xs (i + 1)).toInt64 <<< ((32 : Int32).toInt64 &&& 63)) ||| ((xs (i + 2)).toInt64 &&& 4294967295)) : Int64), .ref (A 1984 0 0)]) (rest := []) (fun l => s_L_value hz e1 (ans_E hA) l) hrm dL_law_515 rfl rfl (by decide) (by omega) (by omega) rfl (by decide) (fun vr h9 hq => ?_) (fun _ _ hq => hq.elim)
  obtain ⟨rfl, hz1⟩ := qw_n hq
  refine w_istore ((5, .int (kO ["java/lang/IllegalStateException"] (toJ v))) :: LI b A i) dL_law_518 rfl (by decide) rfl ?_
  refine w_aload_n 3 dL_law_520 rfl rfl rfl ?_
  refine w_sarg (c := 1) 5 1 hsc hL (by omega) rfl rfl rfl dL_law_521 dL_law_522 dL_law_524 dL_law_525 dL_law_526 rfl ?_
  refine w_i2l dL_law_527 rfl ?_
  refine w_bipush 32 dL_law_528 rfl (by decide) ?_
  refine w_lshl dL_law_530 rfl ?_
  refine w_sarg (c := 2) 5 1 hsc hL (by omega) rfl rfl rfl dL_law_531 dL_law_532 dL_law_534 dL_law_535 dL_law_536 rfl ?_
  refine w_i2l dL_law_537 rfl ?_
  refine w_ldc2 (M := mLaw) dL_law_538 rfl k_L_119 ?_
  refine w_land dL_law_541 rfl ?_
  refine w_lor dL_law_542 rfl ?_
  refine c_L_124 (b := A 14 0 0) (As := [.long ((((xs (i + 1)).toInt64 <<< ((32 : Int32).toInt64 &&& 63)) ||| ((xs (i + 2)).toInt64 &&& 4294967295)) : Int64)]) (rest := []) (fun l => s_X14_value hz1 e2 l) hrm dL_law_543 rfl rfl (by decide) (by omega) (by omega) (hz1.o14 rfl) rfl (by decide) (fun vr h9 hq => ?_) (fun _ _ hq => hq.elim)
  obtain ⟨rfl, hz2⟩ := hq
  exact tail_i (p := 546) hrm hz2 (ans_I hA) cn_S (by omega) (by omega) dL_law_546 dL_law_548 dL_law_549 dL_law_552 dL_law_554 dL_law_559 dL_law_561 dL_law_564 dL_law_565 dL_law_566 dL_law_567 dL_law_569 dL_law_570 dL_law_571 dL_law_576 (by decide) (fun h9 hz3 => nx A h9 (oS (toJ v) σ1) ρ1 (T) _ _ hz3 (rel_o hR1) (by omega) (by omega))
theorem law_push (hsc : scrOk x b L xs) (hrm : m_rm 2048 177588 8563342 x) (hL : L ≤ 3072) (hi : i + 6 ≤ L) (hz : Rp A h σ ρ) (hR : Rel T σ ρ) (h1 : kc + 3 * T + 210 ≤ 177588) (h2 : ks + 22 * T + 8000 ≤ 8563342) (nx : NX x b i T kc ks) : wp x mLaw 592 (LI b A i) [] h kc ks := by
  obtain ⟨P, Q, S, g, Lg, d, X, hRl⟩ := id hR
  obtain ⟨v, σ1, w, ρ1, e1, e2, hA, hR1⟩ := f_push hRl (xs (i + 1)) (xs (i + 2))
  refine w_aload_n 3 dL_law_592 rfl rfl rfl ?_
  refine w_sarg (c := 1) 4 0 hsc hL (by omega) rfl rfl rfl dL_law_593 dL_law_594 dL_law_596 dL_law_597 dL_law_598 rfl ?_
  refine w_sarg (c := 2) 4 0 hsc hL (by omega) rfl rfl rfl dL_law_599 dL_law_600 dL_law_602 dL_law_603 dL_law_604 rfl ?_
  refine w_aload_n 1 dL_law_605 rfl rfl rfl ?_
  refine c_L_129 (b := 0) (As := [.ref (A 11 0 0), .int (xs (i + 1)), .int (xs (i + 2)), .ref (A 1984 0 0)]) (rest := []) (fun l => s_L_push hz e1 (ans_E hA) l) hrm dL_law_606 rfl rfl (by decide) (by omega) (by omega) rfl (by decide) (fun vr h9 hq => ?_) (fun _ _ hq => hq.elim)
  obtain ⟨rfl, hz1⟩ := qw_n hq
  refine w_istore ((5, .int (kO ["java/lang/IndexOutOfBoundsException", "java/lang/IllegalArgumentException", "java/lang/IllegalStateException"] (toJ v))) :: LI b A i) dL_law_609 rfl (by decide) rfl ?_
  refine w_aload_n 3 dL_law_611 rfl rfl rfl ?_
  refine w_sarg (c := 1) 5 1 hsc hL (by omega) rfl rfl rfl dL_law_612 dL_law_613 dL_law_615 dL_law_616 dL_law_617 rfl ?_
  refine w_sarg (c := 2) 5 1 hsc hL (by omega) rfl rfl rfl dL_law_618 dL_law_619 dL_law_621 dL_law_622 dL_law_623 rfl ?_
  refine c_L_131 (b := A 14 0 0) (As := [.int (xs (i + 1)), .int (xs (i + 2))]) (rest := []) (fun l => s_X14_push hz1 e2 l) hrm dL_law_624 rfl rfl (by decide) (by omega) (by omega) (hz1.o14 rfl) rfl (by decide) (fun vr h9 hq => ?_) (fun _ _ hq => hq.elim)
  obtain ⟨rfl, hz2⟩ := hq
  exact tail_i (p := 627) hrm hz2 (ans_I hA) cn_IAS (by omega) (by omega) dL_law_627 dL_law_629 dL_law_630 dL_law_633 dL_law_635 dL_law_640 dL_law_642 dL_law_645 dL_law_646 dL_law_647 dL_law_648 dL_law_650 dL_law_651 dL_law_652 dL_law_657 (by decide) (fun h9 hz3 => nx A h9 (oS (toJ v) σ1) ρ1 (T) _ _ hz3 (rel_o hR1) (by omega) (by omega))
theorem law_rows (hsc : scrOk x b L xs) (hrm : m_rm 2048 177588 8563342 x) (hL : L ≤ 3072) (hi : i + 6 ≤ L) (hz : Rp A h σ ρ) (hR : Rel T σ ρ) (h1 : kc + 3 * T + 210 ≤ 177588) (h2 : ks + 22 * T + 8000 ≤ 8563342) (nx : NX x b i T kc ks) : wp x mLaw 660 (LI b A i) [] h kc ks := by
  obtain ⟨P, Q, S, g, Lg, d, X, hRl⟩ := id hR
  obtain ⟨v, σ1, w, ρ1, e1, e2, hA, hR1⟩ := f_rows hRl (xs (i + 1))
  refine w_aload_n 3 dL_law_660 rfl rfl rfl ?_
  refine w_sarg (c := 1) 4 0 hsc hL (by omega) rfl rfl rfl dL_law_661 dL_law_662 dL_law_664 dL_law_665 dL_law_666 rfl ?_
  refine w_aload_n 1 dL_law_667 rfl rfl rfl ?_
  refine c_L_132 (b := 0) (As := [.ref (A 11 0 0), .int (xs (i + 1)), .ref (A 1984 0 0)]) (rest := []) (fun l => s_L_rows hz e1 (ans_E hA) l) hrm dL_law_668 rfl rfl (by decide) (by omega) (by omega) rfl (by decide) (fun vr h9 hq => ?_) (fun _ _ hq => hq.elim)
  obtain ⟨rfl, hz1⟩ := qw_n hq
  refine w_istore ((5, .int (kO ["java/lang/IndexOutOfBoundsException"] (toJ v))) :: LI b A i) dL_law_671 rfl (by decide) rfl ?_
  refine w_aload_n 3 dL_law_673 rfl rfl rfl ?_
  refine w_sarg (c := 1) 5 1 hsc hL (by omega) rfl rfl rfl dL_law_674 dL_law_675 dL_law_677 dL_law_678 dL_law_679 rfl ?_
  refine c_L_134 (b := A 14 0 0) (As := [.int (xs (i + 1))]) (rest := []) (fun l => s_X14_rows hz1 e2 l) hrm dL_law_680 rfl rfl (by decide) (by omega) (by omega) (hz1.o14 rfl) rfl (by decide) (fun vr h9 hq => ?_) (fun _ _ hq => hq.elim)
  obtain ⟨rfl, hz2⟩ := hq
  exact tail_i (p := 683) hrm hz2 (ans_I hA) cn_I (by omega) (by omega) dL_law_683 dL_law_685 dL_law_686 dL_law_689 dL_law_691 dL_law_696 dL_law_698 dL_law_701 dL_law_702 dL_law_703 dL_law_704 dL_law_706 dL_law_707 dL_law_708 dL_law_713 (by decide) (fun h9 hz3 => nx A h9 (oS (toJ v) σ1) ρ1 (T) _ _ hz3 (rel_o hR1) (by omega) (by omega))
theorem law_cell (hsc : scrOk x b L xs) (hrm : m_rm 2048 177588 8563342 x) (hL : L ≤ 3072) (hi : i + 6 ≤ L) (hz : Rp A h σ ρ) (hR : Rel T σ ρ) (h1 : kc + 3 * T + 210 ≤ 177588) (h2 : ks + 22 * T + 8000 ≤ 8563342) (nx : NX x b i T kc ks) : wp x mLaw 716 (LI b A i) [] h kc ks := by
  obtain ⟨P, Q, S, g, Lg, d, X, hRl⟩ := id hR
  obtain ⟨v, σ1, w, ρ1, e1, e2, hA, hR1⟩ := f_cell hRl (xs (i + 1)) (xs (i + 2)) (xs (i + 3))
  refine w_aload_n 3 dL_law_716 rfl rfl rfl ?_
  refine w_sarg (c := 1) 4 0 hsc hL (by omega) rfl rfl rfl dL_law_717 dL_law_718 dL_law_720 dL_law_721 dL_law_722 rfl ?_
  refine w_sarg (c := 2) 4 0 hsc hL (by omega) rfl rfl rfl dL_law_723 dL_law_724 dL_law_726 dL_law_727 dL_law_728 rfl ?_
  refine w_sarg (c := 3) 4 0 hsc hL (by omega) rfl rfl rfl dL_law_729 dL_law_730 dL_law_732 dL_law_733 dL_law_734 rfl ?_
  refine w_aload_n 1 dL_law_735 rfl rfl rfl ?_
  refine c_L_135 (b := 0) (As := [.ref (A 11 0 0), .int (xs (i + 1)), .int (xs (i + 2)), .int (xs (i + 3)), .ref (A 1984 0 0)]) (rest := []) (fun l => s_L_cell hz e1 (ans_E hA) l) hrm dL_law_736 rfl rfl (by decide) (by omega) (by omega) rfl (by decide) (fun vr h9 hq => ?_) (fun _ _ hq => hq.elim)
  obtain ⟨rfl, hz1⟩ := qw_n hq
  refine w_istore ((5, .int (kO ["java/lang/IndexOutOfBoundsException"] v)) :: LI b A i) dL_law_739 rfl (by decide) rfl ?_
  refine w_aload_n 3 dL_law_741 rfl rfl rfl ?_
  refine w_sarg (c := 1) 5 1 hsc hL (by omega) rfl rfl rfl dL_law_742 dL_law_743 dL_law_745 dL_law_746 dL_law_747 rfl ?_
  refine w_sarg (c := 2) 5 1 hsc hL (by omega) rfl rfl rfl dL_law_748 dL_law_749 dL_law_751 dL_law_752 dL_law_753 rfl ?_
  refine w_sarg (c := 3) 5 1 hsc hL (by omega) rfl rfl rfl dL_law_754 dL_law_755 dL_law_757 dL_law_758 dL_law_759 rfl ?_
  refine c_L_138 (b := A 14 0 0) (As := [.int (xs (i + 1)), .int (xs (i + 2)), .int (xs (i + 3))]) (rest := []) (fun l => s_X14_cell hz1 e2 l) hrm dL_law_760 rfl rfl (by decide) (by omega) (by omega) (hz1.o14 rfl) rfl (by decide) (fun vr h9 hq => ?_) (fun _ _ hq => hq.elim)
  obtain ⟨rfl, hz2⟩ := hq
  exact tail_j (p := 763) hrm hz2 hA cn_I (by omega) (by omega) dL_law_763 dL_law_765 dL_law_766 dL_law_769 dL_law_771 dL_law_776 dL_law_778 dL_law_781 dL_law_782 dL_law_783 dL_law_784 dL_law_786 dL_law_787 dL_law_792 (by decide) (fun h9 hz3 => nx A h9 (oS v σ1) ρ1 (T) _ _ hz3 (rel_o hR1) (by omega) (by omega))
theorem law_watermark (hsc : scrOk x b L xs) (hrm : m_rm 2048 177588 8563342 x) (hL : L ≤ 3072) (hi : i + 6 ≤ L) (hz : Rp A h σ ρ) (hR : Rel T σ ρ) (h1 : kc + 3 * T + 210 ≤ 177588) (h2 : ks + 22 * T + 8000 ≤ 8563342) (nx : NX x b i T kc ks) : wp x mLaw 795 (LI b A i) [] h kc ks := by
  obtain ⟨P, Q, S, g, Lg, d, X, hRl⟩ := id hR
  obtain ⟨v, σ1, w, ρ1, e1, e2, hA, hR1⟩ := f_watermark hRl (xs (i + 1))
  refine w_aload_n 3 dL_law_795 rfl rfl rfl ?_
  refine w_sarg (c := 1) 4 0 hsc hL (by omega) rfl rfl rfl dL_law_796 dL_law_797 dL_law_799 dL_law_800 dL_law_801 rfl ?_
  refine w_aload_n 1 dL_law_802 rfl rfl rfl ?_
  refine c_L_139 (b := 0) (As := [.ref (A 11 0 0), .int (xs (i + 1)), .ref (A 1984 0 0)]) (rest := []) (fun l => s_L_watermark hz e1 (ans_E hA) l) hrm dL_law_803 rfl rfl (by decide) (by omega) (by omega) rfl (by decide) (fun vr h9 hq => ?_) (fun _ _ hq => hq.elim)
  obtain ⟨rfl, hz1⟩ := qw_n hq
  refine w_istore ((5, .int (kO ["java/lang/IndexOutOfBoundsException"] (toJ v))) :: LI b A i) dL_law_806 rfl (by decide) rfl ?_
  refine w_aload_n 3 dL_law_808 rfl rfl rfl ?_
  refine w_sarg (c := 1) 5 1 hsc hL (by omega) rfl rfl rfl dL_law_809 dL_law_810 dL_law_812 dL_law_813 dL_law_814 rfl ?_
  refine c_L_141 (b := A 14 0 0) (As := [.int (xs (i + 1))]) (rest := []) (fun l => s_X14_watermark hz1 e2 l) hrm dL_law_815 rfl rfl (by decide) (by omega) (by omega) (hz1.o14 rfl) rfl (by decide) (fun vr h9 hq => ?_) (fun _ _ hq => hq.elim)
  obtain ⟨rfl, hz2⟩ := hq
  exact tail_i (p := 818) hrm hz2 (ans_I hA) cn_I (by omega) (by omega) dL_law_818 dL_law_820 dL_law_821 dL_law_824 dL_law_826 dL_law_831 dL_law_833 dL_law_836 dL_law_837 dL_law_838 dL_law_839 dL_law_841 dL_law_842 dL_law_843 dL_law_848 (by decide) (fun h9 hz3 => nx A h9 (oS (toJ v) σ1) ρ1 (T) _ _ hz3 (rel_o hR1) (by omega) (by omega))
theorem law_windows (hsc : scrOk x b L xs) (hrm : m_rm 2048 177588 8563342 x) (hL : L ≤ 3072) (hi : i + 6 ≤ L) (hz : Rp A h σ ρ) (hR : Rel T σ ρ) (h1 : kc + 3 * T + 210 ≤ 177588) (h2 : ks + 22 * T + 8000 ≤ 8563342) (nx : NX x b i T kc ks) : wp x mLaw 851 (LI b A i) [] h kc ks := by
  obtain ⟨P, Q, S, g, Lg, d, X, hRl⟩ := id hR
  obtain ⟨v, σ1, w, ρ1, e1, e2, hA, hR1⟩ := f_windows hRl (xs (i + 1)) (if xs (i + 2) = 0 then (0 : Int32) else 1)
  refine w_aload_n 3 dL_law_851 rfl rfl rfl ?_
  refine w_sarg (c := 1) 4 0 hsc hL (by omega) rfl rfl rfl dL_law_852 dL_law_853 dL_law_855 dL_law_856 dL_law_857 rfl ?_
  refine w_sarg (c := 2) 4 0 hsc hL (by omega) rfl rfl rfl dL_law_858 dL_law_859 dL_law_861 dL_law_862 dL_law_863 rfl ?_
  refine w_bit dL_law_864 dL_law_867 dL_law_868 dL_law_871 rfl ?_
  refine w_aload_n 1 dL_law_872 rfl rfl rfl ?_
  refine c_L_142 (b := 0) (As := [.ref (A 11 0 0), .int (xs (i + 1)), .int (if xs (i + 2) = 0 then (0 : Int32) else 1), .ref (A 1984 0 0)]) (rest := []) (fun l => s_L_windows hz e1 (ans_E hA) l) hrm dL_law_873 rfl rfl (by decide) (by omega) (by omega) rfl (by decide) (fun vr h9 hq => ?_) (fun _ _ hq => hq.elim)
  obtain ⟨rfl, hz1⟩ := qw_n hq
  refine w_istore ((5, .int (kO ["java/lang/IndexOutOfBoundsException"] (toJ v))) :: LI b A i) dL_law_876 rfl (by decide) rfl ?_
  refine w_aload_n 3 dL_law_878 rfl rfl rfl ?_
  refine w_sarg (c := 1) 5 1 hsc hL (by omega) rfl rfl rfl dL_law_879 dL_law_880 dL_law_882 dL_law_883 dL_law_884 rfl ?_
  refine w_sarg (c := 2) 5 1 hsc hL (by omega) rfl rfl rfl dL_law_885 dL_law_886 dL_law_888 dL_law_889 dL_law_890 rfl ?_
  refine w_bit dL_law_891 dL_law_894 dL_law_895 dL_law_898 rfl ?_
  refine c_L_145 (b := A 14 0 0) (As := [.int (xs (i + 1)), .int (if xs (i + 2) = 0 then (0 : Int32) else 1)]) (rest := []) (fun l => s_X14_windows hz1 e2 l) hrm dL_law_899 rfl rfl (by decide) (by omega) (by omega) (hz1.o14 rfl) rfl (by decide) (fun vr h9 hq => ?_) (fun _ _ hq => hq.elim)
  obtain ⟨rfl, hz2⟩ := hq
  exact tail_i (p := 902) hrm hz2 (ans_I hA) cn_I (by omega) (by omega) dL_law_902 dL_law_904 dL_law_905 dL_law_908 dL_law_910 dL_law_915 dL_law_917 dL_law_920 dL_law_921 dL_law_922 dL_law_923 dL_law_925 dL_law_926 dL_law_927 dL_law_932 (by decide) (fun h9 hz3 => nx A h9 (oS (toJ v) σ1) ρ1 (T) _ _ hz3 (rel_o hR1) (by omega) (by omega))
end LC
