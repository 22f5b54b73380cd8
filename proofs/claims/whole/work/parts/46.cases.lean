/-! each of the calls, both sides the same answer -/
section LK
variable {Γ1 Γ2 : kG} {p : Program} {l : Launch} {e : Env} {s : State} {m : MethodId} {b L : Nat} {xs : Nat → Int32} {below : List Frame} {meth : Method} {c : Code} {M : kM2} {x : kM1} {k : Nat}
theorem lc_0 (C : L_C Γ1 Γ2 p s m meth c b L xs) (hL : L ≤ 2048) (hk : k + 4 ≤ L) (Wq : RQ M x) (after : ∀ (M : kM2) (x : kM1), RQ M x → Lm Γ1 Γ2 p l e s m b below meth c M x (Llv Γ1 Γ2 b k) [] 975) : Lm Γ1 Γ2 p l e s m b below meth c M x (Llv Γ1 Γ2 b k) [] 172 := by
  obtain ⟨r, M', x', o1, o2, W'⟩ := al_set Wq (xs (k + 1)) (xs (k + 2))
  refine L_al C 2 dL_law_172 rfl rfl rfl ?_
  refine L_arg C (t := 1) hL hk (by decide) rfl dL_law_173 dL_law_174 dL_law_175 dL_law_176 dL_law_177 rfl ?_
  refine L_arg C (t := 2) hL hk (by decide) rfl dL_law_178 dL_law_179 dL_law_180 dL_law_181 dL_law_182 rfl ?_
  refine L_call1 C (rest := []) (As := [.int (xs (k + 1)), .int (xs (k + 2))]) (qX6_set l Γ1 C.2.2.2.2.1 M (xs (k + 1)) (xs (k + 2))) o1 mwX6_set iwX6_set (lw_gm (i := 339) (by decide +kernel) rfl) rfl ⟨by decide, by decide⟩ rfl rfl (Nat.le_of_ble_eq_true rfl) dL_law_183 rfl ?_
  refine L_al C 1 dL_law_186 rfl rfl rfl ?_
  refine L_arg C (t := 1) hL hk (by decide) rfl dL_law_187 dL_law_188 dL_law_189 dL_law_190 dL_law_191 rfl ?_
  refine L_arg C (t := 2) hL hk (by decide) rfl dL_law_192 dL_law_193 dL_law_194 dL_law_195 dL_law_196 rfl ?_
  refine L_call2 C (rest := [.int r]) (As := [.int (xs (k + 1)), .int (xs (k + 2))]) (qX7_set l Γ2 C.2.2.2.2.2.1 x (xs (k + 1)) (xs (k + 2))) o2 mwX7_set iwX7_set (lw_gm (i := 852) (by decide +kernel) rfl) rfl ⟨by decide, by decide⟩ rfl rfl (Nat.le_of_ble_eq_true rfl) dL_law_197 rfl ?_
  refine L_eq C (tgt := 975) dL_law_200 (by decide) ?_
  exact after M' x' W'
theorem lc_1 (C : L_C Γ1 Γ2 p s m meth c b L xs) (hL : L ≤ 2048) (hk : k + 4 ≤ L) (Wq : RQ M x) (after : ∀ (M : kM2) (x : kM1), RQ M x → Lm Γ1 Γ2 p l e s m b below meth c M x (Llv Γ1 Γ2 b k) [] 975) : Lm Γ1 Γ2 p l e s m b below meth c M x (Llv Γ1 Γ2 b k) [] 205 := by
  obtain ⟨r, M', x', o1, o2, W'⟩ := al_leak Wq (xs (k + 1)) (xs (k + 2))
  refine L_al C 2 dL_law_205 rfl rfl rfl ?_
  refine L_arg C (t := 1) hL hk (by decide) rfl dL_law_206 dL_law_207 dL_law_208 dL_law_209 dL_law_210 rfl ?_
  refine L_arg C (t := 2) hL hk (by decide) rfl dL_law_211 dL_law_212 dL_law_213 dL_law_214 dL_law_215 rfl ?_
  refine L_call1 C (rest := []) (As := [.int (xs (k + 1)), .int (xs (k + 2))]) (qX6_leak l Γ1 C.2.2.2.2.1 M (xs (k + 1)) (xs (k + 2))) o1 mwX6_leak iwX6_leak (lw_gm (i := 386) (by decide +kernel) rfl) rfl ⟨by decide, by decide⟩ rfl rfl (Nat.le_of_ble_eq_true rfl) dL_law_216 rfl ?_
  refine L_al C 1 dL_law_219 rfl rfl rfl ?_
  refine L_arg C (t := 1) hL hk (by decide) rfl dL_law_220 dL_law_221 dL_law_222 dL_law_223 dL_law_224 rfl ?_
  refine L_arg C (t := 2) hL hk (by decide) rfl dL_law_225 dL_law_226 dL_law_227 dL_law_228 dL_law_229 rfl ?_
  refine L_call2 C (rest := [.int r]) (As := [.int (xs (k + 1)), .int (xs (k + 2))]) (qX7_leak l Γ2 C.2.2.2.2.2.1 x (xs (k + 1)) (xs (k + 2))) o2 mwX7_leak iwX7_leak (lw_gm (i := 874) (by decide +kernel) rfl) rfl ⟨by decide, by decide⟩ rfl rfl (Nat.le_of_ble_eq_true rfl) dL_law_230 rfl ?_
  refine L_eq C (tgt := 975) dL_law_233 (by decide) ?_
  exact after M' x' W'
theorem lc_2 (C : L_C Γ1 Γ2 p s m meth c b L xs) (hL : L ≤ 2048) (hk : k + 4 ≤ L) (Wq : RQ M x) (after : ∀ (M : kM2) (x : kM1), RQ M x → Lm Γ1 Γ2 p l e s m b below meth c M x (Llv Γ1 Γ2 b k) [] 975) : Lm Γ1 Γ2 p l e s m b below meth c M x (Llv Γ1 Γ2 b k) [] 238 := by
  obtain ⟨r, M', x', o1, o2, W'⟩ := al_lock Wq (xs (k + 1))
  refine L_al C 2 dL_law_238 rfl rfl rfl ?_
  refine L_arg C (t := 1) hL hk (by decide) rfl dL_law_239 dL_law_240 dL_law_241 dL_law_242 dL_law_243 rfl ?_
  refine L_call1 C (rest := []) (As := [.int (xs (k + 1))]) (qX6_lock l Γ1 C.2.2.2.2.1 M (xs (k + 1))) o1 mwX6_lock iwX6_lock (lw_gm (i := 394) (by decide +kernel) rfl) rfl ⟨by decide, by decide⟩ rfl rfl (Nat.le_of_ble_eq_true rfl) dL_law_244 rfl ?_
  refine L_al C 1 dL_law_247 rfl rfl rfl ?_
  refine L_arg C (t := 1) hL hk (by decide) rfl dL_law_248 dL_law_249 dL_law_250 dL_law_251 dL_law_252 rfl ?_
  refine L_call2 C (rest := [.int r]) (As := [.int (xs (k + 1))]) (qX7_lock l Γ2 C.2.2.2.2.2.1 x (xs (k + 1))) o2 mwX7_lock iwX7_lock (lw_gm (i := 878) (by decide +kernel) rfl) rfl ⟨by decide, by decide⟩ rfl rfl (Nat.le_of_ble_eq_true rfl) dL_law_253 rfl ?_
  refine L_eq C (tgt := 975) dL_law_256 (by decide) ?_
  exact after M' x' W'
theorem lc_3 (C : L_C Γ1 Γ2 p s m meth c b L xs) (hL : L ≤ 2048) (hk : k + 4 ≤ L) (Wq : RQ M x) (after : ∀ (M : kM2) (x : kM1), RQ M x → Lm Γ1 Γ2 p l e s m b below meth c M x (Llv Γ1 Γ2 b k) [] 975) : Lm Γ1 Γ2 p l e s m b below meth c M x (Llv Γ1 Γ2 b k) [] 261 := by
  obtain ⟨r, M', x', o1, o2, W'⟩ := al_gate Wq (xs (k + 1))
  refine L_al C 2 dL_law_261 rfl rfl rfl ?_
  refine L_arg C (t := 1) hL hk (by decide) rfl dL_law_262 dL_law_263 dL_law_264 dL_law_265 dL_law_266 rfl ?_
  refine L_call1 C (rest := []) (As := [.int (xs (k + 1))]) (qX6_gate l Γ1 C.2.2.2.2.1 M (xs (k + 1))) o1 mwX6_gate iwX6_gate (lw_gm (i := 402) (by decide +kernel) rfl) rfl ⟨by decide, by decide⟩ rfl rfl (Nat.le_of_ble_eq_true rfl) dL_law_267 rfl ?_
  refine L_al C 1 dL_law_270 rfl rfl rfl ?_
  refine L_arg C (t := 1) hL hk (by decide) rfl dL_law_271 dL_law_272 dL_law_273 dL_law_274 dL_law_275 rfl ?_
  refine L_call2 C (rest := [.int r]) (As := [.int (xs (k + 1))]) (qX7_gate l Γ2 C.2.2.2.2.2.1 x (xs (k + 1))) o2 mwX7_gate iwX7_gate (lw_gm (i := 882) (by decide +kernel) rfl) rfl ⟨by decide, by decide⟩ rfl rfl (Nat.le_of_ble_eq_true rfl) dL_law_276 rfl ?_
  refine L_eq C (tgt := 975) dL_law_279 (by decide) ?_
  exact after M' x' W'
theorem lc_4 (C : L_C Γ1 Γ2 p s m meth c b L xs) (hL : L ≤ 2048) (hk : k + 4 ≤ L) (Wq : RQ M x) (after : ∀ (M : kM2) (x : kM1), RQ M x → Lm Γ1 Γ2 p l e s m b below meth c M x (Llv Γ1 Γ2 b k) [] 975) : Lm Γ1 Γ2 p l e s m b below meth c M x (Llv Γ1 Γ2 b k) [] 284 := by
  obtain ⟨r, M', x', o1, o2, W'⟩ := al_kind Wq (xs (k + 1)) (xs (k + 2)) (xs (k + 3))
  refine L_al C 2 dL_law_284 rfl rfl rfl ?_
  refine L_arg C (t := 1) hL hk (by decide) rfl dL_law_285 dL_law_286 dL_law_287 dL_law_288 dL_law_289 rfl ?_
  refine L_arg C (t := 2) hL hk (by decide) rfl dL_law_290 dL_law_291 dL_law_292 dL_law_293 dL_law_294 rfl ?_
  refine L_arg C (t := 3) hL hk (by decide) rfl dL_law_295 dL_law_296 dL_law_297 dL_law_298 dL_law_299 rfl ?_
  refine L_call1 C (rest := []) (As := [.int (xs (k + 1)), .int (xs (k + 2)), .int (xs (k + 3))]) (qX6_kind l Γ1 C.2.2.2.2.1 M (xs (k + 1)) (xs (k + 2)) (xs (k + 3))) o1 mwX6_kind iwX6_kind (lw_gm (i := 410) (by decide +kernel) rfl) rfl ⟨by decide, by decide⟩ rfl rfl (Nat.le_of_ble_eq_true rfl) dL_law_300 rfl ?_
  refine L_al C 1 dL_law_303 rfl rfl rfl ?_
  refine L_arg C (t := 1) hL hk (by decide) rfl dL_law_304 dL_law_305 dL_law_306 dL_law_307 dL_law_308 rfl ?_
  refine L_arg C (t := 2) hL hk (by decide) rfl dL_law_309 dL_law_310 dL_law_311 dL_law_312 dL_law_313 rfl ?_
  refine L_arg C (t := 3) hL hk (by decide) rfl dL_law_314 dL_law_315 dL_law_316 dL_law_317 dL_law_318 rfl ?_
  refine L_call2 C (rest := [.int r]) (As := [.int (xs (k + 1)), .int (xs (k + 2)), .int (xs (k + 3))]) (qX7_kind l Γ2 C.2.2.2.2.2.1 x (xs (k + 1)) (xs (k + 2)) (xs (k + 3))) o2 mwX7_kind iwX7_kind (lw_gm (i := 890) (by decide +kernel) rfl) rfl ⟨by decide, by decide⟩ rfl rfl (Nat.le_of_ble_eq_true rfl) dL_law_319 rfl ?_
  refine L_eq C (tgt := 975) dL_law_322 (by decide) ?_
  exact after M' x' W'
theorem lc_5 (C : L_C Γ1 Γ2 p s m meth c b L xs) (hL : L ≤ 2048) (hk : k + 4 ≤ L) (Wq : RQ M x) (after : ∀ (M : kM2) (x : kM1), RQ M x → Lm Γ1 Γ2 p l e s m b below meth c M x (Llv Γ1 Γ2 b k) [] 975) : Lm Γ1 Γ2 p l e s m b below meth c M x (Llv Γ1 Γ2 b k) [] 327 := by
  obtain ⟨r, M', x', o1, o2, W'⟩ := al_farmer Wq
  refine L_al C 2 dL_law_327 rfl rfl rfl ?_
  refine L_call1 C (rest := []) (As := []) (qX6_farmer l Γ1 C.2.2.2.2.1 M) o1 mwX6_farmer iwX6_farmer (lw_gm (i := 420) (by decide +kernel) rfl) rfl ⟨by decide, by decide⟩ rfl rfl (Nat.le_of_ble_eq_true rfl) dL_law_328 rfl ?_
  refine L_al C 1 dL_law_331 rfl rfl rfl ?_
  refine L_call2 C (rest := [.int r]) (As := []) (qX7_farmer l Γ2 C.2.2.2.2.2.1 x) o2 mwX7_farmer iwX7_farmer (lw_gm (i := 896) (by decide +kernel) rfl) rfl ⟨by decide, by decide⟩ rfl rfl (Nat.le_of_ble_eq_true rfl) dL_law_332 rfl ?_
  refine L_eq C (tgt := 975) dL_law_335 (by decide) ?_
  exact after M' x' W'
theorem lc_6 (C : L_C Γ1 Γ2 p s m meth c b L xs) (hL : L ≤ 2048) (hk : k + 4 ≤ L) (Wq : RQ M x) (after : ∀ (M : kM2) (x : kM1), RQ M x → Lm Γ1 Γ2 p l e s m b below meth c M x (Llv Γ1 Γ2 b k) [] 975) : Lm Γ1 Γ2 p l e s m b below meth c M x (Llv Γ1 Γ2 b k) [] 340 := by
  obtain ⟨r, M', x', o1, o2, W'⟩ := al_bring Wq (xs (k + 1)) (xs (k + 2)) (xs (k + 3))
  refine L_al C 2 dL_law_340 rfl rfl rfl ?_
  refine L_arg C (t := 1) hL hk (by decide) rfl dL_law_341 dL_law_342 dL_law_343 dL_law_344 dL_law_345 rfl ?_
  refine L_arg C (t := 2) hL hk (by decide) rfl dL_law_346 dL_law_347 dL_law_348 dL_law_349 dL_law_350 rfl ?_
  refine L_arg C (t := 3) hL hk (by decide) rfl dL_law_351 dL_law_352 dL_law_353 dL_law_354 dL_law_355 rfl ?_
  refine L_call1 C (rest := []) (As := [.int (xs (k + 1)), .int (xs (k + 2)), .int (xs (k + 3))]) (qX6_bring l Γ1 C.2.2.2.2.1 M (xs (k + 1)) (xs (k + 2)) (xs (k + 3))) o1 mwX6_bring iwX6_bring (lw_gm (i := 428) (by decide +kernel) rfl) rfl ⟨by decide, by decide⟩ rfl rfl (Nat.le_of_ble_eq_true rfl) dL_law_356 rfl ?_
  refine L_al C 1 dL_law_359 rfl rfl rfl ?_
  refine L_arg C (t := 1) hL hk (by decide) rfl dL_law_360 dL_law_361 dL_law_362 dL_law_363 dL_law_364 rfl ?_
  refine L_arg C (t := 2) hL hk (by decide) rfl dL_law_365 dL_law_366 dL_law_367 dL_law_368 dL_law_369 rfl ?_
  refine L_arg C (t := 3) hL hk (by decide) rfl dL_law_370 dL_law_371 dL_law_372 dL_law_373 dL_law_374 rfl ?_
  refine L_call2 C (rest := [.int r]) (As := [.int (xs (k + 1)), .int (xs (k + 2)), .int (xs (k + 3))]) (qX7_bring l Γ2 C.2.2.2.2.2.1 x (xs (k + 1)) (xs (k + 2)) (xs (k + 3))) o2 mwX7_bring iwX7_bring (lw_gm (i := 900) (by decide +kernel) rfl) rfl ⟨by decide, by decide⟩ rfl rfl (Nat.le_of_ble_eq_true rfl) dL_law_375 rfl ?_
  refine L_eq C (tgt := 975) dL_law_378 (by decide) ?_
  exact after M' x' W'
theorem lc_7 (C : L_C Γ1 Γ2 p s m meth c b L xs) (hL : L ≤ 2048) (hk : k + 4 ≤ L) (Wq : RQ M x) (after : ∀ (M : kM2) (x : kM1), RQ M x → Lm Γ1 Γ2 p l e s m b below meth c M x (Llv Γ1 Γ2 b k) [] 975) : Lm Γ1 Γ2 p l e s m b below meth c M x (Llv Γ1 Γ2 b k) [] 383 := by
  obtain ⟨r, M', x', o1, o2, W'⟩ := al_withdraw Wq (xs (k + 1))
  refine L_al C 2 dL_law_383 rfl rfl rfl ?_
  refine L_arg C (t := 1) hL hk (by decide) rfl dL_law_384 dL_law_385 dL_law_386 dL_law_387 dL_law_388 rfl ?_
  refine L_call1 C (rest := []) (As := [.int (xs (k + 1))]) (qX6_withdraw l Γ1 C.2.2.2.2.1 M (xs (k + 1))) o1 mwX6_withdraw iwX6_withdraw (lw_gm (i := 452) (by decide +kernel) rfl) rfl ⟨by decide, by decide⟩ rfl rfl (Nat.le_of_ble_eq_true rfl) dL_law_389 rfl ?_
  refine L_al C 1 dL_law_392 rfl rfl rfl ?_
  refine L_arg C (t := 1) hL hk (by decide) rfl dL_law_393 dL_law_394 dL_law_395 dL_law_396 dL_law_397 rfl ?_
  refine L_call2 C (rest := [.int r]) (As := [.int (xs (k + 1))]) (qX7_withdraw l Γ2 C.2.2.2.2.2.1 x (xs (k + 1))) o2 mwX7_withdraw iwX7_withdraw (lw_gm (i := 920) (by decide +kernel) rfl) rfl ⟨by decide, by decide⟩ rfl rfl (Nat.le_of_ble_eq_true rfl) dL_law_398 rfl ?_
  refine L_eq C (tgt := 975) dL_law_401 (by decide) ?_
  exact after M' x' W'
theorem lc_8 (C : L_C Γ1 Γ2 p s m meth c b L xs) (hL : L ≤ 2048) (hk : k + 4 ≤ L) (Wq : RQ M x) (after : ∀ (M : kM2) (x : kM1), RQ M x → Lm Γ1 Γ2 p l e s m b below meth c M x (Llv Γ1 Γ2 b k) [] 975) : Lm Γ1 Γ2 p l e s m b below meth c M x (Llv Γ1 Γ2 b k) [] 406 := by
  obtain ⟨r, M', x', o1, o2, W'⟩ := al_fetch Wq (xs (k + 1))
  refine L_al C 2 dL_law_406 rfl rfl rfl ?_
  refine L_arg C (t := 1) hL hk (by decide) rfl dL_law_407 dL_law_408 dL_law_409 dL_law_410 dL_law_411 rfl ?_
  refine L_call1 C (rest := []) (As := [.int (xs (k + 1))]) (qX6_fetch l Γ1 C.2.2.2.2.1 M (xs (k + 1))) o1 mwX6_fetch iwX6_fetch (lw_gm (i := 469) (by decide +kernel) rfl) rfl ⟨by decide, by decide⟩ rfl rfl (Nat.le_of_ble_eq_true rfl) dL_law_412 rfl ?_
  refine L_al C 1 dL_law_415 rfl rfl rfl ?_
  refine L_arg C (t := 1) hL hk (by decide) rfl dL_law_416 dL_law_417 dL_law_418 dL_law_419 dL_law_420 rfl ?_
  refine L_call2 C (rest := [.int r]) (As := [.int (xs (k + 1))]) (qX7_fetch l Γ2 C.2.2.2.2.2.1 x (xs (k + 1))) o2 mwX7_fetch iwX7_fetch (lw_gm (i := 933) (by decide +kernel) rfl) rfl ⟨by decide, by decide⟩ rfl rfl (Nat.le_of_ble_eq_true rfl) dL_law_421 rfl ?_
  refine L_eq C (tgt := 975) dL_law_424 (by decide) ?_
  exact after M' x' W'
theorem lc_9 (C : L_C Γ1 Γ2 p s m meth c b L xs) (hL : L ≤ 2048) (hk : k + 4 ≤ L) (Wq : RQ M x) (after : ∀ (M : kM2) (x : kM1), RQ M x → Lm Γ1 Γ2 p l e s m b below meth c M x (Llv Γ1 Γ2 b k) [] 975) : Lm Γ1 Γ2 p l e s m b below meth c M x (Llv Γ1 Γ2 b k) [] 429 := by
  obtain ⟨r, M', x', o1, o2, W'⟩ := al_kindOf Wq (xs (k + 1)) (xs (k + 2))
  refine L_al C 2 dL_law_429 rfl rfl rfl ?_
  refine L_arg C (t := 1) hL hk (by decide) rfl dL_law_430 dL_law_431 dL_law_432 dL_law_433 dL_law_434 rfl ?_
  refine L_arg C (t := 2) hL hk (by decide) rfl dL_law_435 dL_law_436 dL_law_437 dL_law_438 dL_law_439 rfl ?_
  refine L_call1 C (rest := []) (As := [.int (xs (k + 1)), .int (xs (k + 2))]) (qX6_kindOf l Γ1 C.2.2.2.2.1 M (xs (k + 1)) (xs (k + 2))) o1 mwX6_kindOf iwX6_kindOf (lw_gm (i := 485) (by decide +kernel) rfl) rfl ⟨by decide, by decide⟩ rfl rfl (Nat.le_of_ble_eq_true rfl) dL_law_440 rfl ?_
  refine L_al C 1 dL_law_443 rfl rfl rfl ?_
  refine L_arg C (t := 1) hL hk (by decide) rfl dL_law_444 dL_law_445 dL_law_446 dL_law_447 dL_law_448 rfl ?_
  refine L_arg C (t := 2) hL hk (by decide) rfl dL_law_449 dL_law_450 dL_law_451 dL_law_452 dL_law_453 rfl ?_
  refine L_call2 C (rest := [.int r]) (As := [.int (xs (k + 1)), .int (xs (k + 2))]) (qX7_kindOf l Γ2 C.2.2.2.2.2.1 x (xs (k + 1)) (xs (k + 2))) o2 mwX7_kindOf iwX7_kindOf (lw_gm (i := 953) (by decide +kernel) rfl) rfl ⟨by decide, by decide⟩ rfl rfl (Nat.le_of_ble_eq_true rfl) dL_law_454 rfl ?_
  refine L_eq C (tgt := 975) dL_law_457 (by decide) ?_
  exact after M' x' W'
theorem lc_10 (C : L_C Γ1 Γ2 p s m meth c b L xs) (hL : L ≤ 2048) (hk : k + 4 ≤ L) (Wq : RQ M x) (after : ∀ (M : kM2) (x : kM1), RQ M x → Lm Γ1 Γ2 p l e s m b below meth c M x (Llv Γ1 Γ2 b k) [] 975) : Lm Γ1 Γ2 p l e s m b below meth c M x (Llv Γ1 Γ2 b k) [] 462 := by
  obtain ⟨r, M', x', o1, o2, W'⟩ := al_farmerOf Wq (xs (k + 1)) (xs (k + 2))
  refine L_al C 2 dL_law_462 rfl rfl rfl ?_
  refine L_arg C (t := 1) hL hk (by decide) rfl dL_law_463 dL_law_464 dL_law_465 dL_law_466 dL_law_467 rfl ?_
  refine L_arg C (t := 2) hL hk (by decide) rfl dL_law_468 dL_law_469 dL_law_470 dL_law_471 dL_law_472 rfl ?_
  refine L_call1 C (rest := []) (As := [.int (xs (k + 1)), .int (xs (k + 2))]) (qX6_farmerOf l Γ1 C.2.2.2.2.1 M (xs (k + 1)) (xs (k + 2))) o1 mwX6_farmerOf iwX6_farmerOf (lw_gm (i := 514) (by decide +kernel) rfl) rfl ⟨by decide, by decide⟩ rfl rfl (Nat.le_of_ble_eq_true rfl) dL_law_473 rfl ?_
  refine L_al C 1 dL_law_476 rfl rfl rfl ?_
  refine L_arg C (t := 1) hL hk (by decide) rfl dL_law_477 dL_law_478 dL_law_479 dL_law_480 dL_law_481 rfl ?_
  refine L_arg C (t := 2) hL hk (by decide) rfl dL_law_482 dL_law_483 dL_law_484 dL_law_485 dL_law_486 rfl ?_
  refine L_call2 C (rest := [.int r]) (As := [.int (xs (k + 1)), .int (xs (k + 2))]) (qX7_farmerOf l Γ2 C.2.2.2.2.2.1 x (xs (k + 1)) (xs (k + 2))) o2 mwX7_farmerOf iwX7_farmerOf (lw_gm (i := 973) (by decide +kernel) rfl) rfl ⟨by decide, by decide⟩ rfl rfl (Nat.le_of_ble_eq_true rfl) dL_law_487 rfl ?_
  refine L_eq C (tgt := 975) dL_law_490 (by decide) ?_
  exact after M' x' W'
theorem lc_11 (C : L_C Γ1 Γ2 p s m meth c b L xs) (hL : L ≤ 2048) (hk : k + 4 ≤ L) (Wq : RQ M x) (after : ∀ (M : kM2) (x : kM1), RQ M x → Lm Γ1 Γ2 p l e s m b below meth c M x (Llv Γ1 Γ2 b k) [] 975) : Lm Γ1 Γ2 p l e s m b below meth c M x (Llv Γ1 Γ2 b k) [] 495 := by
  obtain ⟨r, M', x', o1, o2, W'⟩ := al_sackOf Wq (xs (k + 1)) (xs (k + 2))
  refine L_al C 2 dL_law_495 rfl rfl rfl ?_
  refine L_arg C (t := 1) hL hk (by decide) rfl dL_law_496 dL_law_497 dL_law_498 dL_law_499 dL_law_500 rfl ?_
  refine L_arg C (t := 2) hL hk (by decide) rfl dL_law_501 dL_law_502 dL_law_503 dL_law_504 dL_law_505 rfl ?_
  refine L_call1 C (rest := []) (As := [.int (xs (k + 1)), .int (xs (k + 2))]) (qX6_sackOf l Γ1 C.2.2.2.2.1 M (xs (k + 1)) (xs (k + 2))) o1 mwX6_sackOf iwX6_sackOf (lw_gm (i := 527) (by decide +kernel) rfl) rfl ⟨by decide, by decide⟩ rfl rfl (Nat.le_of_ble_eq_true rfl) dL_law_506 rfl ?_
  refine L_al C 1 dL_law_509 rfl rfl rfl ?_
  refine L_arg C (t := 1) hL hk (by decide) rfl dL_law_510 dL_law_511 dL_law_512 dL_law_513 dL_law_514 rfl ?_
  refine L_arg C (t := 2) hL hk (by decide) rfl dL_law_515 dL_law_516 dL_law_517 dL_law_518 dL_law_519 rfl ?_
  refine L_call2 C (rest := [.int r]) (As := [.int (xs (k + 1)), .int (xs (k + 2))]) (qX7_sackOf l Γ2 C.2.2.2.2.2.1 x (xs (k + 1)) (xs (k + 2))) o2 mwX7_sackOf iwX7_sackOf (lw_gm (i := 981) (by decide +kernel) rfl) rfl ⟨by decide, by decide⟩ rfl rfl (Nat.le_of_ble_eq_true rfl) dL_law_520 rfl ?_
  refine L_eq C (tgt := 975) dL_law_523 (by decide) ?_
  exact after M' x' W'
theorem lc_12 (C : L_C Γ1 Γ2 p s m meth c b L xs) (hL : L ≤ 2048) (hk : k + 4 ≤ L) (Wq : RQ M x) (after : ∀ (M : kM2) (x : kM1), RQ M x → Lm Γ1 Γ2 p l e s m b below meth c M x (Llv Γ1 Γ2 b k) [] 975) : Lm Γ1 Γ2 p l e s m b below meth c M x (Llv Γ1 Γ2 b k) [] 528 := by
  obtain ⟨r, M', x', o1, o2, W'⟩ := al_queueAt Wq (xs (k + 1))
  refine L_al C 2 dL_law_528 rfl rfl rfl ?_
  refine L_arg C (t := 1) hL hk (by decide) rfl dL_law_529 dL_law_530 dL_law_531 dL_law_532 dL_law_533 rfl ?_
  refine L_call1 C (rest := []) (As := [.int (xs (k + 1))]) (qX6_queueAt l Γ1 C.2.2.2.2.1 M (xs (k + 1))) o1 mwX6_queueAt iwX6_queueAt (lw_gm (i := 546) (by decide +kernel) rfl) rfl ⟨by decide, by decide⟩ rfl rfl (Nat.le_of_ble_eq_true rfl) dL_law_534 rfl ?_
  refine L_al C 1 dL_law_537 rfl rfl rfl ?_
  refine L_arg C (t := 1) hL hk (by decide) rfl dL_law_538 dL_law_539 dL_law_540 dL_law_541 dL_law_542 rfl ?_
  refine L_call2 C (rest := [.int r]) (As := [.int (xs (k + 1))]) (qX7_queueAt l Γ2 C.2.2.2.2.2.1 x (xs (k + 1))) o2 mwX7_queueAt iwX7_queueAt (lw_gm (i := 998) (by decide +kernel) rfl) rfl ⟨by decide, by decide⟩ rfl rfl (Nat.le_of_ble_eq_true rfl) dL_law_543 rfl ?_
  refine L_eq C (tgt := 975) dL_law_546 (by decide) ?_
  exact after M' x' W'
theorem lc_13 (C : L_C Γ1 Γ2 p s m meth c b L xs) (hL : L ≤ 2048) (hk : k + 4 ≤ L) (Wq : RQ M x) (after : ∀ (M : kM2) (x : kM1), RQ M x → Lm Γ1 Γ2 p l e s m b below meth c M x (Llv Γ1 Γ2 b k) [] 975) : Lm Γ1 Γ2 p l e s m b below meth c M x (Llv Γ1 Γ2 b k) [] 551 := by
  obtain ⟨r, M', x', o1, o2, W'⟩ := al_account Wq (xs (k + 1)) (xs (k + 2)) (xs (k + 3))
  refine L_al C 2 dL_law_551 rfl rfl rfl ?_
  refine L_arg C (t := 1) hL hk (by decide) rfl dL_law_552 dL_law_553 dL_law_554 dL_law_555 dL_law_556 rfl ?_
  refine L_arg C (t := 2) hL hk (by decide) rfl dL_law_557 dL_law_558 dL_law_559 dL_law_560 dL_law_561 rfl ?_
  refine L_arg C (t := 3) hL hk (by decide) rfl dL_law_562 dL_law_563 dL_law_564 dL_law_565 dL_law_566 rfl ?_
  refine L_call1 C (rest := []) (As := [.int (xs (k + 1)), .int (xs (k + 2)), .int (xs (k + 3))]) (qX6_account l Γ1 C.2.2.2.2.1 M (xs (k + 1)) (xs (k + 2)) (xs (k + 3))) o1 mwX6_account iwX6_account (lw_gm (i := 555) (by decide +kernel) rfl) rfl ⟨by decide, by decide⟩ rfl rfl (Nat.le_of_ble_eq_true rfl) dL_law_567 rfl ?_
  refine L_al C 1 dL_law_570 rfl rfl rfl ?_
  refine L_arg C (t := 1) hL hk (by decide) rfl dL_law_571 dL_law_572 dL_law_573 dL_law_574 dL_law_575 rfl ?_
  refine L_arg C (t := 2) hL hk (by decide) rfl dL_law_576 dL_law_577 dL_law_578 dL_law_579 dL_law_580 rfl ?_
  refine L_arg C (t := 3) hL hk (by decide) rfl dL_law_581 dL_law_582 dL_law_583 dL_law_584 dL_law_585 rfl ?_
  refine L_call2 C (rest := [.int r]) (As := [.int (xs (k + 1)), .int (xs (k + 2)), .int (xs (k + 3))]) (qX7_account l Γ2 C.2.2.2.2.2.1 x (xs (k + 1)) (xs (k + 2)) (xs (k + 3))) o2 mwX7_account iwX7_account (lw_gm (i := 1006) (by decide +kernel) rfl) rfl ⟨by decide, by decide⟩ rfl rfl (Nat.le_of_ble_eq_true rfl) dL_law_586 rfl ?_
  refine L_eq C (tgt := 975) dL_law_589 (by decide) ?_
  exact after M' x' W'
theorem lc_14 (C : L_C Γ1 Γ2 p s m meth c b L xs) (hL : L ≤ 2048) (hk : k + 4 ≤ L) (Wq : RQ M x) (after : ∀ (M : kM2) (x : kM1), RQ M x → Lm Γ1 Γ2 p l e s m b below meth c M x (Llv Γ1 Γ2 b k) [] 975) : Lm Γ1 Γ2 p l e s m b below meth c M x (Llv Γ1 Γ2 b k) [] 594 := by
  obtain ⟨r, M', x', o1, o2, W'⟩ := al_earn Wq (xs (k + 1)) (xs (k + 2))
  refine L_al C 2 dL_law_594 rfl rfl rfl ?_
  refine L_arg C (t := 1) hL hk (by decide) rfl dL_law_595 dL_law_596 dL_law_597 dL_law_598 dL_law_599 rfl ?_
  refine L_arg C (t := 2) hL hk (by decide) rfl dL_law_600 dL_law_601 dL_law_602 dL_law_603 dL_law_604 rfl ?_
  refine L_call1 C (rest := []) (As := [.int (xs (k + 1)), .int (xs (k + 2))]) (qX6_earn l Γ1 C.2.2.2.2.1 M (xs (k + 1)) (xs (k + 2))) o1 mwX6_earn iwX6_earn (lw_gm (i := 560) (by decide +kernel) rfl) rfl ⟨by decide, by decide⟩ rfl rfl (Nat.le_of_ble_eq_true rfl) dL_law_605 rfl ?_
  refine L_al C 1 dL_law_608 rfl rfl rfl ?_
  refine L_arg C (t := 1) hL hk (by decide) rfl dL_law_609 dL_law_610 dL_law_611 dL_law_612 dL_law_613 rfl ?_
  refine L_arg C (t := 2) hL hk (by decide) rfl dL_law_614 dL_law_615 dL_law_616 dL_law_617 dL_law_618 rfl ?_
  refine L_call2 C (rest := [.int r]) (As := [.int (xs (k + 1)), .int (xs (k + 2))]) (qX7_earn l Γ2 C.2.2.2.2.2.1 x (xs (k + 1)) (xs (k + 2))) o2 mwX7_earn iwX7_earn (lw_gm (i := 1010) (by decide +kernel) rfl) rfl ⟨by decide, by decide⟩ rfl rfl (Nat.le_of_ble_eq_true rfl) dL_law_619 rfl ?_
  refine L_eq C (tgt := 975) dL_law_622 (by decide) ?_
  exact after M' x' W'
theorem lc_15 (C : L_C Γ1 Γ2 p s m meth c b L xs) (hL : L ≤ 2048) (hk : k + 4 ≤ L) (Wq : RQ M x) (after : ∀ (M : kM2) (x : kM1), RQ M x → Lm Γ1 Γ2 p l e s m b below meth c M x (Llv Γ1 Γ2 b k) [] 975) : Lm Γ1 Γ2 p l e s m b below meth c M x (Llv Γ1 Γ2 b k) [] 627 := by
  obtain ⟨r, M', x', o1, o2, W'⟩ := al_pledge Wq (xs (k + 1)) (xs (k + 2))
  refine L_al C 2 dL_law_627 rfl rfl rfl ?_
  refine L_arg C (t := 1) hL hk (by decide) rfl dL_law_628 dL_law_629 dL_law_630 dL_law_631 dL_law_632 rfl ?_
  refine L_arg C (t := 2) hL hk (by decide) rfl dL_law_633 dL_law_634 dL_law_635 dL_law_636 dL_law_637 rfl ?_
  refine L_call1 C (rest := []) (As := [.int (xs (k + 1)), .int (xs (k + 2))]) (qX6_pledge l Γ1 C.2.2.2.2.1 M (xs (k + 1)) (xs (k + 2))) o1 mwX6_pledge iwX6_pledge (lw_gm (i := 570) (by decide +kernel) rfl) rfl ⟨by decide, by decide⟩ rfl rfl (Nat.le_of_ble_eq_true rfl) dL_law_638 rfl ?_
  refine L_al C 1 dL_law_641 rfl rfl rfl ?_
  refine L_arg C (t := 1) hL hk (by decide) rfl dL_law_642 dL_law_643 dL_law_644 dL_law_645 dL_law_646 rfl ?_
  refine L_arg C (t := 2) hL hk (by decide) rfl dL_law_647 dL_law_648 dL_law_649 dL_law_650 dL_law_651 rfl ?_
  refine L_call2 C (rest := [.int r]) (As := [.int (xs (k + 1)), .int (xs (k + 2))]) (qX7_pledge l Γ2 C.2.2.2.2.2.1 x (xs (k + 1)) (xs (k + 2))) o2 mwX7_pledge iwX7_pledge (lw_gm (i := 1016) (by decide +kernel) rfl) rfl ⟨by decide, by decide⟩ rfl rfl (Nat.le_of_ble_eq_true rfl) dL_law_652 rfl ?_
  refine L_eq C (tgt := 975) dL_law_655 (by decide) ?_
  exact after M' x' W'
theorem lc_16 (C : L_C Γ1 Γ2 p s m meth c b L xs) (hL : L ≤ 2048) (hk : k + 4 ≤ L) (Wq : RQ M x) (after : ∀ (M : kM2) (x : kM1), RQ M x → Lm Γ1 Γ2 p l e s m b below meth c M x (Llv Γ1 Γ2 b k) [] 975) : Lm Γ1 Γ2 p l e s m b below meth c M x (Llv Γ1 Γ2 b k) [] 660 := by
  obtain ⟨r, M', x', o1, o2, W'⟩ := al_owed Wq (xs (k + 1))
  refine L_al C 2 dL_law_660 rfl rfl rfl ?_
  refine L_arg C (t := 1) hL hk (by decide) rfl dL_law_661 dL_law_662 dL_law_663 dL_law_664 dL_law_665 rfl ?_
  refine L_call1 C (rest := []) (As := [.int (xs (k + 1))]) (qX6_owed l Γ1 C.2.2.2.2.1 M (xs (k + 1))) o1 mwX6_owed iwX6_owed (lw_gm (i := 587) (by decide +kernel) rfl) rfl ⟨by decide, by decide⟩ rfl rfl (Nat.le_of_ble_eq_true rfl) dL_law_666 rfl ?_
  refine L_al C 1 dL_law_669 rfl rfl rfl ?_
  refine L_arg C (t := 1) hL hk (by decide) rfl dL_law_670 dL_law_671 dL_law_672 dL_law_673 dL_law_674 rfl ?_
  refine L_call2 C (rest := [.int r]) (As := [.int (xs (k + 1))]) (qX7_owed l Γ2 C.2.2.2.2.2.1 x (xs (k + 1))) o2 mwX7_owed iwX7_owed (lw_gm (i := 1028) (by decide +kernel) rfl) rfl ⟨by decide, by decide⟩ rfl rfl (Nat.le_of_ble_eq_true rfl) dL_law_675 rfl ?_
  refine L_eq C (tgt := 975) dL_law_678 (by decide) ?_
  exact after M' x' W'
theorem lc_17 (C : L_C Γ1 Γ2 p s m meth c b L xs) (hL : L ≤ 2048) (hk : k + 4 ≤ L) (Wq : RQ M x) (after : ∀ (M : kM2) (x : kM1), RQ M x → Lm Γ1 Γ2 p l e s m b below meth c M x (Llv Γ1 Γ2 b k) [] 975) : Lm Γ1 Γ2 p l e s m b below meth c M x (Llv Γ1 Γ2 b k) [] 683 := by
  obtain ⟨r, M', x', o1, o2, W'⟩ := al_redeem Wq (xs (k + 1))
  refine L_al C 2 dL_law_683 rfl rfl rfl ?_
  refine L_arg C (t := 1) hL hk (by decide) rfl dL_law_684 dL_law_685 dL_law_686 dL_law_687 dL_law_688 rfl ?_
  refine L_call1 C (rest := []) (As := [.int (xs (k + 1))]) (qX6_redeem l Γ1 C.2.2.2.2.1 M (xs (k + 1))) o1 mwX6_redeem iwX6_redeem (lw_gm (i := 599) (by decide +kernel) rfl) rfl ⟨by decide, by decide⟩ rfl rfl (Nat.le_of_ble_eq_true rfl) dL_law_689 rfl ?_
  refine L_al C 1 dL_law_692 rfl rfl rfl ?_
  refine L_arg C (t := 1) hL hk (by decide) rfl dL_law_693 dL_law_694 dL_law_695 dL_law_696 dL_law_697 rfl ?_
  refine L_call2 C (rest := [.int r]) (As := [.int (xs (k + 1))]) (qX7_redeem l Γ2 C.2.2.2.2.2.1 x (xs (k + 1))) o2 mwX7_redeem iwX7_redeem (lw_gm (i := 1036) (by decide +kernel) rfl) rfl ⟨by decide, by decide⟩ rfl rfl (Nat.le_of_ble_eq_true rfl) dL_law_698 rfl ?_
  refine L_eq C (tgt := 975) dL_law_701 (by decide) ?_
  exact after M' x' W'
theorem lc_18 (C : L_C Γ1 Γ2 p s m meth c b L xs) (hL : L ≤ 2048) (hk : k + 4 ≤ L) (Wq : RQ M x) (after : ∀ (M : kM2) (x : kM1), RQ M x → Lm Γ1 Γ2 p l e s m b below meth c M x (Llv Γ1 Γ2 b k) [] 975) : Lm Γ1 Γ2 p l e s m b below meth c M x (Llv Γ1 Γ2 b k) [] 706 := by
  obtain ⟨r, M', x', o1, o2, W'⟩ := al_pledgeAt Wq (xs (k + 1)) (xs (k + 2))
  refine L_al C 2 dL_law_706 rfl rfl rfl ?_
  refine L_arg C (t := 1) hL hk (by decide) rfl dL_law_707 dL_law_708 dL_law_709 dL_law_710 dL_law_711 rfl ?_
  refine L_arg C (t := 2) hL hk (by decide) rfl dL_law_712 dL_law_713 dL_law_714 dL_law_715 dL_law_716 rfl ?_
  refine L_call1 C (rest := []) (As := [.int (xs (k + 1)), .int (xs (k + 2))]) (qX6_pledgeAt l Γ1 C.2.2.2.2.1 M (xs (k + 1)) (xs (k + 2))) o1 mwX6_pledgeAt iwX6_pledgeAt (lw_gm (i := 609) (by decide +kernel) rfl) rfl ⟨by decide, by decide⟩ rfl rfl (Nat.le_of_ble_eq_true rfl) dL_law_717 rfl ?_
  refine L_al C 1 dL_law_720 rfl rfl rfl ?_
  refine L_arg C (t := 1) hL hk (by decide) rfl dL_law_721 dL_law_722 dL_law_723 dL_law_724 dL_law_725 rfl ?_
  refine L_arg C (t := 2) hL hk (by decide) rfl dL_law_726 dL_law_727 dL_law_728 dL_law_729 dL_law_730 rfl ?_
  refine L_call2 C (rest := [.int r]) (As := [.int (xs (k + 1)), .int (xs (k + 2))]) (qX7_pledgeAt l Γ2 C.2.2.2.2.2.1 x (xs (k + 1)) (xs (k + 2))) o2 mwX7_pledgeAt iwX7_pledgeAt (lw_gm (i := 1044) (by decide +kernel) rfl) rfl ⟨by decide, by decide⟩ rfl rfl (Nat.le_of_ble_eq_true rfl) dL_law_731 rfl ?_
  refine L_eq C (tgt := 975) dL_law_734 (by decide) ?_
  exact after M' x' W'
theorem lc_19 (C : L_C Γ1 Γ2 p s m meth c b L xs) (hL : L ≤ 2048) (hk : k + 4 ≤ L) (Wq : RQ M x) (after : ∀ (M : kM2) (x : kM1), RQ M x → Lm Γ1 Γ2 p l e s m b below meth c M x (Llv Γ1 Γ2 b k) [] 975) : Lm Γ1 Γ2 p l e s m b below meth c M x (Llv Γ1 Γ2 b k) [] 739 := by
  obtain ⟨r, M', x', o1, o2, W'⟩ := al_pass Wq (xs (k + 1))
  refine L_al C 2 dL_law_739 rfl rfl rfl ?_
  refine L_arg C (t := 1) hL hk (by decide) rfl dL_law_740 dL_law_741 dL_law_742 dL_law_743 dL_law_744 rfl ?_
  refine L_call1 C (rest := []) (As := [.int (xs (k + 1))]) (qX6_pass l Γ1 C.2.2.2.2.1 M (xs (k + 1))) o1 mwX6_pass iwX6_pass (lw_gm (i := 625) (by decide +kernel) rfl) rfl ⟨by decide, by decide⟩ rfl rfl (Nat.le_of_ble_eq_true rfl) dL_law_745 rfl ?_
  refine L_al C 1 dL_law_748 rfl rfl rfl ?_
  refine L_arg C (t := 1) hL hk (by decide) rfl dL_law_749 dL_law_750 dL_law_751 dL_law_752 dL_law_753 rfl ?_
  refine L_call2 C (rest := [.int r]) (As := [.int (xs (k + 1))]) (qX7_pass l Γ2 C.2.2.2.2.2.1 x (xs (k + 1))) o2 mwX7_pass iwX7_pass (lw_gm (i := 1052) (by decide +kernel) rfl) rfl ⟨by decide, by decide⟩ rfl rfl (Nat.le_of_ble_eq_true rfl) dL_law_754 rfl ?_
  refine L_eq C (tgt := 975) dL_law_757 (by decide) ?_
  exact after M' x' W'
theorem lc_20 (C : L_C Γ1 Γ2 p s m meth c b L xs) (hL : L ≤ 2048) (hk : k + 4 ≤ L) (Wq : RQ M x) (after : ∀ (M : kM2) (x : kM1), RQ M x → Lm Γ1 Γ2 p l e s m b below meth c M x (Llv Γ1 Γ2 b k) [] 975) : Lm Γ1 Γ2 p l e s m b below meth c M x (Llv Γ1 Γ2 b k) [] 762 := by
  obtain ⟨r, M', x', o1, o2, W'⟩ := al_seaIn Wq (xs (k + 1))
  refine L_al C 2 dL_law_762 rfl rfl rfl ?_
  refine L_arg C (t := 1) hL hk (by decide) rfl dL_law_763 dL_law_764 dL_law_765 dL_law_766 dL_law_767 rfl ?_
  refine L_call1 C (rest := []) (As := [.int (xs (k + 1))]) (qX6_seaIn l Γ1 C.2.2.2.2.1 M (xs (k + 1))) o1 mwX6_seaIn iwX6_seaIn (lw_gm (i := 693) (by decide +kernel) rfl) rfl ⟨by decide, by decide⟩ rfl rfl (Nat.le_of_ble_eq_true rfl) dL_law_768 rfl ?_
  refine L_al C 1 dL_law_771 rfl rfl rfl ?_
  refine L_arg C (t := 1) hL hk (by decide) rfl dL_law_772 dL_law_773 dL_law_774 dL_law_775 dL_law_776 rfl ?_
  refine L_call2 C (rest := [.int r]) (As := [.int (xs (k + 1))]) (qX7_seaIn l Γ2 C.2.2.2.2.2.1 x (xs (k + 1))) o2 mwX7_seaIn iwX7_seaIn (lw_gm (i := 1088) (by decide +kernel) rfl) rfl ⟨by decide, by decide⟩ rfl rfl (Nat.le_of_ble_eq_true rfl) dL_law_777 rfl ?_
  refine L_eq C (tgt := 975) dL_law_780 (by decide) ?_
  exact after M' x' W'
theorem lc_21 (C : L_C Γ1 Γ2 p s m meth c b L xs) (hL : L ≤ 2048) (hk : k + 4 ≤ L) (Wq : RQ M x) (after : ∀ (M : kM2) (x : kM1), RQ M x → Lm Γ1 Γ2 p l e s m b below meth c M x (Llv Γ1 Γ2 b k) [] 975) : Lm Γ1 Γ2 p l e s m b below meth c M x (Llv Γ1 Γ2 b k) [] 785 := by
  obtain ⟨r, M', x', o1, o2, W'⟩ := al_nextHigh Wq
  refine L_al C 2 dL_law_785 rfl rfl rfl ?_
  refine L_call1 C (rest := []) (As := []) (qX6_nextHigh l Γ1 C.2.2.2.2.1 M) o1 mwX6_nextHigh iwX6_nextHigh (lw_gm (i := 698) (by decide +kernel) rfl) rfl ⟨by decide, by decide⟩ rfl rfl (Nat.le_of_ble_eq_true rfl) dL_law_786 rfl ?_
  refine L_al C 1 dL_law_789 rfl rfl rfl ?_
  refine L_call2 C (rest := [.int r]) (As := []) (qX7_nextHigh l Γ2 C.2.2.2.2.2.1 x) o2 mwX7_nextHigh iwX7_nextHigh (lw_gm (i := 1092) (by decide +kernel) rfl) rfl ⟨by decide, by decide⟩ rfl rfl (Nat.le_of_ble_eq_true rfl) dL_law_790 rfl ?_
  refine L_eq C (tgt := 975) dL_law_793 (by decide) ?_
  exact after M' x' W'
theorem lc_22 (C : L_C Γ1 Γ2 p s m meth c b L xs) (hL : L ≤ 2048) (hk : k + 4 ≤ L) (Wq : RQ M x) (after : ∀ (M : kM2) (x : kM1), RQ M x → Lm Γ1 Γ2 p l e s m b below meth c M x (Llv Γ1 Γ2 b k) [] 975) : Lm Γ1 Γ2 p l e s m b below meth c M x (Llv Γ1 Γ2 b k) [] 798 := by
  obtain ⟨r, M', x', o1, o2, W'⟩ := al_pond Wq (xs (k + 1))
  refine L_al C 2 dL_law_798 rfl rfl rfl ?_
  refine L_arg C (t := 1) hL hk (by decide) rfl dL_law_799 dL_law_800 dL_law_801 dL_law_802 dL_law_803 rfl ?_
  refine L_call1 C (rest := []) (As := [.int (xs (k + 1))]) (qX6_pond l Γ1 C.2.2.2.2.1 M (xs (k + 1))) o1 mwX6_pond iwX6_pond (lw_gm (i := 706) (by decide +kernel) rfl) rfl ⟨by decide, by decide⟩ rfl rfl (Nat.le_of_ble_eq_true rfl) dL_law_804 rfl ?_
  refine L_al C 1 dL_law_807 rfl rfl rfl ?_
  refine L_arg C (t := 1) hL hk (by decide) rfl dL_law_808 dL_law_809 dL_law_810 dL_law_811 dL_law_812 rfl ?_
  refine L_call2 C (rest := [.int r]) (As := [.int (xs (k + 1))]) (qX7_pond l Γ2 C.2.2.2.2.2.1 x (xs (k + 1))) o2 mwX7_pond iwX7_pond (lw_gm (i := 1096) (by decide +kernel) rfl) rfl ⟨by decide, by decide⟩ rfl rfl (Nat.le_of_ble_eq_true rfl) dL_law_813 rfl ?_
  refine L_eq C (tgt := 975) dL_law_816 (by decide) ?_
  exact after M' x' W'
theorem lc_23 (C : L_C Γ1 Γ2 p s m meth c b L xs) (hL : L ≤ 2048) (hk : k + 4 ≤ L) (Wq : RQ M x) (after : ∀ (M : kM2) (x : kM1), RQ M x → Lm Γ1 Γ2 p l e s m b below meth c M x (Llv Γ1 Γ2 b k) [] 975) : Lm Γ1 Γ2 p l e s m b below meth c M x (Llv Γ1 Γ2 b k) [] 821 := by
  obtain ⟨r, M', x', o1, o2, W'⟩ := al_foresee Wq (xs (k + 1))
  refine L_al C 2 dL_law_821 rfl rfl rfl ?_
  refine L_arg C (t := 1) hL hk (by decide) rfl dL_law_822 dL_law_823 dL_law_824 dL_law_825 dL_law_826 rfl ?_
  refine L_call1 C (rest := []) (As := [.int (xs (k + 1))]) (qX6_foresee l Γ1 C.2.2.2.2.1 M (xs (k + 1))) o1 mwX6_foresee iwX6_foresee (lw_gm (i := 714) (by decide +kernel) rfl) rfl ⟨by decide, by decide⟩ rfl rfl (Nat.le_of_ble_eq_true rfl) dL_law_827 rfl ?_
  refine L_al C 1 dL_law_830 rfl rfl rfl ?_
  refine L_arg C (t := 1) hL hk (by decide) rfl dL_law_831 dL_law_832 dL_law_833 dL_law_834 dL_law_835 rfl ?_
  refine L_call2 C (rest := [.int r]) (As := [.int (xs (k + 1))]) (qX7_foresee l Γ2 C.2.2.2.2.2.1 x (xs (k + 1))) o2 mwX7_foresee iwX7_foresee (lw_gm (i := 1100) (by decide +kernel) rfl) rfl ⟨by decide, by decide⟩ rfl rfl (Nat.le_of_ble_eq_true rfl) dL_law_836 rfl ?_
  refine L_eq C (tgt := 975) dL_law_839 (by decide) ?_
  exact after M' x' W'
theorem lc_24 (C : L_C Γ1 Γ2 p s m meth c b L xs) (hL : L ≤ 2048) (hk : k + 4 ≤ L) (Wq : RQ M x) (after : ∀ (M : kM2) (x : kM1), RQ M x → Lm Γ1 Γ2 p l e s m b below meth c M x (Llv Γ1 Γ2 b k) [] 975) : Lm Γ1 Γ2 p l e s m b below meth c M x (Llv Γ1 Γ2 b k) [] 844 := by
  obtain ⟨r, M', x', o1, o2, W'⟩ := al_bestGate Wq (xs (k + 1))
  refine L_al C 2 dL_law_844 rfl rfl rfl ?_
  refine L_arg C (t := 1) hL hk (by decide) rfl dL_law_845 dL_law_846 dL_law_847 dL_law_848 dL_law_849 rfl ?_
  refine L_call1 C (rest := []) (As := [.int (xs (k + 1))]) (qX6_bestGate l Γ1 C.2.2.2.2.1 M (xs (k + 1))) o1 mwX6_bestGate iwX6_bestGate (lw_gm (i := 721) (by decide +kernel) rfl) rfl ⟨by decide, by decide⟩ rfl rfl (Nat.le_of_ble_eq_true rfl) dL_law_850 rfl ?_
  refine L_al C 1 dL_law_853 rfl rfl rfl ?_
  refine L_arg C (t := 1) hL hk (by decide) rfl dL_law_854 dL_law_855 dL_law_856 dL_law_857 dL_law_858 rfl ?_
  refine L_call2 C (rest := [.int r]) (As := [.int (xs (k + 1))]) (qX7_bestGate l Γ2 C.2.2.2.2.2.1 x (xs (k + 1))) o2 mwX7_bestGate iwX7_bestGate (lw_gm (i := 1112) (by decide +kernel) rfl) rfl ⟨by decide, by decide⟩ rfl rfl (Nat.le_of_ble_eq_true rfl) dL_law_859 rfl ?_
  refine L_eq C (tgt := 975) dL_law_862 (by decide) ?_
  exact after M' x' W'
theorem lc_25 (C : L_C Γ1 Γ2 p s m meth c b L xs) (hL : L ≤ 2048) (hk : k + 4 ≤ L) (Wq : RQ M x) (after : ∀ (M : kM2) (x : kM1), RQ M x → Lm Γ1 Γ2 p l e s m b below meth c M x (Llv Γ1 Γ2 b k) [] 975) : Lm Γ1 Γ2 p l e s m b below meth c M x (Llv Γ1 Γ2 b k) [] 867 := by
  obtain ⟨r, M', x', o1, o2, W'⟩ := al_count Wq (xs (k + 1))
  refine L_al C 2 dL_law_867 rfl rfl rfl ?_
  refine L_arg C (t := 1) hL hk (by decide) rfl dL_law_868 dL_law_869 dL_law_870 dL_law_871 dL_law_872 rfl ?_
  refine L_call1 C (rest := []) (As := [.int (xs (k + 1))]) (qX6_count l Γ1 C.2.2.2.2.1 M (xs (k + 1))) o1 mwX6_count iwX6_count (lw_gm (i := 729) (by decide +kernel) rfl) rfl ⟨by decide, by decide⟩ rfl rfl (Nat.le_of_ble_eq_true rfl) dL_law_873 rfl ?_
  refine L_al C 1 dL_law_876 rfl rfl rfl ?_
  refine L_arg C (t := 1) hL hk (by decide) rfl dL_law_877 dL_law_878 dL_law_879 dL_law_880 dL_law_881 rfl ?_
  refine L_call2 C (rest := [.int r]) (As := [.int (xs (k + 1))]) (qX7_count l Γ2 C.2.2.2.2.2.1 x (xs (k + 1))) o2 mwX7_count iwX7_count (lw_gm (i := 1116) (by decide +kernel) rfl) rfl ⟨by decide, by decide⟩ rfl rfl (Nat.le_of_ble_eq_true rfl) dL_law_882 rfl ?_
  refine L_eq C (tgt := 975) dL_law_885 (by decide) ?_
  exact after M' x' W'
theorem lc_26 (C : L_C Γ1 Γ2 p s m meth c b L xs) (hL : L ≤ 2048) (hk : k + 4 ≤ L) (Wq : RQ M x) (after : ∀ (M : kM2) (x : kM1), RQ M x → Lm Γ1 Γ2 p l e s m b below meth c M x (Llv Γ1 Γ2 b k) [] 975) : Lm Γ1 Γ2 p l e s m b below meth c M x (Llv Γ1 Γ2 b k) [] 890 := by
  obtain ⟨r, M', x', o1, o2, W'⟩ := al_undo Wq
  refine L_al C 2 dL_law_890 rfl rfl rfl ?_
  refine L_call1 C (rest := []) (As := []) (qX6_undo l Γ1 C.2.2.2.2.1 M) o1 mwX6_undo iwX6_undo (lw_gm (i := 741) (by decide +kernel) rfl) rfl ⟨by decide, by decide⟩ rfl rfl (Nat.le_of_ble_eq_true rfl) dL_law_891 rfl ?_
  refine L_al C 1 dL_law_894 rfl rfl rfl ?_
  refine L_call2 C (rest := [.int r]) (As := []) (qX7_undo l Γ2 C.2.2.2.2.2.1 x) o2 mwX7_undo iwX7_undo (lw_gm (i := 1120) (by decide +kernel) rfl) rfl ⟨by decide, by decide⟩ rfl rfl (Nat.le_of_ble_eq_true rfl) dL_law_895 rfl ?_
  refine L_eq C (tgt := 975) dL_law_898 (by decide) ?_
  exact after M' x' W'
theorem lc_27 (C : L_C Γ1 Γ2 p s m meth c b L xs) (hL : L ≤ 2048) (hk : k + 4 ≤ L) (Wq : RQ M x) (after : ∀ (M : kM2) (x : kM1), RQ M x → Lm Γ1 Γ2 p l e s m b below meth c M x (Llv Γ1 Γ2 b k) [] 975) : Lm Γ1 Γ2 p l e s m b below meth c M x (Llv Γ1 Γ2 b k) [] 903 := by
  obtain ⟨r, M', x', o1, o2, W'⟩ := al_type Wq (xs (k + 1))
  refine L_al C 2 dL_law_903 rfl rfl rfl ?_
  refine L_arg C (t := 1) hL hk (by decide) rfl dL_law_904 dL_law_905 dL_law_906 dL_law_907 dL_law_908 rfl ?_
  refine L_call1 C (rest := []) (As := [.int (xs (k + 1))]) (qX6_type l Γ1 C.2.2.2.2.1 M (xs (k + 1))) o1 mwX6_type iwX6_type (lw_gm (i := 750) (by decide +kernel) rfl) rfl ⟨by decide, by decide⟩ rfl rfl (Nat.le_of_ble_eq_true rfl) dL_law_909 rfl ?_
  refine L_al C 1 dL_law_912 rfl rfl rfl ?_
  refine L_arg C (t := 1) hL hk (by decide) rfl dL_law_913 dL_law_914 dL_law_915 dL_law_916 dL_law_917 rfl ?_
  refine L_call2 C (rest := [.int r]) (As := [.int (xs (k + 1))]) (qX7_type l Γ2 C.2.2.2.2.2.1 x (xs (k + 1))) o2 mwX7_type iwX7_type (lw_gm (i := 1124) (by decide +kernel) rfl) rfl ⟨by decide, by decide⟩ rfl rfl (Nat.le_of_ble_eq_true rfl) dL_law_918 rfl ?_
  refine L_eq C (tgt := 975) dL_law_921 (by decide) ?_
  exact after M' x' W'
theorem lc_28 (C : L_C Γ1 Γ2 p s m meth c b L xs) (hL : L ≤ 2048) (hk : k + 4 ≤ L) (Wq : RQ M x) (after : ∀ (M : kM2) (x : kM1), RQ M x → Lm Γ1 Γ2 p l e s m b below meth c M x (Llv Γ1 Γ2 b k) [] 975) : Lm Γ1 Γ2 p l e s m b below meth c M x (Llv Γ1 Γ2 b k) [] 926 := by
  obtain ⟨r, M', x', o1, o2, W'⟩ := al_clearText Wq
  refine L_al C 2 dL_law_926 rfl rfl rfl ?_
  refine L_call1 C (rest := []) (As := []) (qX6_clearText l Γ1 C.2.2.2.2.1 M) o1 mwX6_clearText iwX6_clearText (lw_gm (i := 759) (by decide +kernel) rfl) rfl ⟨by decide, by decide⟩ rfl rfl (Nat.le_of_ble_eq_true rfl) dL_law_927 rfl ?_
  refine L_al C 1 dL_law_930 rfl rfl rfl ?_
  refine L_call2 C (rest := [.int r]) (As := []) (qX7_clearText l Γ2 C.2.2.2.2.2.1 x) o2 mwX7_clearText iwX7_clearText (lw_gm (i := 1128) (by decide +kernel) rfl) rfl ⟨by decide, by decide⟩ rfl rfl (Nat.le_of_ble_eq_true rfl) dL_law_931 rfl ?_
  refine L_eq C (tgt := 975) dL_law_934 (by decide) ?_
  exact after M' x' W'
theorem lc_29 (C : L_C Γ1 Γ2 p s m meth c b L xs) (hL : L ≤ 2048) (hk : k + 4 ≤ L) (Wq : RQ M x) (after : ∀ (M : kM2) (x : kM1), RQ M x → Lm Γ1 Γ2 p l e s m b below meth c M x (Llv Γ1 Γ2 b k) [] 975) : Lm Γ1 Γ2 p l e s m b below meth c M x (Llv Γ1 Γ2 b k) [] 939 := by
  obtain ⟨r, M', x', o1, o2, W'⟩ := al_fault Wq (xs (k + 1))
  refine L_al C 2 dL_law_939 rfl rfl rfl ?_
  refine L_arg C (t := 1) hL hk (by decide) rfl dL_law_940 dL_law_941 dL_law_942 dL_law_943 dL_law_944 rfl ?_
  refine L_call1 C (rest := []) (As := [.int (xs (k + 1))]) (qX6_fault l Γ1 C.2.2.2.2.1 M (xs (k + 1))) o1 mwX6_fault iwX6_fault (lw_gm (i := 767) (by decide +kernel) rfl) rfl ⟨by decide, by decide⟩ rfl rfl (Nat.le_of_ble_eq_true rfl) dL_law_945 rfl ?_
  refine L_al C 1 dL_law_948 rfl rfl rfl ?_
  refine L_arg C (t := 1) hL hk (by decide) rfl dL_law_949 dL_law_950 dL_law_951 dL_law_952 dL_law_953 rfl ?_
  refine L_call2 C (rest := [.int r]) (As := [.int (xs (k + 1))]) (qX7_fault l Γ2 C.2.2.2.2.2.1 x (xs (k + 1))) o2 mwX7_fault iwX7_fault (lw_gm (i := 1132) (by decide +kernel) rfl) rfl ⟨by decide, by decide⟩ rfl rfl (Nat.le_of_ble_eq_true rfl) dL_law_954 rfl ?_
  refine L_eq C (tgt := 975) dL_law_957 (by decide) ?_
  exact after M' x' W'
theorem lc_30 (C : L_C Γ1 Γ2 p s m meth c b L xs) (hL : L ≤ 2048) (hk : k + 4 ≤ L) (Wq : RQ M x) (after : ∀ (M : kM2) (x : kM1), RQ M x → Lm Γ1 Γ2 p l e s m b below meth c M x (Llv Γ1 Γ2 b k) [] 975) : Lm Γ1 Γ2 p l e s m b below meth c M x (Llv Γ1 Γ2 b k) [] 962 := by
  obtain ⟨r, M', x', o1, o2, W'⟩ := al_play Wq
  refine L_al C 2 dL_law_962 rfl rfl rfl ?_
  refine L_call1 C (rest := []) (As := []) (qX6_play l Γ1 C.2.2.2.2.1 M) o1 mwX6_play iwX6_play (lw_gm (i := 811) (by decide +kernel) rfl) rfl ⟨by decide, by decide⟩ rfl rfl (Nat.le_of_ble_eq_true rfl) dL_law_963 rfl ?_
  refine L_al C 1 dL_law_966 rfl rfl rfl ?_
  refine L_call2 C (rest := [.int r]) (As := []) (qX7_play l Γ2 C.2.2.2.2.2.1 x) o2 mwX7_play iwX7_play (lw_gm (i := 1163) (by decide +kernel) rfl) rfl ⟨by decide, by decide⟩ rfl rfl (Nat.le_of_ble_eq_true rfl) dL_law_967 rfl ?_
  refine L_eq C (tgt := 975) dL_law_970 (by decide) ?_
  exact after M' x' W'
end LK
