def fL_holds_b395   (M0 : kM2) (t0 : Int32) : Option (Int32 × kM2) :=
  if t0 = 0 then some (0, M0) else bd (fX6_account M0 (-1) (-1) 2) fun r15 M16 => bd (fX6_account M16 (-1) (-1) 4) fun r17 M18 => bd (fX6_account M18 (-1) (-1) 5) fun r19 M20 => bd (fX6_account M20 (-1) (-1) 6) fun r21 M22 => bd (fX6_account M22 (-1) (-1) 7) fun r23 M24 => bd (fX6_account M24 (-1) (-1) 8) fun r25 M26 => bd (fX6_account M26 (-1) (-1) 9) fun r27 M28 => bd (fX6_account M28 (-1) (-1) 10) fun r29 M30 => if r15 = ((((((r17 + r19) + r21) + r23) + r25) + r27) + r29) then bd (fL_accounts M30) fun r32 M33 => if r32 = 0 then some (0, M33) else bd (fL_farmers M33) fun r35 M36 => if r35 = 0 then some (0, M36) else some (1, M36) else some (0, M30)
set_option maxRecDepth 100000 in
set_option maxHeartbeats 4000000 in
theorem sL_holds_b395 {l : Launch} {Γ : kG} (hL : k_Lay Γ 314) {p : Program} {e : Env} {R : Room} {s : State} {mid : MethodId} {args : Array Value} {below : List Frame} {meth : Method} {c : Code} (C : k_C Γ p R s mid args meth c cL_holds 7 RL (k_R 6)) (hr : meth.sig.returnType = (some .boolean))  (M0 : kM2) (t0 : Int32)  : Sm Γ (K2 Γ) p l e R s mid args below meth c 7 (jM true Γ (K2 Γ) below args s) M0 [(0, .ref (Γ.1 7 0))] [.int t0] 395 (fL_holds_b395 M0 t0) := by
  unfold fL_holds_b395
  refine k_istore_n C (lv' := [(3, .int t0), (0, .ref (Γ.1 7 0))]) dL_holds_395 rfl (by decide) rfl (pc' := 396) rfl ?_
  refine k_iload_n C 0 dL_holds_396 rfl rfl (pc' := 397) rfl ?_
  refine k_if_eq C (tgt := 488) dL_holds_397 (by decide) (pc' := 400) rfl (fun h14 => ?_) (fun h14 => ?_)
  · refine k_iconst C (v := 0) dL_holds_488 (by decide) (pc' := 489) rfl ?_
    exact k_retz C rfl hr (Or.inl rfl) dL_holds_489
  · refine k_aload_n C 1 dL_holds_400 rfl rfl (pc' := 401) rfl ?_
    refine k_iconst C (v := (-1)) dL_holds_401 (by decide) (pc' := 402) rfl ?_
    refine k_iconst C (v := (-1)) dL_holds_402 (by decide) (pc' := 403) rfl ?_
    refine k_iconst C (v := 2) dL_holds_403 (by decide) (pc' := 404) rfl ?_
    refine k_callVi C (rest := []) (qX6_account l Γ hL M0 (-1) (-1) 2) mwX6_account iwX6_account mlL_19 (k_rm_of (by decide) (by decide)) (c2 Γ M0 7 0 (e_sea Γ (M0 7 0))) (v_7 (by decide)) rfl rfl rfl (Nat.le_of_ble_eq_true rfl) dL_holds_404 (pc' := 407) rfl (fun r15 M16 => ?_)
    refine k_aload_n C 1 dL_holds_407 rfl rfl (pc' := 408) rfl ?_
    refine k_iconst C (v := (-1)) dL_holds_408 (by decide) (pc' := 409) rfl ?_
    refine k_iconst C (v := (-1)) dL_holds_409 (by decide) (pc' := 410) rfl ?_
    refine k_iconst C (v := 4) dL_holds_410 (by decide) (pc' := 411) rfl ?_
    refine k_callVi C (rest := [.int r15]) (qX6_account l Γ hL M16 (-1) (-1) 4) mwX6_account iwX6_account mlL_19 (k_rm_of (by decide) (by decide)) (c2 Γ M16 7 0 (e_sea Γ (M16 7 0))) (v_7 (by decide)) rfl rfl rfl (Nat.le_of_ble_eq_true rfl) dL_holds_411 (pc' := 414) rfl (fun r17 M18 => ?_)
    refine k_aload_n C 1 dL_holds_414 rfl rfl (pc' := 415) rfl ?_
    refine k_iconst C (v := (-1)) dL_holds_415 (by decide) (pc' := 416) rfl ?_
    refine k_iconst C (v := (-1)) dL_holds_416 (by decide) (pc' := 417) rfl ?_
    refine k_iconst C (v := 5) dL_holds_417 (by decide) (pc' := 418) rfl ?_
    refine k_callVi C (rest := [.int r17, .int r15]) (qX6_account l Γ hL M18 (-1) (-1) 5) mwX6_account iwX6_account mlL_19 (k_rm_of (by decide) (by decide)) (c2 Γ M18 7 0 (e_sea Γ (M18 7 0))) (v_7 (by decide)) rfl rfl rfl (Nat.le_of_ble_eq_true rfl) dL_holds_418 (pc' := 421) rfl (fun r19 M20 => ?_)
    refine k_iadd C dL_holds_421 (pc' := 422) rfl ?_
    refine k_aload_n C 1 dL_holds_422 rfl rfl (pc' := 423) rfl ?_
    refine k_iconst C (v := (-1)) dL_holds_423 (by decide) (pc' := 424) rfl ?_
    refine k_iconst C (v := (-1)) dL_holds_424 (by decide) (pc' := 425) rfl ?_
    refine k_bipush C (v := 6) dL_holds_425 (by decide) (pc' := 427) rfl ?_
    refine k_callVi C (rest := [.int (r17 + r19), .int r15]) (qX6_account l Γ hL M20 (-1) (-1) 6) mwX6_account iwX6_account mlL_19 (k_rm_of (by decide) (by decide)) (c2 Γ M20 7 0 (e_sea Γ (M20 7 0))) (v_7 (by decide)) rfl rfl rfl (Nat.le_of_ble_eq_true rfl) dL_holds_427 (pc' := 430) rfl (fun r21 M22 => ?_)
    refine k_iadd C dL_holds_430 (pc' := 431) rfl ?_
    refine k_aload_n C 1 dL_holds_431 rfl rfl (pc' := 432) rfl ?_
    refine k_iconst C (v := (-1)) dL_holds_432 (by decide) (pc' := 433) rfl ?_
    refine k_iconst C (v := (-1)) dL_holds_433 (by decide) (pc' := 434) rfl ?_
    refine k_bipush C (v := 7) dL_holds_434 (by decide) (pc' := 436) rfl ?_
    refine k_callVi C (rest := [.int ((r17 + r19) + r21), .int r15]) (qX6_account l Γ hL M22 (-1) (-1) 7) mwX6_account iwX6_account mlL_19 (k_rm_of (by decide) (by decide)) (c2 Γ M22 7 0 (e_sea Γ (M22 7 0))) (v_7 (by decide)) rfl rfl rfl (Nat.le_of_ble_eq_true rfl) dL_holds_436 (pc' := 439) rfl (fun r23 M24 => ?_)
    refine k_iadd C dL_holds_439 (pc' := 440) rfl ?_
    refine k_aload_n C 1 dL_holds_440 rfl rfl (pc' := 441) rfl ?_
    refine k_iconst C (v := (-1)) dL_holds_441 (by decide) (pc' := 442) rfl ?_
    refine k_iconst C (v := (-1)) dL_holds_442 (by decide) (pc' := 443) rfl ?_
    refine k_bipush C (v := 8) dL_holds_443 (by decide) (pc' := 445) rfl ?_
    refine k_callVi C (rest := [.int (((r17 + r19) + r21) + r23), .int r15]) (qX6_account l Γ hL M24 (-1) (-1) 8) mwX6_account iwX6_account mlL_19 (k_rm_of (by decide) (by decide)) (c2 Γ M24 7 0 (e_sea Γ (M24 7 0))) (v_7 (by decide)) rfl rfl rfl (Nat.le_of_ble_eq_true rfl) dL_holds_445 (pc' := 448) rfl (fun r25 M26 => ?_)
    refine k_iadd C dL_holds_448 (pc' := 449) rfl ?_
    refine k_aload_n C 1 dL_holds_449 rfl rfl (pc' := 450) rfl ?_
    refine k_iconst C (v := (-1)) dL_holds_450 (by decide) (pc' := 451) rfl ?_
    refine k_iconst C (v := (-1)) dL_holds_451 (by decide) (pc' := 452) rfl ?_
    refine k_bipush C (v := 9) dL_holds_452 (by decide) (pc' := 454) rfl ?_
    refine k_callVi C (rest := [.int ((((r17 + r19) + r21) + r23) + r25), .int r15]) (qX6_account l Γ hL M26 (-1) (-1) 9) mwX6_account iwX6_account mlL_19 (k_rm_of (by decide) (by decide)) (c2 Γ M26 7 0 (e_sea Γ (M26 7 0))) (v_7 (by decide)) rfl rfl rfl (Nat.le_of_ble_eq_true rfl) dL_holds_454 (pc' := 457) rfl (fun r27 M28 => ?_)
    refine k_iadd C dL_holds_457 (pc' := 458) rfl ?_
    refine k_aload_n C 1 dL_holds_458 rfl rfl (pc' := 459) rfl ?_
    refine k_iconst C (v := (-1)) dL_holds_459 (by decide) (pc' := 460) rfl ?_
    refine k_iconst C (v := (-1)) dL_holds_460 (by decide) (pc' := 461) rfl ?_
    refine k_bipush C (v := 10) dL_holds_461 (by decide) (pc' := 463) rfl ?_
    refine k_callVi C (rest := [.int (((((r17 + r19) + r21) + r23) + r25) + r27), .int r15]) (qX6_account l Γ hL M28 (-1) (-1) 10) mwX6_account iwX6_account mlL_19 (k_rm_of (by decide) (by decide)) (c2 Γ M28 7 0 (e_sea Γ (M28 7 0))) (v_7 (by decide)) rfl rfl rfl (Nat.le_of_ble_eq_true rfl) dL_holds_463 (pc' := 466) rfl (fun r29 M30 => ?_)
    refine k_iadd C dL_holds_466 (pc' := 467) rfl ?_
    refine k_ic_ne C (tgt := 488) dL_holds_467 (by decide) (pc' := 470) rfl (fun h31 => ?_) (fun h31 => ?_)
    · refine k_iconst C (v := 0) dL_holds_488 (by decide) (pc' := 489) rfl ?_
      exact k_retz C rfl hr (Or.inl rfl) dL_holds_489
    · refine k_aload_n C 1 dL_holds_470 rfl rfl (pc' := 471) rfl ?_
      refine k_callSi C (rest := []) (qL_accounts l Γ hL M30) mwL_accounts swL_accounts mlL_45 (k_rm_of (by decide) (by decide)) rfl rfl (Nat.le_of_ble_eq_true rfl) dL_holds_471 (pc' := 474) rfl (fun r32 M33 => ?_)
      refine k_if_eq C (tgt := 488) dL_holds_474 (by decide) (pc' := 477) rfl (fun h34 => ?_) (fun h34 => ?_)
      · refine k_iconst C (v := 0) dL_holds_488 (by decide) (pc' := 489) rfl ?_
        exact k_retz C rfl hr (Or.inl rfl) dL_holds_489
      · refine k_aload_n C 1 dL_holds_477 rfl rfl (pc' := 478) rfl ?_
        refine k_callSi C (rest := []) (qL_farmers l Γ hL M33) mwL_farmers swL_farmers mlL_51 (k_rm_of (by decide) (by decide)) rfl rfl (Nat.le_of_ble_eq_true rfl) dL_holds_478 (pc' := 481) rfl (fun r35 M36 => ?_)
        refine k_if_eq C (tgt := 488) dL_holds_481 (by decide) (pc' := 484) rfl (fun h37 => ?_) (fun h37 => ?_)
        · refine k_iconst C (v := 0) dL_holds_488 (by decide) (pc' := 489) rfl ?_
          exact k_retz C rfl hr (Or.inl rfl) dL_holds_489
        · refine k_iconst C (v := 1) dL_holds_484 (by decide) (pc' := 485) rfl ?_
          refine k_goto C (pc' := 489) dL_holds_485 (by decide) ?_
          exact k_retz C rfl hr (Or.inr rfl) dL_holds_489
def fL_holds_b394   (M0 : kM2) : Option (Int32 × kM2) :=
  fL_holds_b395 M0 0
set_option maxRecDepth 100000 in
set_option maxHeartbeats 4000000 in
theorem sL_holds_b394 {l : Launch} {Γ : kG} (hL : k_Lay Γ 314) {p : Program} {e : Env} {R : Room} {s : State} {mid : MethodId} {args : Array Value} {below : List Frame} {meth : Method} {c : Code} (C : k_C Γ p R s mid args meth c cL_holds 7 RL (k_R 6)) (hr : meth.sig.returnType = (some .boolean))  (M0 : kM2)   : Sm Γ (K2 Γ) p l e R s mid args below meth c 7 (jM true Γ (K2 Γ) below args s) M0 [(0, .ref (Γ.1 7 0))] [] 394 (fL_holds_b394 M0) := by
  unfold fL_holds_b394
  refine k_iconst C (v := 0) dL_holds_394 (by decide) (pc' := 395) rfl ?_
  exact sL_holds_b395 hL C hr M0 0
def fL_holds_b298   (M0 : kM2) (b3 : Int32) : Option (Int32 × kM2) :=
  if b3 = 0 then fL_holds_b394 M0 else bd (fX6_pond M0 0) fun r38 M39 => if r38 < 0 then fL_holds_b394 M39 else bd (fX6_pond M39 0) fun r41 M42 => bd (fX6_pond M42 8) fun r43 M44 => bd (fX6_pond M44 9) fun r45 M46 => bd (fX6_pond M46 7) fun r47 M48 => if ((r41 + r43) + r45) = r47 then bd (fX6_pond M48 3) fun r50 M51 => bd (fX6_pond M51 1) fun r52 M53 => bd (fX6_pond M53 2) fun r54 M55 => if r50 = (r52 - r54) then bd (fX6_pond M55 2) fun r57 M58 => bd (fX6_seaIn M58 0) fun r59 M60 => if r57 = r59 then bd (fX6_pond M60 1) fun r62 M63 => bd (fX6_pond M63 0) fun r64 M65 => bd (fX6_count M65 20) fun r66 M67 => if ¬ r66 = 0 then if r62 = (r64 / r66) then fL_holds_b395 M67 1 else fL_holds_b394 M67 else none else fL_holds_b394 M60 else fL_holds_b394 M55 else fL_holds_b394 M48
set_option maxRecDepth 100000 in
set_option maxHeartbeats 4000000 in
theorem sL_holds_b298 {l : Launch} {Γ : kG} (hL : k_Lay Γ 314) {p : Program} {e : Env} {R : Room} {s : State} {mid : MethodId} {args : Array Value} {below : List Frame} {meth : Method} {c : Code} (C : k_C Γ p R s mid args meth c cL_holds 7 RL (k_R 6)) (hr : meth.sig.returnType = (some .boolean))  (M0 : kM2) (b3 : Int32)  : Sm Γ (K2 Γ) p l e R s mid args below meth c 7 (jM true Γ (K2 Γ) below args s) M0 [(0, .ref (Γ.1 7 0)), (3, .int b3)] [] 298 (fL_holds_b298 M0 b3) := by
  unfold fL_holds_b298
  refine k_iload_n C 1 dL_holds_298 rfl rfl (pc' := 299) rfl ?_
  refine k_if_eq C (tgt := 394) dL_holds_299 (by decide) (pc' := 302) rfl (fun h13 => ?_) (fun h13 => ?_)
  · refine k_sub [0] rfl ?_
    exact sL_holds_b394 hL C hr M0
  · refine k_aload_n C 0 dL_holds_302 rfl rfl (pc' := 303) rfl ?_
    refine k_iconst C (v := 0) dL_holds_303 (by decide) (pc' := 304) rfl ?_
    refine k_callVi C (rest := []) (qX6_pond l Γ hL M0 0) mwX6_pond iwX6_pond mlL_29 (k_rm_of (by decide) (by decide)) (c2 Γ M0 7 0 (e_sea Γ (M0 7 0))) (v_7 (by decide)) rfl rfl rfl (Nat.le_of_ble_eq_true rfl) dL_holds_304 (pc' := 307) rfl (fun r38 M39 => ?_)
    refine k_if_lt C (tgt := 394) dL_holds_307 (by decide) (pc' := 310) rfl (fun h40 => ?_) (fun h40 => ?_)
    · refine k_sub [0] rfl ?_
      exact sL_holds_b394 hL C hr M39
    · refine k_aload_n C 0 dL_holds_310 rfl rfl (pc' := 311) rfl ?_
      refine k_iconst C (v := 0) dL_holds_311 (by decide) (pc' := 312) rfl ?_
      refine k_callVi C (rest := []) (qX6_pond l Γ hL M39 0) mwX6_pond iwX6_pond mlL_29 (k_rm_of (by decide) (by decide)) (c2 Γ M39 7 0 (e_sea Γ (M39 7 0))) (v_7 (by decide)) rfl rfl rfl (Nat.le_of_ble_eq_true rfl) dL_holds_312 (pc' := 315) rfl (fun r41 M42 => ?_)
      refine k_aload_n C 0 dL_holds_315 rfl rfl (pc' := 316) rfl ?_
      refine k_bipush C (v := 8) dL_holds_316 (by decide) (pc' := 318) rfl ?_
      refine k_callVi C (rest := [.int r41]) (qX6_pond l Γ hL M42 8) mwX6_pond iwX6_pond mlL_29 (k_rm_of (by decide) (by decide)) (c2 Γ M42 7 0 (e_sea Γ (M42 7 0))) (v_7 (by decide)) rfl rfl rfl (Nat.le_of_ble_eq_true rfl) dL_holds_318 (pc' := 321) rfl (fun r43 M44 => ?_)
      refine k_iadd C dL_holds_321 (pc' := 322) rfl ?_
      refine k_aload_n C 0 dL_holds_322 rfl rfl (pc' := 323) rfl ?_
      refine k_bipush C (v := 9) dL_holds_323 (by decide) (pc' := 325) rfl ?_
      refine k_callVi C (rest := [.int (r41 + r43)]) (qX6_pond l Γ hL M44 9) mwX6_pond iwX6_pond mlL_29 (k_rm_of (by decide) (by decide)) (c2 Γ M44 7 0 (e_sea Γ (M44 7 0))) (v_7 (by decide)) rfl rfl rfl (Nat.le_of_ble_eq_true rfl) dL_holds_325 (pc' := 328) rfl (fun r45 M46 => ?_)
      refine k_iadd C dL_holds_328 (pc' := 329) rfl ?_
      refine k_aload_n C 0 dL_holds_329 rfl rfl (pc' := 330) rfl ?_
      refine k_bipush C (v := 7) dL_holds_330 (by decide) (pc' := 332) rfl ?_
      refine k_callVi C (rest := [.int ((r41 + r43) + r45)]) (qX6_pond l Γ hL M46 7) mwX6_pond iwX6_pond mlL_29 (k_rm_of (by decide) (by decide)) (c2 Γ M46 7 0 (e_sea Γ (M46 7 0))) (v_7 (by decide)) rfl rfl rfl (Nat.le_of_ble_eq_true rfl) dL_holds_332 (pc' := 335) rfl (fun r47 M48 => ?_)
      refine k_ic_ne C (tgt := 394) dL_holds_335 (by decide) (pc' := 338) rfl (fun h49 => ?_) (fun h49 => ?_)
      · refine k_sub [0] rfl ?_
        exact sL_holds_b394 hL C hr M48
      · refine k_aload_n C 0 dL_holds_338 rfl rfl (pc' := 339) rfl ?_
        refine k_iconst C (v := 3) dL_holds_339 (by decide) (pc' := 340) rfl ?_
        refine k_callVi C (rest := []) (qX6_pond l Γ hL M48 3) mwX6_pond iwX6_pond mlL_29 (k_rm_of (by decide) (by decide)) (c2 Γ M48 7 0 (e_sea Γ (M48 7 0))) (v_7 (by decide)) rfl rfl rfl (Nat.le_of_ble_eq_true rfl) dL_holds_340 (pc' := 343) rfl (fun r50 M51 => ?_)
        refine k_aload_n C 0 dL_holds_343 rfl rfl (pc' := 344) rfl ?_
        refine k_iconst C (v := 1) dL_holds_344 (by decide) (pc' := 345) rfl ?_
        refine k_callVi C (rest := [.int r50]) (qX6_pond l Γ hL M51 1) mwX6_pond iwX6_pond mlL_29 (k_rm_of (by decide) (by decide)) (c2 Γ M51 7 0 (e_sea Γ (M51 7 0))) (v_7 (by decide)) rfl rfl rfl (Nat.le_of_ble_eq_true rfl) dL_holds_345 (pc' := 348) rfl (fun r52 M53 => ?_)
        refine k_aload_n C 0 dL_holds_348 rfl rfl (pc' := 349) rfl ?_
        refine k_iconst C (v := 2) dL_holds_349 (by decide) (pc' := 350) rfl ?_
        refine k_callVi C (rest := [.int r52, .int r50]) (qX6_pond l Γ hL M53 2) mwX6_pond iwX6_pond mlL_29 (k_rm_of (by decide) (by decide)) (c2 Γ M53 7 0 (e_sea Γ (M53 7 0))) (v_7 (by decide)) rfl rfl rfl (Nat.le_of_ble_eq_true rfl) dL_holds_350 (pc' := 353) rfl (fun r54 M55 => ?_)
        refine k_isub C dL_holds_353 (pc' := 354) rfl ?_
        refine k_ic_ne C (tgt := 394) dL_holds_354 (by decide) (pc' := 357) rfl (fun h56 => ?_) (fun h56 => ?_)
        · refine k_sub [0] rfl ?_
          exact sL_holds_b394 hL C hr M55
        · refine k_aload_n C 0 dL_holds_357 rfl rfl (pc' := 358) rfl ?_
          refine k_iconst C (v := 2) dL_holds_358 (by decide) (pc' := 359) rfl ?_
          refine k_callVi C (rest := []) (qX6_pond l Γ hL M55 2) mwX6_pond iwX6_pond mlL_29 (k_rm_of (by decide) (by decide)) (c2 Γ M55 7 0 (e_sea Γ (M55 7 0))) (v_7 (by decide)) rfl rfl rfl (Nat.le_of_ble_eq_true rfl) dL_holds_359 (pc' := 362) rfl (fun r57 M58 => ?_)
          refine k_aload_n C 0 dL_holds_362 rfl rfl (pc' := 363) rfl ?_
          refine k_iconst C (v := 0) dL_holds_363 (by decide) (pc' := 364) rfl ?_
          refine k_callVi C (rest := [.int r57]) (qX6_seaIn l Γ hL M58 0) mwX6_seaIn iwX6_seaIn mlL_42 (k_rm_of (by decide) (by decide)) (c2 Γ M58 7 0 (e_sea Γ (M58 7 0))) (v_7 (by decide)) rfl rfl rfl (Nat.le_of_ble_eq_true rfl) dL_holds_364 (pc' := 367) rfl (fun r59 M60 => ?_)
          refine k_ic_ne C (tgt := 394) dL_holds_367 (by decide) (pc' := 370) rfl (fun h61 => ?_) (fun h61 => ?_)
          · refine k_sub [0] rfl ?_
            exact sL_holds_b394 hL C hr M60
          · refine k_aload_n C 0 dL_holds_370 rfl rfl (pc' := 371) rfl ?_
            refine k_iconst C (v := 1) dL_holds_371 (by decide) (pc' := 372) rfl ?_
            refine k_callVi C (rest := []) (qX6_pond l Γ hL M60 1) mwX6_pond iwX6_pond mlL_29 (k_rm_of (by decide) (by decide)) (c2 Γ M60 7 0 (e_sea Γ (M60 7 0))) (v_7 (by decide)) rfl rfl rfl (Nat.le_of_ble_eq_true rfl) dL_holds_372 (pc' := 375) rfl (fun r62 M63 => ?_)
            refine k_aload_n C 0 dL_holds_375 rfl rfl (pc' := 376) rfl ?_
            refine k_iconst C (v := 0) dL_holds_376 (by decide) (pc' := 377) rfl ?_
            refine k_callVi C (rest := [.int r62]) (qX6_pond l Γ hL M63 0) mwX6_pond iwX6_pond mlL_29 (k_rm_of (by decide) (by decide)) (c2 Γ M63 7 0 (e_sea Γ (M63 7 0))) (v_7 (by decide)) rfl rfl rfl (Nat.le_of_ble_eq_true rfl) dL_holds_377 (pc' := 380) rfl (fun r64 M65 => ?_)
            refine k_aload_n C 0 dL_holds_380 rfl rfl (pc' := 381) rfl ?_
            refine k_bipush C (v := 20) dL_holds_381 (by decide) (pc' := 383) rfl ?_
            refine k_callVi C (rest := [.int r64, .int r62]) (qX6_count l Γ hL M65 20) mwX6_count iwX6_count mlL_9 (k_rm_of (by decide) (by decide)) (c2 Γ M65 7 0 (e_sea Γ (M65 7 0))) (v_7 (by decide)) rfl rfl rfl (Nat.le_of_ble_eq_true rfl) dL_holds_383 (pc' := 386) rfl (fun r66 M67 => ?_)
            refine k_idiv C dL_holds_386 (pc' := 387) rfl ?_
            refine k_ic_ne C (tgt := 394) dL_holds_387 (by decide) (pc' := 390) rfl (fun h68 => ?_) (fun h68 => ?_)
            · refine k_sub [0] rfl ?_
              exact sL_holds_b394 hL C hr M67
            · refine k_iconst C (v := 1) dL_holds_390 (by decide) (pc' := 391) rfl ?_
              refine k_goto C (pc' := 395) dL_holds_391 (by decide) ?_
              refine k_sub [0] rfl ?_
              exact sL_holds_b395 hL C hr M67 1
def fL_holds_b291  (rec143 : kM2 → Int32 → Int32 → Option (Int32 × kM2)) (M0 : kM2) (b4 : Int32) (t0 : Int32) : Option (Int32 × kM2) :=
  k_let (b4 + 1) fun v74 => rec143 M0 t0 v74
set_option maxRecDepth 100000 in
set_option maxHeartbeats 4000000 in
theorem sL_holds_b291 {l : Launch} {Γ : kG} (hL : k_Lay Γ 314) {p : Program} {e : Env} {R : Room} {s : State} {mid : MethodId} {args : Array Value} {below : List Frame} {meth : Method} {c : Code} (C : k_C Γ p R s mid args meth c cL_holds 7 RL (k_R 6)) (hr : meth.sig.returnType = (some .boolean)) (rec143 : kM2 → Int32 → Int32 → Option (Int32 × kM2)) (hrec143 : ∀ (M0 : kM2) (b3 : Int32) (b4 : Int32), Sm Γ (K2 Γ) p l e R s mid args below meth c 7 (jM true Γ (K2 Γ) below args s) M0 [(0, .ref (Γ.1 7 0)), (3, .int b3), (4, .int b4)] [] 143 (rec143 M0 b3 b4)) (M0 : kM2) (b4 : Int32) (t0 : Int32)  : Sm Γ (K2 Γ) p l e R s mid args below meth c 7 (jM true Γ (K2 Γ) below args s) M0 [(0, .ref (Γ.1 7 0)), (4, .int b4)] [.int t0] 291 (fL_holds_b291 rec143 M0 b4 t0) := by
  unfold fL_holds_b291
  refine k_istore_n C (lv' := [(3, .int t0), (0, .ref (Γ.1 7 0)), (4, .int b4)]) dL_holds_291 rfl (by decide) rfl (pc' := 292) rfl ?_
  refine k_iinc (v := 1) (q := 2) (lv' := [(3, .int t0), (0, .ref (Γ.1 7 0))]) C dL_holds_292 rfl (by decide) (by decide) (pc' := 295) rfl (fun _ => rfl) (fun v74 => ?_)
  refine k_goto C (pc' := 143) dL_holds_295 (by decide) ?_
  refine k_sub [2, 1, 0] rfl ?_
  exact hrec143 M0 t0 v74
def fL_holds_b290  (rec143 : kM2 → Int32 → Int32 → Option (Int32 × kM2)) (M0 : kM2) (b4 : Int32) : Option (Int32 × kM2) :=
  fL_holds_b291 rec143 M0 b4 0
set_option maxRecDepth 100000 in
set_option maxHeartbeats 4000000 in
theorem sL_holds_b290 {l : Launch} {Γ : kG} (hL : k_Lay Γ 314) {p : Program} {e : Env} {R : Room} {s : State} {mid : MethodId} {args : Array Value} {below : List Frame} {meth : Method} {c : Code} (C : k_C Γ p R s mid args meth c cL_holds 7 RL (k_R 6)) (hr : meth.sig.returnType = (some .boolean)) (rec143 : kM2 → Int32 → Int32 → Option (Int32 × kM2)) (hrec143 : ∀ (M0 : kM2) (b3 : Int32) (b4 : Int32), Sm Γ (K2 Γ) p l e R s mid args below meth c 7 (jM true Γ (K2 Γ) below args s) M0 [(0, .ref (Γ.1 7 0)), (3, .int b3), (4, .int b4)] [] 143 (rec143 M0 b3 b4)) (M0 : kM2) (b4 : Int32)  : Sm Γ (K2 Γ) p l e R s mid args below meth c 7 (jM true Γ (K2 Γ) below args s) M0 [(0, .ref (Γ.1 7 0)), (4, .int b4)] [] 290 (fL_holds_b290 rec143 M0 b4) := by
  unfold fL_holds_b290
  refine k_iconst C (v := 0) dL_holds_290 (by decide) (pc' := 291) rfl ?_
  exact sL_holds_b291 hL C hr rec143 hrec143 M0 b4 0
def fL_holds_b229  (rec143 : kM2 → Int32 → Int32 → Option (Int32 × kM2)) (M0 : kM2) (b4 : Int32) (b5 : Int32) (t0 : Int32) : Option (Int32 × kM2) :=
  if t0 = 0 then fL_holds_b290 rec143 M0 b4 else bd (fX6_pledgeAt M0 b4 1) fun r75 M76 => bd (fX6_sackOf M76 b5 8) fun r77 M78 => if r75 = r77 then bd (fX6_owed M78 b5) fun r80 M81 => bd (fX6_pledgeAt M81 b4 2) fun r82 M83 => if r80 < r82 then fL_holds_b290 rec143 M83 b4 else bd (fX6_pledgeAt M83 b4 4) fun r85 M86 => bd (fX6_count M86 8) fun r87 M88 => if r85 < r87 then fL_holds_b290 rec143 M88 b4 else fL_holds_b291 rec143 M88 b4 1 else fL_holds_b290 rec143 M78 b4
set_option maxRecDepth 100000 in
set_option maxHeartbeats 4000000 in
theorem sL_holds_b229 {l : Launch} {Γ : kG} (hL : k_Lay Γ 314) {p : Program} {e : Env} {R : Room} {s : State} {mid : MethodId} {args : Array Value} {below : List Frame} {meth : Method} {c : Code} (C : k_C Γ p R s mid args meth c cL_holds 7 RL (k_R 6)) (hr : meth.sig.returnType = (some .boolean)) (rec143 : kM2 → Int32 → Int32 → Option (Int32 × kM2)) (hrec143 : ∀ (M0 : kM2) (b3 : Int32) (b4 : Int32), Sm Γ (K2 Γ) p l e R s mid args below meth c 7 (jM true Γ (K2 Γ) below args s) M0 [(0, .ref (Γ.1 7 0)), (3, .int b3), (4, .int b4)] [] 143 (rec143 M0 b3 b4)) (M0 : kM2) (b4 : Int32) (b5 : Int32) (t0 : Int32)  : Sm Γ (K2 Γ) p l e R s mid args below meth c 7 (jM true Γ (K2 Γ) below args s) M0 [(0, .ref (Γ.1 7 0)), (4, .int b4), (5, .int b5)] [.int t0] 229 (fL_holds_b229 rec143 M0 b4 b5 t0) := by
  unfold fL_holds_b229
  refine k_istore C (lv' := [(6, .int t0), (0, .ref (Γ.1 7 0)), (4, .int b4), (5, .int b5)]) dL_holds_229 (by decide) rfl (pc' := 231) rfl ?_
  refine k_iload C 0 dL_holds_231 rfl (pc' := 233) rfl ?_
  refine k_if_eq C (tgt := 290) dL_holds_233 (by decide) (pc' := 236) rfl (fun h73 => ?_) (fun h73 => ?_)
  · refine k_sub [1, 2] rfl ?_
    exact sL_holds_b290 hL C hr rec143 hrec143 M0 b4
  · refine k_aload_n C 1 dL_holds_236 rfl rfl (pc' := 237) rfl ?_
    refine k_iload C 2 dL_holds_237 rfl (pc' := 239) rfl ?_
    refine k_iconst C (v := 1) dL_holds_239 (by decide) (pc' := 240) rfl ?_
    refine k_callVi C (rest := []) (qX6_pledgeAt l Γ hL M0 b4 1) mwX6_pledgeAt iwX6_pledgeAt mlL_36 (k_rm_of (by decide) (by decide)) (c2 Γ M0 7 0 (e_sea Γ (M0 7 0))) (v_7 (by decide)) rfl rfl rfl (Nat.le_of_ble_eq_true rfl) dL_holds_240 (pc' := 243) rfl (fun r75 M76 => ?_)
    refine k_aload_n C 1 dL_holds_243 rfl rfl (pc' := 244) rfl ?_
    refine k_iload C 3 dL_holds_244 rfl (pc' := 246) rfl ?_
    refine k_bipush C (v := 8) dL_holds_246 (by decide) (pc' := 248) rfl ?_
    refine k_callVi C (rest := [.int r75]) (qX6_sackOf l Γ hL M76 b5 8) mwX6_sackOf iwX6_sackOf mlL_15 (k_rm_of (by decide) (by decide)) (c2 Γ M76 7 0 (e_sea Γ (M76 7 0))) (v_7 (by decide)) rfl rfl rfl (Nat.le_of_ble_eq_true rfl) dL_holds_248 (pc' := 251) rfl (fun r77 M78 => ?_)
    refine k_ic_ne C (tgt := 290) dL_holds_251 (by decide) (pc' := 254) rfl (fun h79 => ?_) (fun h79 => ?_)
    · refine k_sub [1, 2] rfl ?_
      exact sL_holds_b290 hL C hr rec143 hrec143 M78 b4
    · refine k_aload_n C 1 dL_holds_254 rfl rfl (pc' := 255) rfl ?_
      refine k_iload C 3 dL_holds_255 rfl (pc' := 257) rfl ?_
      refine k_callVi C (rest := []) (qX6_owed l Γ hL M78 b5) mwX6_owed iwX6_owed mlL_39 (k_rm_of (by decide) (by decide)) (c2 Γ M78 7 0 (e_sea Γ (M78 7 0))) (v_7 (by decide)) rfl rfl rfl (Nat.le_of_ble_eq_true rfl) dL_holds_257 (pc' := 260) rfl (fun r80 M81 => ?_)
      refine k_aload_n C 1 dL_holds_260 rfl rfl (pc' := 261) rfl ?_
      refine k_iload C 2 dL_holds_261 rfl (pc' := 263) rfl ?_
      refine k_iconst C (v := 2) dL_holds_263 (by decide) (pc' := 264) rfl ?_
      refine k_callVi C (rest := [.int r80]) (qX6_pledgeAt l Γ hL M81 b4 2) mwX6_pledgeAt iwX6_pledgeAt mlL_36 (k_rm_of (by decide) (by decide)) (c2 Γ M81 7 0 (e_sea Γ (M81 7 0))) (v_7 (by decide)) rfl rfl rfl (Nat.le_of_ble_eq_true rfl) dL_holds_264 (pc' := 267) rfl (fun r82 M83 => ?_)
      refine k_ic_lt C (tgt := 290) dL_holds_267 (by decide) (pc' := 270) rfl (fun h84 => ?_) (fun h84 => ?_)
      · refine k_sub [1, 2] rfl ?_
        exact sL_holds_b290 hL C hr rec143 hrec143 M83 b4
      · refine k_aload_n C 1 dL_holds_270 rfl rfl (pc' := 271) rfl ?_
        refine k_iload C 2 dL_holds_271 rfl (pc' := 273) rfl ?_
        refine k_iconst C (v := 4) dL_holds_273 (by decide) (pc' := 274) rfl ?_
        refine k_callVi C (rest := []) (qX6_pledgeAt l Γ hL M83 b4 4) mwX6_pledgeAt iwX6_pledgeAt mlL_36 (k_rm_of (by decide) (by decide)) (c2 Γ M83 7 0 (e_sea Γ (M83 7 0))) (v_7 (by decide)) rfl rfl rfl (Nat.le_of_ble_eq_true rfl) dL_holds_274 (pc' := 277) rfl (fun r85 M86 => ?_)
        refine k_aload_n C 1 dL_holds_277 rfl rfl (pc' := 278) rfl ?_
        refine k_bipush C (v := 8) dL_holds_278 (by decide) (pc' := 280) rfl ?_
        refine k_callVi C (rest := [.int r85]) (qX6_count l Γ hL M86 8) mwX6_count iwX6_count mlL_9 (k_rm_of (by decide) (by decide)) (c2 Γ M86 7 0 (e_sea Γ (M86 7 0))) (v_7 (by decide)) rfl rfl rfl (Nat.le_of_ble_eq_true rfl) dL_holds_280 (pc' := 283) rfl (fun r87 M88 => ?_)
        refine k_ic_lt C (tgt := 290) dL_holds_283 (by decide) (pc' := 286) rfl (fun h89 => ?_) (fun h89 => ?_)
        · refine k_sub [1, 2] rfl ?_
          exact sL_holds_b290 hL C hr rec143 hrec143 M88 b4
        · refine k_iconst C (v := 1) dL_holds_286 (by decide) (pc' := 287) rfl ?_
          refine k_goto C (pc' := 291) dL_holds_287 (by decide) ?_
          refine k_sub [1, 2] rfl ?_
          exact sL_holds_b291 hL C hr rec143 hrec143 M88 b4 1
def fL_holds_b224  (rec143 : kM2 → Int32 → Int32 → Option (Int32 × kM2)) (M0 : kM2) (b4 : Int32) (b5 : Int32) : Option (Int32 × kM2) :=
  fL_holds_b229 rec143 M0 b4 b5 1
set_option maxRecDepth 100000 in
set_option maxHeartbeats 4000000 in
theorem sL_holds_b224 {l : Launch} {Γ : kG} (hL : k_Lay Γ 314) {p : Program} {e : Env} {R : Room} {s : State} {mid : MethodId} {args : Array Value} {below : List Frame} {meth : Method} {c : Code} (C : k_C Γ p R s mid args meth c cL_holds 7 RL (k_R 6)) (hr : meth.sig.returnType = (some .boolean)) (rec143 : kM2 → Int32 → Int32 → Option (Int32 × kM2)) (hrec143 : ∀ (M0 : kM2) (b3 : Int32) (b4 : Int32), Sm Γ (K2 Γ) p l e R s mid args below meth c 7 (jM true Γ (K2 Γ) below args s) M0 [(0, .ref (Γ.1 7 0)), (3, .int b3), (4, .int b4)] [] 143 (rec143 M0 b3 b4)) (M0 : kM2) (b4 : Int32) (b5 : Int32)  : Sm Γ (K2 Γ) p l e R s mid args below meth c 7 (jM true Γ (K2 Γ) below args s) M0 [(0, .ref (Γ.1 7 0)), (4, .int b4), (5, .int b5)] [] 224 (fL_holds_b224 rec143 M0 b4 b5) := by
  unfold fL_holds_b224
  refine k_iconst C (v := 1) dL_holds_224 (by decide) (pc' := 225) rfl ?_
  refine k_goto C (pc' := 229) dL_holds_225 (by decide) ?_
  exact sL_holds_b229 hL C hr rec143 hrec143 M0 b4 b5 1
def fL_holds_b228  (rec143 : kM2 → Int32 → Int32 → Option (Int32 × kM2)) (M0 : kM2) (b4 : Int32) (b5 : Int32) : Option (Int32 × kM2) :=
  fL_holds_b229 rec143 M0 b4 b5 0
set_option maxRecDepth 100000 in
set_option maxHeartbeats 4000000 in
theorem sL_holds_b228 {l : Launch} {Γ : kG} (hL : k_Lay Γ 314) {p : Program} {e : Env} {R : Room} {s : State} {mid : MethodId} {args : Array Value} {below : List Frame} {meth : Method} {c : Code} (C : k_C Γ p R s mid args meth c cL_holds 7 RL (k_R 6)) (hr : meth.sig.returnType = (some .boolean)) (rec143 : kM2 → Int32 → Int32 → Option (Int32 × kM2)) (hrec143 : ∀ (M0 : kM2) (b3 : Int32) (b4 : Int32), Sm Γ (K2 Γ) p l e R s mid args below meth c 7 (jM true Γ (K2 Γ) below args s) M0 [(0, .ref (Γ.1 7 0)), (3, .int b3), (4, .int b4)] [] 143 (rec143 M0 b3 b4)) (M0 : kM2) (b4 : Int32) (b5 : Int32)  : Sm Γ (K2 Γ) p l e R s mid args below meth c 7 (jM true Γ (K2 Γ) below args s) M0 [(0, .ref (Γ.1 7 0)), (4, .int b4), (5, .int b5)] [] 228 (fL_holds_b228 rec143 M0 b4 b5) := by
  unfold fL_holds_b228
  refine k_iconst C (v := 0) dL_holds_228 (by decide) (pc' := 229) rfl ?_
  exact sL_holds_b229 hL C hr rec143 hrec143 M0 b4 b5 0
def fL_holds_b143 : Nat → kM2 → Int32 → Int32 → Option (Int32 × kM2)
  | 0, _, _, _ => none
  | n + 1, M0, b3, b4 =>
  bd (fX6_count M0 6) fun r10 M11 => if r10 ≤ b4 then fL_holds_b298 M11 b3 else if b3 = 0 then fL_holds_b298 M11 b3 else bd (fX6_pledgeAt M11 b4 0) fun r70 M71 => if b4 = 0 then fL_holds_b224 (fL_holds_b143 n) M71 b4 r70 else bd (fX6_pledgeAt M71 (b4 - 1) 4) fun r90 M91 => bd (fX6_pledgeAt M91 b4 4) fun r92 M93 => if r90 < r92 then fL_holds_b224 (fL_holds_b143 n) M93 b4 r70 else bd (fX6_pledgeAt M93 (b4 - 1) 4) fun r95 M96 => bd (fX6_pledgeAt M96 b4 4) fun r97 M98 => if r95 = r97 then bd (fX6_pledgeAt M98 (b4 - 1) 0) fun r100 M101 => if r70 ≤ r100 then fL_holds_b228 (fL_holds_b143 n) M101 b4 r70 else fL_holds_b224 (fL_holds_b143 n) M101 b4 r70 else fL_holds_b228 (fL_holds_b143 n) M98 b4 r70
set_option maxRecDepth 100000 in
set_option maxHeartbeats 4000000 in
theorem sL_holds_b143 {l : Launch} {Γ : kG} (hL : k_Lay Γ 314) {p : Program} {e : Env} {R : Room} {s : State} {mid : MethodId} {args : Array Value} {below : List Frame} {meth : Method} {c : Code} (C : k_C Γ p R s mid args meth c cL_holds 7 RL (k_R 6)) (hr : meth.sig.returnType = (some .boolean))  (n : Nat) : ∀ (M0 : kM2) (b3 : Int32) (b4 : Int32), Sm Γ (K2 Γ) p l e R s mid args below meth c 7 (jM true Γ (K2 Γ) below args s) M0 [(0, .ref (Γ.1 7 0)), (3, .int b3), (4, .int b4)] [] 143 (fL_holds_b143 n M0 b3 b4) := by
  induction n with
  | zero => intros; exact k_none
  | succ n ih =>
    intro M0 b3 b4
    unfold fL_holds_b143
    refine k_iload C 2 dL_holds_143 rfl (pc' := 145) rfl ?_
    refine k_aload_n C 0 dL_holds_145 rfl rfl (pc' := 146) rfl ?_
    refine k_bipush C (v := 6) dL_holds_146 (by decide) (pc' := 148) rfl ?_
    refine k_callVi C (rest := [.int b4]) (qX6_count l Γ hL M0 6) mwX6_count iwX6_count mlL_9 (k_rm_of (by decide) (by decide)) (c2 Γ M0 7 0 (e_sea Γ (M0 7 0))) (v_7 (by decide)) rfl rfl rfl (Nat.le_of_ble_eq_true rfl) dL_holds_148 (pc' := 151) rfl (fun r10 M11 => ?_)
    refine k_ic_ge C (tgt := 298) dL_holds_151 (by decide) (pc' := 154) rfl (fun h12 => ?_) (fun h12 => ?_)
    · refine k_sub [0, 1] rfl ?_
      exact sL_holds_b298 hL C hr M11 b3
    · refine k_iload_n C 1 dL_holds_154 rfl rfl (pc' := 155) rfl ?_
      refine k_if_eq C (tgt := 298) dL_holds_155 (by decide) (pc' := 158) rfl (fun h69 => ?_) (fun h69 => ?_)
      · refine k_sub [0, 1] rfl ?_
        exact sL_holds_b298 hL C hr M11 b3
      · refine k_aload_n C 0 dL_holds_158 rfl rfl (pc' := 159) rfl ?_
        refine k_iload C 2 dL_holds_159 rfl (pc' := 161) rfl ?_
        refine k_iconst C (v := 0) dL_holds_161 (by decide) (pc' := 162) rfl ?_
        refine k_callVi C (rest := []) (qX6_pledgeAt l Γ hL M11 b4 0) mwX6_pledgeAt iwX6_pledgeAt mlL_36 (k_rm_of (by decide) (by decide)) (c2 Γ M11 7 0 (e_sea Γ (M11 7 0))) (v_7 (by decide)) rfl rfl rfl (Nat.le_of_ble_eq_true rfl) dL_holds_162 (pc' := 165) rfl (fun r70 M71 => ?_)
        refine k_istore C (lv' := [(5, .int r70), (0, .ref (Γ.1 7 0)), (3, .int b3), (4, .int b4)]) dL_holds_165 (by decide) rfl (pc' := 167) rfl ?_
        refine k_iload C 3 dL_holds_167 rfl (pc' := 169) rfl ?_
        refine k_if_eq C (tgt := 224) dL_holds_169 (by decide) (pc' := 172) rfl (fun h72 => ?_) (fun h72 => ?_)
        · refine k_sub [1, 3, 0] rfl ?_
          exact sL_holds_b224 hL C hr (fL_holds_b143 n) ih M71 b4 r70
        · refine k_aload_n C 1 dL_holds_172 rfl rfl (pc' := 173) rfl ?_
          refine k_iload C 3 dL_holds_173 rfl (pc' := 175) rfl ?_
          refine k_iconst C (v := 1) dL_holds_175 (by decide) (pc' := 176) rfl ?_
          refine k_isub C dL_holds_176 (pc' := 177) rfl ?_
          refine k_iconst C (v := 4) dL_holds_177 (by decide) (pc' := 178) rfl ?_
          refine k_callVi C (rest := []) (qX6_pledgeAt l Γ hL M71 (b4 - 1) 4) mwX6_pledgeAt iwX6_pledgeAt mlL_36 (k_rm_of (by decide) (by decide)) (c2 Γ M71 7 0 (e_sea Γ (M71 7 0))) (v_7 (by decide)) rfl rfl rfl (Nat.le_of_ble_eq_true rfl) dL_holds_178 (pc' := 181) rfl (fun r90 M91 => ?_)
          refine k_aload_n C 1 dL_holds_181 rfl rfl (pc' := 182) rfl ?_
          refine k_iload C 3 dL_holds_182 rfl (pc' := 184) rfl ?_
          refine k_iconst C (v := 4) dL_holds_184 (by decide) (pc' := 185) rfl ?_
          refine k_callVi C (rest := [.int r90]) (qX6_pledgeAt l Γ hL M91 b4 4) mwX6_pledgeAt iwX6_pledgeAt mlL_36 (k_rm_of (by decide) (by decide)) (c2 Γ M91 7 0 (e_sea Γ (M91 7 0))) (v_7 (by decide)) rfl rfl rfl (Nat.le_of_ble_eq_true rfl) dL_holds_185 (pc' := 188) rfl (fun r92 M93 => ?_)
          refine k_ic_lt C (tgt := 224) dL_holds_188 (by decide) (pc' := 191) rfl (fun h94 => ?_) (fun h94 => ?_)
          · refine k_sub [1, 3, 0] rfl ?_
            exact sL_holds_b224 hL C hr (fL_holds_b143 n) ih M93 b4 r70
          · refine k_aload_n C 1 dL_holds_191 rfl rfl (pc' := 192) rfl ?_
            refine k_iload C 3 dL_holds_192 rfl (pc' := 194) rfl ?_
            refine k_iconst C (v := 1) dL_holds_194 (by decide) (pc' := 195) rfl ?_
            refine k_isub C dL_holds_195 (pc' := 196) rfl ?_
            refine k_iconst C (v := 4) dL_holds_196 (by decide) (pc' := 197) rfl ?_
            refine k_callVi C (rest := []) (qX6_pledgeAt l Γ hL M93 (b4 - 1) 4) mwX6_pledgeAt iwX6_pledgeAt mlL_36 (k_rm_of (by decide) (by decide)) (c2 Γ M93 7 0 (e_sea Γ (M93 7 0))) (v_7 (by decide)) rfl rfl rfl (Nat.le_of_ble_eq_true rfl) dL_holds_197 (pc' := 200) rfl (fun r95 M96 => ?_)
            refine k_aload_n C 1 dL_holds_200 rfl rfl (pc' := 201) rfl ?_
            refine k_iload C 3 dL_holds_201 rfl (pc' := 203) rfl ?_
            refine k_iconst C (v := 4) dL_holds_203 (by decide) (pc' := 204) rfl ?_
            refine k_callVi C (rest := [.int r95]) (qX6_pledgeAt l Γ hL M96 b4 4) mwX6_pledgeAt iwX6_pledgeAt mlL_36 (k_rm_of (by decide) (by decide)) (c2 Γ M96 7 0 (e_sea Γ (M96 7 0))) (v_7 (by decide)) rfl rfl rfl (Nat.le_of_ble_eq_true rfl) dL_holds_204 (pc' := 207) rfl (fun r97 M98 => ?_)
            refine k_ic_ne C (tgt := 228) dL_holds_207 (by decide) (pc' := 210) rfl (fun h99 => ?_) (fun h99 => ?_)
            · refine k_sub [1, 3, 0] rfl ?_
              exact sL_holds_b228 hL C hr (fL_holds_b143 n) ih M98 b4 r70
            · refine k_aload_n C 1 dL_holds_210 rfl rfl (pc' := 211) rfl ?_
              refine k_iload C 3 dL_holds_211 rfl (pc' := 213) rfl ?_
              refine k_iconst C (v := 1) dL_holds_213 (by decide) (pc' := 214) rfl ?_
              refine k_isub C dL_holds_214 (pc' := 215) rfl ?_
              refine k_iconst C (v := 0) dL_holds_215 (by decide) (pc' := 216) rfl ?_
              refine k_callVi C (rest := []) (qX6_pledgeAt l Γ hL M98 (b4 - 1) 0) mwX6_pledgeAt iwX6_pledgeAt mlL_36 (k_rm_of (by decide) (by decide)) (c2 Γ M98 7 0 (e_sea Γ (M98 7 0))) (v_7 (by decide)) rfl rfl rfl (Nat.le_of_ble_eq_true rfl) dL_holds_216 (pc' := 219) rfl (fun r100 M101 => ?_)
              refine k_iload C 0 dL_holds_219 rfl (pc' := 221) rfl ?_
              refine k_ic_ge C (tgt := 228) dL_holds_221 (by decide) (pc' := 224) rfl (fun h102 => ?_) (fun h102 => ?_)
              · refine k_sub [1, 3, 0] rfl ?_
                exact sL_holds_b228 hL C hr (fL_holds_b143 n) ih M101 b4 r70
              · refine k_sub [1, 3, 0] rfl ?_
                exact sL_holds_b224 hL C hr (fL_holds_b143 n) ih M101 b4 r70
def fL_holds_b140   (M0 : kM2) (b3 : Int32) : Option (Int32 × kM2) :=
  fL_holds_b143 kFu M0 b3 0
set_option maxRecDepth 100000 in
set_option maxHeartbeats 4000000 in
theorem sL_holds_b140 {l : Launch} {Γ : kG} (hL : k_Lay Γ 314) {p : Program} {e : Env} {R : Room} {s : State} {mid : MethodId} {args : Array Value} {below : List Frame} {meth : Method} {c : Code} (C : k_C Γ p R s mid args meth c cL_holds 7 RL (k_R 6)) (hr : meth.sig.returnType = (some .boolean))  (M0 : kM2) (b3 : Int32)  : Sm Γ (K2 Γ) p l e R s mid args below meth c 7 (jM true Γ (K2 Γ) below args s) M0 [(0, .ref (Γ.1 7 0)), (3, .int b3)] [] 140 (fL_holds_b140 M0 b3) := by
  unfold fL_holds_b140
  refine k_iconst C (v := 0) dL_holds_140 (by decide) (pc' := 141) rfl ?_
  refine k_istore C (lv' := [(4, .int 0), (0, .ref (Γ.1 7 0)), (3, .int b3)]) dL_holds_141 (by decide) rfl (pc' := 143) rfl ?_
  refine k_sub [1, 2, 0] rfl ?_
  exact sL_holds_b143 hL C hr kFu M0 b3 0
def fL_holds_b133  (rec82 : kM2 → Int32 → Int32 → Int32 → Option (Int32 × kM2)) (M0 : kM2) (b1 : Int32) (b4 : Int32) (t0 : Int32) : Option (Int32 × kM2) :=
  k_let (b4 + 1) fun v107 => rec82 M0 b1 t0 v107
set_option maxRecDepth 100000 in
set_option maxHeartbeats 4000000 in
theorem sL_holds_b133 {l : Launch} {Γ : kG} (hL : k_Lay Γ 314) {p : Program} {e : Env} {R : Room} {s : State} {mid : MethodId} {args : Array Value} {below : List Frame} {meth : Method} {c : Code} (C : k_C Γ p R s mid args meth c cL_holds 7 RL (k_R 6)) (hr : meth.sig.returnType = (some .boolean)) (rec82 : kM2 → Int32 → Int32 → Int32 → Option (Int32 × kM2)) (hrec82 : ∀ (M0 : kM2) (b1 : Int32) (b3 : Int32) (b4 : Int32), Sm Γ (K2 Γ) p l e R s mid args below meth c 7 (jM true Γ (K2 Γ) below args s) M0 [(0, .ref (Γ.1 7 0)), (1, .int b1), (3, .int b3), (4, .int b4)] [] 82 (rec82 M0 b1 b3 b4)) (M0 : kM2) (b1 : Int32) (b4 : Int32) (t0 : Int32)  : Sm Γ (K2 Γ) p l e R s mid args below meth c 7 (jM true Γ (K2 Γ) below args s) M0 [(0, .ref (Γ.1 7 0)), (1, .int b1), (4, .int b4)] [.int t0] 133 (fL_holds_b133 rec82 M0 b1 b4 t0) := by
  unfold fL_holds_b133
  refine k_istore_n C (lv' := [(3, .int t0), (0, .ref (Γ.1 7 0)), (1, .int b1), (4, .int b4)]) dL_holds_133 rfl (by decide) rfl (pc' := 134) rfl ?_
  refine k_iinc (v := 1) (q := 3) (lv' := [(3, .int t0), (0, .ref (Γ.1 7 0)), (1, .int b1)]) C dL_holds_134 rfl (by decide) (by decide) (pc' := 137) rfl (fun _ => rfl) (fun v107 => ?_)
  refine k_goto C (pc' := 82) dL_holds_137 (by decide) ?_
  refine k_sub [2, 3, 1, 0] rfl ?_
  exact hrec82 M0 b1 t0 v107
def fL_holds_b132  (rec82 : kM2 → Int32 → Int32 → Int32 → Option (Int32 × kM2)) (M0 : kM2) (b1 : Int32) (b4 : Int32) : Option (Int32 × kM2) :=
  fL_holds_b133 rec82 M0 b1 b4 0
set_option maxRecDepth 100000 in
set_option maxHeartbeats 4000000 in
theorem sL_holds_b132 {l : Launch} {Γ : kG} (hL : k_Lay Γ 314) {p : Program} {e : Env} {R : Room} {s : State} {mid : MethodId} {args : Array Value} {below : List Frame} {meth : Method} {c : Code} (C : k_C Γ p R s mid args meth c cL_holds 7 RL (k_R 6)) (hr : meth.sig.returnType = (some .boolean)) (rec82 : kM2 → Int32 → Int32 → Int32 → Option (Int32 × kM2)) (hrec82 : ∀ (M0 : kM2) (b1 : Int32) (b3 : Int32) (b4 : Int32), Sm Γ (K2 Γ) p l e R s mid args below meth c 7 (jM true Γ (K2 Γ) below args s) M0 [(0, .ref (Γ.1 7 0)), (1, .int b1), (3, .int b3), (4, .int b4)] [] 82 (rec82 M0 b1 b3 b4)) (M0 : kM2) (b1 : Int32) (b4 : Int32)  : Sm Γ (K2 Γ) p l e R s mid args below meth c 7 (jM true Γ (K2 Γ) below args s) M0 [(0, .ref (Γ.1 7 0)), (1, .int b1), (4, .int b4)] [] 132 (fL_holds_b132 rec82 M0 b1 b4) := by
  unfold fL_holds_b132
  refine k_iconst C (v := 0) dL_holds_132 (by decide) (pc' := 133) rfl ?_
  exact sL_holds_b133 hL C hr rec82 hrec82 M0 b1 b4 0
def fL_holds_b82 : Nat → kM2 → Int32 → Int32 → Int32 → Option (Int32 × kM2)
  | 0, _, _, _, _ => none
  | n + 1, M0, b1, b3, b4 =>
  if b1 ≤ b4 then fL_holds_b140 M0 b3 else if b3 = 0 then fL_holds_b140 M0 b3 else bd (fX6_queueAt M0 b4) fun r104 M105 => if r104 < 0 then fL_holds_b132 (fL_holds_b82 n) M105 b1 b4 else bd (fX6_sackOf M105 r104 11) fun r108 M109 => if r108 = b4 then bd (fX6_sackOf M109 r104 3) fun r111 M112 => if r111 = 0 then fL_holds_b133 (fL_holds_b82 n) M112 b1 b4 1 else fL_holds_b132 (fL_holds_b82 n) M112 b1 b4 else fL_holds_b132 (fL_holds_b82 n) M109 b1 b4
set_option maxRecDepth 100000 in
set_option maxHeartbeats 4000000 in
theorem sL_holds_b82 {l : Launch} {Γ : kG} (hL : k_Lay Γ 314) {p : Program} {e : Env} {R : Room} {s : State} {mid : MethodId} {args : Array Value} {below : List Frame} {meth : Method} {c : Code} (C : k_C Γ p R s mid args meth c cL_holds 7 RL (k_R 6)) (hr : meth.sig.returnType = (some .boolean))  (n : Nat) : ∀ (M0 : kM2) (b1 : Int32) (b3 : Int32) (b4 : Int32), Sm Γ (K2 Γ) p l e R s mid args below meth c 7 (jM true Γ (K2 Γ) below args s) M0 [(0, .ref (Γ.1 7 0)), (1, .int b1), (3, .int b3), (4, .int b4)] [] 82 (fL_holds_b82 n M0 b1 b3 b4) := by
  induction n with
  | zero => intros; exact k_none
  | succ n ih =>
    intro M0 b1 b3 b4
    unfold fL_holds_b82
    refine k_iload C 3 dL_holds_82 rfl (pc' := 84) rfl ?_
    refine k_iload_n C 1 dL_holds_84 rfl rfl (pc' := 85) rfl ?_
    refine k_ic_ge C (tgt := 140) dL_holds_85 (by decide) (pc' := 88) rfl (fun h9 => ?_) (fun h9 => ?_)
    · refine k_sub [0, 2] rfl ?_
      exact sL_holds_b140 hL C hr M0 b3
    · refine k_iload_n C 2 dL_holds_88 rfl rfl (pc' := 89) rfl ?_
      refine k_if_eq C (tgt := 140) dL_holds_89 (by decide) (pc' := 92) rfl (fun h103 => ?_) (fun h103 => ?_)
      · refine k_sub [0, 2] rfl ?_
        exact sL_holds_b140 hL C hr M0 b3
      · refine k_aload_n C 0 dL_holds_92 rfl rfl (pc' := 93) rfl ?_
        refine k_iload C 3 dL_holds_93 rfl (pc' := 95) rfl ?_
        refine k_callVi C (rest := []) (qX6_queueAt l Γ hL M0 b4) mwX6_queueAt iwX6_queueAt mlL_32 (k_rm_of (by decide) (by decide)) (c2 Γ M0 7 0 (e_sea Γ (M0 7 0))) (v_7 (by decide)) rfl rfl rfl (Nat.le_of_ble_eq_true rfl) dL_holds_95 (pc' := 98) rfl (fun r104 M105 => ?_)
        refine k_istore C (lv' := [(5, .int r104), (0, .ref (Γ.1 7 0)), (1, .int b1), (3, .int b3), (4, .int b4)]) dL_holds_98 (by decide) rfl (pc' := 100) rfl ?_
        refine k_iload C 0 dL_holds_100 rfl (pc' := 102) rfl ?_
        refine k_if_lt C (tgt := 132) dL_holds_102 (by decide) (pc' := 105) rfl (fun h106 => ?_) (fun h106 => ?_)
        · refine k_sub [1, 2, 4] rfl ?_
          exact sL_holds_b132 hL C hr (fL_holds_b82 n) ih M105 b1 b4
        · refine k_aload_n C 1 dL_holds_105 rfl rfl (pc' := 106) rfl ?_
          refine k_iload C 0 dL_holds_106 rfl (pc' := 108) rfl ?_
          refine k_bipush C (v := 11) dL_holds_108 (by decide) (pc' := 110) rfl ?_
          refine k_callVi C (rest := []) (qX6_sackOf l Γ hL M105 r104 11) mwX6_sackOf iwX6_sackOf mlL_15 (k_rm_of (by decide) (by decide)) (c2 Γ M105 7 0 (e_sea Γ (M105 7 0))) (v_7 (by decide)) rfl rfl rfl (Nat.le_of_ble_eq_true rfl) dL_holds_110 (pc' := 113) rfl (fun r108 M109 => ?_)
          refine k_iload C 4 dL_holds_113 rfl (pc' := 115) rfl ?_
          refine k_ic_ne C (tgt := 132) dL_holds_115 (by decide) (pc' := 118) rfl (fun h110 => ?_) (fun h110 => ?_)
          · refine k_sub [1, 2, 4] rfl ?_
            exact sL_holds_b132 hL C hr (fL_holds_b82 n) ih M109 b1 b4
          · refine k_aload_n C 1 dL_holds_118 rfl rfl (pc' := 119) rfl ?_
            refine k_iload C 0 dL_holds_119 rfl (pc' := 121) rfl ?_
            refine k_iconst C (v := 3) dL_holds_121 (by decide) (pc' := 122) rfl ?_
            refine k_callVi C (rest := []) (qX6_sackOf l Γ hL M109 r104 3) mwX6_sackOf iwX6_sackOf mlL_15 (k_rm_of (by decide) (by decide)) (c2 Γ M109 7 0 (e_sea Γ (M109 7 0))) (v_7 (by decide)) rfl rfl rfl (Nat.le_of_ble_eq_true rfl) dL_holds_122 (pc' := 125) rfl (fun r111 M112 => ?_)
            refine k_if_ne C (tgt := 132) dL_holds_125 (by decide) (pc' := 128) rfl (fun h113 => ?_) (fun h113 => ?_)
            · refine k_sub [1, 2, 4] rfl ?_
              exact sL_holds_b132 hL C hr (fL_holds_b82 n) ih M112 b1 b4
            · refine k_iconst C (v := 1) dL_holds_128 (by decide) (pc' := 129) rfl ?_
              refine k_goto C (pc' := 133) dL_holds_129 (by decide) ?_
              refine k_sub [1, 2, 4] rfl ?_
              exact sL_holds_b133 hL C hr (fL_holds_b82 n) ih M112 b1 b4 1
def fL_holds_b78   (M0 : kM2) (b1 : Int32) (t0 : Int32) : Option (Int32 × kM2) :=
  fL_holds_b82 kFu M0 b1 t0 0
set_option maxRecDepth 100000 in
set_option maxHeartbeats 4000000 in
theorem sL_holds_b78 {l : Launch} {Γ : kG} (hL : k_Lay Γ 314) {p : Program} {e : Env} {R : Room} {s : State} {mid : MethodId} {args : Array Value} {below : List Frame} {meth : Method} {c : Code} (C : k_C Γ p R s mid args meth c cL_holds 7 RL (k_R 6)) (hr : meth.sig.returnType = (some .boolean))  (M0 : kM2) (b1 : Int32) (t0 : Int32)  : Sm Γ (K2 Γ) p l e R s mid args below meth c 7 (jM true Γ (K2 Γ) below args s) M0 [(0, .ref (Γ.1 7 0)), (1, .int b1)] [.int t0] 78 (fL_holds_b78 M0 b1 t0) := by
  unfold fL_holds_b78
  refine k_istore_n C (lv' := [(3, .int t0), (0, .ref (Γ.1 7 0)), (1, .int b1)]) dL_holds_78 rfl (by decide) rfl (pc' := 79) rfl ?_
  refine k_iconst C (v := 0) dL_holds_79 (by decide) (pc' := 80) rfl ?_
  refine k_istore C (lv' := [(4, .int 0), (3, .int t0), (0, .ref (Γ.1 7 0)), (1, .int b1)]) dL_holds_80 (by decide) rfl (pc' := 82) rfl ?_
  refine k_sub [2, 3, 1, 0] rfl ?_
  exact sL_holds_b82 hL C hr kFu M0 b1 t0 0
def fL_holds_b77   (M0 : kM2) (b1 : Int32) : Option (Int32 × kM2) :=
  fL_holds_b78 M0 b1 0
set_option maxRecDepth 100000 in
set_option maxHeartbeats 4000000 in
theorem sL_holds_b77 {l : Launch} {Γ : kG} (hL : k_Lay Γ 314) {p : Program} {e : Env} {R : Room} {s : State} {mid : MethodId} {args : Array Value} {below : List Frame} {meth : Method} {c : Code} (C : k_C Γ p R s mid args meth c cL_holds 7 RL (k_R 6)) (hr : meth.sig.returnType = (some .boolean))  (M0 : kM2) (b1 : Int32)  : Sm Γ (K2 Γ) p l e R s mid args below meth c 7 (jM true Γ (K2 Γ) below args s) M0 [(0, .ref (Γ.1 7 0)), (1, .int b1)] [] 77 (fL_holds_b77 M0 b1) := by
  unfold fL_holds_b77
  refine k_iconst C (v := 0) dL_holds_77 (by decide) (pc' := 78) rfl ?_
  exact sL_holds_b78 hL C hr M0 b1 0
def fL_holds_b73   (M0 : kM2) (b1 : Int32) : Option (Int32 × kM2) :=
  fL_holds_b78 M0 b1 1
set_option maxRecDepth 100000 in
set_option maxHeartbeats 4000000 in
theorem sL_holds_b73 {l : Launch} {Γ : kG} (hL : k_Lay Γ 314) {p : Program} {e : Env} {R : Room} {s : State} {mid : MethodId} {args : Array Value} {below : List Frame} {meth : Method} {c : Code} (C : k_C Γ p R s mid args meth c cL_holds 7 RL (k_R 6)) (hr : meth.sig.returnType = (some .boolean))  (M0 : kM2) (b1 : Int32)  : Sm Γ (K2 Γ) p l e R s mid args below meth c 7 (jM true Γ (K2 Γ) below args s) M0 [(0, .ref (Γ.1 7 0)), (1, .int b1)] [] 73 (fL_holds_b73 M0 b1) := by
  unfold fL_holds_b73
  refine k_iconst C (v := 1) dL_holds_73 (by decide) (pc' := 74) rfl ?_
  refine k_goto C (pc' := 78) dL_holds_74 (by decide) ?_
  exact sL_holds_b78 hL C hr M0 b1 1
def fL_holds_b20   (M0 : kM2) (b1 : Int32) (t0 : Int32) : Option (Int32 × kM2) :=
  bd (fX6_queueAt M0 b1) fun r6 M7 => if r6 = (-1000004) then bd (fX6_count M7 4) fun r114 M115 => bd (fX6_count M115 5) fun r116 M117 => bd (fX6_count M117 2) fun r118 M119 => if (((b1 + t0) + r114) + r116) = r118 then if t0 = 0 then fL_holds_b73 M119 b1 else bd (fX6_pond M119 6) fun r122 M123 => bd (fX6_sackOf M123 r122 3) fun r124 M125 => if r124 = 1 then fL_holds_b73 M125 b1 else fL_holds_b77 M125 b1 else fL_holds_b77 M119 b1 else fL_holds_b77 M7 b1
set_option maxRecDepth 100000 in
set_option maxHeartbeats 4000000 in
theorem sL_holds_b20 {l : Launch} {Γ : kG} (hL : k_Lay Γ 314) {p : Program} {e : Env} {R : Room} {s : State} {mid : MethodId} {args : Array Value} {below : List Frame} {meth : Method} {c : Code} (C : k_C Γ p R s mid args meth c cL_holds 7 RL (k_R 6)) (hr : meth.sig.returnType = (some .boolean))  (M0 : kM2) (b1 : Int32) (t0 : Int32)  : Sm Γ (K2 Γ) p l e R s mid args below meth c 7 (jM true Γ (K2 Γ) below args s) M0 [(0, .ref (Γ.1 7 0)), (1, .int b1)] [.int t0] 20 (fL_holds_b20 M0 b1 t0) := by
  unfold fL_holds_b20
  refine k_istore_n C (lv' := [(2, .int t0), (0, .ref (Γ.1 7 0)), (1, .int b1)]) dL_holds_20 rfl (by decide) rfl (pc' := 21) rfl ?_
  refine k_aload_n C 1 dL_holds_21 rfl rfl (pc' := 22) rfl ?_
  refine k_iload_n C 2 dL_holds_22 rfl rfl (pc' := 23) rfl ?_
  refine k_callVi C (rest := []) (qX6_queueAt l Γ hL M0 b1) mwX6_queueAt iwX6_queueAt mlL_32 (k_rm_of (by decide) (by decide)) (c2 Γ M0 7 0 (e_sea Γ (M0 7 0))) (v_7 (by decide)) rfl rfl rfl (Nat.le_of_ble_eq_true rfl) dL_holds_23 (pc' := 26) rfl (fun r6 M7 => ?_)
  refine k_ldc C (v := (-1000004)) dL_holds_26 cnL_35 (pc' := 28) rfl ?_
  refine k_ic_ne C (tgt := 77) dL_holds_28 (by decide) (pc' := 31) rfl (fun h8 => ?_) (fun h8 => ?_)
  · refine k_sub [1, 2] rfl ?_
    exact sL_holds_b77 hL C hr M7 b1
  · refine k_iload_n C 2 dL_holds_31 rfl rfl (pc' := 32) rfl ?_
    refine k_iload_n C 0 dL_holds_32 rfl rfl (pc' := 33) rfl ?_
    refine k_iadd C dL_holds_33 (pc' := 34) rfl ?_
    refine k_aload_n C 1 dL_holds_34 rfl rfl (pc' := 35) rfl ?_
    refine k_iconst C (v := 4) dL_holds_35 (by decide) (pc' := 36) rfl ?_
    refine k_callVi C (rest := [.int (b1 + t0)]) (qX6_count l Γ hL M7 4) mwX6_count iwX6_count mlL_9 (k_rm_of (by decide) (by decide)) (c2 Γ M7 7 0 (e_sea Γ (M7 7 0))) (v_7 (by decide)) rfl rfl rfl (Nat.le_of_ble_eq_true rfl) dL_holds_36 (pc' := 39) rfl (fun r114 M115 => ?_)
    refine k_iadd C dL_holds_39 (pc' := 40) rfl ?_
    refine k_aload_n C 1 dL_holds_40 rfl rfl (pc' := 41) rfl ?_
    refine k_iconst C (v := 5) dL_holds_41 (by decide) (pc' := 42) rfl ?_
    refine k_callVi C (rest := [.int ((b1 + t0) + r114)]) (qX6_count l Γ hL M115 5) mwX6_count iwX6_count mlL_9 (k_rm_of (by decide) (by decide)) (c2 Γ M115 7 0 (e_sea Γ (M115 7 0))) (v_7 (by decide)) rfl rfl rfl (Nat.le_of_ble_eq_true rfl) dL_holds_42 (pc' := 45) rfl (fun r116 M117 => ?_)
    refine k_iadd C dL_holds_45 (pc' := 46) rfl ?_
    refine k_aload_n C 1 dL_holds_46 rfl rfl (pc' := 47) rfl ?_
    refine k_iconst C (v := 2) dL_holds_47 (by decide) (pc' := 48) rfl ?_
    refine k_callVi C (rest := [.int (((b1 + t0) + r114) + r116)]) (qX6_count l Γ hL M117 2) mwX6_count iwX6_count mlL_9 (k_rm_of (by decide) (by decide)) (c2 Γ M117 7 0 (e_sea Γ (M117 7 0))) (v_7 (by decide)) rfl rfl rfl (Nat.le_of_ble_eq_true rfl) dL_holds_48 (pc' := 51) rfl (fun r118 M119 => ?_)
    refine k_ic_ne C (tgt := 77) dL_holds_51 (by decide) (pc' := 54) rfl (fun h120 => ?_) (fun h120 => ?_)
    · refine k_sub [1, 2] rfl ?_
      exact sL_holds_b77 hL C hr M119 b1
    · refine k_iload_n C 0 dL_holds_54 rfl rfl (pc' := 55) rfl ?_
      refine k_if_eq C (tgt := 73) dL_holds_55 (by decide) (pc' := 58) rfl (fun h121 => ?_) (fun h121 => ?_)
      · refine k_sub [1, 2] rfl ?_
        exact sL_holds_b73 hL C hr M119 b1
      · refine k_aload_n C 1 dL_holds_58 rfl rfl (pc' := 59) rfl ?_
        refine k_aload_n C 1 dL_holds_59 rfl rfl (pc' := 60) rfl ?_
        refine k_bipush C (v := 6) dL_holds_60 (by decide) (pc' := 62) rfl ?_
        refine k_callVi C (rest := [.ref (Γ.1 7 0)]) (qX6_pond l Γ hL M119 6) mwX6_pond iwX6_pond mlL_29 (k_rm_of (by decide) (by decide)) (c2 Γ M119 7 0 (e_sea Γ (M119 7 0))) (v_7 (by decide)) rfl rfl rfl (Nat.le_of_ble_eq_true rfl) dL_holds_62 (pc' := 65) rfl (fun r122 M123 => ?_)
        refine k_iconst C (v := 3) dL_holds_65 (by decide) (pc' := 66) rfl ?_
        refine k_callVi C (rest := []) (qX6_sackOf l Γ hL M123 r122 3) mwX6_sackOf iwX6_sackOf mlL_15 (k_rm_of (by decide) (by decide)) (c2 Γ M123 7 0 (e_sea Γ (M123 7 0))) (v_7 (by decide)) rfl rfl rfl (Nat.le_of_ble_eq_true rfl) dL_holds_66 (pc' := 69) rfl (fun r124 M125 => ?_)
        refine k_iconst C (v := 1) dL_holds_69 (by decide) (pc' := 70) rfl ?_
        refine k_ic_ne C (tgt := 77) dL_holds_70 (by decide) (pc' := 73) rfl (fun h126 => ?_) (fun h126 => ?_)
        · refine k_sub [1, 2] rfl ?_
          exact sL_holds_b77 hL C hr M125 b1
        · refine k_sub [1, 2] rfl ?_
          exact sL_holds_b73 hL C hr M125 b1
def fL_holds (M0 : kM2) : Option (Int32 × kM2) :=
  bd (fX6_count M0 3) fun r1 M2 => bd (fX6_pond M2 6) fun r3 M4 => if 0 ≤ r3 then fL_holds_b20 M4 r1 1 else fL_holds_b20 M4 r1 0
set_option maxRecDepth 100000 in
set_option maxHeartbeats 4000000 in
theorem qL_holds (l : Launch) (Γ : kG) (hL : k_Lay Γ 314) (M0 : kM2) : CT l Γ (K2 Γ) yL_holds cL_holds 7 (some .boolean) (k_R 6) [.ref (Γ.1 7 0)] M0 (fL_holds M0 ) := by
  refine k_meth (own := RL) (by decide) rfl (Nat.le_of_ble_eq_true rfl) (fun p e R s mid args below meth c C hr => ?_)
  show Sm Γ (K2 Γ) p l e R s mid args below meth c 7 (jM true Γ (K2 Γ) below args s) M0 [(0, .ref (Γ.1 7 0))] [] 0 (fL_holds M0 )
  unfold fL_holds
  refine k_aload_n C 0 dL_holds_0 rfl rfl (pc' := 1) rfl ?_
  refine k_iconst C (v := 3) dL_holds_1 (by decide) (pc' := 2) rfl ?_
  refine k_callVi C (rest := []) (qX6_count l Γ hL M0 3) mwX6_count iwX6_count mlL_9 (k_rm_of (by decide) (by decide)) (c2 Γ M0 7 0 (e_sea Γ (M0 7 0))) (v_7 (by decide)) rfl rfl rfl (Nat.le_of_ble_eq_true rfl) dL_holds_2 (pc' := 5) rfl (fun r1 M2 => ?_)
  refine k_istore_n C (lv' := [(1, .int r1), (0, .ref (Γ.1 7 0))]) dL_holds_5 rfl (by decide) rfl (pc' := 6) rfl ?_
  refine k_aload_n C 1 dL_holds_6 rfl rfl (pc' := 7) rfl ?_
  refine k_bipush C (v := 6) dL_holds_7 (by decide) (pc' := 9) rfl ?_
  refine k_callVi C (rest := []) (qX6_pond l Γ hL M2 6) mwX6_pond iwX6_pond mlL_29 (k_rm_of (by decide) (by decide)) (c2 Γ M2 7 0 (e_sea Γ (M2 7 0))) (v_7 (by decide)) rfl rfl rfl (Nat.le_of_ble_eq_true rfl) dL_holds_9 (pc' := 12) rfl (fun r3 M4 => ?_)
  refine k_if_ge C (tgt := 19) dL_holds_12 (by decide) (pc' := 15) rfl (fun h5 => ?_) (fun h5 => ?_)
  · refine k_iconst C (v := 1) dL_holds_19 (by decide) (pc' := 20) rfl ?_
    refine k_sub [1, 0] rfl ?_
    exact sL_holds_b20 hL C hr M4 r1 1
  · refine k_iconst C (v := 0) dL_holds_15 (by decide) (pc' := 16) rfl ?_
    refine k_goto C (pc' := 20) dL_holds_16 (by decide) ?_
    refine k_sub [1, 0] rfl ?_
    exact sL_holds_b20 hL C hr M4 r1 0
def fL_money_b179 (a1 : Int32) (a2 : Int32)  (M0 : kM2) : Option (Int32 × kM2) :=
  some (1, M0)
set_option maxRecDepth 100000 in
set_option maxHeartbeats 4000000 in
theorem sL_money_b179 {l : Launch} {Γ : kG} (hL : k_Lay Γ 314) {p : Program} {e : Env} {R : Room} {s : State} {mid : MethodId} {args : Array Value} {below : List Frame} {meth : Method} {c : Code} (C : k_C Γ p R s mid args meth c cL_money 9 RL (k_R 5)) (hr : meth.sig.returnType = (some .boolean)) (a1 : Int32) (a2 : Int32)  (M0 : kM2)   : Sm Γ (K2 Γ) p l e R s mid args below meth c 9 (jM true Γ (K2 Γ) below args s) M0 [] [] 179 (fL_money_b179 a1 a2 M0) := by
  unfold fL_money_b179
  refine k_iconst C (v := 1) dL_money_179 (by decide) (pc' := 180) rfl ?_
  refine k_goto C (pc' := 226) dL_money_180 (by decide) ?_
  exact k_retz C rfl hr (Or.inr rfl) dL_money_226
def fL_money (M0 : kM2) (a1 : Int32) (a2 : Int32) : Option (Int32 × kM2) :=
  bd (fX6_sackOf M0 a1 0) fun r1 M2 => bd (fX6_farmerOf M2 r1 0) fun r3 M4 => bd (fX6_sackOf M4 a1 5) fun r5 M6 => bd (fX6_sackOf M6 a1 8) fun r7 M8 => if (irm a2 2) = 0 then k_let (1 + (irm (a2 / 2) 9)) fun v25 => bd (fX6_pledge M8 a1 v25) fun r26 M27 => if r26 = (-1000002) then bd (fX6_farmerOf M27 r1 0) fun r40 M41 => if r40 = r3 then some (1, M41) else some (0, M41) else if r26 < 0 then some (0, M27) else if r7 = 0 then bd (fX6_farmerOf M27 r1 0) fun r31 M32 => if r31 = (r3 + r26) then bd (fX6_sackOf M32 a1 5) fun r34 M35 => if r34 = (r5 - v25) then bd (fX6_sackOf M35 a1 8) fun r37 M38 => if r37 = v25 then some (1, M38) else some (0, M38) else some (0, M35) else some (0, M32) else some (0, M27) else bd (fX6_owed M8 a1) fun r10 M11 => bd (fX6_redeem M11 a1) fun r12 M13 => if r12 = (-1000002) then if r10 < 0 then fL_money_b179 a1 a2 M13 else if r3 < r10 then fL_money_b179 a1 a2 M13 else if r10 = 2147483647 then fL_money_b179 a1 a2 M13 else some (0, M13) else if r12 = (r3 - r10) then bd (fX6_sackOf M13 a1 5) fun r16 M17 => if r16 = (r5 + r7) then bd (fX6_owed M17 a1) fun r19 M20 => if r19 = (-1000004) then some (1, M20) else some (0, M20) else some (0, M17) else some (0, M13)
set_option maxRecDepth 100000 in
set_option maxHeartbeats 4000000 in
theorem qL_money (l : Launch) (Γ : kG) (hL : k_Lay Γ 314) (M0 : kM2) (a1 : Int32) (a2 : Int32) : CT l Γ (K2 Γ) yL_money cL_money 9 (some .boolean) (k_R 5) [.ref (Γ.1 7 0), .int a1, .int a2] M0 (fL_money M0 a1 a2) := by
  refine k_meth (own := RL) (by decide) rfl (Nat.le_of_ble_eq_true rfl) (fun p e R s mid args below meth c C hr => ?_)
  show Sm Γ (K2 Γ) p l e R s mid args below meth c 9 (jM true Γ (K2 Γ) below args s) M0 [(0, .ref (Γ.1 7 0)), (1, .int a1), (2, .int a2)] [] 0 (fL_money M0 a1 a2)
  unfold fL_money
  refine k_aload_n C 0 dL_money_0 rfl rfl (pc' := 1) rfl ?_
  refine k_iload_n C 1 dL_money_1 rfl rfl (pc' := 2) rfl ?_
  refine k_iconst C (v := 0) dL_money_2 (by decide) (pc' := 3) rfl ?_
  refine k_callVi C (rest := []) (qX6_sackOf l Γ hL M0 a1 0) mwX6_sackOf iwX6_sackOf mlL_15 (k_rm_of (by decide) (by decide)) (c2 Γ M0 7 0 (e_sea Γ (M0 7 0))) (v_7 (by decide)) rfl rfl rfl (Nat.le_of_ble_eq_true rfl) dL_money_3 (pc' := 6) rfl (fun r1 M2 => ?_)
  refine k_istore_n C (lv' := [(3, .int r1), (0, .ref (Γ.1 7 0)), (1, .int a1), (2, .int a2)]) dL_money_6 rfl (by decide) rfl (pc' := 7) rfl ?_
  refine k_aload_n C 1 dL_money_7 rfl rfl (pc' := 8) rfl ?_
  refine k_iload_n C 0 dL_money_8 rfl rfl (pc' := 9) rfl ?_
  refine k_iconst C (v := 0) dL_money_9 (by decide) (pc' := 10) rfl ?_
  refine k_callVi C (rest := []) (qX6_farmerOf l Γ hL M2 r1 0) mwX6_farmerOf iwX6_farmerOf mlL_26 (k_rm_of (by decide) (by decide)) (c2 Γ M2 7 0 (e_sea Γ (M2 7 0))) (v_7 (by decide)) rfl rfl rfl (Nat.le_of_ble_eq_true rfl) dL_money_10 (pc' := 13) rfl (fun r3 M4 => ?_)
  refine k_istore C (lv' := [(4, .int r3), (3, .int r1), (0, .ref (Γ.1 7 0)), (1, .int a1), (2, .int a2)]) dL_money_13 (by decide) rfl (pc' := 15) rfl ?_
  refine k_aload_n C 2 dL_money_15 rfl rfl (pc' := 16) rfl ?_
  refine k_iload_n C 3 dL_money_16 rfl rfl (pc' := 17) rfl ?_
  refine k_iconst C (v := 5) dL_money_17 (by decide) (pc' := 18) rfl ?_
  refine k_callVi C (rest := []) (qX6_sackOf l Γ hL M4 a1 5) mwX6_sackOf iwX6_sackOf mlL_15 (k_rm_of (by decide) (by decide)) (c2 Γ M4 7 0 (e_sea Γ (M4 7 0))) (v_7 (by decide)) rfl rfl rfl (Nat.le_of_ble_eq_true rfl) dL_money_18 (pc' := 21) rfl (fun r5 M6 => ?_)
  refine k_istore C (lv' := [(5, .int r5), (4, .int r3), (3, .int r1), (0, .ref (Γ.1 7 0)), (1, .int a1), (2, .int a2)]) dL_money_21 (by decide) rfl (pc' := 23) rfl ?_
  refine k_aload_n C 3 dL_money_23 rfl rfl (pc' := 24) rfl ?_
  refine k_iload_n C 4 dL_money_24 rfl rfl (pc' := 25) rfl ?_
  refine k_bipush C (v := 8) dL_money_25 (by decide) (pc' := 27) rfl ?_
  refine k_callVi C (rest := []) (qX6_sackOf l Γ hL M6 a1 8) mwX6_sackOf iwX6_sackOf mlL_15 (k_rm_of (by decide) (by decide)) (c2 Γ M6 7 0 (e_sea Γ (M6 7 0))) (v_7 (by decide)) rfl rfl rfl (Nat.le_of_ble_eq_true rfl) dL_money_27 (pc' := 30) rfl (fun r7 M8 => ?_)
  refine k_istore C (lv' := [(6, .int r7), (5, .int r5), (4, .int r3), (3, .int r1), (0, .ref (Γ.1 7 0)), (1, .int a1), (2, .int a2)]) dL_money_30 (by decide) rfl (pc' := 32) rfl ?_
  refine k_iload_n C 6 dL_money_32 rfl rfl (pc' := 33) rfl ?_
  refine k_iconst C (v := 2) dL_money_33 (by decide) (pc' := 34) rfl ?_
  refine k_iremK C dL_money_34 (by decide) (pc' := 35) rfl ?_
  refine k_if_ne C (tgt := 139) dL_money_35 (by decide) (pc' := 38) rfl (fun h9 => ?_) (fun h9 => ?_)
  · refine k_aload_n C 4 dL_money_139 rfl rfl (pc' := 140) rfl ?_
    refine k_iload_n C 5 dL_money_140 rfl rfl (pc' := 141) rfl ?_
    refine k_callVi C (rest := []) (qX6_owed l Γ hL M8 a1) mwX6_owed iwX6_owed mlL_39 (k_rm_of (by decide) (by decide)) (c2 Γ M8 7 0 (e_sea Γ (M8 7 0))) (v_7 (by decide)) rfl rfl rfl (Nat.le_of_ble_eq_true rfl) dL_money_141 (pc' := 144) rfl (fun r10 M11 => ?_)
    refine k_istore C (lv' := [(7, .int r10), (6, .int r7), (5, .int r5), (4, .int r3), (3, .int r1), (0, .ref (Γ.1 7 0)), (1, .int a1), (2, .int a2)]) dL_money_144 (by decide) rfl (pc' := 146) rfl ?_
    refine k_aload_n C 5 dL_money_146 rfl rfl (pc' := 147) rfl ?_
    refine k_iload_n C 6 dL_money_147 rfl rfl (pc' := 148) rfl ?_
    refine k_callVi C (rest := []) (qX6_redeem l Γ hL M11 a1) mwX6_redeem iwX6_redeem mlL_58 (k_rm_of (by decide) (by decide)) (c2 Γ M11 7 0 (e_sea Γ (M11 7 0))) (v_7 (by decide)) rfl rfl rfl (Nat.le_of_ble_eq_true rfl) dL_money_148 (pc' := 151) rfl (fun r12 M13 => ?_)
    refine k_istore C (lv' := [(8, .int r12), (7, .int r10), (6, .int r7), (5, .int r5), (4, .int r3), (3, .int r1), (0, .ref (Γ.1 7 0)), (1, .int a1), (2, .int a2)]) dL_money_151 (by decide) rfl (pc' := 153) rfl ?_
    refine k_iload C 0 dL_money_153 rfl (pc' := 155) rfl ?_
    refine k_ldc C (v := (-1000002)) dL_money_155 cnL_57 (pc' := 157) rfl ?_
    refine k_ic_ne C (tgt := 187) dL_money_157 (by decide) (pc' := 160) rfl (fun h14 => ?_) (fun h14 => ?_)
    · refine k_iload C 0 dL_money_187 rfl (pc' := 189) rfl ?_
      refine k_iload C 4 dL_money_189 rfl (pc' := 191) rfl ?_
      refine k_iload C 1 dL_money_191 rfl (pc' := 193) rfl ?_
      refine k_isub C dL_money_193 (pc' := 194) rfl ?_
      refine k_ic_ne C (tgt := 225) dL_money_194 (by decide) (pc' := 197) rfl (fun h15 => ?_) (fun h15 => ?_)
      · refine k_iconst C (v := 0) dL_money_225 (by decide) (pc' := 226) rfl ?_
        exact k_retz C rfl hr (Or.inl rfl) dL_money_226
      · refine k_aload_n C 6 dL_money_197 rfl rfl (pc' := 198) rfl ?_
        refine k_iload_n C 7 dL_money_198 rfl rfl (pc' := 199) rfl ?_
        refine k_iconst C (v := 5) dL_money_199 (by decide) (pc' := 200) rfl ?_
        refine k_callVi C (rest := []) (qX6_sackOf l Γ hL M13 a1 5) mwX6_sackOf iwX6_sackOf mlL_15 (k_rm_of (by decide) (by decide)) (c2 Γ M13 7 0 (e_sea Γ (M13 7 0))) (v_7 (by decide)) rfl rfl rfl (Nat.le_of_ble_eq_true rfl) dL_money_200 (pc' := 203) rfl (fun r16 M17 => ?_)
        refine k_iload C 3 dL_money_203 rfl (pc' := 205) rfl ?_
        refine k_iload C 2 dL_money_205 rfl (pc' := 207) rfl ?_
        refine k_iadd C dL_money_207 (pc' := 208) rfl ?_
        refine k_ic_ne C (tgt := 225) dL_money_208 (by decide) (pc' := 211) rfl (fun h18 => ?_) (fun h18 => ?_)
        · refine k_iconst C (v := 0) dL_money_225 (by decide) (pc' := 226) rfl ?_
          exact k_retz C rfl hr (Or.inl rfl) dL_money_226
        · refine k_aload_n C 6 dL_money_211 rfl rfl (pc' := 212) rfl ?_
          refine k_iload_n C 7 dL_money_212 rfl rfl (pc' := 213) rfl ?_
          refine k_callVi C (rest := []) (qX6_owed l Γ hL M17 a1) mwX6_owed iwX6_owed mlL_39 (k_rm_of (by decide) (by decide)) (c2 Γ M17 7 0 (e_sea Γ (M17 7 0))) (v_7 (by decide)) rfl rfl rfl (Nat.le_of_ble_eq_true rfl) dL_money_213 (pc' := 216) rfl (fun r19 M20 => ?_)
          refine k_ldc C (v := (-1000004)) dL_money_216 cnL_35 (pc' := 218) rfl ?_
          refine k_ic_ne C (tgt := 225) dL_money_218 (by decide) (pc' := 221) rfl (fun h21 => ?_) (fun h21 => ?_)
          · refine k_iconst C (v := 0) dL_money_225 (by decide) (pc' := 226) rfl ?_
            exact k_retz C rfl hr (Or.inl rfl) dL_money_226
          · refine k_iconst C (v := 1) dL_money_221 (by decide) (pc' := 222) rfl ?_
            refine k_goto C (pc' := 226) dL_money_222 (by decide) ?_
            exact k_retz C rfl hr (Or.inr rfl) dL_money_226
    · refine k_iload C 1 dL_money_160 rfl (pc' := 162) rfl ?_
      refine k_if_lt C (tgt := 179) dL_money_162 (by decide) (pc' := 165) rfl (fun h22 => ?_) (fun h22 => ?_)
      · refine k_sub [] rfl ?_
        exact sL_money_b179 hL C hr a1 a2 M13
      · refine k_iload C 1 dL_money_165 rfl (pc' := 167) rfl ?_
        refine k_iload C 4 dL_money_167 rfl (pc' := 169) rfl ?_
        refine k_ic_gt C (tgt := 179) dL_money_169 (by decide) (pc' := 172) rfl (fun h23 => ?_) (fun h23 => ?_)
        · refine k_sub [] rfl ?_
          exact sL_money_b179 hL C hr a1 a2 M13
        · refine k_iload C 1 dL_money_172 rfl (pc' := 174) rfl ?_
          refine k_ldc C (v := 2147483647) dL_money_174 cnL_8 (pc' := 176) rfl ?_
          refine k_ic_ne C (tgt := 183) dL_money_176 (by decide) (pc' := 179) rfl (fun h24 => ?_) (fun h24 => ?_)
          · refine k_iconst C (v := 0) dL_money_183 (by decide) (pc' := 184) rfl ?_
            refine k_goto C (pc' := 226) dL_money_184 (by decide) ?_
            exact k_retz C rfl hr (Or.inl rfl) dL_money_226
          · refine k_sub [] rfl ?_
            exact sL_money_b179 hL C hr a1 a2 M13
  · refine k_iconst C (v := 1) dL_money_38 (by decide) (pc' := 39) rfl ?_
    refine k_iload_n C 6 dL_money_39 rfl rfl (pc' := 40) rfl ?_
    refine k_iconst C (v := 2) dL_money_40 (by decide) (pc' := 41) rfl ?_
    refine k_idivK C dL_money_41 (by decide) (pc' := 42) rfl ?_
    refine k_bipush C (v := 9) dL_money_42 (by decide) (pc' := 44) rfl ?_
    refine k_iremK C dL_money_44 (by decide) (pc' := 45) rfl ?_
    refine k_iadd C dL_money_45 (pc' := 46) rfl ?_
    refine k_topi (fun v25 => ?_)
    refine k_istore C (lv' := [(7, .int v25), (6, .int r7), (5, .int r5), (4, .int r3), (3, .int r1), (0, .ref (Γ.1 7 0)), (1, .int a1), (2, .int a2)]) dL_money_46 (by decide) rfl (pc' := 48) rfl ?_
    refine k_aload_n C 5 dL_money_48 rfl rfl (pc' := 49) rfl ?_
    refine k_iload_n C 6 dL_money_49 rfl rfl (pc' := 50) rfl ?_
    refine k_iload C 0 dL_money_50 rfl (pc' := 52) rfl ?_
    refine k_callVi C (rest := []) (qX6_pledge l Γ hL M8 a1 v25) mwX6_pledge iwX6_pledge mlL_54 (k_rm_of (by decide) (by decide)) (c2 Γ M8 7 0 (e_sea Γ (M8 7 0))) (v_7 (by decide)) rfl rfl rfl (Nat.le_of_ble_eq_true rfl) dL_money_52 (pc' := 55) rfl (fun r26 M27 => ?_)
    refine k_istore C (lv' := [(8, .int r26), (7, .int v25), (6, .int r7), (5, .int r5), (4, .int r3), (3, .int r1), (0, .ref (Γ.1 7 0)), (1, .int a1), (2, .int a2)]) dL_money_55 (by decide) rfl (pc' := 57) rfl ?_
    refine k_iload C 0 dL_money_57 rfl (pc' := 59) rfl ?_
    refine k_ldc C (v := (-1000002)) dL_money_59 cnL_57 (pc' := 61) rfl ?_
    refine k_ic_ne C (tgt := 83) dL_money_61 (by decide) (pc' := 64) rfl (fun h28 => ?_) (fun h28 => ?_)
    · refine k_iload C 0 dL_money_83 rfl (pc' := 85) rfl ?_
      refine k_if_lt C (tgt := 137) dL_money_85 (by decide) (pc' := 88) rfl (fun h29 => ?_) (fun h29 => ?_)
      · refine k_iconst C (v := 0) dL_money_137 (by decide) (pc' := 138) rfl ?_
        exact k_retz C rfl hr (Or.inl rfl) dL_money_138
      · refine k_iload C 2 dL_money_88 rfl (pc' := 90) rfl ?_
        refine k_if_ne C (tgt := 137) dL_money_90 (by decide) (pc' := 93) rfl (fun h30 => ?_) (fun h30 => ?_)
        · refine k_iconst C (v := 0) dL_money_137 (by decide) (pc' := 138) rfl ?_
          exact k_retz C rfl hr (Or.inl rfl) dL_money_138
        · refine k_aload_n C 6 dL_money_93 rfl rfl (pc' := 94) rfl ?_
          refine k_iload_n C 5 dL_money_94 rfl rfl (pc' := 95) rfl ?_
          refine k_iconst C (v := 0) dL_money_95 (by decide) (pc' := 96) rfl ?_
          refine k_callVi C (rest := []) (qX6_farmerOf l Γ hL M27 r1 0) mwX6_farmerOf iwX6_farmerOf mlL_26 (k_rm_of (by decide) (by decide)) (c2 Γ M27 7 0 (e_sea Γ (M27 7 0))) (v_7 (by decide)) rfl rfl rfl (Nat.le_of_ble_eq_true rfl) dL_money_96 (pc' := 99) rfl (fun r31 M32 => ?_)
          refine k_iload C 4 dL_money_99 rfl (pc' := 101) rfl ?_
          refine k_iload C 0 dL_money_101 rfl (pc' := 103) rfl ?_
          refine k_iadd C dL_money_103 (pc' := 104) rfl ?_
          refine k_ic_ne C (tgt := 137) dL_money_104 (by decide) (pc' := 107) rfl (fun h33 => ?_) (fun h33 => ?_)
          · refine k_iconst C (v := 0) dL_money_137 (by decide) (pc' := 138) rfl ?_
            exact k_retz C rfl hr (Or.inl rfl) dL_money_138
          · refine k_aload_n C 6 dL_money_107 rfl rfl (pc' := 108) rfl ?_
            refine k_iload_n C 7 dL_money_108 rfl rfl (pc' := 109) rfl ?_
            refine k_iconst C (v := 5) dL_money_109 (by decide) (pc' := 110) rfl ?_
            refine k_callVi C (rest := []) (qX6_sackOf l Γ hL M32 a1 5) mwX6_sackOf iwX6_sackOf mlL_15 (k_rm_of (by decide) (by decide)) (c2 Γ M32 7 0 (e_sea Γ (M32 7 0))) (v_7 (by decide)) rfl rfl rfl (Nat.le_of_ble_eq_true rfl) dL_money_110 (pc' := 113) rfl (fun r34 M35 => ?_)
            refine k_iload C 3 dL_money_113 rfl (pc' := 115) rfl ?_
            refine k_iload C 1 dL_money_115 rfl (pc' := 117) rfl ?_
            refine k_isub C dL_money_117 (pc' := 118) rfl ?_
            refine k_ic_ne C (tgt := 137) dL_money_118 (by decide) (pc' := 121) rfl (fun h36 => ?_) (fun h36 => ?_)
            · refine k_iconst C (v := 0) dL_money_137 (by decide) (pc' := 138) rfl ?_
              exact k_retz C rfl hr (Or.inl rfl) dL_money_138
            · refine k_aload_n C 6 dL_money_121 rfl rfl (pc' := 122) rfl ?_
              refine k_iload_n C 7 dL_money_122 rfl rfl (pc' := 123) rfl ?_
              refine k_bipush C (v := 8) dL_money_123 (by decide) (pc' := 125) rfl ?_
              refine k_callVi C (rest := []) (qX6_sackOf l Γ hL M35 a1 8) mwX6_sackOf iwX6_sackOf mlL_15 (k_rm_of (by decide) (by decide)) (c2 Γ M35 7 0 (e_sea Γ (M35 7 0))) (v_7 (by decide)) rfl rfl rfl (Nat.le_of_ble_eq_true rfl) dL_money_125 (pc' := 128) rfl (fun r37 M38 => ?_)
              refine k_iload C 1 dL_money_128 rfl (pc' := 130) rfl ?_
              refine k_ic_ne C (tgt := 137) dL_money_130 (by decide) (pc' := 133) rfl (fun h39 => ?_) (fun h39 => ?_)
              · refine k_iconst C (v := 0) dL_money_137 (by decide) (pc' := 138) rfl ?_
                exact k_retz C rfl hr (Or.inl rfl) dL_money_138
              · refine k_iconst C (v := 1) dL_money_133 (by decide) (pc' := 134) rfl ?_
                refine k_goto C (pc' := 138) dL_money_134 (by decide) ?_
                exact k_retz C rfl hr (Or.inr rfl) dL_money_138
    · refine k_aload_n C 6 dL_money_64 rfl rfl (pc' := 65) rfl ?_
      refine k_iload_n C 5 dL_money_65 rfl rfl (pc' := 66) rfl ?_
      refine k_iconst C (v := 0) dL_money_66 (by decide) (pc' := 67) rfl ?_
      refine k_callVi C (rest := []) (qX6_farmerOf l Γ hL M27 r1 0) mwX6_farmerOf iwX6_farmerOf mlL_26 (k_rm_of (by decide) (by decide)) (c2 Γ M27 7 0 (e_sea Γ (M27 7 0))) (v_7 (by decide)) rfl rfl rfl (Nat.le_of_ble_eq_true rfl) dL_money_67 (pc' := 70) rfl (fun r40 M41 => ?_)
      refine k_iload C 4 dL_money_70 rfl (pc' := 72) rfl ?_
      refine k_ic_ne C (tgt := 79) dL_money_72 (by decide) (pc' := 75) rfl (fun h42 => ?_) (fun h42 => ?_)
      · refine k_iconst C (v := 0) dL_money_79 (by decide) (pc' := 80) rfl ?_
        refine k_goto C (pc' := 138) dL_money_80 (by decide) ?_
        exact k_retz C rfl hr (Or.inl rfl) dL_money_138
      · refine k_iconst C (v := 1) dL_money_75 (by decide) (pc' := 76) rfl ?_
        refine k_goto C (pc' := 138) dL_money_76 (by decide) ?_
        exact k_retz C rfl hr (Or.inr rfl) dL_money_138
