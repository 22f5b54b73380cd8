def fL_law_b238 (sl : Nat) (sx : Nat → Int32) : Nat → kM2 → Int32 → Int32 → Option (Int32 × kM2)
  | 0, _, _, _ => none
  | n + 1, M0, b2, b3 =>
  if 28 ≤ b3 then fL_law_b749 sl sx M0 b2 else if b2 = 0 then fL_law_b749 sl sx M0 b2 else bd (fL_cell M0 sl sx (11 + b3)) fun r48 M49 => k_let (r48 / 8) fun v50 => bd (fX6_count M49 2) fun r51 M52 => if ¬ r51 = 0 then k_let (irm v50 r51) fun v53 => bd (fX6_count M52 7) fun r54 M55 => if (irm r48 8) = 0 then k_let (irm v50 40) fun v57 => bd (fX6_set M55 3 v57) fun r58 M59 => if r58 < 0 then fL_law_b377 sl sx (fL_law_b238 sl sx n) M59 b3 else bd (fX6_count M59 23) fun r66 M67 => if r66 = v57 then bd (fX6_set M67 5 (irm (v50 / 64) 200)) fun r69 M70 => if r69 < 0 then fL_law_b377 sl sx (fL_law_b238 sl sx n) M70 b3 else fL_law_b378 sl sx (fL_law_b238 sl sx n) M70 b3 1 else fL_law_b377 sl sx (fL_law_b238 sl sx n) M67 b3 else if (irm r48 8) = 1 then bd (fX6_gate M55 (irm v50 4)) fun r73 M74 => if r73 < 0 then fL_law_b436 sl sx (fL_law_b238 sl sx n) M74 b3 else bd (fX6_lock M74 (irm (v50 / 4) 2)) fun r76 M77 => if r76 < 0 then fL_law_b436 sl sx (fL_law_b238 sl sx n) M77 b3 else bd (fX6_pond M77 4) fun r79 M80 => if r79 = (irm v50 4) then bd (fX6_pond M80 5) fun r82 M83 => if r82 = (irm (v50 / 4) 2) then fL_law_b437 sl sx (fL_law_b238 sl sx n) M83 b3 1 else fL_law_b436 sl sx (fL_law_b238 sl sx n) M83 b3 else fL_law_b436 sl sx (fL_law_b238 sl sx n) M80 b3 else if (irm r48 8) = 2 then bd (fX6_sackOf M55 v53 3) fun r86 M87 => bd (fX6_withdraw M87 v53) fun r88 M89 => if r86 = 0 then bd (fX6_sackOf M89 v53 2) fun r92 M93 => if r88 = r92 then bd (fX6_sackOf M93 v53 10) fun r95 M96 => if r95 = r88 then fL_law_b508 sl sx (fL_law_b238 sl sx n) M96 b3 1 else fL_law_b492 sl sx (fL_law_b238 sl sx n) M96 b3 else fL_law_b492 sl sx (fL_law_b238 sl sx n) M93 b3 else if r88 = (-1000002) then fL_law_b508 sl sx (fL_law_b238 sl sx n) M89 b3 1 else fL_law_b508 sl sx (fL_law_b238 sl sx n) M89 b3 0 else if (irm r48 8) = 3 then bd (fX6_sackOf M55 v53 5) fun r99 M100 => bd (fX6_fetch M100 v53) fun r101 M102 => if r101 = (-1000002) then fL_law_b564 sl sx (fL_law_b238 sl sx n) M102 b3 else if r101 = r99 then bd (fX6_sackOf M102 v53 3) fun r105 M106 => if r105 = 3 then bd (fX6_sackOf M106 v53 5) fun r108 M109 => if r108 = 0 then fL_law_b564 sl sx (fL_law_b238 sl sx n) M109 b3 else fL_law_b568 sl sx (fL_law_b238 sl sx n) M109 b3 else fL_law_b568 sl sx (fL_law_b238 sl sx n) M106 b3 else fL_law_b568 sl sx (fL_law_b238 sl sx n) M102 b3 else if (irm r48 8) = 4 then bd (fX6_bring M55 (irm v50 3) (irm (v50 / 4) 3) (1 + (irm (v50 / 16) 40))) fun r112 M113 => if r112 = (-1000003) then bd (fX6_count M113 2) fun r121 M122 => if r121 = 24 then fL_law_b661 sl sx (fL_law_b238 sl sx n) M122 b3 1 else fL_law_b661 sl sx (fL_law_b238 sl sx n) M122 b3 0 else bd (fX6_count M113 2) fun r115 M116 => if r112 = (r115 - 1) then bd (fX6_sackOf M116 r112 4) fun r118 M119 => if r118 = (1 + (irm (v50 / 16) 40)) then fL_law_b661 sl sx (fL_law_b238 sl sx n) M119 b3 1 else fL_law_b660 sl sx (fL_law_b238 sl sx n) M119 b3 else fL_law_b660 sl sx (fL_law_b238 sl sx n) M116 b3 else if (irm r48 8) = 5 then bd (fL_money M55 v53 (v50 / 32)) fun r125 M126 => fL_law_b726 sl sx (fL_law_b238 sl sx n) M126 r125 b3 else k_let (1 + (irm v50 120)) fun v127 => bd (fX6_pass M55 v127) fun r128 M129 => if r128 = (r54 + v127) then bd (fX6_count M129 8) fun r131 M132 => if r131 = ((r54 + v127) / 96) then fL_law_b725 sl sx (fL_law_b238 sl sx n) M132 b3 1 else fL_law_b724 sl sx (fL_law_b238 sl sx n) M132 b3 else fL_law_b724 sl sx (fL_law_b238 sl sx n) M129 b3 else none
set_option maxRecDepth 100000 in
set_option maxHeartbeats 4000000 in
theorem sL_law_b238 {l : Launch} {Γ : kG} (hL : k_Lay Γ 314) {p : Program} {e : Env} {R : Room} {s : State} {mid : MethodId} {args : Array Value} {below : List Frame} {meth : Method} {c : Code} (C : k_C Γ p R s mid args meth c cL_law 15 RL room_1) (hr : meth.sig.returnType = (some .boolean)) (hA : args = #[Value.ref (sB Γ)] ∧ ∀ q, Γ.2.2.2.1 q → s.heap.size ≤ q) (sl : Nat) (sx : Nat → Int32) (hsl : sl = sL Γ) (hsx : sx = sX Γ)  (n : Nat) : ∀ (M0 : kM2) (b2 : Int32) (b3 : Int32), Sm Γ (K2 Γ) p l e R s mid args below meth c 15 (jL below args s) M0 [(0, .ref (sB Γ)), (1, .ref (Γ.1 7 0)), (2, .int b2), (3, .int b3)] [] 238 (fL_law_b238 sl sx n M0 b2 b3) := by
  induction n with
  | zero => intros; exact k_none
  | succ n ih =>
    intro M0 b2 b3
    unfold fL_law_b238
    refine k_iload_n C 3 dL_law_238 rfl rfl (pc' := 239) rfl ?_
    refine k_bipush C (v := 28) dL_law_239 (by decide) (pc' := 241) rfl ?_
    refine k_ic_ge C (tgt := 749) dL_law_241 (by decide) (pc' := 244) rfl (fun h7 => ?_) (fun h7 => ?_)
    · refine k_sub [1, 2] rfl ?_
      exact sL_law_b749 hL C hr hA sl sx hsl hsx M0 b2
    · refine k_iload_n C 2 dL_law_244 rfl rfl (pc' := 245) rfl ?_
      refine k_if_eq C (tgt := 749) dL_law_245 (by decide) (pc' := 248) rfl (fun h47 => ?_) (fun h47 => ?_)
      · refine k_sub [1, 2] rfl ?_
        exact sL_law_b749 hL C hr hA sl sx hsl hsx M0 b2
      · refine k_aload_n C 0 dL_law_248 rfl rfl (pc' := 249) rfl ?_
        refine k_bipush C (v := 11) dL_law_249 (by decide) (pc' := 251) rfl ?_
        refine k_iload_n C 3 dL_law_251 rfl rfl (pc' := 252) rfl ?_
        refine k_iadd C dL_law_252 (pc' := 253) rfl ?_
        refine k_callSi C (rest := []) (qL_cell l Γ hL M0 sl sx (11 + b3) hsl hsx) mwL_cell swL_cell mlL_69 ⟨rfl, rfl, by decide, by decide⟩ rfl rfl (Nat.le_of_ble_eq_true rfl) dL_law_253 (pc' := 256) rfl (fun r48 M49 => ?_)
        refine k_istore C (lv' := [(4, .int r48), (0, .ref (sB Γ)), (1, .ref (Γ.1 7 0)), (2, .int b2), (3, .int b3)]) dL_law_256 (by decide) rfl (pc' := 258) rfl ?_
        refine k_iload C 0 dL_law_258 rfl (pc' := 260) rfl ?_
        refine k_bipush C (v := 8) dL_law_260 (by decide) (pc' := 262) rfl ?_
        refine k_idivK C dL_law_262 (by decide) (pc' := 263) rfl ?_
        refine k_topi (fun v50 => ?_)
        refine k_istore C (lv' := [(5, .int v50), (4, .int r48), (0, .ref (sB Γ)), (1, .ref (Γ.1 7 0)), (2, .int b2), (3, .int b3)]) dL_law_263 (by decide) rfl (pc' := 265) rfl ?_
        refine k_iload C 0 dL_law_265 rfl (pc' := 267) rfl ?_
        refine k_aload_n C 3 dL_law_267 rfl rfl (pc' := 268) rfl ?_
        refine k_iconst C (v := 2) dL_law_268 (by decide) (pc' := 269) rfl ?_
        refine k_callVi C (rest := [.int v50]) (qX6_count l Γ hL M49 2) mwX6_count iwX6_count mlL_9 ⟨rfl, rfl, by decide, by decide⟩ (c2 Γ M49 7 0 (e_sea Γ (M49 7 0))) (v_7 (by decide)) rfl rfl rfl (Nat.le_of_ble_eq_true rfl) dL_law_269 (pc' := 272) rfl (fun r51 M52 => ?_)
        refine k_irem C dL_law_272 (pc' := 273) rfl ?_
        refine k_topi (fun v53 => ?_)
        refine k_istore C (lv' := [(6, .int v53), (5, .int v50), (4, .int r48), (0, .ref (sB Γ)), (1, .ref (Γ.1 7 0)), (2, .int b2), (3, .int b3)]) dL_law_273 (by decide) rfl (pc' := 275) rfl ?_
        refine k_aload_n C 4 dL_law_275 rfl rfl (pc' := 276) rfl ?_
        refine k_bipush C (v := 7) dL_law_276 (by decide) (pc' := 278) rfl ?_
        refine k_callVi C (rest := []) (qX6_count l Γ hL M52 7) mwX6_count iwX6_count mlL_9 ⟨rfl, rfl, by decide, by decide⟩ (c2 Γ M52 7 0 (e_sea Γ (M52 7 0))) (v_7 (by decide)) rfl rfl rfl (Nat.le_of_ble_eq_true rfl) dL_law_278 (pc' := 281) rfl (fun r54 M55 => ?_)
        refine k_istore C (lv' := [(7, .int r54), (6, .int v53), (5, .int v50), (4, .int r48), (0, .ref (sB Γ)), (1, .ref (Γ.1 7 0)), (2, .int b2), (3, .int b3)]) dL_law_281 (by decide) rfl (pc' := 283) rfl ?_
        refine k_iload C 3 dL_law_283 rfl (pc' := 285) rfl ?_
        refine k_bipush C (v := 8) dL_law_285 (by decide) (pc' := 287) rfl ?_
        refine k_iremK C dL_law_287 (by decide) (pc' := 288) rfl ?_
        refine k_ite (fun h56 => ?_) (fun h56 => ?_)
        · refine k_tswIn C (40) dL_law_288 h56 (by decide) (by decide) rfl (pc' := 328) (by decide) ?_
          refine k_iload C 2 dL_law_328 rfl (pc' := 330) rfl ?_
          refine k_bipush C (v := 40) dL_law_330 (by decide) (pc' := 332) rfl ?_
          refine k_iremK C dL_law_332 (by decide) (pc' := 333) rfl ?_
          refine k_topi (fun v57 => ?_)
          refine k_istore C (lv' := [(8, .int v57), (7, .int r54), (6, .int v53), (5, .int v50), (4, .int r48), (0, .ref (sB Γ)), (1, .ref (Γ.1 7 0)), (2, .int b2), (3, .int b3)]) dL_law_333 (by decide) rfl (pc' := 335) rfl ?_
          refine k_aload_n C 6 dL_law_335 rfl rfl (pc' := 336) rfl ?_
          refine k_iconst C (v := 3) dL_law_336 (by decide) (pc' := 337) rfl ?_
          refine k_iload C 0 dL_law_337 rfl (pc' := 339) rfl ?_
          refine k_callVi C (rest := []) (qX6_set l Γ hL M55 3 v57) mwX6_set iwX6_set mlL_85 ⟨rfl, rfl, by decide, by decide⟩ (c2 Γ M55 7 0 (e_sea Γ (M55 7 0))) (v_7 (by decide)) rfl rfl rfl (Nat.le_of_ble_eq_true rfl) dL_law_339 (pc' := 342) rfl (fun r58 M59 => ?_)
          refine k_if_lt C (tgt := 377) dL_law_342 (by decide) (pc' := 345) rfl (fun h60 => ?_) (fun h60 => ?_)
          · refine k_sub [5, 6, 8] rfl ?_
            exact sL_law_b377 hL C hr hA sl sx hsl hsx (fL_law_b238 sl sx n) ih M59 b3
          · refine k_aload_n C 6 dL_law_345 rfl rfl (pc' := 346) rfl ?_
            refine k_bipush C (v := 23) dL_law_346 (by decide) (pc' := 348) rfl ?_
            refine k_callVi C (rest := []) (qX6_count l Γ hL M59 23) mwX6_count iwX6_count mlL_9 ⟨rfl, rfl, by decide, by decide⟩ (c2 Γ M59 7 0 (e_sea Γ (M59 7 0))) (v_7 (by decide)) rfl rfl rfl (Nat.le_of_ble_eq_true rfl) dL_law_348 (pc' := 351) rfl (fun r66 M67 => ?_)
            refine k_iload C 0 dL_law_351 rfl (pc' := 353) rfl ?_
            refine k_ic_ne C (tgt := 377) dL_law_353 (by decide) (pc' := 356) rfl (fun h68 => ?_) (fun h68 => ?_)
            · refine k_sub [5, 6, 8] rfl ?_
              exact sL_law_b377 hL C hr hA sl sx hsl hsx (fL_law_b238 sl sx n) ih M67 b3
            · refine k_aload_n C 6 dL_law_356 rfl rfl (pc' := 357) rfl ?_
              refine k_iconst C (v := 5) dL_law_357 (by decide) (pc' := 358) rfl ?_
              refine k_iload C 3 dL_law_358 rfl (pc' := 360) rfl ?_
              refine k_bipush C (v := 64) dL_law_360 (by decide) (pc' := 362) rfl ?_
              refine k_idivK C dL_law_362 (by decide) (pc' := 363) rfl ?_
              refine k_sipush C (v := 200) dL_law_363 (by decide) (pc' := 366) rfl ?_
              refine k_iremK C dL_law_366 (by decide) (pc' := 367) rfl ?_
              refine k_callVi C (rest := []) (qX6_set l Γ hL M67 5 (irm (v50 / 64) 200)) mwX6_set iwX6_set mlL_85 ⟨rfl, rfl, by decide, by decide⟩ (c2 Γ M67 7 0 (e_sea Γ (M67 7 0))) (v_7 (by decide)) rfl rfl rfl (Nat.le_of_ble_eq_true rfl) dL_law_367 (pc' := 370) rfl (fun r69 M70 => ?_)
              refine k_if_lt C (tgt := 377) dL_law_370 (by decide) (pc' := 373) rfl (fun h71 => ?_) (fun h71 => ?_)
              · refine k_sub [5, 6, 8] rfl ?_
                exact sL_law_b377 hL C hr hA sl sx hsl hsx (fL_law_b238 sl sx n) ih M70 b3
              · refine k_iconst C (v := 1) dL_law_373 (by decide) (pc' := 374) rfl ?_
                refine k_goto C (pc' := 378) dL_law_374 (by decide) ?_
                refine k_sub [5, 6, 8] rfl ?_
                exact sL_law_b378 hL C hr hA sl sx hsl hsx (fL_law_b238 sl sx n) ih M70 b3 1
        refine k_ite (fun h72 => ?_) (fun h72 => ?_)
        · refine k_tswIn C (94) dL_law_288 h72 (by decide) (by decide) rfl (pc' := 382) (by decide) ?_
          refine k_aload_n C 5 dL_law_382 rfl rfl (pc' := 383) rfl ?_
          refine k_iload C 2 dL_law_383 rfl (pc' := 385) rfl ?_
          refine k_iconst C (v := 4) dL_law_385 (by decide) (pc' := 386) rfl ?_
          refine k_iremK C dL_law_386 (by decide) (pc' := 387) rfl ?_
          refine k_callVi C (rest := []) (qX6_gate l Γ hL M55 (irm v50 4)) mwX6_gate iwX6_gate mlL_82 ⟨rfl, rfl, by decide, by decide⟩ (c2 Γ M55 7 0 (e_sea Γ (M55 7 0))) (v_7 (by decide)) rfl rfl rfl (Nat.le_of_ble_eq_true rfl) dL_law_387 (pc' := 390) rfl (fun r73 M74 => ?_)
          refine k_if_lt C (tgt := 436) dL_law_390 (by decide) (pc' := 393) rfl (fun h75 => ?_) (fun h75 => ?_)
          · refine k_sub [4, 5, 7] rfl ?_
            exact sL_law_b436 hL C hr hA sl sx hsl hsx (fL_law_b238 sl sx n) ih M74 b3
          · refine k_aload_n C 5 dL_law_393 rfl rfl (pc' := 394) rfl ?_
            refine k_iload C 2 dL_law_394 rfl (pc' := 396) rfl ?_
            refine k_iconst C (v := 4) dL_law_396 (by decide) (pc' := 397) rfl ?_
            refine k_idivK C dL_law_397 (by decide) (pc' := 398) rfl ?_
            refine k_iconst C (v := 2) dL_law_398 (by decide) (pc' := 399) rfl ?_
            refine k_iremK C dL_law_399 (by decide) (pc' := 400) rfl ?_
            refine k_callVi C (rest := []) (qX6_lock l Γ hL M74 (irm (v50 / 4) 2)) mwX6_lock iwX6_lock mlL_88 ⟨rfl, rfl, by decide, by decide⟩ (c2 Γ M74 7 0 (e_sea Γ (M74 7 0))) (v_7 (by decide)) rfl rfl rfl (Nat.le_of_ble_eq_true rfl) dL_law_400 (pc' := 403) rfl (fun r76 M77 => ?_)
            refine k_if_lt C (tgt := 436) dL_law_403 (by decide) (pc' := 406) rfl (fun h78 => ?_) (fun h78 => ?_)
            · refine k_sub [4, 5, 7] rfl ?_
              exact sL_law_b436 hL C hr hA sl sx hsl hsx (fL_law_b238 sl sx n) ih M77 b3
            · refine k_aload_n C 5 dL_law_406 rfl rfl (pc' := 407) rfl ?_
              refine k_iconst C (v := 4) dL_law_407 (by decide) (pc' := 408) rfl ?_
              refine k_callVi C (rest := []) (qX6_pond l Γ hL M77 4) mwX6_pond iwX6_pond mlL_29 ⟨rfl, rfl, by decide, by decide⟩ (c2 Γ M77 7 0 (e_sea Γ (M77 7 0))) (v_7 (by decide)) rfl rfl rfl (Nat.le_of_ble_eq_true rfl) dL_law_408 (pc' := 411) rfl (fun r79 M80 => ?_)
              refine k_iload C 2 dL_law_411 rfl (pc' := 413) rfl ?_
              refine k_iconst C (v := 4) dL_law_413 (by decide) (pc' := 414) rfl ?_
              refine k_iremK C dL_law_414 (by decide) (pc' := 415) rfl ?_
              refine k_ic_ne C (tgt := 436) dL_law_415 (by decide) (pc' := 418) rfl (fun h81 => ?_) (fun h81 => ?_)
              · refine k_sub [4, 5, 7] rfl ?_
                exact sL_law_b436 hL C hr hA sl sx hsl hsx (fL_law_b238 sl sx n) ih M80 b3
              · refine k_aload_n C 5 dL_law_418 rfl rfl (pc' := 419) rfl ?_
                refine k_iconst C (v := 5) dL_law_419 (by decide) (pc' := 420) rfl ?_
                refine k_callVi C (rest := []) (qX6_pond l Γ hL M80 5) mwX6_pond iwX6_pond mlL_29 ⟨rfl, rfl, by decide, by decide⟩ (c2 Γ M80 7 0 (e_sea Γ (M80 7 0))) (v_7 (by decide)) rfl rfl rfl (Nat.le_of_ble_eq_true rfl) dL_law_420 (pc' := 423) rfl (fun r82 M83 => ?_)
                refine k_iload C 2 dL_law_423 rfl (pc' := 425) rfl ?_
                refine k_iconst C (v := 4) dL_law_425 (by decide) (pc' := 426) rfl ?_
                refine k_idivK C dL_law_426 (by decide) (pc' := 427) rfl ?_
                refine k_iconst C (v := 2) dL_law_427 (by decide) (pc' := 428) rfl ?_
                refine k_iremK C dL_law_428 (by decide) (pc' := 429) rfl ?_
                refine k_ic_ne C (tgt := 436) dL_law_429 (by decide) (pc' := 432) rfl (fun h84 => ?_) (fun h84 => ?_)
                · refine k_sub [4, 5, 7] rfl ?_
                  exact sL_law_b436 hL C hr hA sl sx hsl hsx (fL_law_b238 sl sx n) ih M83 b3
                · refine k_iconst C (v := 1) dL_law_432 (by decide) (pc' := 433) rfl ?_
                  refine k_goto C (pc' := 437) dL_law_433 (by decide) ?_
                  refine k_sub [4, 5, 7] rfl ?_
                  exact sL_law_b437 hL C hr hA sl sx hsl hsx (fL_law_b238 sl sx n) ih M83 b3 1
        refine k_ite (fun h85 => ?_) (fun h85 => ?_)
        · refine k_tswIn C (153) dL_law_288 h85 (by decide) (by decide) rfl (pc' := 441) (by decide) ?_
          refine k_aload_n C 5 dL_law_441 rfl rfl (pc' := 442) rfl ?_
          refine k_iload C 1 dL_law_442 rfl (pc' := 444) rfl ?_
          refine k_iconst C (v := 3) dL_law_444 (by decide) (pc' := 445) rfl ?_
          refine k_callVi C (rest := []) (qX6_sackOf l Γ hL M55 v53 3) mwX6_sackOf iwX6_sackOf mlL_15 ⟨rfl, rfl, by decide, by decide⟩ (c2 Γ M55 7 0 (e_sea Γ (M55 7 0))) (v_7 (by decide)) rfl rfl rfl (Nat.le_of_ble_eq_true rfl) dL_law_445 (pc' := 448) rfl (fun r86 M87 => ?_)
          refine k_istore C (lv' := [(9, .int r86), (7, .int r54), (6, .int v53), (5, .int v50), (4, .int r48), (0, .ref (sB Γ)), (1, .ref (Γ.1 7 0)), (2, .int b2), (3, .int b3)]) dL_law_448 (by decide) rfl (pc' := 450) rfl ?_
          refine k_aload_n C 6 dL_law_450 rfl rfl (pc' := 451) rfl ?_
          refine k_iload C 2 dL_law_451 rfl (pc' := 453) rfl ?_
          refine k_callVi C (rest := []) (qX6_withdraw l Γ hL M87 v53) mwX6_withdraw iwX6_withdraw mlL_91 ⟨rfl, rfl, by decide, by decide⟩ (c2 Γ M87 7 0 (e_sea Γ (M87 7 0))) (v_7 (by decide)) rfl rfl rfl (Nat.le_of_ble_eq_true rfl) dL_law_453 (pc' := 456) rfl (fun r88 M89 => ?_)
          refine k_istore C (lv' := [(10, .int r88), (9, .int r86), (7, .int r54), (6, .int v53), (5, .int v50), (4, .int r48), (0, .ref (sB Γ)), (1, .ref (Γ.1 7 0)), (2, .int b2), (3, .int b3)]) dL_law_456 (by decide) rfl (pc' := 458) rfl ?_
          refine k_iload C 1 dL_law_458 rfl (pc' := 460) rfl ?_
          refine k_if_ne C (tgt := 496) dL_law_460 (by decide) (pc' := 463) rfl (fun h90 => ?_) (fun h90 => ?_)
          · refine k_iload C 0 dL_law_496 rfl (pc' := 498) rfl ?_
            refine k_ldc C (v := (-1000002)) dL_law_498 cnL_57 (pc' := 500) rfl ?_
            refine k_ic_ne C (tgt := 507) dL_law_500 (by decide) (pc' := 503) rfl (fun h91 => ?_) (fun h91 => ?_)
            · refine k_iconst C (v := 0) dL_law_507 (by decide) (pc' := 508) rfl ?_
              refine k_sub [6, 7, 9] rfl ?_
              exact sL_law_b508 hL C hr hA sl sx hsl hsx (fL_law_b238 sl sx n) ih M89 b3 0
            · refine k_iconst C (v := 1) dL_law_503 (by decide) (pc' := 504) rfl ?_
              refine k_goto C (pc' := 508) dL_law_504 (by decide) ?_
              refine k_sub [6, 7, 9] rfl ?_
              exact sL_law_b508 hL C hr hA sl sx hsl hsx (fL_law_b238 sl sx n) ih M89 b3 1
          · refine k_iload C 0 dL_law_463 rfl (pc' := 465) rfl ?_
            refine k_aload_n C 7 dL_law_465 rfl rfl (pc' := 466) rfl ?_
            refine k_iload C 3 dL_law_466 rfl (pc' := 468) rfl ?_
            refine k_iconst C (v := 2) dL_law_468 (by decide) (pc' := 469) rfl ?_
            refine k_callVi C (rest := [.int r88]) (qX6_sackOf l Γ hL M89 v53 2) mwX6_sackOf iwX6_sackOf mlL_15 ⟨rfl, rfl, by decide, by decide⟩ (c2 Γ M89 7 0 (e_sea Γ (M89 7 0))) (v_7 (by decide)) rfl rfl rfl (Nat.le_of_ble_eq_true rfl) dL_law_469 (pc' := 472) rfl (fun r92 M93 => ?_)
            refine k_ic_ne C (tgt := 492) dL_law_472 (by decide) (pc' := 475) rfl (fun h94 => ?_) (fun h94 => ?_)
            · refine k_sub [6, 7, 9] rfl ?_
              exact sL_law_b492 hL C hr hA sl sx hsl hsx (fL_law_b238 sl sx n) ih M93 b3
            · refine k_aload_n C 7 dL_law_475 rfl rfl (pc' := 476) rfl ?_
              refine k_iload C 3 dL_law_476 rfl (pc' := 478) rfl ?_
              refine k_bipush C (v := 10) dL_law_478 (by decide) (pc' := 480) rfl ?_
              refine k_callVi C (rest := []) (qX6_sackOf l Γ hL M93 v53 10) mwX6_sackOf iwX6_sackOf mlL_15 ⟨rfl, rfl, by decide, by decide⟩ (c2 Γ M93 7 0 (e_sea Γ (M93 7 0))) (v_7 (by decide)) rfl rfl rfl (Nat.le_of_ble_eq_true rfl) dL_law_480 (pc' := 483) rfl (fun r95 M96 => ?_)
              refine k_iload C 0 dL_law_483 rfl (pc' := 485) rfl ?_
              refine k_ic_ne C (tgt := 492) dL_law_485 (by decide) (pc' := 488) rfl (fun h97 => ?_) (fun h97 => ?_)
              · refine k_sub [6, 7, 9] rfl ?_
                exact sL_law_b492 hL C hr hA sl sx hsl hsx (fL_law_b238 sl sx n) ih M96 b3
              · refine k_iconst C (v := 1) dL_law_488 (by decide) (pc' := 489) rfl ?_
                refine k_goto C (pc' := 508) dL_law_489 (by decide) ?_
                refine k_sub [6, 7, 9] rfl ?_
                exact sL_law_b508 hL C hr hA sl sx hsl hsx (fL_law_b238 sl sx n) ih M96 b3 1
        refine k_ite (fun h98 => ?_) (fun h98 => ?_)
        · refine k_tswIn C (224) dL_law_288 h98 (by decide) (by decide) rfl (pc' := 512) (by decide) ?_
          refine k_aload_n C 5 dL_law_512 rfl rfl (pc' := 513) rfl ?_
          refine k_iload C 1 dL_law_513 rfl (pc' := 515) rfl ?_
          refine k_iconst C (v := 5) dL_law_515 (by decide) (pc' := 516) rfl ?_
          refine k_callVi C (rest := []) (qX6_sackOf l Γ hL M55 v53 5) mwX6_sackOf iwX6_sackOf mlL_15 ⟨rfl, rfl, by decide, by decide⟩ (c2 Γ M55 7 0 (e_sea Γ (M55 7 0))) (v_7 (by decide)) rfl rfl rfl (Nat.le_of_ble_eq_true rfl) dL_law_516 (pc' := 519) rfl (fun r99 M100 => ?_)
          refine k_istore C (lv' := [(11, .int r99), (7, .int r54), (6, .int v53), (5, .int v50), (4, .int r48), (0, .ref (sB Γ)), (1, .ref (Γ.1 7 0)), (2, .int b2), (3, .int b3)]) dL_law_519 (by decide) rfl (pc' := 521) rfl ?_
          refine k_aload_n C 6 dL_law_521 rfl rfl (pc' := 522) rfl ?_
          refine k_iload C 2 dL_law_522 rfl (pc' := 524) rfl ?_
          refine k_callVi C (rest := []) (qX6_fetch l Γ hL M100 v53) mwX6_fetch iwX6_fetch mlL_94 ⟨rfl, rfl, by decide, by decide⟩ (c2 Γ M100 7 0 (e_sea Γ (M100 7 0))) (v_7 (by decide)) rfl rfl rfl (Nat.le_of_ble_eq_true rfl) dL_law_524 (pc' := 527) rfl (fun r101 M102 => ?_)
          refine k_istore C (lv' := [(12, .int r101), (11, .int r99), (7, .int r54), (6, .int v53), (5, .int v50), (4, .int r48), (0, .ref (sB Γ)), (1, .ref (Γ.1 7 0)), (2, .int b2), (3, .int b3)]) dL_law_527 (by decide) rfl (pc' := 529) rfl ?_
          refine k_iload C 0 dL_law_529 rfl (pc' := 531) rfl ?_
          refine k_ldc C (v := (-1000002)) dL_law_531 cnL_57 (pc' := 533) rfl ?_
          refine k_ic_eq C (tgt := 564) dL_law_533 (by decide) (pc' := 536) rfl (fun h103 => ?_) (fun h103 => ?_)
          · refine k_sub [6, 7, 9] rfl ?_
            exact sL_law_b564 hL C hr hA sl sx hsl hsx (fL_law_b238 sl sx n) ih M102 b3
          · refine k_iload C 0 dL_law_536 rfl (pc' := 538) rfl ?_
            refine k_iload C 1 dL_law_538 rfl (pc' := 540) rfl ?_
            refine k_ic_ne C (tgt := 568) dL_law_540 (by decide) (pc' := 543) rfl (fun h104 => ?_) (fun h104 => ?_)
            · refine k_sub [6, 7, 9] rfl ?_
              exact sL_law_b568 hL C hr hA sl sx hsl hsx (fL_law_b238 sl sx n) ih M102 b3
            · refine k_aload_n C 7 dL_law_543 rfl rfl (pc' := 544) rfl ?_
              refine k_iload C 3 dL_law_544 rfl (pc' := 546) rfl ?_
              refine k_iconst C (v := 3) dL_law_546 (by decide) (pc' := 547) rfl ?_
              refine k_callVi C (rest := []) (qX6_sackOf l Γ hL M102 v53 3) mwX6_sackOf iwX6_sackOf mlL_15 ⟨rfl, rfl, by decide, by decide⟩ (c2 Γ M102 7 0 (e_sea Γ (M102 7 0))) (v_7 (by decide)) rfl rfl rfl (Nat.le_of_ble_eq_true rfl) dL_law_547 (pc' := 550) rfl (fun r105 M106 => ?_)
              refine k_iconst C (v := 3) dL_law_550 (by decide) (pc' := 551) rfl ?_
              refine k_ic_ne C (tgt := 568) dL_law_551 (by decide) (pc' := 554) rfl (fun h107 => ?_) (fun h107 => ?_)
              · refine k_sub [6, 7, 9] rfl ?_
                exact sL_law_b568 hL C hr hA sl sx hsl hsx (fL_law_b238 sl sx n) ih M106 b3
              · refine k_aload_n C 7 dL_law_554 rfl rfl (pc' := 555) rfl ?_
                refine k_iload C 3 dL_law_555 rfl (pc' := 557) rfl ?_
                refine k_iconst C (v := 5) dL_law_557 (by decide) (pc' := 558) rfl ?_
                refine k_callVi C (rest := []) (qX6_sackOf l Γ hL M106 v53 5) mwX6_sackOf iwX6_sackOf mlL_15 ⟨rfl, rfl, by decide, by decide⟩ (c2 Γ M106 7 0 (e_sea Γ (M106 7 0))) (v_7 (by decide)) rfl rfl rfl (Nat.le_of_ble_eq_true rfl) dL_law_558 (pc' := 561) rfl (fun r108 M109 => ?_)
                refine k_if_ne C (tgt := 568) dL_law_561 (by decide) (pc' := 564) rfl (fun h110 => ?_) (fun h110 => ?_)
                · refine k_sub [6, 7, 9] rfl ?_
                  exact sL_law_b568 hL C hr hA sl sx hsl hsx (fL_law_b238 sl sx n) ih M109 b3
                · refine k_sub [6, 7, 9] rfl ?_
                  exact sL_law_b564 hL C hr hA sl sx hsl hsx (fL_law_b238 sl sx n) ih M109 b3
        refine k_ite (fun h111 => ?_) (fun h111 => ?_)
        · refine k_tswIn C (285) dL_law_288 h111 (by decide) (by decide) rfl (pc' := 573) (by decide) ?_
          refine k_aload_n C 5 dL_law_573 rfl rfl (pc' := 574) rfl ?_
          refine k_iload C 2 dL_law_574 rfl (pc' := 576) rfl ?_
          refine k_iconst C (v := 3) dL_law_576 (by decide) (pc' := 577) rfl ?_
          refine k_iremK C dL_law_577 (by decide) (pc' := 578) rfl ?_
          refine k_iload C 2 dL_law_578 rfl (pc' := 580) rfl ?_
          refine k_iconst C (v := 4) dL_law_580 (by decide) (pc' := 581) rfl ?_
          refine k_idivK C dL_law_581 (by decide) (pc' := 582) rfl ?_
          refine k_iconst C (v := 3) dL_law_582 (by decide) (pc' := 583) rfl ?_
          refine k_iremK C dL_law_583 (by decide) (pc' := 584) rfl ?_
          refine k_iconst C (v := 1) dL_law_584 (by decide) (pc' := 585) rfl ?_
          refine k_iload C 2 dL_law_585 rfl (pc' := 587) rfl ?_
          refine k_bipush C (v := 16) dL_law_587 (by decide) (pc' := 589) rfl ?_
          refine k_idivK C dL_law_589 (by decide) (pc' := 590) rfl ?_
          refine k_bipush C (v := 40) dL_law_590 (by decide) (pc' := 592) rfl ?_
          refine k_iremK C dL_law_592 (by decide) (pc' := 593) rfl ?_
          refine k_iadd C dL_law_593 (pc' := 594) rfl ?_
          refine k_callVi C (rest := []) (qX6_bring l Γ hL M55 (irm v50 3) (irm (v50 / 4) 3) (1 + (irm (v50 / 16) 40))) mwX6_bring iwX6_bring mlL_79 ⟨rfl, rfl, by decide, by decide⟩ (c2 Γ M55 7 0 (e_sea Γ (M55 7 0))) (v_7 (by decide)) rfl rfl rfl (Nat.le_of_ble_eq_true rfl) dL_law_594 (pc' := 597) rfl (fun r112 M113 => ?_)
          refine k_istore C (lv' := [(13, .int r112), (7, .int r54), (6, .int v53), (5, .int v50), (4, .int r48), (0, .ref (sB Γ)), (1, .ref (Γ.1 7 0)), (2, .int b2), (3, .int b3)]) dL_law_597 (by decide) rfl (pc' := 599) rfl ?_
          refine k_iload C 0 dL_law_599 rfl (pc' := 601) rfl ?_
          refine k_ldc C (v := (-1000003)) dL_law_601 cnL_97 (pc' := 603) rfl ?_
          refine k_ic_ne C (tgt := 624) dL_law_603 (by decide) (pc' := 606) rfl (fun h114 => ?_) (fun h114 => ?_)
          · refine k_iload C 0 dL_law_624 rfl (pc' := 626) rfl ?_
            refine k_aload_n C 6 dL_law_626 rfl rfl (pc' := 627) rfl ?_
            refine k_iconst C (v := 2) dL_law_627 (by decide) (pc' := 628) rfl ?_
            refine k_callVi C (rest := [.int r112]) (qX6_count l Γ hL M113 2) mwX6_count iwX6_count mlL_9 ⟨rfl, rfl, by decide, by decide⟩ (c2 Γ M113 7 0 (e_sea Γ (M113 7 0))) (v_7 (by decide)) rfl rfl rfl (Nat.le_of_ble_eq_true rfl) dL_law_628 (pc' := 631) rfl (fun r115 M116 => ?_)
            refine k_iconst C (v := 1) dL_law_631 (by decide) (pc' := 632) rfl ?_
            refine k_isub C dL_law_632 (pc' := 633) rfl ?_
            refine k_ic_ne C (tgt := 660) dL_law_633 (by decide) (pc' := 636) rfl (fun h117 => ?_) (fun h117 => ?_)
            · refine k_sub [5, 6, 8] rfl ?_
              exact sL_law_b660 hL C hr hA sl sx hsl hsx (fL_law_b238 sl sx n) ih M116 b3
            · refine k_aload_n C 6 dL_law_636 rfl rfl (pc' := 637) rfl ?_
              refine k_iload C 0 dL_law_637 rfl (pc' := 639) rfl ?_
              refine k_iconst C (v := 4) dL_law_639 (by decide) (pc' := 640) rfl ?_
              refine k_callVi C (rest := []) (qX6_sackOf l Γ hL M116 r112 4) mwX6_sackOf iwX6_sackOf mlL_15 ⟨rfl, rfl, by decide, by decide⟩ (c2 Γ M116 7 0 (e_sea Γ (M116 7 0))) (v_7 (by decide)) rfl rfl rfl (Nat.le_of_ble_eq_true rfl) dL_law_640 (pc' := 643) rfl (fun r118 M119 => ?_)
              refine k_iconst C (v := 1) dL_law_643 (by decide) (pc' := 644) rfl ?_
              refine k_iload C 3 dL_law_644 rfl (pc' := 646) rfl ?_
              refine k_bipush C (v := 16) dL_law_646 (by decide) (pc' := 648) rfl ?_
              refine k_idivK C dL_law_648 (by decide) (pc' := 649) rfl ?_
              refine k_bipush C (v := 40) dL_law_649 (by decide) (pc' := 651) rfl ?_
              refine k_iremK C dL_law_651 (by decide) (pc' := 652) rfl ?_
              refine k_iadd C dL_law_652 (pc' := 653) rfl ?_
              refine k_ic_ne C (tgt := 660) dL_law_653 (by decide) (pc' := 656) rfl (fun h120 => ?_) (fun h120 => ?_)
              · refine k_sub [5, 6, 8] rfl ?_
                exact sL_law_b660 hL C hr hA sl sx hsl hsx (fL_law_b238 sl sx n) ih M119 b3
              · refine k_iconst C (v := 1) dL_law_656 (by decide) (pc' := 657) rfl ?_
                refine k_goto C (pc' := 661) dL_law_657 (by decide) ?_
                refine k_sub [5, 6, 8] rfl ?_
                exact sL_law_b661 hL C hr hA sl sx hsl hsx (fL_law_b238 sl sx n) ih M119 b3 1
          · refine k_aload_n C 6 dL_law_606 rfl rfl (pc' := 607) rfl ?_
            refine k_iconst C (v := 2) dL_law_607 (by decide) (pc' := 608) rfl ?_
            refine k_callVi C (rest := []) (qX6_count l Γ hL M113 2) mwX6_count iwX6_count mlL_9 ⟨rfl, rfl, by decide, by decide⟩ (c2 Γ M113 7 0 (e_sea Γ (M113 7 0))) (v_7 (by decide)) rfl rfl rfl (Nat.le_of_ble_eq_true rfl) dL_law_608 (pc' := 611) rfl (fun r121 M122 => ?_)
            refine k_bipush C (v := 24) dL_law_611 (by decide) (pc' := 613) rfl ?_
            refine k_ic_ne C (tgt := 620) dL_law_613 (by decide) (pc' := 616) rfl (fun h123 => ?_) (fun h123 => ?_)
            · refine k_iconst C (v := 0) dL_law_620 (by decide) (pc' := 621) rfl ?_
              refine k_goto C (pc' := 661) dL_law_621 (by decide) ?_
              refine k_sub [5, 6, 8] rfl ?_
              exact sL_law_b661 hL C hr hA sl sx hsl hsx (fL_law_b238 sl sx n) ih M122 b3 0
            · refine k_iconst C (v := 1) dL_law_616 (by decide) (pc' := 617) rfl ?_
              refine k_goto C (pc' := 661) dL_law_617 (by decide) ?_
              refine k_sub [5, 6, 8] rfl ?_
              exact sL_law_b661 hL C hr hA sl sx hsl hsx (fL_law_b238 sl sx n) ih M122 b3 1
        refine k_ite (fun h124 => ?_) (fun h124 => ?_)
        · refine k_tswIn C (377) dL_law_288 h124 (by decide) (by decide) rfl (pc' := 665) (by decide) ?_
          refine k_aload_n C 5 dL_law_665 rfl rfl (pc' := 666) rfl ?_
          refine k_iload C 1 dL_law_666 rfl (pc' := 668) rfl ?_
          refine k_iload C 2 dL_law_668 rfl (pc' := 670) rfl ?_
          refine k_bipush C (v := 32) dL_law_670 (by decide) (pc' := 672) rfl ?_
          refine k_idivK C dL_law_672 (by decide) (pc' := 673) rfl ?_
          refine k_callSi C (rest := []) (qL_money l Γ hL M55 v53 (v50 / 32)) mwL_money swL_money mlL_98 ⟨rfl, rfl, by decide, by decide⟩ rfl rfl (Nat.le_of_ble_eq_true rfl) dL_law_673 (pc' := 676) rfl (fun r125 M126 => ?_)
          refine k_istore_n C (lv' := [(2, .int r125), (7, .int r54), (6, .int v53), (5, .int v50), (4, .int r48), (0, .ref (sB Γ)), (1, .ref (Γ.1 7 0)), (3, .int b3)]) dL_law_676 rfl (by decide) rfl (pc' := 677) rfl ?_
          refine k_goto C (pc' := 726) dL_law_677 (by decide) ?_
          refine k_sub [5, 6, 0, 7] rfl ?_
          exact sL_law_b726 hL C hr hA sl sx hsl hsx (fL_law_b238 sl sx n) ih M126 r125 b3
        refine k_tswOut C dL_law_288 (by have z0 := lv_neT h56 (show (0 : Int32).toInt = 0 by decide); have z1 := lv_neT h72 (show (1 : Int32).toInt = 1 by decide); have z2 := lv_neT h85 (show (2 : Int32).toInt = 2 by decide); have z3 := lv_neT h98 (show (3 : Int32).toInt = 3 by decide); have z4 := lv_neT h111 (show (4 : Int32).toInt = 4 by decide); have z5 := lv_neT h124 (show (5 : Int32).toInt = 5 by decide); omega) (pc' := 680) (by decide) ?_
        refine k_iconst C (v := 1) dL_law_680 (by decide) (pc' := 681) rfl ?_
        refine k_iload C 2 dL_law_681 rfl (pc' := 683) rfl ?_
        refine k_bipush C (v := 120) dL_law_683 (by decide) (pc' := 685) rfl ?_
        refine k_iremK C dL_law_685 (by decide) (pc' := 686) rfl ?_
        refine k_iadd C dL_law_686 (pc' := 687) rfl ?_
        refine k_topi (fun v127 => ?_)
        refine k_istore C (lv' := [(14, .int v127), (7, .int r54), (6, .int v53), (5, .int v50), (4, .int r48), (0, .ref (sB Γ)), (1, .ref (Γ.1 7 0)), (2, .int b2), (3, .int b3)]) dL_law_687 (by decide) rfl (pc' := 689) rfl ?_
        refine k_aload_n C 6 dL_law_689 rfl rfl (pc' := 690) rfl ?_
        refine k_iload C 0 dL_law_690 rfl (pc' := 692) rfl ?_
        refine k_callVi C (rest := []) (qX6_pass l Γ hL M55 v127) mwX6_pass iwX6_pass mlL_102 ⟨rfl, rfl, by decide, by decide⟩ (c2 Γ M55 7 0 (e_sea Γ (M55 7 0))) (v_7 (by decide)) rfl rfl rfl (Nat.le_of_ble_eq_true rfl) dL_law_692 (pc' := 695) rfl (fun r128 M129 => ?_)
        refine k_iload C 1 dL_law_695 rfl (pc' := 697) rfl ?_
        refine k_iload C 0 dL_law_697 rfl (pc' := 699) rfl ?_
        refine k_iadd C dL_law_699 (pc' := 700) rfl ?_
        refine k_ic_ne C (tgt := 724) dL_law_700 (by decide) (pc' := 703) rfl (fun h130 => ?_) (fun h130 => ?_)
        · refine k_sub [5, 6, 8] rfl ?_
          exact sL_law_b724 hL C hr hA sl sx hsl hsx (fL_law_b238 sl sx n) ih M129 b3
        · refine k_aload_n C 6 dL_law_703 rfl rfl (pc' := 704) rfl ?_
          refine k_bipush C (v := 8) dL_law_704 (by decide) (pc' := 706) rfl ?_
          refine k_callVi C (rest := []) (qX6_count l Γ hL M129 8) mwX6_count iwX6_count mlL_9 ⟨rfl, rfl, by decide, by decide⟩ (c2 Γ M129 7 0 (e_sea Γ (M129 7 0))) (v_7 (by decide)) rfl rfl rfl (Nat.le_of_ble_eq_true rfl) dL_law_706 (pc' := 709) rfl (fun r131 M132 => ?_)
          refine k_iload C 1 dL_law_709 rfl (pc' := 711) rfl ?_
          refine k_iload C 0 dL_law_711 rfl (pc' := 713) rfl ?_
          refine k_iadd C dL_law_713 (pc' := 714) rfl ?_
          refine k_bipush C (v := 96) dL_law_714 (by decide) (pc' := 716) rfl ?_
          refine k_idivK C dL_law_716 (by decide) (pc' := 717) rfl ?_
          refine k_ic_ne C (tgt := 724) dL_law_717 (by decide) (pc' := 720) rfl (fun h133 => ?_) (fun h133 => ?_)
          · refine k_sub [5, 6, 8] rfl ?_
            exact sL_law_b724 hL C hr hA sl sx hsl hsx (fL_law_b238 sl sx n) ih M132 b3
          · refine k_iconst C (v := 1) dL_law_720 (by decide) (pc' := 721) rfl ?_
            refine k_goto C (pc' := 725) dL_law_721 (by decide) ?_
            refine k_sub [5, 6, 8] rfl ?_
            exact sL_law_b725 hL C hr hA sl sx hsl hsx (fL_law_b238 sl sx n) ih M132 b3 1
def fL_law_b235 (sl : Nat) (sx : Nat → Int32)  (M0 : kM2) (t0 : Int32) : Option (Int32 × kM2) :=
  fL_law_b238 sl sx kFu M0 t0 0
set_option maxRecDepth 100000 in
set_option maxHeartbeats 4000000 in
theorem sL_law_b235 {l : Launch} {Γ : kG} (hL : k_Lay Γ 314) {p : Program} {e : Env} {R : Room} {s : State} {mid : MethodId} {args : Array Value} {below : List Frame} {meth : Method} {c : Code} (C : k_C Γ p R s mid args meth c cL_law 15 RL room_1) (hr : meth.sig.returnType = (some .boolean)) (hA : args = #[Value.ref (sB Γ)] ∧ ∀ q, Γ.2.2.2.1 q → s.heap.size ≤ q) (sl : Nat) (sx : Nat → Int32) (hsl : sl = sL Γ) (hsx : sx = sX Γ)  (M0 : kM2) (t0 : Int32)  : Sm Γ (K2 Γ) p l e R s mid args below meth c 15 (jL below args s) M0 [(0, .ref (sB Γ)), (1, .ref (Γ.1 7 0))] [.int t0] 235 (fL_law_b235 sl sx M0 t0) := by
  unfold fL_law_b235
  refine k_istore_n C (lv' := [(2, .int t0), (0, .ref (sB Γ)), (1, .ref (Γ.1 7 0))]) dL_law_235 rfl (by decide) rfl (pc' := 236) rfl ?_
  refine k_iconst C (v := 0) dL_law_236 (by decide) (pc' := 237) rfl ?_
  refine k_istore_n C (lv' := [(3, .int 0), (2, .int t0), (0, .ref (sB Γ)), (1, .ref (Γ.1 7 0))]) dL_law_237 rfl (by decide) rfl (pc' := 238) rfl ?_
  refine k_sub [2, 3, 1, 0] rfl ?_
  exact sL_law_b238 hL C hr hA sl sx hsl hsx kFu M0 t0 0
def fL_law_b234 (sl : Nat) (sx : Nat → Int32)  (M0 : kM2) : Option (Int32 × kM2) :=
  fL_law_b235 sl sx M0 0
set_option maxRecDepth 100000 in
set_option maxHeartbeats 4000000 in
theorem sL_law_b234 {l : Launch} {Γ : kG} (hL : k_Lay Γ 314) {p : Program} {e : Env} {R : Room} {s : State} {mid : MethodId} {args : Array Value} {below : List Frame} {meth : Method} {c : Code} (C : k_C Γ p R s mid args meth c cL_law 15 RL room_1) (hr : meth.sig.returnType = (some .boolean)) (hA : args = #[Value.ref (sB Γ)] ∧ ∀ q, Γ.2.2.2.1 q → s.heap.size ≤ q) (sl : Nat) (sx : Nat → Int32) (hsl : sl = sL Γ) (hsx : sx = sX Γ)  (M0 : kM2)   : Sm Γ (K2 Γ) p l e R s mid args below meth c 15 (jL below args s) M0 [(0, .ref (sB Γ)), (1, .ref (Γ.1 7 0))] [] 234 (fL_law_b234 sl sx M0) := by
  unfold fL_law_b234
  refine k_iconst C (v := 0) dL_law_234 (by decide) (pc' := 235) rfl ?_
  exact sL_law_b235 hL C hr hA sl sx hsl hsx M0 0
def fL_law_b163 (sl : Nat) (sx : Nat → Int32)  (M0 : kM2) (b2 : Int32) : Option (Int32 × kM2) :=
  if b2 = 0 then fL_law_b234 sl sx M0 else bd (fL_cell M0 sl sx 8) fun r134 M135 => bd (fX6_gate M135 (1 + (irm r134 3))) fun r136 M137 => if r136 = 0 then bd (fL_cell M137 sl sx 9) fun r139 M140 => bd (fX6_set M140 7 (irm r139 200)) fun r141 M142 => if r141 = 200 then bd (fL_cell M142 sl sx 10) fun r144 M145 => bd (fX6_set M145 12 (irm r144 4)) fun r146 M147 => if r146 = 0 then bd (fL_holds M147) fun r149 M150 => if r149 = 0 then fL_law_b234 sl sx M150 else fL_law_b235 sl sx M150 1 else fL_law_b234 sl sx M147 else fL_law_b234 sl sx M142 else fL_law_b234 sl sx M137
set_option maxRecDepth 100000 in
set_option maxHeartbeats 4000000 in
theorem sL_law_b163 {l : Launch} {Γ : kG} (hL : k_Lay Γ 314) {p : Program} {e : Env} {R : Room} {s : State} {mid : MethodId} {args : Array Value} {below : List Frame} {meth : Method} {c : Code} (C : k_C Γ p R s mid args meth c cL_law 15 RL room_1) (hr : meth.sig.returnType = (some .boolean)) (hA : args = #[Value.ref (sB Γ)] ∧ ∀ q, Γ.2.2.2.1 q → s.heap.size ≤ q) (sl : Nat) (sx : Nat → Int32) (hsl : sl = sL Γ) (hsx : sx = sX Γ)  (M0 : kM2) (b2 : Int32)  : Sm Γ (K2 Γ) p l e R s mid args below meth c 15 (jL below args s) M0 [(0, .ref (sB Γ)), (1, .ref (Γ.1 7 0)), (2, .int b2)] [] 163 (fL_law_b163 sl sx M0 b2) := by
  unfold fL_law_b163
  refine k_iload_n C 2 dL_law_163 rfl rfl (pc' := 164) rfl ?_
  refine k_if_eq C (tgt := 234) dL_law_164 (by decide) (pc' := 167) rfl (fun h6 => ?_) (fun h6 => ?_)
  · refine k_sub [0, 1] rfl ?_
    exact sL_law_b234 hL C hr hA sl sx hsl hsx M0
  · refine k_aload_n C 1 dL_law_167 rfl rfl (pc' := 168) rfl ?_
    refine k_iconst C (v := 1) dL_law_168 (by decide) (pc' := 169) rfl ?_
    refine k_aload_n C 0 dL_law_169 rfl rfl (pc' := 170) rfl ?_
    refine k_bipush C (v := 8) dL_law_170 (by decide) (pc' := 172) rfl ?_
    refine k_callSi C (rest := [.int 1, .ref (Γ.1 7 0)]) (qL_cell l Γ hL M0 sl sx 8 hsl hsx) mwL_cell swL_cell mlL_69 ⟨rfl, rfl, by decide, by decide⟩ rfl rfl (Nat.le_of_ble_eq_true rfl) dL_law_172 (pc' := 175) rfl (fun r134 M135 => ?_)
    refine k_iconst C (v := 3) dL_law_175 (by decide) (pc' := 176) rfl ?_
    refine k_iremK C dL_law_176 (by decide) (pc' := 177) rfl ?_
    refine k_iadd C dL_law_177 (pc' := 178) rfl ?_
    refine k_callVi C (rest := []) (qX6_gate l Γ hL M135 (1 + (irm r134 3))) mwX6_gate iwX6_gate mlL_82 ⟨rfl, rfl, by decide, by decide⟩ (c2 Γ M135 7 0 (e_sea Γ (M135 7 0))) (v_7 (by decide)) rfl rfl rfl (Nat.le_of_ble_eq_true rfl) dL_law_178 (pc' := 181) rfl (fun r136 M137 => ?_)
    refine k_if_ne C (tgt := 234) dL_law_181 (by decide) (pc' := 184) rfl (fun h138 => ?_) (fun h138 => ?_)
    · refine k_sub [0, 1] rfl ?_
      exact sL_law_b234 hL C hr hA sl sx hsl hsx M137
    · refine k_aload_n C 1 dL_law_184 rfl rfl (pc' := 185) rfl ?_
      refine k_bipush C (v := 7) dL_law_185 (by decide) (pc' := 187) rfl ?_
      refine k_aload_n C 0 dL_law_187 rfl rfl (pc' := 188) rfl ?_
      refine k_bipush C (v := 9) dL_law_188 (by decide) (pc' := 190) rfl ?_
      refine k_callSi C (rest := [.int 7, .ref (Γ.1 7 0)]) (qL_cell l Γ hL M137 sl sx 9 hsl hsx) mwL_cell swL_cell mlL_69 ⟨rfl, rfl, by decide, by decide⟩ rfl rfl (Nat.le_of_ble_eq_true rfl) dL_law_190 (pc' := 193) rfl (fun r139 M140 => ?_)
      refine k_sipush C (v := 200) dL_law_193 (by decide) (pc' := 196) rfl ?_
      refine k_iremK C dL_law_196 (by decide) (pc' := 197) rfl ?_
      refine k_callVi C (rest := []) (qX6_set l Γ hL M140 7 (irm r139 200)) mwX6_set iwX6_set mlL_85 ⟨rfl, rfl, by decide, by decide⟩ (c2 Γ M140 7 0 (e_sea Γ (M140 7 0))) (v_7 (by decide)) rfl rfl rfl (Nat.le_of_ble_eq_true rfl) dL_law_197 (pc' := 200) rfl (fun r141 M142 => ?_)
      refine k_sipush C (v := 200) dL_law_200 (by decide) (pc' := 203) rfl ?_
      refine k_ic_ne C (tgt := 234) dL_law_203 (by decide) (pc' := 206) rfl (fun h143 => ?_) (fun h143 => ?_)
      · refine k_sub [0, 1] rfl ?_
        exact sL_law_b234 hL C hr hA sl sx hsl hsx M142
      · refine k_aload_n C 1 dL_law_206 rfl rfl (pc' := 207) rfl ?_
        refine k_bipush C (v := 12) dL_law_207 (by decide) (pc' := 209) rfl ?_
        refine k_aload_n C 0 dL_law_209 rfl rfl (pc' := 210) rfl ?_
        refine k_bipush C (v := 10) dL_law_210 (by decide) (pc' := 212) rfl ?_
        refine k_callSi C (rest := [.int 12, .ref (Γ.1 7 0)]) (qL_cell l Γ hL M142 sl sx 10 hsl hsx) mwL_cell swL_cell mlL_69 ⟨rfl, rfl, by decide, by decide⟩ rfl rfl (Nat.le_of_ble_eq_true rfl) dL_law_212 (pc' := 215) rfl (fun r144 M145 => ?_)
        refine k_iconst C (v := 4) dL_law_215 (by decide) (pc' := 216) rfl ?_
        refine k_iremK C dL_law_216 (by decide) (pc' := 217) rfl ?_
        refine k_callVi C (rest := []) (qX6_set l Γ hL M145 12 (irm r144 4)) mwX6_set iwX6_set mlL_85 ⟨rfl, rfl, by decide, by decide⟩ (c2 Γ M145 7 0 (e_sea Γ (M145 7 0))) (v_7 (by decide)) rfl rfl rfl (Nat.le_of_ble_eq_true rfl) dL_law_217 (pc' := 220) rfl (fun r146 M147 => ?_)
        refine k_if_ne C (tgt := 234) dL_law_220 (by decide) (pc' := 223) rfl (fun h148 => ?_) (fun h148 => ?_)
        · refine k_sub [0, 1] rfl ?_
          exact sL_law_b234 hL C hr hA sl sx hsl hsx M147
        · refine k_aload_n C 1 dL_law_223 rfl rfl (pc' := 224) rfl ?_
          refine k_callSi C (rest := []) (qL_holds l Γ hL M147) mwL_holds swL_holds mlL_62 ⟨rfl, rfl, by decide, by decide⟩ rfl rfl (Nat.le_of_ble_eq_true rfl) dL_law_224 (pc' := 227) rfl (fun r149 M150 => ?_)
          refine k_if_eq C (tgt := 234) dL_law_227 (by decide) (pc' := 230) rfl (fun h151 => ?_) (fun h151 => ?_)
          · refine k_sub [0, 1] rfl ?_
            exact sL_law_b234 hL C hr hA sl sx hsl hsx M150
          · refine k_iconst C (v := 1) dL_law_230 (by decide) (pc' := 231) rfl ?_
            refine k_goto C (pc' := 235) dL_law_231 (by decide) ?_
            refine k_sub [0, 1] rfl ?_
            exact sL_law_b235 hL C hr hA sl sx hsl hsx M150 1
def fL_law_b156 (sl : Nat) (sx : Nat → Int32) (rec105 : kM2 → Int32 → Int32 → Option (Int32 × kM2)) (M0 : kM2) (b3 : Int32) (t0 : Int32) : Option (Int32 × kM2) :=
  k_let (b3 + 1) fun v158 => rec105 M0 t0 v158
set_option maxRecDepth 100000 in
set_option maxHeartbeats 4000000 in
theorem sL_law_b156 {l : Launch} {Γ : kG} (hL : k_Lay Γ 314) {p : Program} {e : Env} {R : Room} {s : State} {mid : MethodId} {args : Array Value} {below : List Frame} {meth : Method} {c : Code} (C : k_C Γ p R s mid args meth c cL_law 15 RL room_1) (hr : meth.sig.returnType = (some .boolean)) (hA : args = #[Value.ref (sB Γ)] ∧ ∀ q, Γ.2.2.2.1 q → s.heap.size ≤ q) (sl : Nat) (sx : Nat → Int32) (hsl : sl = sL Γ) (hsx : sx = sX Γ) (rec105 : kM2 → Int32 → Int32 → Option (Int32 × kM2)) (hrec105 : ∀ (M0 : kM2) (b2 : Int32) (b3 : Int32), Sm Γ (K2 Γ) p l e R s mid args below meth c 15 (jL below args s) M0 [(0, .ref (sB Γ)), (1, .ref (Γ.1 7 0)), (2, .int b2), (3, .int b3)] [] 105 (rec105 M0 b2 b3)) (M0 : kM2) (b3 : Int32) (t0 : Int32)  : Sm Γ (K2 Γ) p l e R s mid args below meth c 15 (jL below args s) M0 [(0, .ref (sB Γ)), (1, .ref (Γ.1 7 0)), (3, .int b3)] [.int t0] 156 (fL_law_b156 sl sx rec105 M0 b3 t0) := by
  unfold fL_law_b156
  refine k_istore_n C (lv' := [(2, .int t0), (0, .ref (sB Γ)), (1, .ref (Γ.1 7 0)), (3, .int b3)]) dL_law_156 rfl (by decide) rfl (pc' := 157) rfl ?_
  refine k_iinc (v := 1) (q := 3) (lv' := [(2, .int t0), (0, .ref (sB Γ)), (1, .ref (Γ.1 7 0))]) C dL_law_157 rfl (by decide) (by decide) (pc' := 160) rfl (fun _ => rfl) (fun v158 => ?_)
  refine k_goto C (pc' := 105) dL_law_160 (by decide) ?_
  refine k_sub [2, 3, 1, 0] rfl ?_
  exact hrec105 M0 t0 v158
def fL_law_b105 (sl : Nat) (sx : Nat → Int32) : Nat → kM2 → Int32 → Int32 → Option (Int32 × kM2)
  | 0, _, _, _ => none
  | n + 1, M0, b2, b3 =>
  if 5 ≤ b3 then fL_law_b163 sl sx M0 b2 else if b2 = 0 then fL_law_b163 sl sx M0 b2 else bd (fL_cell M0 sl sx (3 + b3)) fun r153 M154 => bd (fX6_bring M154 (irm r153 3) (irm (r153 / 4) 3) (1 + (irm (r153 / 16) 30))) fun r155 M156 => if r155 = b3 then fL_law_b156 sl sx (fL_law_b105 sl sx n) M156 b3 1 else fL_law_b156 sl sx (fL_law_b105 sl sx n) M156 b3 0
set_option maxRecDepth 100000 in
set_option maxHeartbeats 4000000 in
theorem sL_law_b105 {l : Launch} {Γ : kG} (hL : k_Lay Γ 314) {p : Program} {e : Env} {R : Room} {s : State} {mid : MethodId} {args : Array Value} {below : List Frame} {meth : Method} {c : Code} (C : k_C Γ p R s mid args meth c cL_law 15 RL room_1) (hr : meth.sig.returnType = (some .boolean)) (hA : args = #[Value.ref (sB Γ)] ∧ ∀ q, Γ.2.2.2.1 q → s.heap.size ≤ q) (sl : Nat) (sx : Nat → Int32) (hsl : sl = sL Γ) (hsx : sx = sX Γ)  (n : Nat) : ∀ (M0 : kM2) (b2 : Int32) (b3 : Int32), Sm Γ (K2 Γ) p l e R s mid args below meth c 15 (jL below args s) M0 [(0, .ref (sB Γ)), (1, .ref (Γ.1 7 0)), (2, .int b2), (3, .int b3)] [] 105 (fL_law_b105 sl sx n M0 b2 b3) := by
  induction n with
  | zero => intros; exact k_none
  | succ n ih =>
    intro M0 b2 b3
    unfold fL_law_b105
    refine k_iload_n C 3 dL_law_105 rfl rfl (pc' := 106) rfl ?_
    refine k_iconst C (v := 5) dL_law_106 (by decide) (pc' := 107) rfl ?_
    refine k_ic_ge C (tgt := 163) dL_law_107 (by decide) (pc' := 110) rfl (fun h5 => ?_) (fun h5 => ?_)
    · refine k_sub [0, 1, 2] rfl ?_
      exact sL_law_b163 hL C hr hA sl sx hsl hsx M0 b2
    · refine k_iload_n C 2 dL_law_110 rfl rfl (pc' := 111) rfl ?_
      refine k_if_eq C (tgt := 163) dL_law_111 (by decide) (pc' := 114) rfl (fun h152 => ?_) (fun h152 => ?_)
      · refine k_sub [0, 1, 2] rfl ?_
        exact sL_law_b163 hL C hr hA sl sx hsl hsx M0 b2
      · refine k_aload_n C 0 dL_law_114 rfl rfl (pc' := 115) rfl ?_
        refine k_iconst C (v := 3) dL_law_115 (by decide) (pc' := 116) rfl ?_
        refine k_iload_n C 3 dL_law_116 rfl rfl (pc' := 117) rfl ?_
        refine k_iadd C dL_law_117 (pc' := 118) rfl ?_
        refine k_callSi C (rest := []) (qL_cell l Γ hL M0 sl sx (3 + b3) hsl hsx) mwL_cell swL_cell mlL_69 ⟨rfl, rfl, by decide, by decide⟩ rfl rfl (Nat.le_of_ble_eq_true rfl) dL_law_118 (pc' := 121) rfl (fun r153 M154 => ?_)
        refine k_istore C (lv' := [(4, .int r153), (0, .ref (sB Γ)), (1, .ref (Γ.1 7 0)), (2, .int b2), (3, .int b3)]) dL_law_121 (by decide) rfl (pc' := 123) rfl ?_
        refine k_aload_n C 2 dL_law_123 rfl rfl (pc' := 124) rfl ?_
        refine k_iload C 0 dL_law_124 rfl (pc' := 126) rfl ?_
        refine k_iconst C (v := 3) dL_law_126 (by decide) (pc' := 127) rfl ?_
        refine k_iremK C dL_law_127 (by decide) (pc' := 128) rfl ?_
        refine k_iload C 0 dL_law_128 rfl (pc' := 130) rfl ?_
        refine k_iconst C (v := 4) dL_law_130 (by decide) (pc' := 131) rfl ?_
        refine k_idivK C dL_law_131 (by decide) (pc' := 132) rfl ?_
        refine k_iconst C (v := 3) dL_law_132 (by decide) (pc' := 133) rfl ?_
        refine k_iremK C dL_law_133 (by decide) (pc' := 134) rfl ?_
        refine k_iconst C (v := 1) dL_law_134 (by decide) (pc' := 135) rfl ?_
        refine k_iload C 0 dL_law_135 rfl (pc' := 137) rfl ?_
        refine k_bipush C (v := 16) dL_law_137 (by decide) (pc' := 139) rfl ?_
        refine k_idivK C dL_law_139 (by decide) (pc' := 140) rfl ?_
        refine k_bipush C (v := 30) dL_law_140 (by decide) (pc' := 142) rfl ?_
        refine k_iremK C dL_law_142 (by decide) (pc' := 143) rfl ?_
        refine k_iadd C dL_law_143 (pc' := 144) rfl ?_
        refine k_callVi C (rest := []) (qX6_bring l Γ hL M154 (irm r153 3) (irm (r153 / 4) 3) (1 + (irm (r153 / 16) 30))) mwX6_bring iwX6_bring mlL_79 ⟨rfl, rfl, by decide, by decide⟩ (c2 Γ M154 7 0 (e_sea Γ (M154 7 0))) (v_7 (by decide)) rfl rfl rfl (Nat.le_of_ble_eq_true rfl) dL_law_144 (pc' := 147) rfl (fun r155 M156 => ?_)
        refine k_iload_n C 4 dL_law_147 rfl rfl (pc' := 148) rfl ?_
        refine k_ic_ne C (tgt := 155) dL_law_148 (by decide) (pc' := 151) rfl (fun h157 => ?_) (fun h157 => ?_)
        · refine k_iconst C (v := 0) dL_law_155 (by decide) (pc' := 156) rfl ?_
          refine k_sub [1, 2, 4] rfl ?_
          exact sL_law_b156 hL C hr hA sl sx hsl hsx (fL_law_b105 sl sx n) ih M156 b3 0
        · refine k_iconst C (v := 1) dL_law_151 (by decide) (pc' := 152) rfl ?_
          refine k_goto C (pc' := 156) dL_law_152 (by decide) ?_
          refine k_sub [1, 2, 4] rfl ?_
          exact sL_law_b156 hL C hr hA sl sx hsl hsx (fL_law_b105 sl sx n) ih M156 b3 1
def fL_law_b103 (sl : Nat) (sx : Nat → Int32)  (M0 : kM2) (b2 : Int32) : Option (Int32 × kM2) :=
  fL_law_b105 sl sx kFu M0 b2 0
set_option maxRecDepth 100000 in
set_option maxHeartbeats 4000000 in
theorem sL_law_b103 {l : Launch} {Γ : kG} (hL : k_Lay Γ 314) {p : Program} {e : Env} {R : Room} {s : State} {mid : MethodId} {args : Array Value} {below : List Frame} {meth : Method} {c : Code} (C : k_C Γ p R s mid args meth c cL_law 15 RL room_1) (hr : meth.sig.returnType = (some .boolean)) (hA : args = #[Value.ref (sB Γ)] ∧ ∀ q, Γ.2.2.2.1 q → s.heap.size ≤ q) (sl : Nat) (sx : Nat → Int32) (hsl : sl = sL Γ) (hsx : sx = sX Γ)  (M0 : kM2) (b2 : Int32)  : Sm Γ (K2 Γ) p l e R s mid args below meth c 15 (jL below args s) M0 [(0, .ref (sB Γ)), (1, .ref (Γ.1 7 0)), (2, .int b2)] [] 103 (fL_law_b103 sl sx M0 b2) := by
  unfold fL_law_b103
  refine k_iconst C (v := 0) dL_law_103 (by decide) (pc' := 104) rfl ?_
  refine k_istore_n C (lv' := [(3, .int 0), (0, .ref (sB Γ)), (1, .ref (Γ.1 7 0)), (2, .int b2)]) dL_law_104 rfl (by decide) rfl (pc' := 105) rfl ?_
  refine k_sub [1, 2, 3, 0] rfl ?_
  exact sL_law_b105 hL C hr hA sl sx hsl hsx kFu M0 b2 0
def fL_law_b96 (sl : Nat) (sx : Nat → Int32) (rec32 : kM2 → Int32 → Int32 → Option (Int32 × kM2)) (M0 : kM2) (b3 : Int32) (t0 : Int32) : Option (Int32 × kM2) :=
  k_let (b3 + 1) fun v165 => rec32 M0 t0 v165
set_option maxRecDepth 100000 in
set_option maxHeartbeats 4000000 in
theorem sL_law_b96 {l : Launch} {Γ : kG} (hL : k_Lay Γ 314) {p : Program} {e : Env} {R : Room} {s : State} {mid : MethodId} {args : Array Value} {below : List Frame} {meth : Method} {c : Code} (C : k_C Γ p R s mid args meth c cL_law 15 RL room_1) (hr : meth.sig.returnType = (some .boolean)) (hA : args = #[Value.ref (sB Γ)] ∧ ∀ q, Γ.2.2.2.1 q → s.heap.size ≤ q) (sl : Nat) (sx : Nat → Int32) (hsl : sl = sL Γ) (hsx : sx = sX Γ) (rec32 : kM2 → Int32 → Int32 → Option (Int32 × kM2)) (hrec32 : ∀ (M0 : kM2) (b2 : Int32) (b3 : Int32), Sm Γ (K2 Γ) p l e R s mid args below meth c 15 (jL below args s) M0 [(0, .ref (sB Γ)), (1, .ref (Γ.1 7 0)), (2, .int b2), (3, .int b3)] [] 32 (rec32 M0 b2 b3)) (M0 : kM2) (b3 : Int32) (t0 : Int32)  : Sm Γ (K2 Γ) p l e R s mid args below meth c 15 (jL below args s) M0 [(0, .ref (sB Γ)), (1, .ref (Γ.1 7 0)), (3, .int b3)] [.int t0] 96 (fL_law_b96 sl sx rec32 M0 b3 t0) := by
  unfold fL_law_b96
  refine k_istore_n C (lv' := [(2, .int t0), (0, .ref (sB Γ)), (1, .ref (Γ.1 7 0)), (3, .int b3)]) dL_law_96 rfl (by decide) rfl (pc' := 97) rfl ?_
  refine k_iinc (v := 1) (q := 3) (lv' := [(2, .int t0), (0, .ref (sB Γ)), (1, .ref (Γ.1 7 0))]) C dL_law_97 rfl (by decide) (by decide) (pc' := 100) rfl (fun _ => rfl) (fun v165 => ?_)
  refine k_goto C (pc' := 32) dL_law_100 (by decide) ?_
  refine k_sub [2, 3, 1, 0] rfl ?_
  exact hrec32 M0 t0 v165
def fL_law_b95 (sl : Nat) (sx : Nat → Int32) (rec32 : kM2 → Int32 → Int32 → Option (Int32 × kM2)) (M0 : kM2) (b3 : Int32) : Option (Int32 × kM2) :=
  fL_law_b96 sl sx rec32 M0 b3 0
set_option maxRecDepth 100000 in
set_option maxHeartbeats 4000000 in
theorem sL_law_b95 {l : Launch} {Γ : kG} (hL : k_Lay Γ 314) {p : Program} {e : Env} {R : Room} {s : State} {mid : MethodId} {args : Array Value} {below : List Frame} {meth : Method} {c : Code} (C : k_C Γ p R s mid args meth c cL_law 15 RL room_1) (hr : meth.sig.returnType = (some .boolean)) (hA : args = #[Value.ref (sB Γ)] ∧ ∀ q, Γ.2.2.2.1 q → s.heap.size ≤ q) (sl : Nat) (sx : Nat → Int32) (hsl : sl = sL Γ) (hsx : sx = sX Γ) (rec32 : kM2 → Int32 → Int32 → Option (Int32 × kM2)) (hrec32 : ∀ (M0 : kM2) (b2 : Int32) (b3 : Int32), Sm Γ (K2 Γ) p l e R s mid args below meth c 15 (jL below args s) M0 [(0, .ref (sB Γ)), (1, .ref (Γ.1 7 0)), (2, .int b2), (3, .int b3)] [] 32 (rec32 M0 b2 b3)) (M0 : kM2) (b3 : Int32)  : Sm Γ (K2 Γ) p l e R s mid args below meth c 15 (jL below args s) M0 [(0, .ref (sB Γ)), (1, .ref (Γ.1 7 0)), (3, .int b3)] [] 95 (fL_law_b95 sl sx rec32 M0 b3) := by
  unfold fL_law_b95
  refine k_iconst C (v := 0) dL_law_95 (by decide) (pc' := 96) rfl ?_
  exact sL_law_b96 hL C hr hA sl sx hsl hsx rec32 hrec32 M0 b3 0
def fL_law_b32 (sl : Nat) (sx : Nat → Int32) : Nat → kM2 → Int32 → Int32 → Option (Int32 × kM2)
  | 0, _, _, _ => none
  | n + 1, M0, b2, b3 =>
  if 3 ≤ b3 then fL_law_b103 sl sx M0 b2 else if b2 = 0 then fL_law_b103 sl sx M0 b2 else bd (fL_cell M0 sl sx b3) fun r160 M161 => bd (fX6_kind M161 (1 + (irm r160 9)) (irm (r160 / 16) 21) (1 + (irm (r160 / 512) 5000))) fun r162 M163 => if r162 = b3 then bd (fX6_farmer M163) fun r166 M167 => if r166 = b3 then fL_law_b96 sl sx (fL_law_b32 sl sx n) M167 b3 1 else fL_law_b95 sl sx (fL_law_b32 sl sx n) M167 b3 else fL_law_b95 sl sx (fL_law_b32 sl sx n) M163 b3
set_option maxRecDepth 100000 in
set_option maxHeartbeats 4000000 in
theorem sL_law_b32 {l : Launch} {Γ : kG} (hL : k_Lay Γ 314) {p : Program} {e : Env} {R : Room} {s : State} {mid : MethodId} {args : Array Value} {below : List Frame} {meth : Method} {c : Code} (C : k_C Γ p R s mid args meth c cL_law 15 RL room_1) (hr : meth.sig.returnType = (some .boolean)) (hA : args = #[Value.ref (sB Γ)] ∧ ∀ q, Γ.2.2.2.1 q → s.heap.size ≤ q) (sl : Nat) (sx : Nat → Int32) (hsl : sl = sL Γ) (hsx : sx = sX Γ)  (n : Nat) : ∀ (M0 : kM2) (b2 : Int32) (b3 : Int32), Sm Γ (K2 Γ) p l e R s mid args below meth c 15 (jL below args s) M0 [(0, .ref (sB Γ)), (1, .ref (Γ.1 7 0)), (2, .int b2), (3, .int b3)] [] 32 (fL_law_b32 sl sx n M0 b2 b3) := by
  induction n with
  | zero => intros; exact k_none
  | succ n ih =>
    intro M0 b2 b3
    unfold fL_law_b32
    refine k_iload_n C 3 dL_law_32 rfl rfl (pc' := 33) rfl ?_
    refine k_iconst C (v := 3) dL_law_33 (by decide) (pc' := 34) rfl ?_
    refine k_ic_ge C (tgt := 103) dL_law_34 (by decide) (pc' := 37) rfl (fun h4 => ?_) (fun h4 => ?_)
    · refine k_sub [0, 1, 2] rfl ?_
      exact sL_law_b103 hL C hr hA sl sx hsl hsx M0 b2
    · refine k_iload_n C 2 dL_law_37 rfl rfl (pc' := 38) rfl ?_
      refine k_if_eq C (tgt := 103) dL_law_38 (by decide) (pc' := 41) rfl (fun h159 => ?_) (fun h159 => ?_)
      · refine k_sub [0, 1, 2] rfl ?_
        exact sL_law_b103 hL C hr hA sl sx hsl hsx M0 b2
      · refine k_aload_n C 0 dL_law_41 rfl rfl (pc' := 42) rfl ?_
        refine k_iload_n C 3 dL_law_42 rfl rfl (pc' := 43) rfl ?_
        refine k_callSi C (rest := []) (qL_cell l Γ hL M0 sl sx b3 hsl hsx) mwL_cell swL_cell mlL_69 ⟨rfl, rfl, by decide, by decide⟩ rfl rfl (Nat.le_of_ble_eq_true rfl) dL_law_43 (pc' := 46) rfl (fun r160 M161 => ?_)
        refine k_istore C (lv' := [(4, .int r160), (0, .ref (sB Γ)), (1, .ref (Γ.1 7 0)), (2, .int b2), (3, .int b3)]) dL_law_46 (by decide) rfl (pc' := 48) rfl ?_
        refine k_aload_n C 2 dL_law_48 rfl rfl (pc' := 49) rfl ?_
        refine k_iconst C (v := 1) dL_law_49 (by decide) (pc' := 50) rfl ?_
        refine k_iload C 0 dL_law_50 rfl (pc' := 52) rfl ?_
        refine k_bipush C (v := 9) dL_law_52 (by decide) (pc' := 54) rfl ?_
        refine k_iremK C dL_law_54 (by decide) (pc' := 55) rfl ?_
        refine k_iadd C dL_law_55 (pc' := 56) rfl ?_
        refine k_iload C 0 dL_law_56 rfl (pc' := 58) rfl ?_
        refine k_bipush C (v := 16) dL_law_58 (by decide) (pc' := 60) rfl ?_
        refine k_idivK C dL_law_60 (by decide) (pc' := 61) rfl ?_
        refine k_bipush C (v := 21) dL_law_61 (by decide) (pc' := 63) rfl ?_
        refine k_iremK C dL_law_63 (by decide) (pc' := 64) rfl ?_
        refine k_iconst C (v := 1) dL_law_64 (by decide) (pc' := 65) rfl ?_
        refine k_iload C 0 dL_law_65 rfl (pc' := 67) rfl ?_
        refine k_sipush C (v := 512) dL_law_67 (by decide) (pc' := 70) rfl ?_
        refine k_idivK C dL_law_70 (by decide) (pc' := 71) rfl ?_
        refine k_sipush C (v := 5000) dL_law_71 (by decide) (pc' := 74) rfl ?_
        refine k_iremK C dL_law_74 (by decide) (pc' := 75) rfl ?_
        refine k_iadd C dL_law_75 (pc' := 76) rfl ?_
        refine k_callVi C (rest := []) (qX6_kind l Γ hL M161 (1 + (irm r160 9)) (irm (r160 / 16) 21) (1 + (irm (r160 / 512) 5000))) mwX6_kind iwX6_kind mlL_73 ⟨rfl, rfl, by decide, by decide⟩ (c2 Γ M161 7 0 (e_sea Γ (M161 7 0))) (v_7 (by decide)) rfl rfl rfl (Nat.le_of_ble_eq_true rfl) dL_law_76 (pc' := 79) rfl (fun r162 M163 => ?_)
        refine k_iload_n C 4 dL_law_79 rfl rfl (pc' := 80) rfl ?_
        refine k_ic_ne C (tgt := 95) dL_law_80 (by decide) (pc' := 83) rfl (fun h164 => ?_) (fun h164 => ?_)
        · refine k_sub [1, 2, 4] rfl ?_
          exact sL_law_b95 hL C hr hA sl sx hsl hsx (fL_law_b32 sl sx n) ih M163 b3
        · refine k_aload_n C 2 dL_law_83 rfl rfl (pc' := 84) rfl ?_
          refine k_callVi C (rest := []) (qX6_farmer l Γ hL M163) mwX6_farmer iwX6_farmer mlL_76 ⟨rfl, rfl, by decide, by decide⟩ (c2 Γ M163 7 0 (e_sea Γ (M163 7 0))) (v_7 (by decide)) rfl rfl rfl (Nat.le_of_ble_eq_true rfl) dL_law_84 (pc' := 87) rfl (fun r166 M167 => ?_)
          refine k_iload_n C 4 dL_law_87 rfl rfl (pc' := 88) rfl ?_
          refine k_ic_ne C (tgt := 95) dL_law_88 (by decide) (pc' := 91) rfl (fun h168 => ?_) (fun h168 => ?_)
          · refine k_sub [1, 2, 4] rfl ?_
            exact sL_law_b95 hL C hr hA sl sx hsl hsx (fL_law_b32 sl sx n) ih M167 b3
          · refine k_iconst C (v := 1) dL_law_91 (by decide) (pc' := 92) rfl ?_
            refine k_goto C (pc' := 96) dL_law_92 (by decide) ?_
            refine k_sub [1, 2, 4] rfl ?_
            exact sL_law_b96 hL C hr hA sl sx hsl hsx (fL_law_b32 sl sx n) ih M167 b3 1
def fL_law_b29 (sl : Nat) (sx : Nat → Int32)  (M0 : kM2) (t0 : Int32) : Option (Int32 × kM2) :=
  fL_law_b32 sl sx kFu M0 t0 0
set_option maxRecDepth 100000 in
set_option maxHeartbeats 4000000 in
theorem sL_law_b29 {l : Launch} {Γ : kG} (hL : k_Lay Γ 314) {p : Program} {e : Env} {R : Room} {s : State} {mid : MethodId} {args : Array Value} {below : List Frame} {meth : Method} {c : Code} (C : k_C Γ p R s mid args meth c cL_law 15 RL room_1) (hr : meth.sig.returnType = (some .boolean)) (hA : args = #[Value.ref (sB Γ)] ∧ ∀ q, Γ.2.2.2.1 q → s.heap.size ≤ q) (sl : Nat) (sx : Nat → Int32) (hsl : sl = sL Γ) (hsx : sx = sX Γ)  (M0 : kM2) (t0 : Int32)  : Sm Γ (K2 Γ) p l e R s mid args below meth c 15 (jL below args s) M0 [(0, .ref (sB Γ)), (1, .ref (Γ.1 7 0))] [.int t0] 29 (fL_law_b29 sl sx M0 t0) := by
  unfold fL_law_b29
  refine k_istore_n C (lv' := [(2, .int t0), (0, .ref (sB Γ)), (1, .ref (Γ.1 7 0))]) dL_law_29 rfl (by decide) rfl (pc' := 30) rfl ?_
  refine k_iconst C (v := 0) dL_law_30 (by decide) (pc' := 31) rfl ?_
  refine k_istore_n C (lv' := [(3, .int 0), (2, .int t0), (0, .ref (sB Γ)), (1, .ref (Γ.1 7 0))]) dL_law_31 rfl (by decide) rfl (pc' := 32) rfl ?_
  refine k_sub [2, 3, 1, 0] rfl ?_
  exact sL_law_b32 hL C hr hA sl sx hsl hsx kFu M0 t0 0
def fL_law_b28 (sl : Nat) (sx : Nat → Int32)  (M0 : kM2) : Option (Int32 × kM2) :=
  fL_law_b29 sl sx M0 0
set_option maxRecDepth 100000 in
set_option maxHeartbeats 4000000 in
theorem sL_law_b28 {l : Launch} {Γ : kG} (hL : k_Lay Γ 314) {p : Program} {e : Env} {R : Room} {s : State} {mid : MethodId} {args : Array Value} {below : List Frame} {meth : Method} {c : Code} (C : k_C Γ p R s mid args meth c cL_law 15 RL room_1) (hr : meth.sig.returnType = (some .boolean)) (hA : args = #[Value.ref (sB Γ)] ∧ ∀ q, Γ.2.2.2.1 q → s.heap.size ≤ q) (sl : Nat) (sx : Nat → Int32) (hsl : sl = sL Γ) (hsx : sx = sX Γ)  (M0 : kM2)   : Sm Γ (K2 Γ) p l e R s mid args below meth c 15 (jL below args s) M0 [(0, .ref (sB Γ)), (1, .ref (Γ.1 7 0))] [] 28 (fL_law_b28 sl sx M0) := by
  unfold fL_law_b28
  refine k_iconst C (v := 0) dL_law_28 (by decide) (pc' := 29) rfl ?_
  exact sL_law_b29 hL C hr hA sl sx hsl hsx M0 0
def fL_law_b8 (sl : Nat) (sx : Nat → Int32)  (M0 : kM2) : Option (Int32 × kM2) :=
  bd (fL_holds M0) fun r1 M2 => if r1 = 0 then fL_law_b28 sl sx M2 else bd (fX6_undo M2) fun r169 M170 => if r169 = (-1000002) then fL_law_b29 sl sx M170 1 else fL_law_b28 sl sx M170
set_option maxRecDepth 100000 in
set_option maxHeartbeats 4000000 in
theorem sL_law_b8 {l : Launch} {Γ : kG} (hL : k_Lay Γ 314) {p : Program} {e : Env} {R : Room} {s : State} {mid : MethodId} {args : Array Value} {below : List Frame} {meth : Method} {c : Code} (C : k_C Γ p R s mid args meth c cL_law 15 RL room_1) (hr : meth.sig.returnType = (some .boolean)) (hA : args = #[Value.ref (sB Γ)] ∧ ∀ q, Γ.2.2.2.1 q → s.heap.size ≤ q) (sl : Nat) (sx : Nat → Int32) (hsl : sl = sL Γ) (hsx : sx = sX Γ)  (M0 : kM2)   : Sm Γ (K2 Γ) p l e R s mid args below meth c 15 (jL below args s) M0 [(0, .ref (sB Γ)), (1, .ref (Γ.1 7 0))] [] 8 (fL_law_b8 sl sx M0) := by
  unfold fL_law_b8
  refine k_aload_n C 1 dL_law_8 rfl rfl (pc' := 9) rfl ?_
  refine k_callSi C (rest := []) (qL_holds l Γ hL M0) mwL_holds swL_holds mlL_62 ⟨rfl, rfl, by decide, by decide⟩ rfl rfl (Nat.le_of_ble_eq_true rfl) dL_law_9 (pc' := 12) rfl (fun r1 M2 => ?_)
  refine k_if_eq C (tgt := 28) dL_law_12 (by decide) (pc' := 15) rfl (fun h3 => ?_) (fun h3 => ?_)
  · exact sL_law_b28 hL C hr hA sl sx hsl hsx M2
  · refine k_aload_n C 1 dL_law_15 rfl rfl (pc' := 16) rfl ?_
    refine k_callVi C (rest := []) (qX6_undo l Γ hL M2) mwX6_undo iwX6_undo mlL_65 ⟨rfl, rfl, by decide, by decide⟩ (c2 Γ M2 7 0 (e_sea Γ (M2 7 0))) (v_7 (by decide)) rfl rfl rfl (Nat.le_of_ble_eq_true rfl) dL_law_16 (pc' := 19) rfl (fun r169 M170 => ?_)
    refine k_ldc C (v := (-1000002)) dL_law_19 cnL_57 (pc' := 21) rfl ?_
    refine k_ic_ne C (tgt := 28) dL_law_21 (by decide) (pc' := 24) rfl (fun h171 => ?_) (fun h171 => ?_)
    · exact sL_law_b28 hL C hr hA sl sx hsl hsx M170
    · refine k_iconst C (v := 1) dL_law_24 (by decide) (pc' := 25) rfl ?_
      refine k_goto C (pc' := 29) dL_law_25 (by decide) ?_
      exact sL_law_b29 hL C hr hA sl sx hsl hsx M170 1
