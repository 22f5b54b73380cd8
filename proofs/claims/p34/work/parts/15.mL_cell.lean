def fL_cell_b19 (sl : Nat) (sx : Nat → Int32) (a1 : Int32)  (M0 : kM2) (t0 : Int32) : Option (Int32 × kM2) :=
  some (t0 &&& 2147483647, M0)
set_option maxRecDepth 100000 in
set_option maxHeartbeats 4000000 in
theorem sL_cell_b19 {l : Launch} {Γ : kG} (hL : k_Lay Γ 314) {p : Program} {e : Env} {R : Room} {s : State} {mid : MethodId} {args : Array Value} {below : List Frame} {meth : Method} {c : Code} (C : k_C Γ p R s mid args meth c cL_cell 2 RL (k_R 0)) (hr : meth.sig.returnType = (some .int)) (sl : Nat) (sx : Nat → Int32) (a1 : Int32) (hsl : sl = sL Γ) (hsx : sx = sX Γ)  (M0 : kM2) (t0 : Int32)  : Sm Γ (K2 Γ) p l e R s mid args below meth c 2 (jM true Γ (K2 Γ) below args s) M0 [] [.int t0] 19 (fL_cell_b19 sl sx a1 M0 t0) := by
  unfold fL_cell_b19
  refine k_ldc C (v := 2147483647) dL_cell_19 cnL_8 (pc' := 21) rfl ?_
  refine k_iand C dL_cell_21 (pc' := 22) rfl ?_
  exact k_reti C rfl hr dL_cell_22
def fL_cell (M0 : kM2) (sl : Nat) (sx : Nat → Int32) (a1 : Int32) : Option (Int32 × kM2) :=
  if (nI sl) ≤ a1 then fL_cell_b19 sl sx a1 M0 ((15485959 * a1) + 109) else if ¬ a1 < 0 ∧ a1.toNatClampNeg < sl then fL_cell_b19 sl sx a1 M0 (sx a1.toNatClampNeg) else none
set_option maxRecDepth 100000 in
set_option maxHeartbeats 4000000 in
theorem qL_cell (l : Launch) (Γ : kG) (hL : k_Lay Γ 314) (M0 : kM2) (sl : Nat) (sx : Nat → Int32) (a1 : Int32) (hsl : sl = sL Γ) (hsx : sx = sX Γ) : CT l Γ (K2 Γ) yL_cell cL_cell 2 (some .int) (k_R 0) [.ref (sB Γ), .int a1] M0 (fL_cell M0 sl sx a1) := by
  refine k_meth (own := RL) (by decide) rfl (Nat.le_of_ble_eq_true rfl) (fun p e R s mid args below meth c C hr => ?_)
  show Sm Γ (K2 Γ) p l e R s mid args below meth c 2 (jM true Γ (K2 Γ) below args s) M0 [(0, .ref (sB Γ)), (1, .int a1)] [] 0 (fL_cell M0 sl sx a1)
  unfold fL_cell
  refine k_iload_n C 1 dL_cell_0 rfl rfl (pc' := 1) rfl ?_
  refine k_aload_n C 0 dL_cell_1 rfl rfl (pc' := 2) rfl ?_
  refine k_slen C hsl dL_cell_2 (pc' := 3) rfl ?_
  refine k_ic_ge C (tgt := 12) dL_cell_3 (by decide) (pc' := 6) rfl (fun h1 => ?_) (fun h1 => ?_)
  · refine k_ldc C (v := 15485959) dL_cell_12 cnL_7 (pc' := 14) rfl ?_
    refine k_iload_n C 1 dL_cell_14 rfl rfl (pc' := 15) rfl ?_
    refine k_imul C dL_cell_15 (pc' := 16) rfl ?_
    refine k_bipush C (v := 109) dL_cell_16 (by decide) (pc' := 18) rfl ?_
    refine k_iadd C dL_cell_18 (pc' := 19) rfl ?_
    refine k_sub [] rfl ?_
    exact sL_cell_b19 hL C hr sl sx a1 hsl hsx M0 ((15485959 * a1) + 109)
  · refine k_aload_n C 0 dL_cell_6 rfl rfl (pc' := 7) rfl ?_
    refine k_iload_n C 1 dL_cell_7 rfl rfl (pc' := 8) rfl ?_
    refine k_sld C hsl hsx dL_cell_8 (pc' := 9) rfl (fun h2 => ?_)
    refine k_goto C (pc' := 19) dL_cell_9 (by decide) ?_
    refine k_sub [] rfl ?_
    exact sL_cell_b19 hL C hr sl sx a1 hsl hsx M0 (sx a1.toNatClampNeg)
def fL_accounts_b266   (M0 : kM2) (b1 : Int32) (b2 : Int32) (b3 : Int32) (b4 : Int32) : Option (Int32 × kM2) :=
  if b1 = 0 then some (0, M0) else bd (fX6_account M0 (-1) (-1) 6) fun r9 M10 => if b2 = r9 then bd (fX6_account M10 (-1) (-1) 9) fun r12 M13 => if b3 = r12 then bd (fX6_count M13 2) fun r15 M16 => if b4 = r15 then some (1, M16) else some (0, M16) else some (0, M13) else some (0, M10)
set_option maxRecDepth 100000 in
set_option maxHeartbeats 4000000 in
theorem sL_accounts_b266 {l : Launch} {Γ : kG} (hL : k_Lay Γ 314) {p : Program} {e : Env} {R : Room} {s : State} {mid : MethodId} {args : Array Value} {below : List Frame} {meth : Method} {c : Code} (C : k_C Γ p R s mid args meth c cL_accounts 7 RL (k_R 5)) (hr : meth.sig.returnType = (some .boolean))  (M0 : kM2) (b1 : Int32) (b2 : Int32) (b3 : Int32) (b4 : Int32)  : Sm Γ (K2 Γ) p l e R s mid args below meth c 7 (jM true Γ (K2 Γ) below args s) M0 [(0, .ref (Γ.1 7 0)), (1, .int b1), (2, .int b2), (3, .int b3), (4, .int b4)] [] 266 (fL_accounts_b266 M0 b1 b2 b3 b4) := by
  unfold fL_accounts_b266
  refine k_iload_n C 1 dL_accounts_266 rfl rfl (pc' := 267) rfl ?_
  refine k_if_eq C (tgt := 308) dL_accounts_267 (by decide) (pc' := 270) rfl (fun h8 => ?_) (fun h8 => ?_)
  · refine k_iconst C (v := 0) dL_accounts_308 (by decide) (pc' := 309) rfl ?_
    exact k_retz C rfl hr (Or.inl rfl) dL_accounts_309
  · refine k_iload_n C 2 dL_accounts_270 rfl rfl (pc' := 271) rfl ?_
    refine k_aload_n C 0 dL_accounts_271 rfl rfl (pc' := 272) rfl ?_
    refine k_iconst C (v := (-1)) dL_accounts_272 (by decide) (pc' := 273) rfl ?_
    refine k_iconst C (v := (-1)) dL_accounts_273 (by decide) (pc' := 274) rfl ?_
    refine k_bipush C (v := 6) dL_accounts_274 (by decide) (pc' := 276) rfl ?_
    refine k_callVi C (rest := [.int b2]) (qX6_account l Γ hL M0 (-1) (-1) 6) mwX6_account iwX6_account mlL_19 (k_rm_of (by decide) (by decide)) (c2 Γ M0 7 0 (e_sea Γ (M0 7 0))) (v_7 (by decide)) rfl rfl rfl (Nat.le_of_ble_eq_true rfl) dL_accounts_276 (pc' := 279) rfl (fun r9 M10 => ?_)
    refine k_ic_ne C (tgt := 308) dL_accounts_279 (by decide) (pc' := 282) rfl (fun h11 => ?_) (fun h11 => ?_)
    · refine k_iconst C (v := 0) dL_accounts_308 (by decide) (pc' := 309) rfl ?_
      exact k_retz C rfl hr (Or.inl rfl) dL_accounts_309
    · refine k_iload_n C 3 dL_accounts_282 rfl rfl (pc' := 283) rfl ?_
      refine k_aload_n C 0 dL_accounts_283 rfl rfl (pc' := 284) rfl ?_
      refine k_iconst C (v := (-1)) dL_accounts_284 (by decide) (pc' := 285) rfl ?_
      refine k_iconst C (v := (-1)) dL_accounts_285 (by decide) (pc' := 286) rfl ?_
      refine k_bipush C (v := 9) dL_accounts_286 (by decide) (pc' := 288) rfl ?_
      refine k_callVi C (rest := [.int b3]) (qX6_account l Γ hL M10 (-1) (-1) 9) mwX6_account iwX6_account mlL_19 (k_rm_of (by decide) (by decide)) (c2 Γ M10 7 0 (e_sea Γ (M10 7 0))) (v_7 (by decide)) rfl rfl rfl (Nat.le_of_ble_eq_true rfl) dL_accounts_288 (pc' := 291) rfl (fun r12 M13 => ?_)
      refine k_ic_ne C (tgt := 308) dL_accounts_291 (by decide) (pc' := 294) rfl (fun h14 => ?_) (fun h14 => ?_)
      · refine k_iconst C (v := 0) dL_accounts_308 (by decide) (pc' := 309) rfl ?_
        exact k_retz C rfl hr (Or.inl rfl) dL_accounts_309
      · refine k_iload C 4 dL_accounts_294 rfl (pc' := 296) rfl ?_
        refine k_aload_n C 0 dL_accounts_296 rfl rfl (pc' := 297) rfl ?_
        refine k_iconst C (v := 2) dL_accounts_297 (by decide) (pc' := 298) rfl ?_
        refine k_callVi C (rest := [.int b4]) (qX6_count l Γ hL M13 2) mwX6_count iwX6_count mlL_9 (k_rm_of (by decide) (by decide)) (c2 Γ M13 7 0 (e_sea Γ (M13 7 0))) (v_7 (by decide)) rfl rfl rfl (Nat.le_of_ble_eq_true rfl) dL_accounts_298 (pc' := 301) rfl (fun r15 M16 => ?_)
        refine k_ic_ne C (tgt := 308) dL_accounts_301 (by decide) (pc' := 304) rfl (fun h17 => ?_) (fun h17 => ?_)
        · refine k_iconst C (v := 0) dL_accounts_308 (by decide) (pc' := 309) rfl ?_
          exact k_retz C rfl hr (Or.inl rfl) dL_accounts_309
        · refine k_iconst C (v := 1) dL_accounts_304 (by decide) (pc' := 305) rfl ?_
          refine k_goto C (pc' := 309) dL_accounts_305 (by decide) ?_
          exact k_retz C rfl hr (Or.inr rfl) dL_accounts_309
def fL_accounts_b214 : Nat → kM2 → Int32 → Int32 → Int32 → Int32 → Int32 → Option (Int32 × kM2)
  | 0, _, _, _, _, _, _ => none
  | n + 1, M0, b1, b2, b3, b4, b5 =>
  bd (fX6_count M0 0) fun r5 M6 => if r5 ≤ b5 then fL_accounts_b266 M6 b1 b2 b3 b4 else if b1 = 0 then fL_accounts_b266 M6 b1 b2 b3 b4 else bd (fX6_kindOf M6 b5 4) fun r19 M20 => k_let (b2 + r19) fun v21 => bd (fX6_kindOf M20 b5 5) fun r22 M23 => k_let (b3 + r22) fun v24 => bd (fX6_kindOf M23 b5 3) fun r25 M26 => k_let (b4 + r25) fun v27 => k_let (b5 + 1) fun v28 => fL_accounts_b214 n M26 b1 v21 v24 v27 v28
set_option maxRecDepth 100000 in
set_option maxHeartbeats 4000000 in
theorem sL_accounts_b214 {l : Launch} {Γ : kG} (hL : k_Lay Γ 314) {p : Program} {e : Env} {R : Room} {s : State} {mid : MethodId} {args : Array Value} {below : List Frame} {meth : Method} {c : Code} (C : k_C Γ p R s mid args meth c cL_accounts 7 RL (k_R 5)) (hr : meth.sig.returnType = (some .boolean))  (n : Nat) : ∀ (M0 : kM2) (b1 : Int32) (b2 : Int32) (b3 : Int32) (b4 : Int32) (b5 : Int32), Sm Γ (K2 Γ) p l e R s mid args below meth c 7 (jM true Γ (K2 Γ) below args s) M0 [(0, .ref (Γ.1 7 0)), (1, .int b1), (2, .int b2), (3, .int b3), (4, .int b4), (5, .int b5)] [] 214 (fL_accounts_b214 n M0 b1 b2 b3 b4 b5) := by
  induction n with
  | zero => intros; exact k_none
  | succ n ih =>
    intro M0 b1 b2 b3 b4 b5
    unfold fL_accounts_b214
    refine k_iload C 5 dL_accounts_214 rfl (pc' := 216) rfl ?_
    refine k_aload_n C 0 dL_accounts_216 rfl rfl (pc' := 217) rfl ?_
    refine k_iconst C (v := 0) dL_accounts_217 (by decide) (pc' := 218) rfl ?_
    refine k_callVi C (rest := [.int b5]) (qX6_count l Γ hL M0 0) mwX6_count iwX6_count mlL_9 (k_rm_of (by decide) (by decide)) (c2 Γ M0 7 0 (e_sea Γ (M0 7 0))) (v_7 (by decide)) rfl rfl rfl (Nat.le_of_ble_eq_true rfl) dL_accounts_218 (pc' := 221) rfl (fun r5 M6 => ?_)
    refine k_ic_ge C (tgt := 266) dL_accounts_221 (by decide) (pc' := 224) rfl (fun h7 => ?_) (fun h7 => ?_)
    · refine k_sub [0, 1, 2, 3, 4] rfl ?_
      exact sL_accounts_b266 hL C hr M6 b1 b2 b3 b4
    · refine k_iload_n C 1 dL_accounts_224 rfl rfl (pc' := 225) rfl ?_
      refine k_if_eq C (tgt := 266) dL_accounts_225 (by decide) (pc' := 228) rfl (fun h18 => ?_) (fun h18 => ?_)
      · refine k_sub [0, 1, 2, 3, 4] rfl ?_
        exact sL_accounts_b266 hL C hr M6 b1 b2 b3 b4
      · refine k_iload_n C 2 dL_accounts_228 rfl rfl (pc' := 229) rfl ?_
        refine k_aload_n C 0 dL_accounts_229 rfl rfl (pc' := 230) rfl ?_
        refine k_iload C 5 dL_accounts_230 rfl (pc' := 232) rfl ?_
        refine k_iconst C (v := 4) dL_accounts_232 (by decide) (pc' := 233) rfl ?_
        refine k_callVi C (rest := [.int b2]) (qX6_kindOf l Γ hL M6 b5 4) mwX6_kindOf iwX6_kindOf mlL_23 (k_rm_of (by decide) (by decide)) (c2 Γ M6 7 0 (e_sea Γ (M6 7 0))) (v_7 (by decide)) rfl rfl rfl (Nat.le_of_ble_eq_true rfl) dL_accounts_233 (pc' := 236) rfl (fun r19 M20 => ?_)
        refine k_iadd C dL_accounts_236 (pc' := 237) rfl ?_
        refine k_topi (fun v21 => ?_)
        refine k_istore_n C (lv' := [(2, .int v21), (0, .ref (Γ.1 7 0)), (1, .int b1), (3, .int b3), (4, .int b4), (5, .int b5)]) dL_accounts_237 rfl (by decide) rfl (pc' := 238) rfl ?_
        refine k_iload_n C 3 dL_accounts_238 rfl rfl (pc' := 239) rfl ?_
        refine k_aload_n C 1 dL_accounts_239 rfl rfl (pc' := 240) rfl ?_
        refine k_iload C 5 dL_accounts_240 rfl (pc' := 242) rfl ?_
        refine k_iconst C (v := 5) dL_accounts_242 (by decide) (pc' := 243) rfl ?_
        refine k_callVi C (rest := [.int b3]) (qX6_kindOf l Γ hL M20 b5 5) mwX6_kindOf iwX6_kindOf mlL_23 (k_rm_of (by decide) (by decide)) (c2 Γ M20 7 0 (e_sea Γ (M20 7 0))) (v_7 (by decide)) rfl rfl rfl (Nat.le_of_ble_eq_true rfl) dL_accounts_243 (pc' := 246) rfl (fun r22 M23 => ?_)
        refine k_iadd C dL_accounts_246 (pc' := 247) rfl ?_
        refine k_topi (fun v24 => ?_)
        refine k_istore_n C (lv' := [(3, .int v24), (2, .int v21), (0, .ref (Γ.1 7 0)), (1, .int b1), (4, .int b4), (5, .int b5)]) dL_accounts_247 rfl (by decide) rfl (pc' := 248) rfl ?_
        refine k_iload C 4 dL_accounts_248 rfl (pc' := 250) rfl ?_
        refine k_aload_n C 2 dL_accounts_250 rfl rfl (pc' := 251) rfl ?_
        refine k_iload C 5 dL_accounts_251 rfl (pc' := 253) rfl ?_
        refine k_iconst C (v := 3) dL_accounts_253 (by decide) (pc' := 254) rfl ?_
        refine k_callVi C (rest := [.int b4]) (qX6_kindOf l Γ hL M23 b5 3) mwX6_kindOf iwX6_kindOf mlL_23 (k_rm_of (by decide) (by decide)) (c2 Γ M23 7 0 (e_sea Γ (M23 7 0))) (v_7 (by decide)) rfl rfl rfl (Nat.le_of_ble_eq_true rfl) dL_accounts_254 (pc' := 257) rfl (fun r25 M26 => ?_)
        refine k_iadd C dL_accounts_257 (pc' := 258) rfl ?_
        refine k_topi (fun v27 => ?_)
        refine k_istore C (lv' := [(4, .int v27), (3, .int v24), (2, .int v21), (0, .ref (Γ.1 7 0)), (1, .int b1), (5, .int b5)]) dL_accounts_258 (by decide) rfl (pc' := 260) rfl ?_
        refine k_iinc (v := 1) (q := 5) (lv' := [(4, .int v27), (3, .int v24), (2, .int v21), (0, .ref (Γ.1 7 0)), (1, .int b1)]) C dL_accounts_260 rfl (by decide) (by decide) (pc' := 263) rfl (fun _ => rfl) (fun v28 => ?_)
        refine k_goto C (pc' := 214) dL_accounts_263 (by decide) ?_
        refine k_sub [4, 5, 3, 2, 1, 0] rfl ?_
        exact ih M26 b1 v21 v24 v27 v28
def fL_accounts_b204   (M0 : kM2) (b1 : Int32) : Option (Int32 × kM2) :=
  fL_accounts_b214 kFu M0 b1 0 0 0 0
set_option maxRecDepth 100000 in
set_option maxHeartbeats 4000000 in
theorem sL_accounts_b204 {l : Launch} {Γ : kG} (hL : k_Lay Γ 314) {p : Program} {e : Env} {R : Room} {s : State} {mid : MethodId} {args : Array Value} {below : List Frame} {meth : Method} {c : Code} (C : k_C Γ p R s mid args meth c cL_accounts 7 RL (k_R 5)) (hr : meth.sig.returnType = (some .boolean))  (M0 : kM2) (b1 : Int32)  : Sm Γ (K2 Γ) p l e R s mid args below meth c 7 (jM true Γ (K2 Γ) below args s) M0 [(0, .ref (Γ.1 7 0)), (1, .int b1)] [] 204 (fL_accounts_b204 M0 b1) := by
  unfold fL_accounts_b204
  refine k_iconst C (v := 0) dL_accounts_204 (by decide) (pc' := 205) rfl ?_
  refine k_istore_n C (lv' := [(2, .int 0), (0, .ref (Γ.1 7 0)), (1, .int b1)]) dL_accounts_205 rfl (by decide) rfl (pc' := 206) rfl ?_
  refine k_iconst C (v := 0) dL_accounts_206 (by decide) (pc' := 207) rfl ?_
  refine k_istore_n C (lv' := [(3, .int 0), (2, .int 0), (0, .ref (Γ.1 7 0)), (1, .int b1)]) dL_accounts_207 rfl (by decide) rfl (pc' := 208) rfl ?_
  refine k_iconst C (v := 0) dL_accounts_208 (by decide) (pc' := 209) rfl ?_
  refine k_istore C (lv' := [(4, .int 0), (3, .int 0), (2, .int 0), (0, .ref (Γ.1 7 0)), (1, .int b1)]) dL_accounts_209 (by decide) rfl (pc' := 211) rfl ?_
  refine k_iconst C (v := 0) dL_accounts_211 (by decide) (pc' := 212) rfl ?_
  refine k_istore C (lv' := [(5, .int 0), (4, .int 0), (3, .int 0), (2, .int 0), (0, .ref (Γ.1 7 0)), (1, .int b1)]) dL_accounts_212 (by decide) rfl (pc' := 214) rfl ?_
  refine k_sub [4, 5, 3, 2, 1, 0] rfl ?_
  exact sL_accounts_b214 hL C hr kFu M0 b1 0 0 0 0
def fL_accounts_b197  (rec92 : kM2 → Int32 → Int32 → Option (Int32 × kM2)) (M0 : kM2) (b2 : Int32) (t0 : Int32) : Option (Int32 × kM2) :=
  k_let (b2 + 1) fun v39 => rec92 M0 t0 v39
set_option maxRecDepth 100000 in
set_option maxHeartbeats 4000000 in
theorem sL_accounts_b197 {l : Launch} {Γ : kG} (hL : k_Lay Γ 314) {p : Program} {e : Env} {R : Room} {s : State} {mid : MethodId} {args : Array Value} {below : List Frame} {meth : Method} {c : Code} (C : k_C Γ p R s mid args meth c cL_accounts 7 RL (k_R 5)) (hr : meth.sig.returnType = (some .boolean)) (rec92 : kM2 → Int32 → Int32 → Option (Int32 × kM2)) (hrec92 : ∀ (M0 : kM2) (b1 : Int32) (b2 : Int32), Sm Γ (K2 Γ) p l e R s mid args below meth c 7 (jM true Γ (K2 Γ) below args s) M0 [(0, .ref (Γ.1 7 0)), (1, .int b1), (2, .int b2)] [] 92 (rec92 M0 b1 b2)) (M0 : kM2) (b2 : Int32) (t0 : Int32)  : Sm Γ (K2 Γ) p l e R s mid args below meth c 7 (jM true Γ (K2 Γ) below args s) M0 [(0, .ref (Γ.1 7 0)), (2, .int b2)] [.int t0] 197 (fL_accounts_b197 rec92 M0 b2 t0) := by
  unfold fL_accounts_b197
  refine k_istore_n C (lv' := [(1, .int t0), (0, .ref (Γ.1 7 0)), (2, .int b2)]) dL_accounts_197 rfl (by decide) rfl (pc' := 198) rfl ?_
  refine k_iinc (v := 1) (q := 2) (lv' := [(1, .int t0), (0, .ref (Γ.1 7 0))]) C dL_accounts_198 rfl (by decide) (by decide) (pc' := 201) rfl (fun _ => rfl) (fun v39 => ?_)
  refine k_goto C (pc' := 92) dL_accounts_201 (by decide) ?_
  refine k_sub [2, 1, 0] rfl ?_
  exact hrec92 M0 t0 v39
def fL_accounts_b196  (rec92 : kM2 → Int32 → Int32 → Option (Int32 × kM2)) (M0 : kM2) (b2 : Int32) : Option (Int32 × kM2) :=
  fL_accounts_b197 rec92 M0 b2 0
set_option maxRecDepth 100000 in
set_option maxHeartbeats 4000000 in
theorem sL_accounts_b196 {l : Launch} {Γ : kG} (hL : k_Lay Γ 314) {p : Program} {e : Env} {R : Room} {s : State} {mid : MethodId} {args : Array Value} {below : List Frame} {meth : Method} {c : Code} (C : k_C Γ p R s mid args meth c cL_accounts 7 RL (k_R 5)) (hr : meth.sig.returnType = (some .boolean)) (rec92 : kM2 → Int32 → Int32 → Option (Int32 × kM2)) (hrec92 : ∀ (M0 : kM2) (b1 : Int32) (b2 : Int32), Sm Γ (K2 Γ) p l e R s mid args below meth c 7 (jM true Γ (K2 Γ) below args s) M0 [(0, .ref (Γ.1 7 0)), (1, .int b1), (2, .int b2)] [] 92 (rec92 M0 b1 b2)) (M0 : kM2) (b2 : Int32)  : Sm Γ (K2 Γ) p l e R s mid args below meth c 7 (jM true Γ (K2 Γ) below args s) M0 [(0, .ref (Γ.1 7 0)), (2, .int b2)] [] 196 (fL_accounts_b196 rec92 M0 b2) := by
  unfold fL_accounts_b196
  refine k_iconst C (v := 0) dL_accounts_196 (by decide) (pc' := 197) rfl ?_
  exact sL_accounts_b197 hL C hr rec92 hrec92 M0 b2 0
def fL_accounts_b151  (rec92 : kM2 → Int32 → Int32 → Option (Int32 × kM2)) : Nat → kM2 → Int32 → Int32 → Int32 → Int32 → Int32 → Option (Int32 × kM2)
  | 0, _, _, _, _, _, _ => none
  | n + 1, M0, b2, b3, b4, b5, b6 =>
  bd (fX6_count M0 0) fun r35 M36 => if r35 ≤ b6 then if b3 = b4 then if b3 = b5 then fL_accounts_b197 rec92 M36 b2 1 else fL_accounts_b196 rec92 M36 b2 else fL_accounts_b196 rec92 M36 b2 else bd (fX6_account M36 (-1) b6 b2) fun r41 M42 => k_let (b5 + r41) fun v43 => k_let (b6 + 1) fun v44 => fL_accounts_b151 rec92 n M42 b2 b3 b4 v43 v44
set_option maxRecDepth 100000 in
set_option maxHeartbeats 4000000 in
theorem sL_accounts_b151 {l : Launch} {Γ : kG} (hL : k_Lay Γ 314) {p : Program} {e : Env} {R : Room} {s : State} {mid : MethodId} {args : Array Value} {below : List Frame} {meth : Method} {c : Code} (C : k_C Γ p R s mid args meth c cL_accounts 7 RL (k_R 5)) (hr : meth.sig.returnType = (some .boolean)) (rec92 : kM2 → Int32 → Int32 → Option (Int32 × kM2)) (hrec92 : ∀ (M0 : kM2) (b1 : Int32) (b2 : Int32), Sm Γ (K2 Γ) p l e R s mid args below meth c 7 (jM true Γ (K2 Γ) below args s) M0 [(0, .ref (Γ.1 7 0)), (1, .int b1), (2, .int b2)] [] 92 (rec92 M0 b1 b2)) (n : Nat) : ∀ (M0 : kM2) (b2 : Int32) (b3 : Int32) (b4 : Int32) (b5 : Int32) (b6 : Int32), Sm Γ (K2 Γ) p l e R s mid args below meth c 7 (jM true Γ (K2 Γ) below args s) M0 [(0, .ref (Γ.1 7 0)), (2, .int b2), (3, .int b3), (4, .int b4), (5, .int b5), (6, .int b6)] [] 151 (fL_accounts_b151 rec92 n M0 b2 b3 b4 b5 b6) := by
  induction n with
  | zero => intros; exact k_none
  | succ n ih =>
    intro M0 b2 b3 b4 b5 b6
    unfold fL_accounts_b151
    refine k_iload C 5 dL_accounts_151 rfl (pc' := 153) rfl ?_
    refine k_aload_n C 0 dL_accounts_153 rfl rfl (pc' := 154) rfl ?_
    refine k_iconst C (v := 0) dL_accounts_154 (by decide) (pc' := 155) rfl ?_
    refine k_callVi C (rest := [.int b6]) (qX6_count l Γ hL M0 0) mwX6_count iwX6_count mlL_9 (k_rm_of (by decide) (by decide)) (c2 Γ M0 7 0 (e_sea Γ (M0 7 0))) (v_7 (by decide)) rfl rfl rfl (Nat.le_of_ble_eq_true rfl) dL_accounts_155 (pc' := 158) rfl (fun r35 M36 => ?_)
    refine k_ic_ge C (tgt := 180) dL_accounts_158 (by decide) (pc' := 161) rfl (fun h37 => ?_) (fun h37 => ?_)
    · refine k_iload_n C 2 dL_accounts_180 rfl rfl (pc' := 181) rfl ?_
      refine k_iload C 3 dL_accounts_181 rfl (pc' := 183) rfl ?_
      refine k_ic_ne C (tgt := 196) dL_accounts_183 (by decide) (pc' := 186) rfl (fun h38 => ?_) (fun h38 => ?_)
      · refine k_sub [0, 1] rfl ?_
        exact sL_accounts_b196 hL C hr rec92 hrec92 M36 b2
      · refine k_iload_n C 2 dL_accounts_186 rfl rfl (pc' := 187) rfl ?_
        refine k_iload C 4 dL_accounts_187 rfl (pc' := 189) rfl ?_
        refine k_ic_ne C (tgt := 196) dL_accounts_189 (by decide) (pc' := 192) rfl (fun h40 => ?_) (fun h40 => ?_)
        · refine k_sub [0, 1] rfl ?_
          exact sL_accounts_b196 hL C hr rec92 hrec92 M36 b2
        · refine k_iconst C (v := 1) dL_accounts_192 (by decide) (pc' := 193) rfl ?_
          refine k_goto C (pc' := 197) dL_accounts_193 (by decide) ?_
          refine k_sub [0, 1] rfl ?_
          exact sL_accounts_b197 hL C hr rec92 hrec92 M36 b2 1
    · refine k_iload C 4 dL_accounts_161 rfl (pc' := 163) rfl ?_
      refine k_aload_n C 0 dL_accounts_163 rfl rfl (pc' := 164) rfl ?_
      refine k_iconst C (v := (-1)) dL_accounts_164 (by decide) (pc' := 165) rfl ?_
      refine k_iload C 5 dL_accounts_165 rfl (pc' := 167) rfl ?_
      refine k_iload_n C 1 dL_accounts_167 rfl rfl (pc' := 168) rfl ?_
      refine k_callVi C (rest := [.int b5]) (qX6_account l Γ hL M36 (-1) b6 b2) mwX6_account iwX6_account mlL_19 (k_rm_of (by decide) (by decide)) (c2 Γ M36 7 0 (e_sea Γ (M36 7 0))) (v_7 (by decide)) rfl rfl rfl (Nat.le_of_ble_eq_true rfl) dL_accounts_168 (pc' := 171) rfl (fun r41 M42 => ?_)
      refine k_iadd C dL_accounts_171 (pc' := 172) rfl ?_
      refine k_topi (fun v43 => ?_)
      refine k_istore C (lv' := [(5, .int v43), (0, .ref (Γ.1 7 0)), (2, .int b2), (3, .int b3), (4, .int b4), (6, .int b6)]) dL_accounts_172 (by decide) rfl (pc' := 174) rfl ?_
      refine k_iinc (v := 1) (q := 5) (lv' := [(5, .int v43), (0, .ref (Γ.1 7 0)), (2, .int b2), (3, .int b3), (4, .int b4)]) C dL_accounts_174 rfl (by decide) (by decide) (pc' := 177) rfl (fun _ => rfl) (fun v44 => ?_)
      refine k_goto C (pc' := 151) dL_accounts_177 (by decide) ?_
      refine k_sub [2, 3, 4, 5, 1, 0] rfl ?_
      exact ih M42 b2 b3 b4 v43 v44
def fL_accounts_b119  (rec92 : kM2 → Int32 → Int32 → Option (Int32 × kM2)) : Nat → kM2 → Int32 → Int32 → Int32 → Int32 → Int32 → Option (Int32 × kM2)
  | 0, _, _, _, _, _, _ => none
  | n + 1, M0, b2, b3, b4, b5, b6 =>
  bd (fX6_count M0 1) fun r32 M33 => if r32 ≤ b6 then fL_accounts_b151 rec92 kFu M33 b2 b3 b4 b5 0 else bd (fX6_account M33 b6 (-1) b2) fun r45 M46 => k_let (b4 + r45) fun v47 => k_let (b6 + 1) fun v48 => fL_accounts_b119 rec92 n M46 b2 b3 v47 b5 v48
set_option maxRecDepth 100000 in
set_option maxHeartbeats 4000000 in
theorem sL_accounts_b119 {l : Launch} {Γ : kG} (hL : k_Lay Γ 314) {p : Program} {e : Env} {R : Room} {s : State} {mid : MethodId} {args : Array Value} {below : List Frame} {meth : Method} {c : Code} (C : k_C Γ p R s mid args meth c cL_accounts 7 RL (k_R 5)) (hr : meth.sig.returnType = (some .boolean)) (rec92 : kM2 → Int32 → Int32 → Option (Int32 × kM2)) (hrec92 : ∀ (M0 : kM2) (b1 : Int32) (b2 : Int32), Sm Γ (K2 Γ) p l e R s mid args below meth c 7 (jM true Γ (K2 Γ) below args s) M0 [(0, .ref (Γ.1 7 0)), (1, .int b1), (2, .int b2)] [] 92 (rec92 M0 b1 b2)) (n : Nat) : ∀ (M0 : kM2) (b2 : Int32) (b3 : Int32) (b4 : Int32) (b5 : Int32) (b6 : Int32), Sm Γ (K2 Γ) p l e R s mid args below meth c 7 (jM true Γ (K2 Γ) below args s) M0 [(0, .ref (Γ.1 7 0)), (2, .int b2), (3, .int b3), (4, .int b4), (5, .int b5), (6, .int b6)] [] 119 (fL_accounts_b119 rec92 n M0 b2 b3 b4 b5 b6) := by
  induction n with
  | zero => intros; exact k_none
  | succ n ih =>
    intro M0 b2 b3 b4 b5 b6
    unfold fL_accounts_b119
    refine k_iload C 5 dL_accounts_119 rfl (pc' := 121) rfl ?_
    refine k_aload_n C 0 dL_accounts_121 rfl rfl (pc' := 122) rfl ?_
    refine k_iconst C (v := 1) dL_accounts_122 (by decide) (pc' := 123) rfl ?_
    refine k_callVi C (rest := [.int b6]) (qX6_count l Γ hL M0 1) mwX6_count iwX6_count mlL_9 (k_rm_of (by decide) (by decide)) (c2 Γ M0 7 0 (e_sea Γ (M0 7 0))) (v_7 (by decide)) rfl rfl rfl (Nat.le_of_ble_eq_true rfl) dL_accounts_123 (pc' := 126) rfl (fun r32 M33 => ?_)
    refine k_ic_ge C (tgt := 148) dL_accounts_126 (by decide) (pc' := 129) rfl (fun h34 => ?_) (fun h34 => ?_)
    · refine k_iconst C (v := 0) dL_accounts_148 (by decide) (pc' := 149) rfl ?_
      refine k_istore C (lv' := [(6, .int 0), (0, .ref (Γ.1 7 0)), (2, .int b2), (3, .int b3), (4, .int b4), (5, .int b5)]) dL_accounts_149 (by decide) rfl (pc' := 151) rfl ?_
      refine k_sub [1, 2, 3, 4, 5, 0] rfl ?_
      exact sL_accounts_b151 hL C hr rec92 hrec92 kFu M33 b2 b3 b4 b5 0
    · refine k_iload C 3 dL_accounts_129 rfl (pc' := 131) rfl ?_
      refine k_aload_n C 0 dL_accounts_131 rfl rfl (pc' := 132) rfl ?_
      refine k_iload C 5 dL_accounts_132 rfl (pc' := 134) rfl ?_
      refine k_iconst C (v := (-1)) dL_accounts_134 (by decide) (pc' := 135) rfl ?_
      refine k_iload_n C 1 dL_accounts_135 rfl rfl (pc' := 136) rfl ?_
      refine k_callVi C (rest := [.int b4]) (qX6_account l Γ hL M33 b6 (-1) b2) mwX6_account iwX6_account mlL_19 (k_rm_of (by decide) (by decide)) (c2 Γ M33 7 0 (e_sea Γ (M33 7 0))) (v_7 (by decide)) rfl rfl rfl (Nat.le_of_ble_eq_true rfl) dL_accounts_136 (pc' := 139) rfl (fun r45 M46 => ?_)
      refine k_iadd C dL_accounts_139 (pc' := 140) rfl ?_
      refine k_topi (fun v47 => ?_)
      refine k_istore C (lv' := [(4, .int v47), (0, .ref (Γ.1 7 0)), (2, .int b2), (3, .int b3), (5, .int b5), (6, .int b6)]) dL_accounts_140 (by decide) rfl (pc' := 142) rfl ?_
      refine k_iinc (v := 1) (q := 5) (lv' := [(4, .int v47), (0, .ref (Γ.1 7 0)), (2, .int b2), (3, .int b3), (5, .int b5)]) C dL_accounts_142 rfl (by decide) (by decide) (pc' := 145) rfl (fun _ => rfl) (fun v48 => ?_)
      refine k_goto C (pc' := 119) dL_accounts_145 (by decide) ?_
      refine k_sub [2, 3, 4, 1, 5, 0] rfl ?_
      exact ih M46 b2 b3 v47 b5 v48
def fL_accounts_b92 : Nat → kM2 → Int32 → Int32 → Option (Int32 × kM2)
  | 0, _, _, _ => none
  | n + 1, M0, b1, b2 =>
  if 11 ≤ b2 then fL_accounts_b204 M0 b1 else if b1 = 0 then fL_accounts_b204 M0 b1 else bd (fX6_account M0 (-1) (-1) b2) fun r30 M31 => fL_accounts_b119 (fL_accounts_b92 n) kFu M31 b2 r30 0 0 0
set_option maxRecDepth 100000 in
set_option maxHeartbeats 4000000 in
theorem sL_accounts_b92 {l : Launch} {Γ : kG} (hL : k_Lay Γ 314) {p : Program} {e : Env} {R : Room} {s : State} {mid : MethodId} {args : Array Value} {below : List Frame} {meth : Method} {c : Code} (C : k_C Γ p R s mid args meth c cL_accounts 7 RL (k_R 5)) (hr : meth.sig.returnType = (some .boolean))  (n : Nat) : ∀ (M0 : kM2) (b1 : Int32) (b2 : Int32), Sm Γ (K2 Γ) p l e R s mid args below meth c 7 (jM true Γ (K2 Γ) below args s) M0 [(0, .ref (Γ.1 7 0)), (1, .int b1), (2, .int b2)] [] 92 (fL_accounts_b92 n M0 b1 b2) := by
  induction n with
  | zero => intros; exact k_none
  | succ n ih =>
    intro M0 b1 b2
    unfold fL_accounts_b92
    refine k_iload_n C 2 dL_accounts_92 rfl rfl (pc' := 93) rfl ?_
    refine k_bipush C (v := 11) dL_accounts_93 (by decide) (pc' := 95) rfl ?_
    refine k_ic_ge C (tgt := 204) dL_accounts_95 (by decide) (pc' := 98) rfl (fun h4 => ?_) (fun h4 => ?_)
    · refine k_sub [0, 1] rfl ?_
      exact sL_accounts_b204 hL C hr M0 b1
    · refine k_iload_n C 1 dL_accounts_98 rfl rfl (pc' := 99) rfl ?_
      refine k_if_eq C (tgt := 204) dL_accounts_99 (by decide) (pc' := 102) rfl (fun h29 => ?_) (fun h29 => ?_)
      · refine k_sub [0, 1] rfl ?_
        exact sL_accounts_b204 hL C hr M0 b1
      · refine k_aload_n C 0 dL_accounts_102 rfl rfl (pc' := 103) rfl ?_
        refine k_iconst C (v := (-1)) dL_accounts_103 (by decide) (pc' := 104) rfl ?_
        refine k_iconst C (v := (-1)) dL_accounts_104 (by decide) (pc' := 105) rfl ?_
        refine k_iload_n C 2 dL_accounts_105 rfl rfl (pc' := 106) rfl ?_
        refine k_callVi C (rest := []) (qX6_account l Γ hL M0 (-1) (-1) b2) mwX6_account iwX6_account mlL_19 (k_rm_of (by decide) (by decide)) (c2 Γ M0 7 0 (e_sea Γ (M0 7 0))) (v_7 (by decide)) rfl rfl rfl (Nat.le_of_ble_eq_true rfl) dL_accounts_106 (pc' := 109) rfl (fun r30 M31 => ?_)
        refine k_istore_n C (lv' := [(3, .int r30), (0, .ref (Γ.1 7 0)), (1, .int b1), (2, .int b2)]) dL_accounts_109 rfl (by decide) rfl (pc' := 110) rfl ?_
        refine k_iconst C (v := 0) dL_accounts_110 (by decide) (pc' := 111) rfl ?_
        refine k_istore C (lv' := [(4, .int 0), (3, .int r30), (0, .ref (Γ.1 7 0)), (1, .int b1), (2, .int b2)]) dL_accounts_111 (by decide) rfl (pc' := 113) rfl ?_
        refine k_iconst C (v := 0) dL_accounts_113 (by decide) (pc' := 114) rfl ?_
        refine k_istore C (lv' := [(5, .int 0), (4, .int 0), (3, .int r30), (0, .ref (Γ.1 7 0)), (1, .int b1), (2, .int b2)]) dL_accounts_114 (by decide) rfl (pc' := 116) rfl ?_
        refine k_iconst C (v := 0) dL_accounts_116 (by decide) (pc' := 117) rfl ?_
        refine k_istore C (lv' := [(6, .int 0), (5, .int 0), (4, .int 0), (3, .int r30), (0, .ref (Γ.1 7 0)), (1, .int b1), (2, .int b2)]) dL_accounts_117 (by decide) rfl (pc' := 119) rfl ?_
        refine k_sub [4, 6, 3, 2, 1, 0] rfl ?_
        exact sL_accounts_b119 hL C hr (fL_accounts_b92 n) ih kFu M31 b2 r30 0 0 0
def fL_accounts_b90   (M0 : kM2) (b1 : Int32) : Option (Int32 × kM2) :=
  fL_accounts_b92 kFu M0 b1 4
set_option maxRecDepth 100000 in
set_option maxHeartbeats 4000000 in
theorem sL_accounts_b90 {l : Launch} {Γ : kG} (hL : k_Lay Γ 314) {p : Program} {e : Env} {R : Room} {s : State} {mid : MethodId} {args : Array Value} {below : List Frame} {meth : Method} {c : Code} (C : k_C Γ p R s mid args meth c cL_accounts 7 RL (k_R 5)) (hr : meth.sig.returnType = (some .boolean))  (M0 : kM2) (b1 : Int32)  : Sm Γ (K2 Γ) p l e R s mid args below meth c 7 (jM true Γ (K2 Γ) below args s) M0 [(0, .ref (Γ.1 7 0)), (1, .int b1)] [] 90 (fL_accounts_b90 M0 b1) := by
  unfold fL_accounts_b90
  refine k_iconst C (v := 4) dL_accounts_90 (by decide) (pc' := 91) rfl ?_
  refine k_istore_n C (lv' := [(2, .int 4), (0, .ref (Γ.1 7 0)), (1, .int b1)]) dL_accounts_91 rfl (by decide) rfl (pc' := 92) rfl ?_
  refine k_sub [1, 2, 0] rfl ?_
  exact sL_accounts_b92 hL C hr kFu M0 b1 4
def fL_accounts_b83  (rec4 : kM2 → Int32 → Int32 → Option (Int32 × kM2)) (M0 : kM2) (b2 : Int32) (t0 : Int32) : Option (Int32 × kM2) :=
  k_let (b2 + 1) fun v52 => rec4 M0 t0 v52
set_option maxRecDepth 100000 in
set_option maxHeartbeats 4000000 in
theorem sL_accounts_b83 {l : Launch} {Γ : kG} (hL : k_Lay Γ 314) {p : Program} {e : Env} {R : Room} {s : State} {mid : MethodId} {args : Array Value} {below : List Frame} {meth : Method} {c : Code} (C : k_C Γ p R s mid args meth c cL_accounts 7 RL (k_R 5)) (hr : meth.sig.returnType = (some .boolean)) (rec4 : kM2 → Int32 → Int32 → Option (Int32 × kM2)) (hrec4 : ∀ (M0 : kM2) (b1 : Int32) (b2 : Int32), Sm Γ (K2 Γ) p l e R s mid args below meth c 7 (jM true Γ (K2 Γ) below args s) M0 [(0, .ref (Γ.1 7 0)), (1, .int b1), (2, .int b2)] [] 4 (rec4 M0 b1 b2)) (M0 : kM2) (b2 : Int32) (t0 : Int32)  : Sm Γ (K2 Γ) p l e R s mid args below meth c 7 (jM true Γ (K2 Γ) below args s) M0 [(0, .ref (Γ.1 7 0)), (2, .int b2)] [.int t0] 83 (fL_accounts_b83 rec4 M0 b2 t0) := by
  unfold fL_accounts_b83
  refine k_istore_n C (lv' := [(1, .int t0), (0, .ref (Γ.1 7 0)), (2, .int b2)]) dL_accounts_83 rfl (by decide) rfl (pc' := 84) rfl ?_
  refine k_iinc (v := 1) (q := 2) (lv' := [(1, .int t0), (0, .ref (Γ.1 7 0))]) C dL_accounts_84 rfl (by decide) (by decide) (pc' := 87) rfl (fun _ => rfl) (fun v52 => ?_)
  refine k_goto C (pc' := 4) dL_accounts_87 (by decide) ?_
  refine k_sub [2, 1, 0] rfl ?_
  exact hrec4 M0 t0 v52
def fL_accounts_b82  (rec4 : kM2 → Int32 → Int32 → Option (Int32 × kM2)) (M0 : kM2) (b2 : Int32) : Option (Int32 × kM2) :=
  fL_accounts_b83 rec4 M0 b2 0
set_option maxRecDepth 100000 in
set_option maxHeartbeats 4000000 in
theorem sL_accounts_b82 {l : Launch} {Γ : kG} (hL : k_Lay Γ 314) {p : Program} {e : Env} {R : Room} {s : State} {mid : MethodId} {args : Array Value} {below : List Frame} {meth : Method} {c : Code} (C : k_C Γ p R s mid args meth c cL_accounts 7 RL (k_R 5)) (hr : meth.sig.returnType = (some .boolean)) (rec4 : kM2 → Int32 → Int32 → Option (Int32 × kM2)) (hrec4 : ∀ (M0 : kM2) (b1 : Int32) (b2 : Int32), Sm Γ (K2 Γ) p l e R s mid args below meth c 7 (jM true Γ (K2 Γ) below args s) M0 [(0, .ref (Γ.1 7 0)), (1, .int b1), (2, .int b2)] [] 4 (rec4 M0 b1 b2)) (M0 : kM2) (b2 : Int32)  : Sm Γ (K2 Γ) p l e R s mid args below meth c 7 (jM true Γ (K2 Γ) below args s) M0 [(0, .ref (Γ.1 7 0)), (2, .int b2)] [] 82 (fL_accounts_b82 rec4 M0 b2) := by
  unfold fL_accounts_b82
  refine k_iconst C (v := 0) dL_accounts_82 (by decide) (pc' := 83) rfl ?_
  exact sL_accounts_b83 hL C hr rec4 hrec4 M0 b2 0
def fL_accounts_b52  (rec4 : kM2 → Int32 → Int32 → Option (Int32 × kM2)) (rec22 : kM2 → Int32 → Int32 → Int32 → Int32 → Option (Int32 × kM2)) (M0 : kM2) (b2 : Int32) (b3 : Int32) (b4 : Int32) (b5 : Int32) (t0 : Int32) : Option (Int32 × kM2) :=
  k_let (b3 + b5) fun v59 => k_let (b4 + 1) fun v60 => rec22 M0 t0 b2 v59 v60
set_option maxRecDepth 100000 in
set_option maxHeartbeats 4000000 in
theorem sL_accounts_b52 {l : Launch} {Γ : kG} (hL : k_Lay Γ 314) {p : Program} {e : Env} {R : Room} {s : State} {mid : MethodId} {args : Array Value} {below : List Frame} {meth : Method} {c : Code} (C : k_C Γ p R s mid args meth c cL_accounts 7 RL (k_R 5)) (hr : meth.sig.returnType = (some .boolean)) (rec4 : kM2 → Int32 → Int32 → Option (Int32 × kM2)) (hrec4 : ∀ (M0 : kM2) (b1 : Int32) (b2 : Int32), Sm Γ (K2 Γ) p l e R s mid args below meth c 7 (jM true Γ (K2 Γ) below args s) M0 [(0, .ref (Γ.1 7 0)), (1, .int b1), (2, .int b2)] [] 4 (rec4 M0 b1 b2)) (rec22 : kM2 → Int32 → Int32 → Int32 → Int32 → Option (Int32 × kM2)) (hrec22 : ∀ (M0 : kM2) (b1 : Int32) (b2 : Int32) (b3 : Int32) (b4 : Int32), Sm Γ (K2 Γ) p l e R s mid args below meth c 7 (jM true Γ (K2 Γ) below args s) M0 [(0, .ref (Γ.1 7 0)), (1, .int b1), (2, .int b2), (3, .int b3), (4, .int b4)] [] 22 (rec22 M0 b1 b2 b3 b4)) (M0 : kM2) (b2 : Int32) (b3 : Int32) (b4 : Int32) (b5 : Int32) (t0 : Int32)  : Sm Γ (K2 Γ) p l e R s mid args below meth c 7 (jM true Γ (K2 Γ) below args s) M0 [(0, .ref (Γ.1 7 0)), (2, .int b2), (3, .int b3), (4, .int b4), (5, .int b5)] [.int t0] 52 (fL_accounts_b52 rec4 rec22 M0 b2 b3 b4 b5 t0) := by
  unfold fL_accounts_b52
  refine k_istore_n C (lv' := [(1, .int t0), (0, .ref (Γ.1 7 0)), (2, .int b2), (3, .int b3), (4, .int b4), (5, .int b5)]) dL_accounts_52 rfl (by decide) rfl (pc' := 53) rfl ?_
  refine k_iload_n C 3 dL_accounts_53 rfl rfl (pc' := 54) rfl ?_
  refine k_iload C 5 dL_accounts_54 rfl (pc' := 56) rfl ?_
  refine k_iadd C dL_accounts_56 (pc' := 57) rfl ?_
  refine k_topi (fun v59 => ?_)
  refine k_istore_n C (lv' := [(3, .int v59), (1, .int t0), (0, .ref (Γ.1 7 0)), (2, .int b2), (4, .int b4), (5, .int b5)]) dL_accounts_57 rfl (by decide) rfl (pc' := 58) rfl ?_
  refine k_iinc (v := 1) (q := 4) (lv' := [(3, .int v59), (1, .int t0), (0, .ref (Γ.1 7 0)), (2, .int b2), (5, .int b5)]) C dL_accounts_58 rfl (by decide) (by decide) (pc' := 61) rfl (fun _ => rfl) (fun v60 => ?_)
  refine k_goto C (pc' := 22) dL_accounts_61 (by decide) ?_
  refine k_sub [3, 2, 4, 1, 0] rfl ?_
  exact hrec22 M0 t0 b2 v59 v60
def fL_accounts_b51  (rec4 : kM2 → Int32 → Int32 → Option (Int32 × kM2)) (rec22 : kM2 → Int32 → Int32 → Int32 → Int32 → Option (Int32 × kM2)) (M0 : kM2) (b2 : Int32) (b3 : Int32) (b4 : Int32) (b5 : Int32) : Option (Int32 × kM2) :=
  fL_accounts_b52 rec4 rec22 M0 b2 b3 b4 b5 0
set_option maxRecDepth 100000 in
set_option maxHeartbeats 4000000 in
theorem sL_accounts_b51 {l : Launch} {Γ : kG} (hL : k_Lay Γ 314) {p : Program} {e : Env} {R : Room} {s : State} {mid : MethodId} {args : Array Value} {below : List Frame} {meth : Method} {c : Code} (C : k_C Γ p R s mid args meth c cL_accounts 7 RL (k_R 5)) (hr : meth.sig.returnType = (some .boolean)) (rec4 : kM2 → Int32 → Int32 → Option (Int32 × kM2)) (hrec4 : ∀ (M0 : kM2) (b1 : Int32) (b2 : Int32), Sm Γ (K2 Γ) p l e R s mid args below meth c 7 (jM true Γ (K2 Γ) below args s) M0 [(0, .ref (Γ.1 7 0)), (1, .int b1), (2, .int b2)] [] 4 (rec4 M0 b1 b2)) (rec22 : kM2 → Int32 → Int32 → Int32 → Int32 → Option (Int32 × kM2)) (hrec22 : ∀ (M0 : kM2) (b1 : Int32) (b2 : Int32) (b3 : Int32) (b4 : Int32), Sm Γ (K2 Γ) p l e R s mid args below meth c 7 (jM true Γ (K2 Γ) below args s) M0 [(0, .ref (Γ.1 7 0)), (1, .int b1), (2, .int b2), (3, .int b3), (4, .int b4)] [] 22 (rec22 M0 b1 b2 b3 b4)) (M0 : kM2) (b2 : Int32) (b3 : Int32) (b4 : Int32) (b5 : Int32)  : Sm Γ (K2 Γ) p l e R s mid args below meth c 7 (jM true Γ (K2 Γ) below args s) M0 [(0, .ref (Γ.1 7 0)), (2, .int b2), (3, .int b3), (4, .int b4), (5, .int b5)] [] 51 (fL_accounts_b51 rec4 rec22 M0 b2 b3 b4 b5) := by
  unfold fL_accounts_b51
  refine k_iconst C (v := 0) dL_accounts_51 (by decide) (pc' := 52) rfl ?_
  exact sL_accounts_b52 hL C hr rec4 hrec4 rec22 hrec22 M0 b2 b3 b4 b5 0
def fL_accounts_b22  (rec4 : kM2 → Int32 → Int32 → Option (Int32 × kM2)) : Nat → kM2 → Int32 → Int32 → Int32 → Int32 → Option (Int32 × kM2)
  | 0, _, _, _, _, _ => none
  | n + 1, M0, b1, b2, b3, b4 =>
  if 11 ≤ b4 then if b1 = 0 then fL_accounts_b82 rec4 M0 b2 else bd (fX6_sackOf M0 b2 2) fun r53 M54 => if b3 = r53 then fL_accounts_b83 rec4 M54 b2 1 else fL_accounts_b82 rec4 M54 b2 else bd (fX6_sackOf M0 b2 b4) fun r56 M57 => if b1 = 0 then fL_accounts_b51 rec4 (fL_accounts_b22 rec4 n) M57 b2 b3 b4 r56 else if r56 < 0 then fL_accounts_b51 rec4 (fL_accounts_b22 rec4 n) M57 b2 b3 b4 r56 else fL_accounts_b52 rec4 (fL_accounts_b22 rec4 n) M57 b2 b3 b4 r56 1
set_option maxRecDepth 100000 in
set_option maxHeartbeats 4000000 in
theorem sL_accounts_b22 {l : Launch} {Γ : kG} (hL : k_Lay Γ 314) {p : Program} {e : Env} {R : Room} {s : State} {mid : MethodId} {args : Array Value} {below : List Frame} {meth : Method} {c : Code} (C : k_C Γ p R s mid args meth c cL_accounts 7 RL (k_R 5)) (hr : meth.sig.returnType = (some .boolean)) (rec4 : kM2 → Int32 → Int32 → Option (Int32 × kM2)) (hrec4 : ∀ (M0 : kM2) (b1 : Int32) (b2 : Int32), Sm Γ (K2 Γ) p l e R s mid args below meth c 7 (jM true Γ (K2 Γ) below args s) M0 [(0, .ref (Γ.1 7 0)), (1, .int b1), (2, .int b2)] [] 4 (rec4 M0 b1 b2)) (n : Nat) : ∀ (M0 : kM2) (b1 : Int32) (b2 : Int32) (b3 : Int32) (b4 : Int32), Sm Γ (K2 Γ) p l e R s mid args below meth c 7 (jM true Γ (K2 Γ) below args s) M0 [(0, .ref (Γ.1 7 0)), (1, .int b1), (2, .int b2), (3, .int b3), (4, .int b4)] [] 22 (fL_accounts_b22 rec4 n M0 b1 b2 b3 b4) := by
  induction n with
  | zero => intros; exact k_none
  | succ n ih =>
    intro M0 b1 b2 b3 b4
    unfold fL_accounts_b22
    refine k_iload C 4 dL_accounts_22 rfl (pc' := 24) rfl ?_
    refine k_bipush C (v := 11) dL_accounts_24 (by decide) (pc' := 26) rfl ?_
    refine k_ic_ge C (tgt := 64) dL_accounts_26 (by decide) (pc' := 29) rfl (fun h50 => ?_) (fun h50 => ?_)
    · refine k_iload_n C 1 dL_accounts_64 rfl rfl (pc' := 65) rfl ?_
      refine k_if_eq C (tgt := 82) dL_accounts_65 (by decide) (pc' := 68) rfl (fun h51 => ?_) (fun h51 => ?_)
      · refine k_sub [0, 2] rfl ?_
        exact sL_accounts_b82 hL C hr rec4 hrec4 M0 b2
      · refine k_iload_n C 3 dL_accounts_68 rfl rfl (pc' := 69) rfl ?_
        refine k_aload_n C 0 dL_accounts_69 rfl rfl (pc' := 70) rfl ?_
        refine k_iload_n C 2 dL_accounts_70 rfl rfl (pc' := 71) rfl ?_
        refine k_iconst C (v := 2) dL_accounts_71 (by decide) (pc' := 72) rfl ?_
        refine k_callVi C (rest := [.int b3]) (qX6_sackOf l Γ hL M0 b2 2) mwX6_sackOf iwX6_sackOf mlL_15 (k_rm_of (by decide) (by decide)) (c2 Γ M0 7 0 (e_sea Γ (M0 7 0))) (v_7 (by decide)) rfl rfl rfl (Nat.le_of_ble_eq_true rfl) dL_accounts_72 (pc' := 75) rfl (fun r53 M54 => ?_)
        refine k_ic_ne C (tgt := 82) dL_accounts_75 (by decide) (pc' := 78) rfl (fun h55 => ?_) (fun h55 => ?_)
        · refine k_sub [0, 2] rfl ?_
          exact sL_accounts_b82 hL C hr rec4 hrec4 M54 b2
        · refine k_iconst C (v := 1) dL_accounts_78 (by decide) (pc' := 79) rfl ?_
          refine k_goto C (pc' := 83) dL_accounts_79 (by decide) ?_
          refine k_sub [0, 2] rfl ?_
          exact sL_accounts_b83 hL C hr rec4 hrec4 M54 b2 1
    · refine k_aload_n C 0 dL_accounts_29 rfl rfl (pc' := 30) rfl ?_
      refine k_iload_n C 2 dL_accounts_30 rfl rfl (pc' := 31) rfl ?_
      refine k_iload C 4 dL_accounts_31 rfl (pc' := 33) rfl ?_
      refine k_callVi C (rest := []) (qX6_sackOf l Γ hL M0 b2 b4) mwX6_sackOf iwX6_sackOf mlL_15 (k_rm_of (by decide) (by decide)) (c2 Γ M0 7 0 (e_sea Γ (M0 7 0))) (v_7 (by decide)) rfl rfl rfl (Nat.le_of_ble_eq_true rfl) dL_accounts_33 (pc' := 36) rfl (fun r56 M57 => ?_)
      refine k_istore C (lv' := [(5, .int r56), (0, .ref (Γ.1 7 0)), (1, .int b1), (2, .int b2), (3, .int b3), (4, .int b4)]) dL_accounts_36 (by decide) rfl (pc' := 38) rfl ?_
      refine k_iload_n C 2 dL_accounts_38 rfl rfl (pc' := 39) rfl ?_
      refine k_if_eq C (tgt := 51) dL_accounts_39 (by decide) (pc' := 42) rfl (fun h58 => ?_) (fun h58 => ?_)
      · refine k_sub [1, 3, 4, 5, 0] rfl ?_
        exact sL_accounts_b51 hL C hr rec4 hrec4 (fL_accounts_b22 rec4 n) ih M57 b2 b3 b4 r56
      · refine k_iload C 0 dL_accounts_42 rfl (pc' := 44) rfl ?_
        refine k_if_lt C (tgt := 51) dL_accounts_44 (by decide) (pc' := 47) rfl (fun h61 => ?_) (fun h61 => ?_)
        · refine k_sub [1, 3, 4, 5, 0] rfl ?_
          exact sL_accounts_b51 hL C hr rec4 hrec4 (fL_accounts_b22 rec4 n) ih M57 b2 b3 b4 r56
        · refine k_iconst C (v := 1) dL_accounts_47 (by decide) (pc' := 48) rfl ?_
          refine k_goto C (pc' := 52) dL_accounts_48 (by decide) ?_
          refine k_sub [1, 3, 4, 5, 0] rfl ?_
          exact sL_accounts_b52 hL C hr rec4 hrec4 (fL_accounts_b22 rec4 n) ih M57 b2 b3 b4 r56 1
def fL_accounts_b4 : Nat → kM2 → Int32 → Int32 → Option (Int32 × kM2)
  | 0, _, _, _ => none
  | n + 1, M0, b1, b2 =>
  bd (fX6_count M0 2) fun r1 M2 => if r1 ≤ b2 then fL_accounts_b90 M2 b1 else if b1 = 0 then fL_accounts_b90 M2 b1 else fL_accounts_b22 (fL_accounts_b4 n) kFu M2 b1 b2 0 4
set_option maxRecDepth 100000 in
set_option maxHeartbeats 4000000 in
theorem sL_accounts_b4 {l : Launch} {Γ : kG} (hL : k_Lay Γ 314) {p : Program} {e : Env} {R : Room} {s : State} {mid : MethodId} {args : Array Value} {below : List Frame} {meth : Method} {c : Code} (C : k_C Γ p R s mid args meth c cL_accounts 7 RL (k_R 5)) (hr : meth.sig.returnType = (some .boolean))  (n : Nat) : ∀ (M0 : kM2) (b1 : Int32) (b2 : Int32), Sm Γ (K2 Γ) p l e R s mid args below meth c 7 (jM true Γ (K2 Γ) below args s) M0 [(0, .ref (Γ.1 7 0)), (1, .int b1), (2, .int b2)] [] 4 (fL_accounts_b4 n M0 b1 b2) := by
  induction n with
  | zero => intros; exact k_none
  | succ n ih =>
    intro M0 b1 b2
    unfold fL_accounts_b4
    refine k_iload_n C 2 dL_accounts_4 rfl rfl (pc' := 5) rfl ?_
    refine k_aload_n C 0 dL_accounts_5 rfl rfl (pc' := 6) rfl ?_
    refine k_iconst C (v := 2) dL_accounts_6 (by decide) (pc' := 7) rfl ?_
    refine k_callVi C (rest := [.int b2]) (qX6_count l Γ hL M0 2) mwX6_count iwX6_count mlL_9 (k_rm_of (by decide) (by decide)) (c2 Γ M0 7 0 (e_sea Γ (M0 7 0))) (v_7 (by decide)) rfl rfl rfl (Nat.le_of_ble_eq_true rfl) dL_accounts_7 (pc' := 10) rfl (fun r1 M2 => ?_)
    refine k_ic_ge C (tgt := 90) dL_accounts_10 (by decide) (pc' := 13) rfl (fun h3 => ?_) (fun h3 => ?_)
    · refine k_sub [0, 1] rfl ?_
      exact sL_accounts_b90 hL C hr M2 b1
    · refine k_iload_n C 1 dL_accounts_13 rfl rfl (pc' := 14) rfl ?_
      refine k_if_eq C (tgt := 90) dL_accounts_14 (by decide) (pc' := 17) rfl (fun h49 => ?_) (fun h49 => ?_)
      · refine k_sub [0, 1] rfl ?_
        exact sL_accounts_b90 hL C hr M2 b1
      · refine k_iconst C (v := 0) dL_accounts_17 (by decide) (pc' := 18) rfl ?_
        refine k_istore_n C (lv' := [(3, .int 0), (0, .ref (Γ.1 7 0)), (1, .int b1), (2, .int b2)]) dL_accounts_18 rfl (by decide) rfl (pc' := 19) rfl ?_
        refine k_iconst C (v := 4) dL_accounts_19 (by decide) (pc' := 20) rfl ?_
        refine k_istore C (lv' := [(4, .int 4), (3, .int 0), (0, .ref (Γ.1 7 0)), (1, .int b1), (2, .int b2)]) dL_accounts_20 (by decide) rfl (pc' := 22) rfl ?_
        refine k_sub [2, 3, 4, 1, 0] rfl ?_
        exact sL_accounts_b22 hL C hr (fL_accounts_b4 n) ih kFu M2 b1 b2 0 4
def fL_accounts (M0 : kM2) : Option (Int32 × kM2) :=
  fL_accounts_b4 kFu M0 1 0
set_option maxRecDepth 100000 in
set_option maxHeartbeats 4000000 in
theorem qL_accounts (l : Launch) (Γ : kG) (hL : k_Lay Γ 314) (M0 : kM2) : CT l Γ (K2 Γ) yL_accounts cL_accounts 7 (some .boolean) (k_R 5) [.ref (Γ.1 7 0)] M0 (fL_accounts M0 ) := by
  refine k_meth (own := RL) (by decide) rfl (Nat.le_of_ble_eq_true rfl) (fun p e R s mid args below meth c C hr => ?_)
  show Sm Γ (K2 Γ) p l e R s mid args below meth c 7 (jM true Γ (K2 Γ) below args s) M0 [(0, .ref (Γ.1 7 0))] [] 0 (fL_accounts M0 )
  unfold fL_accounts
  refine k_iconst C (v := 1) dL_accounts_0 (by decide) (pc' := 1) rfl ?_
  refine k_istore_n C (lv' := [(1, .int 1), (0, .ref (Γ.1 7 0))]) dL_accounts_1 rfl (by decide) rfl (pc' := 2) rfl ?_
  refine k_iconst C (v := 0) dL_accounts_2 (by decide) (pc' := 3) rfl ?_
  refine k_istore_n C (lv' := [(2, .int 0), (1, .int 1), (0, .ref (Γ.1 7 0))]) dL_accounts_3 rfl (by decide) rfl (pc' := 4) rfl ?_
  refine k_sub [2, 1, 0] rfl ?_
  exact sL_accounts_b4 hL C hr kFu M0 1 0
def fL_farmers_b119   (M0 : kM2) (b1 : Int32) (b2 : Int32) (b3 : Int32) : Option (Int32 × kM2) :=
  if b3 = 0 then some (0, M0) else bd (fX6_count M0 2) fun r5 M6 => if b1 = r5 then bd (fX6_count M6 6) fun r8 M9 => if b2 = r8 then some (1, M9) else some (0, M9) else some (0, M6)
set_option maxRecDepth 100000 in
set_option maxHeartbeats 4000000 in
theorem sL_farmers_b119 {l : Launch} {Γ : kG} (hL : k_Lay Γ 314) {p : Program} {e : Env} {R : Room} {s : State} {mid : MethodId} {args : Array Value} {below : List Frame} {meth : Method} {c : Code} (C : k_C Γ p R s mid args meth c cL_farmers 5 RL (k_R 5)) (hr : meth.sig.returnType = (some .boolean))  (M0 : kM2) (b1 : Int32) (b2 : Int32) (b3 : Int32)  : Sm Γ (K2 Γ) p l e R s mid args below meth c 5 (jM true Γ (K2 Γ) below args s) M0 [(0, .ref (Γ.1 7 0)), (1, .int b1), (2, .int b2), (3, .int b3)] [] 119 (fL_farmers_b119 M0 b1 b2 b3) := by
  unfold fL_farmers_b119
  refine k_iload_n C 3 dL_farmers_119 rfl rfl (pc' := 120) rfl ?_
  refine k_if_eq C (tgt := 146) dL_farmers_120 (by decide) (pc' := 123) rfl (fun h4 => ?_) (fun h4 => ?_)
  · refine k_iconst C (v := 0) dL_farmers_146 (by decide) (pc' := 147) rfl ?_
    exact k_retz C rfl hr (Or.inl rfl) dL_farmers_147
  · refine k_iload_n C 1 dL_farmers_123 rfl rfl (pc' := 124) rfl ?_
    refine k_aload_n C 0 dL_farmers_124 rfl rfl (pc' := 125) rfl ?_
    refine k_iconst C (v := 2) dL_farmers_125 (by decide) (pc' := 126) rfl ?_
    refine k_callVi C (rest := [.int b1]) (qX6_count l Γ hL M0 2) mwX6_count iwX6_count mlL_9 (k_rm_of (by decide) (by decide)) (c2 Γ M0 7 0 (e_sea Γ (M0 7 0))) (v_7 (by decide)) rfl rfl rfl (Nat.le_of_ble_eq_true rfl) dL_farmers_126 (pc' := 129) rfl (fun r5 M6 => ?_)
    refine k_ic_ne C (tgt := 146) dL_farmers_129 (by decide) (pc' := 132) rfl (fun h7 => ?_) (fun h7 => ?_)
    · refine k_iconst C (v := 0) dL_farmers_146 (by decide) (pc' := 147) rfl ?_
      exact k_retz C rfl hr (Or.inl rfl) dL_farmers_147
    · refine k_iload_n C 2 dL_farmers_132 rfl rfl (pc' := 133) rfl ?_
      refine k_aload_n C 0 dL_farmers_133 rfl rfl (pc' := 134) rfl ?_
      refine k_bipush C (v := 6) dL_farmers_134 (by decide) (pc' := 136) rfl ?_
      refine k_callVi C (rest := [.int b2]) (qX6_count l Γ hL M6 6) mwX6_count iwX6_count mlL_9 (k_rm_of (by decide) (by decide)) (c2 Γ M6 7 0 (e_sea Γ (M6 7 0))) (v_7 (by decide)) rfl rfl rfl (Nat.le_of_ble_eq_true rfl) dL_farmers_136 (pc' := 139) rfl (fun r8 M9 => ?_)
      refine k_ic_ne C (tgt := 146) dL_farmers_139 (by decide) (pc' := 142) rfl (fun h10 => ?_) (fun h10 => ?_)
      · refine k_iconst C (v := 0) dL_farmers_146 (by decide) (pc' := 147) rfl ?_
        exact k_retz C rfl hr (Or.inl rfl) dL_farmers_147
      · refine k_iconst C (v := 1) dL_farmers_142 (by decide) (pc' := 143) rfl ?_
        refine k_goto C (pc' := 147) dL_farmers_143 (by decide) ?_
        exact k_retz C rfl hr (Or.inr rfl) dL_farmers_147
def fL_farmers_b112  (rec9 : kM2 → Int32 → Int32 → Int32 → Int32 → Option (Int32 × kM2)) (M0 : kM2) (b1 : Int32) (b2 : Int32) (b4 : Int32) (t0 : Int32) : Option (Int32 × kM2) :=
  k_let (b4 + 1) fun v21 => rec9 M0 b1 b2 t0 v21
set_option maxRecDepth 100000 in
set_option maxHeartbeats 4000000 in
theorem sL_farmers_b112 {l : Launch} {Γ : kG} (hL : k_Lay Γ 314) {p : Program} {e : Env} {R : Room} {s : State} {mid : MethodId} {args : Array Value} {below : List Frame} {meth : Method} {c : Code} (C : k_C Γ p R s mid args meth c cL_farmers 5 RL (k_R 5)) (hr : meth.sig.returnType = (some .boolean)) (rec9 : kM2 → Int32 → Int32 → Int32 → Int32 → Option (Int32 × kM2)) (hrec9 : ∀ (M0 : kM2) (b1 : Int32) (b2 : Int32) (b3 : Int32) (b4 : Int32), Sm Γ (K2 Γ) p l e R s mid args below meth c 5 (jM true Γ (K2 Γ) below args s) M0 [(0, .ref (Γ.1 7 0)), (1, .int b1), (2, .int b2), (3, .int b3), (4, .int b4)] [] 9 (rec9 M0 b1 b2 b3 b4)) (M0 : kM2) (b1 : Int32) (b2 : Int32) (b4 : Int32) (t0 : Int32)  : Sm Γ (K2 Γ) p l e R s mid args below meth c 5 (jM true Γ (K2 Γ) below args s) M0 [(0, .ref (Γ.1 7 0)), (1, .int b1), (2, .int b2), (4, .int b4)] [.int t0] 112 (fL_farmers_b112 rec9 M0 b1 b2 b4 t0) := by
  unfold fL_farmers_b112
  refine k_istore_n C (lv' := [(3, .int t0), (0, .ref (Γ.1 7 0)), (1, .int b1), (2, .int b2), (4, .int b4)]) dL_farmers_112 rfl (by decide) rfl (pc' := 113) rfl ?_
  refine k_iinc (v := 1) (q := 4) (lv' := [(3, .int t0), (0, .ref (Γ.1 7 0)), (1, .int b1), (2, .int b2)]) C dL_farmers_113 rfl (by decide) (by decide) (pc' := 116) rfl (fun _ => rfl) (fun v21 => ?_)
  refine k_goto C (pc' := 9) dL_farmers_116 (by decide) ?_
  refine k_sub [2, 3, 4, 1, 0] rfl ?_
  exact hrec9 M0 b1 b2 t0 v21
def fL_farmers_b111  (rec9 : kM2 → Int32 → Int32 → Int32 → Int32 → Option (Int32 × kM2)) (M0 : kM2) (b1 : Int32) (b2 : Int32) (b4 : Int32) : Option (Int32 × kM2) :=
  fL_farmers_b112 rec9 M0 b1 b2 b4 0
set_option maxRecDepth 100000 in
set_option maxHeartbeats 4000000 in
theorem sL_farmers_b111 {l : Launch} {Γ : kG} (hL : k_Lay Γ 314) {p : Program} {e : Env} {R : Room} {s : State} {mid : MethodId} {args : Array Value} {below : List Frame} {meth : Method} {c : Code} (C : k_C Γ p R s mid args meth c cL_farmers 5 RL (k_R 5)) (hr : meth.sig.returnType = (some .boolean)) (rec9 : kM2 → Int32 → Int32 → Int32 → Int32 → Option (Int32 × kM2)) (hrec9 : ∀ (M0 : kM2) (b1 : Int32) (b2 : Int32) (b3 : Int32) (b4 : Int32), Sm Γ (K2 Γ) p l e R s mid args below meth c 5 (jM true Γ (K2 Γ) below args s) M0 [(0, .ref (Γ.1 7 0)), (1, .int b1), (2, .int b2), (3, .int b3), (4, .int b4)] [] 9 (rec9 M0 b1 b2 b3 b4)) (M0 : kM2) (b1 : Int32) (b2 : Int32) (b4 : Int32)  : Sm Γ (K2 Γ) p l e R s mid args below meth c 5 (jM true Γ (K2 Γ) below args s) M0 [(0, .ref (Γ.1 7 0)), (1, .int b1), (2, .int b2), (4, .int b4)] [] 111 (fL_farmers_b111 rec9 M0 b1 b2 b4) := by
  unfold fL_farmers_b111
  refine k_iconst C (v := 0) dL_farmers_111 (by decide) (pc' := 112) rfl ?_
  exact sL_farmers_b112 hL C hr rec9 hrec9 M0 b1 b2 b4 0
def fL_farmers_b9 : Nat → kM2 → Int32 → Int32 → Int32 → Int32 → Option (Int32 × kM2)
  | 0, _, _, _, _, _ => none
  | n + 1, M0, b1, b2, b3, b4 =>
  bd (fX6_count M0 1) fun r1 M2 => if r1 ≤ b4 then fL_farmers_b119 M2 b1 b2 b3 else if b3 = 0 then fL_farmers_b119 M2 b1 b2 b3 else bd (fX6_farmerOf M2 b4 1) fun r12 M13 => k_let (b1 + r12) fun v14 => bd (fX6_farmerOf M13 b4 3) fun r15 M16 => k_let (b2 + r15) fun v17 => bd (fX6_farmerOf M16 b4 0) fun r18 M19 => if r18 < 0 then fL_farmers_b111 (fL_farmers_b9 n) M19 v14 v17 b4 else bd (fX6_farmerOf M19 b4 2) fun r22 M23 => bd (fX6_farmerOf M23 b4 1) fun r24 M25 => if r24 < r22 then fL_farmers_b111 (fL_farmers_b9 n) M25 v14 v17 b4 else bd (fX6_farmerOf M25 b4 4) fun r27 M28 => bd (fX6_account M28 b4 (-1) 5) fun r29 M30 => if r27 = r29 then bd (fX6_farmerOf M30 b4 5) fun r32 M33 => bd (fX6_account M33 b4 (-1) 10) fun r34 M35 => if r32 = r34 then fL_farmers_b112 (fL_farmers_b9 n) M35 v14 v17 b4 1 else fL_farmers_b111 (fL_farmers_b9 n) M35 v14 v17 b4 else fL_farmers_b111 (fL_farmers_b9 n) M30 v14 v17 b4
set_option maxRecDepth 100000 in
set_option maxHeartbeats 4000000 in
theorem sL_farmers_b9 {l : Launch} {Γ : kG} (hL : k_Lay Γ 314) {p : Program} {e : Env} {R : Room} {s : State} {mid : MethodId} {args : Array Value} {below : List Frame} {meth : Method} {c : Code} (C : k_C Γ p R s mid args meth c cL_farmers 5 RL (k_R 5)) (hr : meth.sig.returnType = (some .boolean))  (n : Nat) : ∀ (M0 : kM2) (b1 : Int32) (b2 : Int32) (b3 : Int32) (b4 : Int32), Sm Γ (K2 Γ) p l e R s mid args below meth c 5 (jM true Γ (K2 Γ) below args s) M0 [(0, .ref (Γ.1 7 0)), (1, .int b1), (2, .int b2), (3, .int b3), (4, .int b4)] [] 9 (fL_farmers_b9 n M0 b1 b2 b3 b4) := by
  induction n with
  | zero => intros; exact k_none
  | succ n ih =>
    intro M0 b1 b2 b3 b4
    unfold fL_farmers_b9
    refine k_iload C 4 dL_farmers_9 rfl (pc' := 11) rfl ?_
    refine k_aload_n C 0 dL_farmers_11 rfl rfl (pc' := 12) rfl ?_
    refine k_iconst C (v := 1) dL_farmers_12 (by decide) (pc' := 13) rfl ?_
    refine k_callVi C (rest := [.int b4]) (qX6_count l Γ hL M0 1) mwX6_count iwX6_count mlL_9 (k_rm_of (by decide) (by decide)) (c2 Γ M0 7 0 (e_sea Γ (M0 7 0))) (v_7 (by decide)) rfl rfl rfl (Nat.le_of_ble_eq_true rfl) dL_farmers_13 (pc' := 16) rfl (fun r1 M2 => ?_)
    refine k_ic_ge C (tgt := 119) dL_farmers_16 (by decide) (pc' := 19) rfl (fun h3 => ?_) (fun h3 => ?_)
    · refine k_sub [0, 1, 2, 3] rfl ?_
      exact sL_farmers_b119 hL C hr M2 b1 b2 b3
    · refine k_iload_n C 3 dL_farmers_19 rfl rfl (pc' := 20) rfl ?_
      refine k_if_eq C (tgt := 119) dL_farmers_20 (by decide) (pc' := 23) rfl (fun h11 => ?_) (fun h11 => ?_)
      · refine k_sub [0, 1, 2, 3] rfl ?_
        exact sL_farmers_b119 hL C hr M2 b1 b2 b3
      · refine k_iload_n C 1 dL_farmers_23 rfl rfl (pc' := 24) rfl ?_
        refine k_aload_n C 0 dL_farmers_24 rfl rfl (pc' := 25) rfl ?_
        refine k_iload C 4 dL_farmers_25 rfl (pc' := 27) rfl ?_
        refine k_iconst C (v := 1) dL_farmers_27 (by decide) (pc' := 28) rfl ?_
        refine k_callVi C (rest := [.int b1]) (qX6_farmerOf l Γ hL M2 b4 1) mwX6_farmerOf iwX6_farmerOf mlL_26 (k_rm_of (by decide) (by decide)) (c2 Γ M2 7 0 (e_sea Γ (M2 7 0))) (v_7 (by decide)) rfl rfl rfl (Nat.le_of_ble_eq_true rfl) dL_farmers_28 (pc' := 31) rfl (fun r12 M13 => ?_)
        refine k_iadd C dL_farmers_31 (pc' := 32) rfl ?_
        refine k_topi (fun v14 => ?_)
        refine k_istore_n C (lv' := [(1, .int v14), (0, .ref (Γ.1 7 0)), (2, .int b2), (3, .int b3), (4, .int b4)]) dL_farmers_32 rfl (by decide) rfl (pc' := 33) rfl ?_
        refine k_iload_n C 2 dL_farmers_33 rfl rfl (pc' := 34) rfl ?_
        refine k_aload_n C 1 dL_farmers_34 rfl rfl (pc' := 35) rfl ?_
        refine k_iload C 4 dL_farmers_35 rfl (pc' := 37) rfl ?_
        refine k_iconst C (v := 3) dL_farmers_37 (by decide) (pc' := 38) rfl ?_
        refine k_callVi C (rest := [.int b2]) (qX6_farmerOf l Γ hL M13 b4 3) mwX6_farmerOf iwX6_farmerOf mlL_26 (k_rm_of (by decide) (by decide)) (c2 Γ M13 7 0 (e_sea Γ (M13 7 0))) (v_7 (by decide)) rfl rfl rfl (Nat.le_of_ble_eq_true rfl) dL_farmers_38 (pc' := 41) rfl (fun r15 M16 => ?_)
        refine k_iadd C dL_farmers_41 (pc' := 42) rfl ?_
        refine k_topi (fun v17 => ?_)
        refine k_istore_n C (lv' := [(2, .int v17), (1, .int v14), (0, .ref (Γ.1 7 0)), (3, .int b3), (4, .int b4)]) dL_farmers_42 rfl (by decide) rfl (pc' := 43) rfl ?_
        refine k_aload_n C 2 dL_farmers_43 rfl rfl (pc' := 44) rfl ?_
        refine k_iload C 4 dL_farmers_44 rfl (pc' := 46) rfl ?_
        refine k_iconst C (v := 0) dL_farmers_46 (by decide) (pc' := 47) rfl ?_
        refine k_callVi C (rest := []) (qX6_farmerOf l Γ hL M16 b4 0) mwX6_farmerOf iwX6_farmerOf mlL_26 (k_rm_of (by decide) (by decide)) (c2 Γ M16 7 0 (e_sea Γ (M16 7 0))) (v_7 (by decide)) rfl rfl rfl (Nat.le_of_ble_eq_true rfl) dL_farmers_47 (pc' := 50) rfl (fun r18 M19 => ?_)
        refine k_if_lt C (tgt := 111) dL_farmers_50 (by decide) (pc' := 53) rfl (fun h20 => ?_) (fun h20 => ?_)
        · refine k_sub [2, 1, 0, 4] rfl ?_
          exact sL_farmers_b111 hL C hr (fL_farmers_b9 n) ih M19 v14 v17 b4
        · refine k_aload_n C 2 dL_farmers_53 rfl rfl (pc' := 54) rfl ?_
          refine k_iload C 4 dL_farmers_54 rfl (pc' := 56) rfl ?_
          refine k_iconst C (v := 2) dL_farmers_56 (by decide) (pc' := 57) rfl ?_
          refine k_callVi C (rest := []) (qX6_farmerOf l Γ hL M19 b4 2) mwX6_farmerOf iwX6_farmerOf mlL_26 (k_rm_of (by decide) (by decide)) (c2 Γ M19 7 0 (e_sea Γ (M19 7 0))) (v_7 (by decide)) rfl rfl rfl (Nat.le_of_ble_eq_true rfl) dL_farmers_57 (pc' := 60) rfl (fun r22 M23 => ?_)
          refine k_aload_n C 2 dL_farmers_60 rfl rfl (pc' := 61) rfl ?_
          refine k_iload C 4 dL_farmers_61 rfl (pc' := 63) rfl ?_
          refine k_iconst C (v := 1) dL_farmers_63 (by decide) (pc' := 64) rfl ?_
          refine k_callVi C (rest := [.int r22]) (qX6_farmerOf l Γ hL M23 b4 1) mwX6_farmerOf iwX6_farmerOf mlL_26 (k_rm_of (by decide) (by decide)) (c2 Γ M23 7 0 (e_sea Γ (M23 7 0))) (v_7 (by decide)) rfl rfl rfl (Nat.le_of_ble_eq_true rfl) dL_farmers_64 (pc' := 67) rfl (fun r24 M25 => ?_)
          refine k_ic_gt C (tgt := 111) dL_farmers_67 (by decide) (pc' := 70) rfl (fun h26 => ?_) (fun h26 => ?_)
          · refine k_sub [2, 1, 0, 4] rfl ?_
            exact sL_farmers_b111 hL C hr (fL_farmers_b9 n) ih M25 v14 v17 b4
          · refine k_aload_n C 2 dL_farmers_70 rfl rfl (pc' := 71) rfl ?_
            refine k_iload C 4 dL_farmers_71 rfl (pc' := 73) rfl ?_
            refine k_iconst C (v := 4) dL_farmers_73 (by decide) (pc' := 74) rfl ?_
            refine k_callVi C (rest := []) (qX6_farmerOf l Γ hL M25 b4 4) mwX6_farmerOf iwX6_farmerOf mlL_26 (k_rm_of (by decide) (by decide)) (c2 Γ M25 7 0 (e_sea Γ (M25 7 0))) (v_7 (by decide)) rfl rfl rfl (Nat.le_of_ble_eq_true rfl) dL_farmers_74 (pc' := 77) rfl (fun r27 M28 => ?_)
            refine k_aload_n C 2 dL_farmers_77 rfl rfl (pc' := 78) rfl ?_
            refine k_iload C 4 dL_farmers_78 rfl (pc' := 80) rfl ?_
            refine k_iconst C (v := (-1)) dL_farmers_80 (by decide) (pc' := 81) rfl ?_
            refine k_iconst C (v := 5) dL_farmers_81 (by decide) (pc' := 82) rfl ?_
            refine k_callVi C (rest := [.int r27]) (qX6_account l Γ hL M28 b4 (-1) 5) mwX6_account iwX6_account mlL_19 (k_rm_of (by decide) (by decide)) (c2 Γ M28 7 0 (e_sea Γ (M28 7 0))) (v_7 (by decide)) rfl rfl rfl (Nat.le_of_ble_eq_true rfl) dL_farmers_82 (pc' := 85) rfl (fun r29 M30 => ?_)
            refine k_ic_ne C (tgt := 111) dL_farmers_85 (by decide) (pc' := 88) rfl (fun h31 => ?_) (fun h31 => ?_)
            · refine k_sub [2, 1, 0, 4] rfl ?_
              exact sL_farmers_b111 hL C hr (fL_farmers_b9 n) ih M30 v14 v17 b4
            · refine k_aload_n C 2 dL_farmers_88 rfl rfl (pc' := 89) rfl ?_
              refine k_iload C 4 dL_farmers_89 rfl (pc' := 91) rfl ?_
              refine k_iconst C (v := 5) dL_farmers_91 (by decide) (pc' := 92) rfl ?_
              refine k_callVi C (rest := []) (qX6_farmerOf l Γ hL M30 b4 5) mwX6_farmerOf iwX6_farmerOf mlL_26 (k_rm_of (by decide) (by decide)) (c2 Γ M30 7 0 (e_sea Γ (M30 7 0))) (v_7 (by decide)) rfl rfl rfl (Nat.le_of_ble_eq_true rfl) dL_farmers_92 (pc' := 95) rfl (fun r32 M33 => ?_)
              refine k_aload_n C 2 dL_farmers_95 rfl rfl (pc' := 96) rfl ?_
              refine k_iload C 4 dL_farmers_96 rfl (pc' := 98) rfl ?_
              refine k_iconst C (v := (-1)) dL_farmers_98 (by decide) (pc' := 99) rfl ?_
              refine k_bipush C (v := 10) dL_farmers_99 (by decide) (pc' := 101) rfl ?_
              refine k_callVi C (rest := [.int r32]) (qX6_account l Γ hL M33 b4 (-1) 10) mwX6_account iwX6_account mlL_19 (k_rm_of (by decide) (by decide)) (c2 Γ M33 7 0 (e_sea Γ (M33 7 0))) (v_7 (by decide)) rfl rfl rfl (Nat.le_of_ble_eq_true rfl) dL_farmers_101 (pc' := 104) rfl (fun r34 M35 => ?_)
              refine k_ic_ne C (tgt := 111) dL_farmers_104 (by decide) (pc' := 107) rfl (fun h36 => ?_) (fun h36 => ?_)
              · refine k_sub [2, 1, 0, 4] rfl ?_
                exact sL_farmers_b111 hL C hr (fL_farmers_b9 n) ih M35 v14 v17 b4
              · refine k_iconst C (v := 1) dL_farmers_107 (by decide) (pc' := 108) rfl ?_
                refine k_goto C (pc' := 112) dL_farmers_108 (by decide) ?_
                refine k_sub [2, 1, 0, 4] rfl ?_
                exact sL_farmers_b112 hL C hr (fL_farmers_b9 n) ih M35 v14 v17 b4 1
def fL_farmers (M0 : kM2) : Option (Int32 × kM2) :=
  fL_farmers_b9 kFu M0 0 0 1 0
set_option maxRecDepth 100000 in
set_option maxHeartbeats 4000000 in
theorem qL_farmers (l : Launch) (Γ : kG) (hL : k_Lay Γ 314) (M0 : kM2) : CT l Γ (K2 Γ) yL_farmers cL_farmers 5 (some .boolean) (k_R 5) [.ref (Γ.1 7 0)] M0 (fL_farmers M0 ) := by
  refine k_meth (own := RL) (by decide) rfl (Nat.le_of_ble_eq_true rfl) (fun p e R s mid args below meth c C hr => ?_)
  show Sm Γ (K2 Γ) p l e R s mid args below meth c 5 (jM true Γ (K2 Γ) below args s) M0 [(0, .ref (Γ.1 7 0))] [] 0 (fL_farmers M0 )
  unfold fL_farmers
  refine k_iconst C (v := 0) dL_farmers_0 (by decide) (pc' := 1) rfl ?_
  refine k_istore_n C (lv' := [(1, .int 0), (0, .ref (Γ.1 7 0))]) dL_farmers_1 rfl (by decide) rfl (pc' := 2) rfl ?_
  refine k_iconst C (v := 0) dL_farmers_2 (by decide) (pc' := 3) rfl ?_
  refine k_istore_n C (lv' := [(2, .int 0), (1, .int 0), (0, .ref (Γ.1 7 0))]) dL_farmers_3 rfl (by decide) rfl (pc' := 4) rfl ?_
  refine k_iconst C (v := 1) dL_farmers_4 (by decide) (pc' := 5) rfl ?_
  refine k_istore_n C (lv' := [(3, .int 1), (2, .int 0), (1, .int 0), (0, .ref (Γ.1 7 0))]) dL_farmers_5 rfl (by decide) rfl (pc' := 6) rfl ?_
  refine k_iconst C (v := 0) dL_farmers_6 (by decide) (pc' := 7) rfl ?_
  refine k_istore C (lv' := [(4, .int 0), (3, .int 1), (2, .int 0), (1, .int 0), (0, .ref (Γ.1 7 0))]) dL_farmers_7 (by decide) rfl (pc' := 9) rfl ?_
  refine k_sub [4, 3, 2, 1, 0] rfl ?_
  exact sL_farmers_b9 hL C hr kFu M0 0 0 1 0
