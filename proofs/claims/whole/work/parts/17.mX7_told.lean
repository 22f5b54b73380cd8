def fX7_told (m0 : kM1) (a1 : Int32) (a2 : Int32) : Option (Int32 × kM1) :=
  if a2 = 4 then bd (fX7_grain m0 a1) fun r2 m3 => some (r2, m3) else if a2 = 5 then bd (fX7_flour m0 a1) fun r5 m6 => some (r5, m6) else if a2 = 6 then bd (fX7_toll m0 a1) fun r8 m9 => some (r8, m9) else if a2 = 7 then bd (fX7_dust m0 a1) fun r11 m12 => some (r11, m12) else if a2 = 8 then bd (fX7_of m0 a1 6) fun r14 m15 => some (r14, m15) else if a2 = 9 then bd (fX7_of m0 a1 10) fun r17 m18 => some (r17, m18) else if a2 = 10 then bd (fX7_of m0 a1 11) fun r20 m21 => some (r20, m21) else bd (fX7_of m0 a1 a2) fun r22 m23 => some (r22, m23)
set_option maxRecDepth 100000 in
set_option maxHeartbeats 4000000 in
theorem qX7_told (l : Launch) (Γ : kG) (hL : k_Lay Γ 7) (m0 : kM1) (a1 : Int32) (a2 : Int32) : CT l Γ (K3 Γ) yX7_told cX7_told 3 (some .int) (k_R 4) [.ref (Γ.1 0 0), .int a1, .int a2] m0 (fX7_told m0 a1 a2) := by
  refine k_meth (own := RX7) (by decide) rfl (Nat.le_of_ble_eq_true rfl) (fun p e R s mid args below meth c C hr => ?_)
  show Sm Γ (K3 Γ) p l e R s mid args below meth c 3 true m0 [(0, .ref (Γ.1 0 0)), (1, .int a1), (2, .int a2)] [] 0 (fX7_told m0 a1 a2)
  unfold fX7_told
  refine k_iload_n C 2 dX7_told_0 rfl rfl (pc' := 1) rfl ?_
  refine k_ite (fun h1 => ?_) (fun h1 => ?_)
  · refine k_tswIn C (43) dX7_told_1 h1 (by decide) (by decide) rfl (pc' := 44) (by decide) ?_
    refine k_aload_n C 0 dX7_told_44 rfl rfl (pc' := 45) rfl ?_
    refine k_iload_n C 1 dX7_told_45 rfl rfl (pc' := 46) rfl ?_
    refine k_callVi C (rest := []) (qX7_grain l Γ hL m0 a1) mwX7_grain iwX7_grain mlX7_82 (k_rm_of (by decide) (by decide)) (c3 Γ m0 0 (e_model Γ (m0 0))) (v_0 (by decide)) rfl rfl rfl (Nat.le_of_ble_eq_true rfl) dX7_told_46 (pc' := 49) rfl (fun r2 m3 => ?_)
    exact k_reti C rfl hr dX7_told_49
  refine k_ite (fun h4 => ?_) (fun h4 => ?_)
  · refine k_tswIn C (49) dX7_told_1 h4 (by decide) (by decide) rfl (pc' := 50) (by decide) ?_
    refine k_aload_n C 0 dX7_told_50 rfl rfl (pc' := 51) rfl ?_
    refine k_iload_n C 1 dX7_told_51 rfl rfl (pc' := 52) rfl ?_
    refine k_callVi C (rest := []) (qX7_flour l Γ hL m0 a1) mwX7_flour iwX7_flour mlX7_106 (k_rm_of (by decide) (by decide)) (c3 Γ m0 0 (e_model Γ (m0 0))) (v_0 (by decide)) rfl rfl rfl (Nat.le_of_ble_eq_true rfl) dX7_told_52 (pc' := 55) rfl (fun r5 m6 => ?_)
    exact k_reti C rfl hr dX7_told_55
  refine k_ite (fun h7 => ?_) (fun h7 => ?_)
  · refine k_tswIn C (55) dX7_told_1 h7 (by decide) (by decide) rfl (pc' := 56) (by decide) ?_
    refine k_aload_n C 0 dX7_told_56 rfl rfl (pc' := 57) rfl ?_
    refine k_iload_n C 1 dX7_told_57 rfl rfl (pc' := 58) rfl ?_
    refine k_callVi C (rest := []) (qX7_toll l Γ hL m0 a1) mwX7_toll iwX7_toll mlX7_42 (k_rm_of (by decide) (by decide)) (c3 Γ m0 0 (e_model Γ (m0 0))) (v_0 (by decide)) rfl rfl rfl (Nat.le_of_ble_eq_true rfl) dX7_told_58 (pc' := 61) rfl (fun r8 m9 => ?_)
    exact k_reti C rfl hr dX7_told_61
  refine k_ite (fun h10 => ?_) (fun h10 => ?_)
  · refine k_tswIn C (61) dX7_told_1 h10 (by decide) (by decide) rfl (pc' := 62) (by decide) ?_
    refine k_aload_n C 0 dX7_told_62 rfl rfl (pc' := 63) rfl ?_
    refine k_iload_n C 1 dX7_told_63 rfl rfl (pc' := 64) rfl ?_
    refine k_callVi C (rest := []) (qX7_dust l Γ hL m0 a1) mwX7_dust iwX7_dust mlX7_46 (k_rm_of (by decide) (by decide)) (c3 Γ m0 0 (e_model Γ (m0 0))) (v_0 (by decide)) rfl rfl rfl (Nat.le_of_ble_eq_true rfl) dX7_told_64 (pc' := 67) rfl (fun r11 m12 => ?_)
    exact k_reti C rfl hr dX7_told_67
  refine k_ite (fun h13 => ?_) (fun h13 => ?_)
  · refine k_tswIn C (67) dX7_told_1 h13 (by decide) (by decide) rfl (pc' := 68) (by decide) ?_
    refine k_aload_n C 0 dX7_told_68 rfl rfl (pc' := 69) rfl ?_
    refine k_iload_n C 1 dX7_told_69 rfl rfl (pc' := 70) rfl ?_
    refine k_bipush C (v := 6) dX7_told_70 (by decide) (pc' := 72) rfl ?_
    refine k_callVi C (rest := []) (qX7_of l Γ hL m0 a1 6) mwX7_of iwX7_of mlX7_38 (k_rm_of (by decide) (by decide)) (c3 Γ m0 0 (e_model Γ (m0 0))) (v_0 (by decide)) rfl rfl rfl (Nat.le_of_ble_eq_true rfl) dX7_told_72 (pc' := 75) rfl (fun r14 m15 => ?_)
    exact k_reti C rfl hr dX7_told_75
  refine k_ite (fun h16 => ?_) (fun h16 => ?_)
  · refine k_tswIn C (75) dX7_told_1 h16 (by decide) (by decide) rfl (pc' := 76) (by decide) ?_
    refine k_aload_n C 0 dX7_told_76 rfl rfl (pc' := 77) rfl ?_
    refine k_iload_n C 1 dX7_told_77 rfl rfl (pc' := 78) rfl ?_
    refine k_bipush C (v := 10) dX7_told_78 (by decide) (pc' := 80) rfl ?_
    refine k_callVi C (rest := []) (qX7_of l Γ hL m0 a1 10) mwX7_of iwX7_of mlX7_38 (k_rm_of (by decide) (by decide)) (c3 Γ m0 0 (e_model Γ (m0 0))) (v_0 (by decide)) rfl rfl rfl (Nat.le_of_ble_eq_true rfl) dX7_told_80 (pc' := 83) rfl (fun r17 m18 => ?_)
    exact k_reti C rfl hr dX7_told_83
  refine k_ite (fun h19 => ?_) (fun h19 => ?_)
  · refine k_tswIn C (83) dX7_told_1 h19 (by decide) (by decide) rfl (pc' := 84) (by decide) ?_
    refine k_aload_n C 0 dX7_told_84 rfl rfl (pc' := 85) rfl ?_
    refine k_iload_n C 1 dX7_told_85 rfl rfl (pc' := 86) rfl ?_
    refine k_bipush C (v := 11) dX7_told_86 (by decide) (pc' := 88) rfl ?_
    refine k_callVi C (rest := []) (qX7_of l Γ hL m0 a1 11) mwX7_of iwX7_of mlX7_38 (k_rm_of (by decide) (by decide)) (c3 Γ m0 0 (e_model Γ (m0 0))) (v_0 (by decide)) rfl rfl rfl (Nat.le_of_ble_eq_true rfl) dX7_told_88 (pc' := 91) rfl (fun r20 m21 => ?_)
    exact k_reti C rfl hr dX7_told_91
  refine k_tswOut C dX7_told_1 (by have z0 := lv_neT h1 (show (4 : Int32).toInt = 4 by decide); have z1 := lv_neT h4 (show (5 : Int32).toInt = 5 by decide); have z2 := lv_neT h7 (show (6 : Int32).toInt = 6 by decide); have z3 := lv_neT h10 (show (7 : Int32).toInt = 7 by decide); have z4 := lv_neT h13 (show (8 : Int32).toInt = 8 by decide); have z5 := lv_neT h16 (show (9 : Int32).toInt = 9 by decide); have z6 := lv_neT h19 (show (10 : Int32).toInt = 10 by decide); omega) (pc' := 92) (by decide) ?_
  refine k_aload_n C 0 dX7_told_92 rfl rfl (pc' := 93) rfl ?_
  refine k_iload_n C 1 dX7_told_93 rfl rfl (pc' := 94) rfl ?_
  refine k_iload_n C 2 dX7_told_94 rfl rfl (pc' := 95) rfl ?_
  refine k_callVi C (rest := []) (qX7_of l Γ hL m0 a1 a2) mwX7_of iwX7_of mlX7_38 (k_rm_of (by decide) (by decide)) (c3 Γ m0 0 (e_model Γ (m0 0))) (v_0 (by decide)) rfl rfl rfl (Nat.le_of_ble_eq_true rfl) dX7_told_95 (pc' := 98) rfl (fun r22 m23 => ?_)
  exact k_reti C rfl hr dX7_told_98
def fX7_sum_b73 (a1 : Int32) (a2 : Int32) (a3 : Int32) (rec6 : kM1 → Int32 → Int32 → Option (Int32 × kM1)) (m0 : kM1) (b5 : Int32) (t0 : Int32) (t1 : Int32) : Option (Int32 × kM1) :=
  k_let (t1 + t0) fun v6 => k_let (b5 + 1) fun v7 => rec6 m0 v6 v7
set_option maxRecDepth 100000 in
set_option maxHeartbeats 4000000 in
theorem sX7_sum_b73 {l : Launch} {Γ : kG} (hL : k_Lay Γ 7) {p : Program} {e : Env} {R : Room} {s : State} {mid : MethodId} {args : Array Value} {below : List Frame} {meth : Method} {c : Code} (C : k_C Γ p R s mid args meth c cX7_sum 7 RX7 (k_R 5)) (hr : meth.sig.returnType = (some .int)) (a1 : Int32) (a2 : Int32) (a3 : Int32) (rec6 : kM1 → Int32 → Int32 → Option (Int32 × kM1)) (hrec6 : ∀ (m0 : kM1) (b4 : Int32) (b5 : Int32), Sm Γ (K3 Γ) p l e R s mid args below meth c 7 true m0 [(0, .ref (Γ.1 0 0)), (1, .int a1), (2, .int a2), (3, .int a3), (4, .int b4), (5, .int b5)] [] 6 (rec6 m0 b4 b5)) (m0 : kM1) (b5 : Int32) (t0 : Int32) (t1 : Int32)  : Sm Γ (K3 Γ) p l e R s mid args below meth c 7 true m0 [(0, .ref (Γ.1 0 0)), (1, .int a1), (2, .int a2), (3, .int a3), (5, .int b5)] [.int t0, .int t1] 73 (fX7_sum_b73 a1 a2 a3 rec6 m0 b5 t0 t1) := by
  unfold fX7_sum_b73
  refine k_iadd C dX7_sum_73 (pc' := 74) rfl ?_
  refine k_topi (fun v6 => ?_)
  refine k_istore C (lv' := [(4, .int v6), (0, .ref (Γ.1 0 0)), (1, .int a1), (2, .int a2), (3, .int a3), (5, .int b5)]) dX7_sum_74 (by decide) rfl (pc' := 76) rfl ?_
  refine k_iinc (v := 1) (q := 5) (lv' := [(4, .int v6), (0, .ref (Γ.1 0 0)), (1, .int a1), (2, .int a2), (3, .int a3)]) C dX7_sum_76 rfl (by decide) (by decide) (pc' := 79) rfl (fun _ => rfl) (fun v7 => ?_)
  refine k_goto C (pc' := 6) dX7_sum_79 (by decide) ?_
  refine k_sub [2, 3, 4, 5, 1, 0] rfl ?_
  exact hrec6 m0 v6 v7
def fX7_sum_b53 (a1 : Int32) (a2 : Int32) (a3 : Int32) (rec6 : kM1 → Int32 → Int32 → Option (Int32 × kM1)) (m0 : kM1) (b4 : Int32) (b5 : Int32) (t0 : Int32) : Option (Int32 × kM1) :=
  if t0 = 0 then fX7_sum_b73 a1 a2 a3 rec6 m0 b5 0 b4 else bd (fX7_told m0 b5 a3) fun r8 m9 => fX7_sum_b73 a1 a2 a3 rec6 m9 b5 r8 b4
set_option maxRecDepth 100000 in
set_option maxHeartbeats 4000000 in
theorem sX7_sum_b53 {l : Launch} {Γ : kG} (hL : k_Lay Γ 7) {p : Program} {e : Env} {R : Room} {s : State} {mid : MethodId} {args : Array Value} {below : List Frame} {meth : Method} {c : Code} (C : k_C Γ p R s mid args meth c cX7_sum 7 RX7 (k_R 5)) (hr : meth.sig.returnType = (some .int)) (a1 : Int32) (a2 : Int32) (a3 : Int32) (rec6 : kM1 → Int32 → Int32 → Option (Int32 × kM1)) (hrec6 : ∀ (m0 : kM1) (b4 : Int32) (b5 : Int32), Sm Γ (K3 Γ) p l e R s mid args below meth c 7 true m0 [(0, .ref (Γ.1 0 0)), (1, .int a1), (2, .int a2), (3, .int a3), (4, .int b4), (5, .int b5)] [] 6 (rec6 m0 b4 b5)) (m0 : kM1) (b4 : Int32) (b5 : Int32) (t0 : Int32)  : Sm Γ (K3 Γ) p l e R s mid args below meth c 7 true m0 [(0, .ref (Γ.1 0 0)), (1, .int a1), (2, .int a2), (3, .int a3), (4, .int b4), (5, .int b5)] [.int t0] 53 (fX7_sum_b53 a1 a2 a3 rec6 m0 b4 b5 t0) := by
  unfold fX7_sum_b53
  refine k_istore C (lv' := [(6, .int t0), (0, .ref (Γ.1 0 0)), (1, .int a1), (2, .int a2), (3, .int a3), (4, .int b4), (5, .int b5)]) dX7_sum_53 (by decide) rfl (pc' := 55) rfl ?_
  refine k_iload C 5 dX7_sum_55 rfl (pc' := 57) rfl ?_
  refine k_iload C 0 dX7_sum_57 rfl (pc' := 59) rfl ?_
  refine k_if_eq C (tgt := 72) dX7_sum_59 (by decide) (pc' := 62) rfl (fun h5 => ?_) (fun h5 => ?_)
  · refine k_iconst C (v := 0) dX7_sum_72 (by decide) (pc' := 73) rfl ?_
    refine k_sub [1, 2, 3, 4, 6] rfl ?_
    exact sX7_sum_b73 hL C hr a1 a2 a3 rec6 hrec6 m0 b5 0 b4
  · refine k_aload_n C 1 dX7_sum_62 rfl rfl (pc' := 63) rfl ?_
    refine k_iload C 6 dX7_sum_63 rfl (pc' := 65) rfl ?_
    refine k_iload_n C 4 dX7_sum_65 rfl rfl (pc' := 66) rfl ?_
    refine k_callVi C (rest := [.int b4]) (qX7_told l Γ hL m0 b5 a3) mwX7_told iwX7_told mlX7_141 (k_rm_of (by decide) (by decide)) (c3 Γ m0 0 (e_model Γ (m0 0))) (v_0 (by decide)) rfl rfl rfl (Nat.le_of_ble_eq_true rfl) dX7_sum_66 (pc' := 69) rfl (fun r8 m9 => ?_)
    refine k_goto C (pc' := 73) dX7_sum_69 (by decide) ?_
    refine k_sub [1, 2, 3, 4, 6] rfl ?_
    exact sX7_sum_b73 hL C hr a1 a2 a3 rec6 hrec6 m9 b5 r8 b4
def fX7_sum_b48 (a1 : Int32) (a2 : Int32) (a3 : Int32) (rec6 : kM1 → Int32 → Int32 → Option (Int32 × kM1)) (m0 : kM1) (b4 : Int32) (b5 : Int32) : Option (Int32 × kM1) :=
  fX7_sum_b53 a1 a2 a3 rec6 m0 b4 b5 1
set_option maxRecDepth 100000 in
set_option maxHeartbeats 4000000 in
theorem sX7_sum_b48 {l : Launch} {Γ : kG} (hL : k_Lay Γ 7) {p : Program} {e : Env} {R : Room} {s : State} {mid : MethodId} {args : Array Value} {below : List Frame} {meth : Method} {c : Code} (C : k_C Γ p R s mid args meth c cX7_sum 7 RX7 (k_R 5)) (hr : meth.sig.returnType = (some .int)) (a1 : Int32) (a2 : Int32) (a3 : Int32) (rec6 : kM1 → Int32 → Int32 → Option (Int32 × kM1)) (hrec6 : ∀ (m0 : kM1) (b4 : Int32) (b5 : Int32), Sm Γ (K3 Γ) p l e R s mid args below meth c 7 true m0 [(0, .ref (Γ.1 0 0)), (1, .int a1), (2, .int a2), (3, .int a3), (4, .int b4), (5, .int b5)] [] 6 (rec6 m0 b4 b5)) (m0 : kM1) (b4 : Int32) (b5 : Int32)  : Sm Γ (K3 Γ) p l e R s mid args below meth c 7 true m0 [(0, .ref (Γ.1 0 0)), (1, .int a1), (2, .int a2), (3, .int a3), (4, .int b4), (5, .int b5)] [] 48 (fX7_sum_b48 a1 a2 a3 rec6 m0 b4 b5) := by
  unfold fX7_sum_b48
  refine k_iconst C (v := 1) dX7_sum_48 (by decide) (pc' := 49) rfl ?_
  refine k_goto C (pc' := 53) dX7_sum_49 (by decide) ?_
  exact sX7_sum_b53 hL C hr a1 a2 a3 rec6 hrec6 m0 b4 b5 1
def fX7_sum_b52 (a1 : Int32) (a2 : Int32) (a3 : Int32) (rec6 : kM1 → Int32 → Int32 → Option (Int32 × kM1)) (m0 : kM1) (b4 : Int32) (b5 : Int32) : Option (Int32 × kM1) :=
  fX7_sum_b53 a1 a2 a3 rec6 m0 b4 b5 0
set_option maxRecDepth 100000 in
set_option maxHeartbeats 4000000 in
theorem sX7_sum_b52 {l : Launch} {Γ : kG} (hL : k_Lay Γ 7) {p : Program} {e : Env} {R : Room} {s : State} {mid : MethodId} {args : Array Value} {below : List Frame} {meth : Method} {c : Code} (C : k_C Γ p R s mid args meth c cX7_sum 7 RX7 (k_R 5)) (hr : meth.sig.returnType = (some .int)) (a1 : Int32) (a2 : Int32) (a3 : Int32) (rec6 : kM1 → Int32 → Int32 → Option (Int32 × kM1)) (hrec6 : ∀ (m0 : kM1) (b4 : Int32) (b5 : Int32), Sm Γ (K3 Γ) p l e R s mid args below meth c 7 true m0 [(0, .ref (Γ.1 0 0)), (1, .int a1), (2, .int a2), (3, .int a3), (4, .int b4), (5, .int b5)] [] 6 (rec6 m0 b4 b5)) (m0 : kM1) (b4 : Int32) (b5 : Int32)  : Sm Γ (K3 Γ) p l e R s mid args below meth c 7 true m0 [(0, .ref (Γ.1 0 0)), (1, .int a1), (2, .int a2), (3, .int a3), (4, .int b4), (5, .int b5)] [] 52 (fX7_sum_b52 a1 a2 a3 rec6 m0 b4 b5) := by
  unfold fX7_sum_b52
  refine k_iconst C (v := 0) dX7_sum_52 (by decide) (pc' := 53) rfl ?_
  exact sX7_sum_b53 hL C hr a1 a2 a3 rec6 hrec6 m0 b4 b5 0
def fX7_sum_b33 (a1 : Int32) (a2 : Int32) (a3 : Int32) (rec6 : kM1 → Int32 → Int32 → Option (Int32 × kM1)) (m0 : kM1) (b4 : Int32) (b5 : Int32) : Option (Int32 × kM1) :=
  if a2 < 0 then fX7_sum_b48 a1 a2 a3 rec6 m0 b4 b5 else bd (fX7_of m0 b5 1) fun r10 m11 => if r10 = a2 then fX7_sum_b48 a1 a2 a3 rec6 m11 b4 b5 else fX7_sum_b52 a1 a2 a3 rec6 m11 b4 b5
set_option maxRecDepth 100000 in
set_option maxHeartbeats 4000000 in
theorem sX7_sum_b33 {l : Launch} {Γ : kG} (hL : k_Lay Γ 7) {p : Program} {e : Env} {R : Room} {s : State} {mid : MethodId} {args : Array Value} {below : List Frame} {meth : Method} {c : Code} (C : k_C Γ p R s mid args meth c cX7_sum 7 RX7 (k_R 5)) (hr : meth.sig.returnType = (some .int)) (a1 : Int32) (a2 : Int32) (a3 : Int32) (rec6 : kM1 → Int32 → Int32 → Option (Int32 × kM1)) (hrec6 : ∀ (m0 : kM1) (b4 : Int32) (b5 : Int32), Sm Γ (K3 Γ) p l e R s mid args below meth c 7 true m0 [(0, .ref (Γ.1 0 0)), (1, .int a1), (2, .int a2), (3, .int a3), (4, .int b4), (5, .int b5)] [] 6 (rec6 m0 b4 b5)) (m0 : kM1) (b4 : Int32) (b5 : Int32)  : Sm Γ (K3 Γ) p l e R s mid args below meth c 7 true m0 [(0, .ref (Γ.1 0 0)), (1, .int a1), (2, .int a2), (3, .int a3), (4, .int b4), (5, .int b5)] [] 33 (fX7_sum_b33 a1 a2 a3 rec6 m0 b4 b5) := by
  unfold fX7_sum_b33
  refine k_iload_n C 2 dX7_sum_33 rfl rfl (pc' := 34) rfl ?_
  refine k_if_lt C (tgt := 48) dX7_sum_34 (by decide) (pc' := 37) rfl (fun h4 => ?_) (fun h4 => ?_)
  · exact sX7_sum_b48 hL C hr a1 a2 a3 rec6 hrec6 m0 b4 b5
  · refine k_aload_n C 0 dX7_sum_37 rfl rfl (pc' := 38) rfl ?_
    refine k_iload C 5 dX7_sum_38 rfl (pc' := 40) rfl ?_
    refine k_iconst C (v := 1) dX7_sum_40 (by decide) (pc' := 41) rfl ?_
    refine k_callVi C (rest := []) (qX7_of l Γ hL m0 b5 1) mwX7_of iwX7_of mlX7_38 (k_rm_of (by decide) (by decide)) (c3 Γ m0 0 (e_model Γ (m0 0))) (v_0 (by decide)) rfl rfl rfl (Nat.le_of_ble_eq_true rfl) dX7_sum_41 (pc' := 44) rfl (fun r10 m11 => ?_)
    refine k_iload_n C 2 dX7_sum_44 rfl rfl (pc' := 45) rfl ?_
    refine k_ic_ne C (tgt := 52) dX7_sum_45 (by decide) (pc' := 48) rfl (fun h12 => ?_) (fun h12 => ?_)
    · exact sX7_sum_b52 hL C hr a1 a2 a3 rec6 hrec6 m11 b4 b5
    · exact sX7_sum_b48 hL C hr a1 a2 a3 rec6 hrec6 m11 b4 b5
def fX7_sum_b6 (a1 : Int32) (a2 : Int32) (a3 : Int32) : Nat → kM1 → Int32 → Int32 → Option (Int32 × kM1)
  | 0, _, _, _ => none
  | n + 1, m0, b4, b5 =>
  if (m0 1 29) ≤ b5 then some (b4, m0) else if a1 < 0 then fX7_sum_b33 a1 a2 a3 (fX7_sum_b6 a1 a2 a3 n) m0 b4 b5 else bd (fX7_of m0 b5 0) fun r13 m14 => if r13 = a1 then fX7_sum_b33 a1 a2 a3 (fX7_sum_b6 a1 a2 a3 n) m14 b4 b5 else fX7_sum_b52 a1 a2 a3 (fX7_sum_b6 a1 a2 a3 n) m14 b4 b5
set_option maxRecDepth 100000 in
set_option maxHeartbeats 4000000 in
theorem sX7_sum_b6 {l : Launch} {Γ : kG} (hL : k_Lay Γ 7) {p : Program} {e : Env} {R : Room} {s : State} {mid : MethodId} {args : Array Value} {below : List Frame} {meth : Method} {c : Code} (C : k_C Γ p R s mid args meth c cX7_sum 7 RX7 (k_R 5)) (hr : meth.sig.returnType = (some .int)) (a1 : Int32) (a2 : Int32) (a3 : Int32)  (n : Nat) : ∀ (m0 : kM1) (b4 : Int32) (b5 : Int32), Sm Γ (K3 Γ) p l e R s mid args below meth c 7 true m0 [(0, .ref (Γ.1 0 0)), (1, .int a1), (2, .int a2), (3, .int a3), (4, .int b4), (5, .int b5)] [] 6 (fX7_sum_b6 a1 a2 a3 n m0 b4 b5) := by
  induction n with
  | zero => intros; exact k_none
  | succ n ih =>
    intro m0 b4 b5
    unfold fX7_sum_b6
    refine k_iload C 5 dX7_sum_6 rfl (pc' := 8) rfl ?_
    refine k_aload_n C 0 dX7_sum_8 rfl rfl (pc' := 9) rfl ?_
    refine k_getf C 0 (c3 Γ m0 0 (e_model Γ (m0 0))) (v_0 (by decide)) flX7_7 (v := .ref (Γ.1 0 1)) rfl dX7_sum_9 (pc' := 12) rfl ?_
    refine k_bipush C (v := 29) dX7_sum_12 (by decide) (pc' := 14) rfl ?_
    refine k_ialdK C (n0 := 29) (c3 Γ m0 1 (e_d Γ (m0 1))) (v_0 (by decide)) (by decide) (by decide) dX7_sum_14 (pc' := 15) rfl ?_
    refine k_ic_ge C (tgt := 82) dX7_sum_15 (by decide) (pc' := 18) rfl (fun h2 => ?_) (fun h2 => ?_)
    · refine k_iload C 4 dX7_sum_82 rfl (pc' := 84) rfl ?_
      exact k_reti C rfl hr dX7_sum_84
    · refine k_iload_n C 1 dX7_sum_18 rfl rfl (pc' := 19) rfl ?_
      refine k_if_lt C (tgt := 33) dX7_sum_19 (by decide) (pc' := 22) rfl (fun h3 => ?_) (fun h3 => ?_)
      · exact sX7_sum_b33 hL C hr a1 a2 a3 (fX7_sum_b6 a1 a2 a3 n) ih m0 b4 b5
      · refine k_aload_n C 0 dX7_sum_22 rfl rfl (pc' := 23) rfl ?_
        refine k_iload C 5 dX7_sum_23 rfl (pc' := 25) rfl ?_
        refine k_iconst C (v := 0) dX7_sum_25 (by decide) (pc' := 26) rfl ?_
        refine k_callVi C (rest := []) (qX7_of l Γ hL m0 b5 0) mwX7_of iwX7_of mlX7_38 (k_rm_of (by decide) (by decide)) (c3 Γ m0 0 (e_model Γ (m0 0))) (v_0 (by decide)) rfl rfl rfl (Nat.le_of_ble_eq_true rfl) dX7_sum_26 (pc' := 29) rfl (fun r13 m14 => ?_)
        refine k_iload_n C 1 dX7_sum_29 rfl rfl (pc' := 30) rfl ?_
        refine k_ic_ne C (tgt := 52) dX7_sum_30 (by decide) (pc' := 33) rfl (fun h15 => ?_) (fun h15 => ?_)
        · exact sX7_sum_b52 hL C hr a1 a2 a3 (fX7_sum_b6 a1 a2 a3 n) ih m14 b4 b5
        · exact sX7_sum_b33 hL C hr a1 a2 a3 (fX7_sum_b6 a1 a2 a3 n) ih m14 b4 b5
def fX7_sum (m0 : kM1) (a1 : Int32) (a2 : Int32) (a3 : Int32) : Option (Int32 × kM1) :=
  fX7_sum_b6 a1 a2 a3 kFu m0 0 0
set_option maxRecDepth 100000 in
set_option maxHeartbeats 4000000 in
theorem qX7_sum (l : Launch) (Γ : kG) (hL : k_Lay Γ 7) (m0 : kM1) (a1 : Int32) (a2 : Int32) (a3 : Int32) : CT l Γ (K3 Γ) yX7_sum cX7_sum 7 (some .int) (k_R 5) [.ref (Γ.1 0 0), .int a1, .int a2, .int a3] m0 (fX7_sum m0 a1 a2 a3) := by
  refine k_meth (own := RX7) (by decide) rfl (Nat.le_of_ble_eq_true rfl) (fun p e R s mid args below meth c C hr => ?_)
  show Sm Γ (K3 Γ) p l e R s mid args below meth c 7 true m0 [(0, .ref (Γ.1 0 0)), (1, .int a1), (2, .int a2), (3, .int a3)] [] 0 (fX7_sum m0 a1 a2 a3)
  unfold fX7_sum
  refine k_iconst C (v := 0) dX7_sum_0 (by decide) (pc' := 1) rfl ?_
  refine k_istore C (lv' := [(4, .int 0), (0, .ref (Γ.1 0 0)), (1, .int a1), (2, .int a2), (3, .int a3)]) dX7_sum_1 (by decide) rfl (pc' := 3) rfl ?_
  refine k_iconst C (v := 0) dX7_sum_3 (by decide) (pc' := 4) rfl ?_
  refine k_istore C (lv' := [(5, .int 0), (4, .int 0), (0, .ref (Γ.1 0 0)), (1, .int a1), (2, .int a2), (3, .int a3)]) dX7_sum_4 (by decide) rfl (pc' := 6) rfl ?_
  refine k_sub [2, 3, 4, 5, 1, 0] rfl ?_
  exact sX7_sum_b6 hL C hr a1 a2 a3 kFu m0 0 0
def fX7_many_b82 (a1 : Int32) (a2 : Int32) (a3 : Int32) (rec6 : kM1 → Int32 → Int32 → Option (Int32 × kM1)) (m0 : kM1) (b5 : Int32) (t0 : Int32) (t1 : Int32) : Option (Int32 × kM1) :=
  k_let (t1 + t0) fun v6 => k_let (b5 + 1) fun v7 => rec6 m0 v6 v7
set_option maxRecDepth 100000 in
set_option maxHeartbeats 4000000 in
theorem sX7_many_b82 {l : Launch} {Γ : kG} (hL : k_Lay Γ 7) {p : Program} {e : Env} {R : Room} {s : State} {mid : MethodId} {args : Array Value} {below : List Frame} {meth : Method} {c : Code} (C : k_C Γ p R s mid args meth c cX7_many 7 RX7 (k_R 1)) (hr : meth.sig.returnType = (some .int)) (a1 : Int32) (a2 : Int32) (a3 : Int32) (rec6 : kM1 → Int32 → Int32 → Option (Int32 × kM1)) (hrec6 : ∀ (m0 : kM1) (b4 : Int32) (b5 : Int32), Sm Γ (K3 Γ) p l e R s mid args below meth c 7 true m0 [(0, .ref (Γ.1 0 0)), (1, .int a1), (2, .int a2), (3, .int a3), (4, .int b4), (5, .int b5)] [] 6 (rec6 m0 b4 b5)) (m0 : kM1) (b5 : Int32) (t0 : Int32) (t1 : Int32)  : Sm Γ (K3 Γ) p l e R s mid args below meth c 7 true m0 [(0, .ref (Γ.1 0 0)), (1, .int a1), (2, .int a2), (3, .int a3), (5, .int b5)] [.int t0, .int t1] 82 (fX7_many_b82 a1 a2 a3 rec6 m0 b5 t0 t1) := by
  unfold fX7_many_b82
  refine k_iadd C dX7_many_82 (pc' := 83) rfl ?_
  refine k_topi (fun v6 => ?_)
  refine k_istore C (lv' := [(4, .int v6), (0, .ref (Γ.1 0 0)), (1, .int a1), (2, .int a2), (3, .int a3), (5, .int b5)]) dX7_many_83 (by decide) rfl (pc' := 85) rfl ?_
  refine k_iinc (v := 1) (q := 5) (lv' := [(4, .int v6), (0, .ref (Γ.1 0 0)), (1, .int a1), (2, .int a2), (3, .int a3)]) C dX7_many_85 rfl (by decide) (by decide) (pc' := 88) rfl (fun _ => rfl) (fun v7 => ?_)
  refine k_goto C (pc' := 6) dX7_many_88 (by decide) ?_
  refine k_sub [2, 3, 4, 5, 1, 0] rfl ?_
  exact hrec6 m0 v6 v7
def fX7_many_b81 (a1 : Int32) (a2 : Int32) (a3 : Int32) (rec6 : kM1 → Int32 → Int32 → Option (Int32 × kM1)) (m0 : kM1) (b5 : Int32) (t0 : Int32) : Option (Int32 × kM1) :=
  fX7_many_b82 a1 a2 a3 rec6 m0 b5 0 t0
set_option maxRecDepth 100000 in
set_option maxHeartbeats 4000000 in
theorem sX7_many_b81 {l : Launch} {Γ : kG} (hL : k_Lay Γ 7) {p : Program} {e : Env} {R : Room} {s : State} {mid : MethodId} {args : Array Value} {below : List Frame} {meth : Method} {c : Code} (C : k_C Γ p R s mid args meth c cX7_many 7 RX7 (k_R 1)) (hr : meth.sig.returnType = (some .int)) (a1 : Int32) (a2 : Int32) (a3 : Int32) (rec6 : kM1 → Int32 → Int32 → Option (Int32 × kM1)) (hrec6 : ∀ (m0 : kM1) (b4 : Int32) (b5 : Int32), Sm Γ (K3 Γ) p l e R s mid args below meth c 7 true m0 [(0, .ref (Γ.1 0 0)), (1, .int a1), (2, .int a2), (3, .int a3), (4, .int b4), (5, .int b5)] [] 6 (rec6 m0 b4 b5)) (m0 : kM1) (b5 : Int32) (t0 : Int32)  : Sm Γ (K3 Γ) p l e R s mid args below meth c 7 true m0 [(0, .ref (Γ.1 0 0)), (1, .int a1), (2, .int a2), (3, .int a3), (5, .int b5)] [.int t0] 81 (fX7_many_b81 a1 a2 a3 rec6 m0 b5 t0) := by
  unfold fX7_many_b81
  refine k_iconst C (v := 0) dX7_many_81 (by decide) (pc' := 82) rfl ?_
  exact sX7_many_b82 hL C hr a1 a2 a3 rec6 hrec6 m0 b5 0 t0
def fX7_many_b77 (a1 : Int32) (a2 : Int32) (a3 : Int32) (rec6 : kM1 → Int32 → Int32 → Option (Int32 × kM1)) (m0 : kM1) (b5 : Int32) (t0 : Int32) : Option (Int32 × kM1) :=
  fX7_many_b82 a1 a2 a3 rec6 m0 b5 1 t0
set_option maxRecDepth 100000 in
set_option maxHeartbeats 4000000 in
theorem sX7_many_b77 {l : Launch} {Γ : kG} (hL : k_Lay Γ 7) {p : Program} {e : Env} {R : Room} {s : State} {mid : MethodId} {args : Array Value} {below : List Frame} {meth : Method} {c : Code} (C : k_C Γ p R s mid args meth c cX7_many 7 RX7 (k_R 1)) (hr : meth.sig.returnType = (some .int)) (a1 : Int32) (a2 : Int32) (a3 : Int32) (rec6 : kM1 → Int32 → Int32 → Option (Int32 × kM1)) (hrec6 : ∀ (m0 : kM1) (b4 : Int32) (b5 : Int32), Sm Γ (K3 Γ) p l e R s mid args below meth c 7 true m0 [(0, .ref (Γ.1 0 0)), (1, .int a1), (2, .int a2), (3, .int a3), (4, .int b4), (5, .int b5)] [] 6 (rec6 m0 b4 b5)) (m0 : kM1) (b5 : Int32) (t0 : Int32)  : Sm Γ (K3 Γ) p l e R s mid args below meth c 7 true m0 [(0, .ref (Γ.1 0 0)), (1, .int a1), (2, .int a2), (3, .int a3), (5, .int b5)] [.int t0] 77 (fX7_many_b77 a1 a2 a3 rec6 m0 b5 t0) := by
  unfold fX7_many_b77
  refine k_iconst C (v := 1) dX7_many_77 (by decide) (pc' := 78) rfl ?_
  refine k_goto C (pc' := 82) dX7_many_78 (by decide) ?_
  exact sX7_many_b82 hL C hr a1 a2 a3 rec6 hrec6 m0 b5 1 t0
def fX7_many_b53 (a1 : Int32) (a2 : Int32) (a3 : Int32) (rec6 : kM1 → Int32 → Int32 → Option (Int32 × kM1)) (m0 : kM1) (b4 : Int32) (b5 : Int32) (t0 : Int32) : Option (Int32 × kM1) :=
  if t0 = 0 then fX7_many_b81 a1 a2 a3 rec6 m0 b5 b4 else if a3 = 0 then fX7_many_b77 a1 a2 a3 rec6 m0 b5 b4 else bd (fX7_of m0 b5 6) fun r9 m10 => if r9 ≤ 0 then fX7_many_b81 a1 a2 a3 rec6 m10 b5 b4 else fX7_many_b77 a1 a2 a3 rec6 m10 b5 b4
set_option maxRecDepth 100000 in
set_option maxHeartbeats 4000000 in
theorem sX7_many_b53 {l : Launch} {Γ : kG} (hL : k_Lay Γ 7) {p : Program} {e : Env} {R : Room} {s : State} {mid : MethodId} {args : Array Value} {below : List Frame} {meth : Method} {c : Code} (C : k_C Γ p R s mid args meth c cX7_many 7 RX7 (k_R 1)) (hr : meth.sig.returnType = (some .int)) (a1 : Int32) (a2 : Int32) (a3 : Int32) (rec6 : kM1 → Int32 → Int32 → Option (Int32 × kM1)) (hrec6 : ∀ (m0 : kM1) (b4 : Int32) (b5 : Int32), Sm Γ (K3 Γ) p l e R s mid args below meth c 7 true m0 [(0, .ref (Γ.1 0 0)), (1, .int a1), (2, .int a2), (3, .int a3), (4, .int b4), (5, .int b5)] [] 6 (rec6 m0 b4 b5)) (m0 : kM1) (b4 : Int32) (b5 : Int32) (t0 : Int32)  : Sm Γ (K3 Γ) p l e R s mid args below meth c 7 true m0 [(0, .ref (Γ.1 0 0)), (1, .int a1), (2, .int a2), (3, .int a3), (4, .int b4), (5, .int b5)] [.int t0] 53 (fX7_many_b53 a1 a2 a3 rec6 m0 b4 b5 t0) := by
  unfold fX7_many_b53
  refine k_istore C (lv' := [(6, .int t0), (0, .ref (Γ.1 0 0)), (1, .int a1), (2, .int a2), (3, .int a3), (4, .int b4), (5, .int b5)]) dX7_many_53 (by decide) rfl (pc' := 55) rfl ?_
  refine k_iload C 5 dX7_many_55 rfl (pc' := 57) rfl ?_
  refine k_iload C 0 dX7_many_57 rfl (pc' := 59) rfl ?_
  refine k_if_eq C (tgt := 81) dX7_many_59 (by decide) (pc' := 62) rfl (fun h5 => ?_) (fun h5 => ?_)
  · refine k_sub [1, 2, 3, 4, 6] rfl ?_
    exact sX7_many_b81 hL C hr a1 a2 a3 rec6 hrec6 m0 b5 b4
  · refine k_iload_n C 4 dX7_many_62 rfl rfl (pc' := 63) rfl ?_
    refine k_if_eq C (tgt := 77) dX7_many_63 (by decide) (pc' := 66) rfl (fun h8 => ?_) (fun h8 => ?_)
    · refine k_sub [1, 2, 3, 4, 6] rfl ?_
      exact sX7_many_b77 hL C hr a1 a2 a3 rec6 hrec6 m0 b5 b4
    · refine k_aload_n C 1 dX7_many_66 rfl rfl (pc' := 67) rfl ?_
      refine k_iload C 6 dX7_many_67 rfl (pc' := 69) rfl ?_
      refine k_bipush C (v := 6) dX7_many_69 (by decide) (pc' := 71) rfl ?_
      refine k_callVi C (rest := [.int b4]) (qX7_of l Γ hL m0 b5 6) mwX7_of iwX7_of mlX7_38 (k_rm_of (by decide) (by decide)) (c3 Γ m0 0 (e_model Γ (m0 0))) (v_0 (by decide)) rfl rfl rfl (Nat.le_of_ble_eq_true rfl) dX7_many_71 (pc' := 74) rfl (fun r9 m10 => ?_)
      refine k_if_le C (tgt := 81) dX7_many_74 (by decide) (pc' := 77) rfl (fun h11 => ?_) (fun h11 => ?_)
      · refine k_sub [1, 2, 3, 4, 6] rfl ?_
        exact sX7_many_b81 hL C hr a1 a2 a3 rec6 hrec6 m10 b5 b4
      · refine k_sub [1, 2, 3, 4, 6] rfl ?_
        exact sX7_many_b77 hL C hr a1 a2 a3 rec6 hrec6 m10 b5 b4
def fX7_many_b48 (a1 : Int32) (a2 : Int32) (a3 : Int32) (rec6 : kM1 → Int32 → Int32 → Option (Int32 × kM1)) (m0 : kM1) (b4 : Int32) (b5 : Int32) : Option (Int32 × kM1) :=
  fX7_many_b53 a1 a2 a3 rec6 m0 b4 b5 1
set_option maxRecDepth 100000 in
set_option maxHeartbeats 4000000 in
theorem sX7_many_b48 {l : Launch} {Γ : kG} (hL : k_Lay Γ 7) {p : Program} {e : Env} {R : Room} {s : State} {mid : MethodId} {args : Array Value} {below : List Frame} {meth : Method} {c : Code} (C : k_C Γ p R s mid args meth c cX7_many 7 RX7 (k_R 1)) (hr : meth.sig.returnType = (some .int)) (a1 : Int32) (a2 : Int32) (a3 : Int32) (rec6 : kM1 → Int32 → Int32 → Option (Int32 × kM1)) (hrec6 : ∀ (m0 : kM1) (b4 : Int32) (b5 : Int32), Sm Γ (K3 Γ) p l e R s mid args below meth c 7 true m0 [(0, .ref (Γ.1 0 0)), (1, .int a1), (2, .int a2), (3, .int a3), (4, .int b4), (5, .int b5)] [] 6 (rec6 m0 b4 b5)) (m0 : kM1) (b4 : Int32) (b5 : Int32)  : Sm Γ (K3 Γ) p l e R s mid args below meth c 7 true m0 [(0, .ref (Γ.1 0 0)), (1, .int a1), (2, .int a2), (3, .int a3), (4, .int b4), (5, .int b5)] [] 48 (fX7_many_b48 a1 a2 a3 rec6 m0 b4 b5) := by
  unfold fX7_many_b48
  refine k_iconst C (v := 1) dX7_many_48 (by decide) (pc' := 49) rfl ?_
  refine k_goto C (pc' := 53) dX7_many_49 (by decide) ?_
  exact sX7_many_b53 hL C hr a1 a2 a3 rec6 hrec6 m0 b4 b5 1
def fX7_many_b52 (a1 : Int32) (a2 : Int32) (a3 : Int32) (rec6 : kM1 → Int32 → Int32 → Option (Int32 × kM1)) (m0 : kM1) (b4 : Int32) (b5 : Int32) : Option (Int32 × kM1) :=
  fX7_many_b53 a1 a2 a3 rec6 m0 b4 b5 0
set_option maxRecDepth 100000 in
set_option maxHeartbeats 4000000 in
theorem sX7_many_b52 {l : Launch} {Γ : kG} (hL : k_Lay Γ 7) {p : Program} {e : Env} {R : Room} {s : State} {mid : MethodId} {args : Array Value} {below : List Frame} {meth : Method} {c : Code} (C : k_C Γ p R s mid args meth c cX7_many 7 RX7 (k_R 1)) (hr : meth.sig.returnType = (some .int)) (a1 : Int32) (a2 : Int32) (a3 : Int32) (rec6 : kM1 → Int32 → Int32 → Option (Int32 × kM1)) (hrec6 : ∀ (m0 : kM1) (b4 : Int32) (b5 : Int32), Sm Γ (K3 Γ) p l e R s mid args below meth c 7 true m0 [(0, .ref (Γ.1 0 0)), (1, .int a1), (2, .int a2), (3, .int a3), (4, .int b4), (5, .int b5)] [] 6 (rec6 m0 b4 b5)) (m0 : kM1) (b4 : Int32) (b5 : Int32)  : Sm Γ (K3 Γ) p l e R s mid args below meth c 7 true m0 [(0, .ref (Γ.1 0 0)), (1, .int a1), (2, .int a2), (3, .int a3), (4, .int b4), (5, .int b5)] [] 52 (fX7_many_b52 a1 a2 a3 rec6 m0 b4 b5) := by
  unfold fX7_many_b52
  refine k_iconst C (v := 0) dX7_many_52 (by decide) (pc' := 53) rfl ?_
  exact sX7_many_b53 hL C hr a1 a2 a3 rec6 hrec6 m0 b4 b5 0
def fX7_many_b33 (a1 : Int32) (a2 : Int32) (a3 : Int32) (rec6 : kM1 → Int32 → Int32 → Option (Int32 × kM1)) (m0 : kM1) (b4 : Int32) (b5 : Int32) : Option (Int32 × kM1) :=
  if a2 < 0 then fX7_many_b48 a1 a2 a3 rec6 m0 b4 b5 else bd (fX7_of m0 b5 1) fun r12 m13 => if r12 = a2 then fX7_many_b48 a1 a2 a3 rec6 m13 b4 b5 else fX7_many_b52 a1 a2 a3 rec6 m13 b4 b5
set_option maxRecDepth 100000 in
set_option maxHeartbeats 4000000 in
theorem sX7_many_b33 {l : Launch} {Γ : kG} (hL : k_Lay Γ 7) {p : Program} {e : Env} {R : Room} {s : State} {mid : MethodId} {args : Array Value} {below : List Frame} {meth : Method} {c : Code} (C : k_C Γ p R s mid args meth c cX7_many 7 RX7 (k_R 1)) (hr : meth.sig.returnType = (some .int)) (a1 : Int32) (a2 : Int32) (a3 : Int32) (rec6 : kM1 → Int32 → Int32 → Option (Int32 × kM1)) (hrec6 : ∀ (m0 : kM1) (b4 : Int32) (b5 : Int32), Sm Γ (K3 Γ) p l e R s mid args below meth c 7 true m0 [(0, .ref (Γ.1 0 0)), (1, .int a1), (2, .int a2), (3, .int a3), (4, .int b4), (5, .int b5)] [] 6 (rec6 m0 b4 b5)) (m0 : kM1) (b4 : Int32) (b5 : Int32)  : Sm Γ (K3 Γ) p l e R s mid args below meth c 7 true m0 [(0, .ref (Γ.1 0 0)), (1, .int a1), (2, .int a2), (3, .int a3), (4, .int b4), (5, .int b5)] [] 33 (fX7_many_b33 a1 a2 a3 rec6 m0 b4 b5) := by
  unfold fX7_many_b33
  refine k_iload_n C 2 dX7_many_33 rfl rfl (pc' := 34) rfl ?_
  refine k_if_lt C (tgt := 48) dX7_many_34 (by decide) (pc' := 37) rfl (fun h4 => ?_) (fun h4 => ?_)
  · exact sX7_many_b48 hL C hr a1 a2 a3 rec6 hrec6 m0 b4 b5
  · refine k_aload_n C 0 dX7_many_37 rfl rfl (pc' := 38) rfl ?_
    refine k_iload C 5 dX7_many_38 rfl (pc' := 40) rfl ?_
    refine k_iconst C (v := 1) dX7_many_40 (by decide) (pc' := 41) rfl ?_
    refine k_callVi C (rest := []) (qX7_of l Γ hL m0 b5 1) mwX7_of iwX7_of mlX7_38 (k_rm_of (by decide) (by decide)) (c3 Γ m0 0 (e_model Γ (m0 0))) (v_0 (by decide)) rfl rfl rfl (Nat.le_of_ble_eq_true rfl) dX7_many_41 (pc' := 44) rfl (fun r12 m13 => ?_)
    refine k_iload_n C 2 dX7_many_44 rfl rfl (pc' := 45) rfl ?_
    refine k_ic_ne C (tgt := 52) dX7_many_45 (by decide) (pc' := 48) rfl (fun h14 => ?_) (fun h14 => ?_)
    · exact sX7_many_b52 hL C hr a1 a2 a3 rec6 hrec6 m13 b4 b5
    · exact sX7_many_b48 hL C hr a1 a2 a3 rec6 hrec6 m13 b4 b5
def fX7_many_b6 (a1 : Int32) (a2 : Int32) (a3 : Int32) : Nat → kM1 → Int32 → Int32 → Option (Int32 × kM1)
  | 0, _, _, _ => none
  | n + 1, m0, b4, b5 =>
  if (m0 1 29) ≤ b5 then some (b4, m0) else if a1 < 0 then fX7_many_b33 a1 a2 a3 (fX7_many_b6 a1 a2 a3 n) m0 b4 b5 else bd (fX7_of m0 b5 0) fun r15 m16 => if r15 = a1 then fX7_many_b33 a1 a2 a3 (fX7_many_b6 a1 a2 a3 n) m16 b4 b5 else fX7_many_b52 a1 a2 a3 (fX7_many_b6 a1 a2 a3 n) m16 b4 b5
set_option maxRecDepth 100000 in
set_option maxHeartbeats 4000000 in
theorem sX7_many_b6 {l : Launch} {Γ : kG} (hL : k_Lay Γ 7) {p : Program} {e : Env} {R : Room} {s : State} {mid : MethodId} {args : Array Value} {below : List Frame} {meth : Method} {c : Code} (C : k_C Γ p R s mid args meth c cX7_many 7 RX7 (k_R 1)) (hr : meth.sig.returnType = (some .int)) (a1 : Int32) (a2 : Int32) (a3 : Int32)  (n : Nat) : ∀ (m0 : kM1) (b4 : Int32) (b5 : Int32), Sm Γ (K3 Γ) p l e R s mid args below meth c 7 true m0 [(0, .ref (Γ.1 0 0)), (1, .int a1), (2, .int a2), (3, .int a3), (4, .int b4), (5, .int b5)] [] 6 (fX7_many_b6 a1 a2 a3 n m0 b4 b5) := by
  induction n with
  | zero => intros; exact k_none
  | succ n ih =>
    intro m0 b4 b5
    unfold fX7_many_b6
    refine k_iload C 5 dX7_many_6 rfl (pc' := 8) rfl ?_
    refine k_aload_n C 0 dX7_many_8 rfl rfl (pc' := 9) rfl ?_
    refine k_getf C 0 (c3 Γ m0 0 (e_model Γ (m0 0))) (v_0 (by decide)) flX7_7 (v := .ref (Γ.1 0 1)) rfl dX7_many_9 (pc' := 12) rfl ?_
    refine k_bipush C (v := 29) dX7_many_12 (by decide) (pc' := 14) rfl ?_
    refine k_ialdK C (n0 := 29) (c3 Γ m0 1 (e_d Γ (m0 1))) (v_0 (by decide)) (by decide) (by decide) dX7_many_14 (pc' := 15) rfl ?_
    refine k_ic_ge C (tgt := 91) dX7_many_15 (by decide) (pc' := 18) rfl (fun h2 => ?_) (fun h2 => ?_)
    · refine k_iload C 4 dX7_many_91 rfl (pc' := 93) rfl ?_
      exact k_reti C rfl hr dX7_many_93
    · refine k_iload_n C 1 dX7_many_18 rfl rfl (pc' := 19) rfl ?_
      refine k_if_lt C (tgt := 33) dX7_many_19 (by decide) (pc' := 22) rfl (fun h3 => ?_) (fun h3 => ?_)
      · exact sX7_many_b33 hL C hr a1 a2 a3 (fX7_many_b6 a1 a2 a3 n) ih m0 b4 b5
      · refine k_aload_n C 0 dX7_many_22 rfl rfl (pc' := 23) rfl ?_
        refine k_iload C 5 dX7_many_23 rfl (pc' := 25) rfl ?_
        refine k_iconst C (v := 0) dX7_many_25 (by decide) (pc' := 26) rfl ?_
        refine k_callVi C (rest := []) (qX7_of l Γ hL m0 b5 0) mwX7_of iwX7_of mlX7_38 (k_rm_of (by decide) (by decide)) (c3 Γ m0 0 (e_model Γ (m0 0))) (v_0 (by decide)) rfl rfl rfl (Nat.le_of_ble_eq_true rfl) dX7_many_26 (pc' := 29) rfl (fun r15 m16 => ?_)
        refine k_iload_n C 1 dX7_many_29 rfl rfl (pc' := 30) rfl ?_
        refine k_ic_ne C (tgt := 52) dX7_many_30 (by decide) (pc' := 33) rfl (fun h17 => ?_) (fun h17 => ?_)
        · exact sX7_many_b52 hL C hr a1 a2 a3 (fX7_many_b6 a1 a2 a3 n) ih m16 b4 b5
        · exact sX7_many_b33 hL C hr a1 a2 a3 (fX7_many_b6 a1 a2 a3 n) ih m16 b4 b5
def fX7_many (m0 : kM1) (a1 : Int32) (a2 : Int32) (a3 : Int32) : Option (Int32 × kM1) :=
  fX7_many_b6 a1 a2 a3 kFu m0 0 0
set_option maxRecDepth 100000 in
set_option maxHeartbeats 4000000 in
theorem qX7_many (l : Launch) (Γ : kG) (hL : k_Lay Γ 7) (m0 : kM1) (a1 : Int32) (a2 : Int32) (a3 : Int32) : CT l Γ (K3 Γ) yX7_many cX7_many 7 (some .int) (k_R 1) [.ref (Γ.1 0 0), .int a1, .int a2, .int a3] m0 (fX7_many m0 a1 a2 a3) := by
  refine k_meth (own := RX7) (by decide) rfl (Nat.le_of_ble_eq_true rfl) (fun p e R s mid args below meth c C hr => ?_)
  show Sm Γ (K3 Γ) p l e R s mid args below meth c 7 true m0 [(0, .ref (Γ.1 0 0)), (1, .int a1), (2, .int a2), (3, .int a3)] [] 0 (fX7_many m0 a1 a2 a3)
  unfold fX7_many
  refine k_iconst C (v := 0) dX7_many_0 (by decide) (pc' := 1) rfl ?_
  refine k_istore C (lv' := [(4, .int 0), (0, .ref (Γ.1 0 0)), (1, .int a1), (2, .int a2), (3, .int a3)]) dX7_many_1 (by decide) rfl (pc' := 3) rfl ?_
  refine k_iconst C (v := 0) dX7_many_3 (by decide) (pc' := 4) rfl ?_
  refine k_istore C (lv' := [(5, .int 0), (4, .int 0), (0, .ref (Γ.1 0 0)), (1, .int a1), (2, .int a2), (3, .int a3)]) dX7_many_4 (by decide) rfl (pc' := 6) rfl ?_
  refine k_sub [2, 3, 4, 5, 1, 0] rfl ?_
  exact sX7_many_b6 hL C hr a1 a2 a3 kFu m0 0 0
def fX7_kindOf_b71 (a1 : Int32) (a2 : Int32)  (m0 : kM1) (t0 : Int32) (t2 : Int32) : Option (Int32 × kM1) :=
  bd (fX7_sum m0 t2 a1 t0) fun r10 m11 => some (r10, m11)
set_option maxRecDepth 100000 in
set_option maxHeartbeats 4000000 in
theorem sX7_kindOf_b71 {l : Launch} {Γ : kG} (hL : k_Lay Γ 7) {p : Program} {e : Env} {R : Room} {s : State} {mid : MethodId} {args : Array Value} {below : List Frame} {meth : Method} {c : Code} (C : k_C Γ p R s mid args meth c cX7_kindOf 3 RX7 (k_R 6)) (hr : meth.sig.returnType = (some .int)) (a1 : Int32) (a2 : Int32)  (m0 : kM1) (t0 : Int32) (t2 : Int32)  : Sm Γ (K3 Γ) p l e R s mid args below meth c 3 true m0 [] [.int t0, .int a1, .int t2, .ref (Γ.1 0 0)] 71 (fX7_kindOf_b71 a1 a2 m0 t0 t2) := by
  unfold fX7_kindOf_b71
  refine k_callVi C (rest := []) (qX7_sum l Γ hL m0 t2 a1 t0) mwX7_sum iwX7_sum mlX7_148 (k_rm_of (by decide) (by decide)) (c3 Γ m0 0 (e_model Γ (m0 0))) (v_0 (by decide)) rfl rfl rfl (Nat.le_of_ble_eq_true rfl) dX7_kindOf_71 (pc' := 74) rfl (fun r10 m11 => ?_)
  exact k_reti C rfl hr dX7_kindOf_74
def fX7_kindOf (m0 : kM1) (a1 : Int32) (a2 : Int32) : Option (Int32 × kM1) :=
  bd (fX7_isKind m0 a1) fun r1 m2 => if r1 = 0 then some ((-1000001), m2) else bd (fX7_in m2 a2 0 5) fun r4 m5 => if r4 = 0 then some ((-1000001), m5) else if 3 ≤ a2 then if a2 = 3 then bd (fX7_many m5 (-1) a1 0) fun r12 m13 => some (r12, m13) else if a2 = 4 then fX7_kindOf_b71 a1 a2 m5 6 (-1) else fX7_kindOf_b71 a1 a2 m5 9 (-1) else if ¬ ((30 + (3 * a1)) + a2) < 0 ∧ ((30 + (3 * a1)) + a2).toNatClampNeg < 368 then some (m5 1 ((30 + (3 * a1)) + a2).toNatClampNeg, m5) else none
set_option maxRecDepth 100000 in
set_option maxHeartbeats 4000000 in
theorem qX7_kindOf (l : Launch) (Γ : kG) (hL : k_Lay Γ 7) (m0 : kM1) (a1 : Int32) (a2 : Int32) : CT l Γ (K3 Γ) yX7_kindOf cX7_kindOf 3 (some .int) (k_R 6) [.ref (Γ.1 0 0), .int a1, .int a2] m0 (fX7_kindOf m0 a1 a2) := by
  refine k_meth (own := RX7) (by decide) rfl (Nat.le_of_ble_eq_true rfl) (fun p e R s mid args below meth c C hr => ?_)
  show Sm Γ (K3 Γ) p l e R s mid args below meth c 3 true m0 [(0, .ref (Γ.1 0 0)), (1, .int a1), (2, .int a2)] [] 0 (fX7_kindOf m0 a1 a2)
  unfold fX7_kindOf
  refine k_aload_n C 0 dX7_kindOf_0 rfl rfl (pc' := 1) rfl ?_
  refine k_iload_n C 1 dX7_kindOf_1 rfl rfl (pc' := 2) rfl ?_
  refine k_callVi C (rest := []) (qX7_isKind l Γ hL m0 a1) mwX7_isKind iwX7_isKind mlX7_98 (k_rm_of (by decide) (by decide)) (c3 Γ m0 0 (e_model Γ (m0 0))) (v_0 (by decide)) rfl rfl rfl (Nat.le_of_ble_eq_true rfl) dX7_kindOf_2 (pc' := 5) rfl (fun r1 m2 => ?_)
  refine k_if_eq C (tgt := 17) dX7_kindOf_5 (by decide) (pc' := 8) rfl (fun h3 => ?_) (fun h3 => ?_)
  · refine k_ldc C (v := (-1000001)) dX7_kindOf_17 cnX7_33 (pc' := 19) rfl ?_
    exact k_reti C rfl hr dX7_kindOf_19
  · refine k_iload_n C 2 dX7_kindOf_8 rfl rfl (pc' := 9) rfl ?_
    refine k_iconst C (v := 0) dX7_kindOf_9 (by decide) (pc' := 10) rfl ?_
    refine k_iconst C (v := 5) dX7_kindOf_10 (by decide) (pc' := 11) rfl ?_
    refine k_callSi C (rest := []) (qX7_in l Γ (K3 Γ) m2 a2 0 5) mwX7_in swX7_in mlX7_29 (k_rm_of (by decide) (by decide)) rfl rfl (Nat.le_of_ble_eq_true rfl) dX7_kindOf_11 (pc' := 14) rfl (fun r4 m5 => ?_)
    refine k_if_ne C (tgt := 20) dX7_kindOf_14 (by decide) (pc' := 17) rfl (fun h6 => ?_) (fun h6 => ?_)
    · refine k_iload_n C 2 dX7_kindOf_20 rfl rfl (pc' := 21) rfl ?_
      refine k_iconst C (v := 3) dX7_kindOf_21 (by decide) (pc' := 22) rfl ?_
      refine k_ic_ge C (tgt := 41) dX7_kindOf_22 (by decide) (pc' := 25) rfl (fun h7 => ?_) (fun h7 => ?_)
      · refine k_iload_n C 2 dX7_kindOf_41 rfl rfl (pc' := 42) rfl ?_
        refine k_iconst C (v := 3) dX7_kindOf_42 (by decide) (pc' := 43) rfl ?_
        refine k_ic_ne C (tgt := 56) dX7_kindOf_43 (by decide) (pc' := 46) rfl (fun h8 => ?_) (fun h8 => ?_)
        · refine k_aload_n C 0 dX7_kindOf_56 rfl rfl (pc' := 57) rfl ?_
          refine k_iconst C (v := (-1)) dX7_kindOf_57 (by decide) (pc' := 58) rfl ?_
          refine k_iload_n C 1 dX7_kindOf_58 rfl rfl (pc' := 59) rfl ?_
          refine k_iload_n C 2 dX7_kindOf_59 rfl rfl (pc' := 60) rfl ?_
          refine k_iconst C (v := 4) dX7_kindOf_60 (by decide) (pc' := 61) rfl ?_
          refine k_ic_ne C (tgt := 69) dX7_kindOf_61 (by decide) (pc' := 64) rfl (fun h9 => ?_) (fun h9 => ?_)
          · refine k_bipush C (v := 9) dX7_kindOf_69 (by decide) (pc' := 71) rfl ?_
            refine k_sub [] rfl ?_
            exact sX7_kindOf_b71 hL C hr a1 a2 m5 9 (-1)
          · refine k_bipush C (v := 6) dX7_kindOf_64 (by decide) (pc' := 66) rfl ?_
            refine k_goto C (pc' := 71) dX7_kindOf_66 (by decide) ?_
            refine k_sub [] rfl ?_
            exact sX7_kindOf_b71 hL C hr a1 a2 m5 6 (-1)
        · refine k_aload_n C 0 dX7_kindOf_46 rfl rfl (pc' := 47) rfl ?_
          refine k_iconst C (v := (-1)) dX7_kindOf_47 (by decide) (pc' := 48) rfl ?_
          refine k_iload_n C 1 dX7_kindOf_48 rfl rfl (pc' := 49) rfl ?_
          refine k_iconst C (v := 0) dX7_kindOf_49 (by decide) (pc' := 50) rfl ?_
          refine k_callVi C (rest := []) (qX7_many l Γ hL m5 (-1) a1 0) mwX7_many iwX7_many mlX7_144 (k_rm_of (by decide) (by decide)) (c3 Γ m5 0 (e_model Γ (m5 0))) (v_0 (by decide)) rfl rfl rfl (Nat.le_of_ble_eq_true rfl) dX7_kindOf_50 (pc' := 53) rfl (fun r12 m13 => ?_)
          refine k_goto C (pc' := 74) dX7_kindOf_53 (by decide) ?_
          exact k_reti C rfl hr dX7_kindOf_74
      · refine k_aload_n C 0 dX7_kindOf_25 rfl rfl (pc' := 26) rfl ?_
        refine k_getf C 0 (c3 Γ m5 0 (e_model Γ (m5 0))) (v_0 (by decide)) flX7_7 (v := .ref (Γ.1 0 1)) rfl dX7_kindOf_26 (pc' := 29) rfl ?_
        refine k_bipush C (v := 30) dX7_kindOf_29 (by decide) (pc' := 31) rfl ?_
        refine k_iconst C (v := 3) dX7_kindOf_31 (by decide) (pc' := 32) rfl ?_
        refine k_iload_n C 1 dX7_kindOf_32 rfl rfl (pc' := 33) rfl ?_
        refine k_imul C dX7_kindOf_33 (pc' := 34) rfl ?_
        refine k_iadd C dX7_kindOf_34 (pc' := 35) rfl ?_
        refine k_iload_n C 2 dX7_kindOf_35 rfl rfl (pc' := 36) rfl ?_
        refine k_iadd C dX7_kindOf_36 (pc' := 37) rfl ?_
        refine k_iald C (c3 Γ m5 1 (e_d Γ (m5 1))) (v_0 (by decide)) dX7_kindOf_37 (pc' := 38) rfl (fun h14 => ?_)
        refine k_goto C (pc' := 74) dX7_kindOf_38 (by decide) ?_
        exact k_reti C rfl hr dX7_kindOf_74
    · refine k_ldc C (v := (-1000001)) dX7_kindOf_17 cnX7_33 (pc' := 19) rfl ?_
      exact k_reti C rfl hr dX7_kindOf_19
def fX7_farmerOf_b98 (a1 : Int32) (a2 : Int32)  (m0 : kM1) (t0 : Int32) (t1 : Int32) : Option (Int32 × kM1) :=
  bd (fX7_sum m0 a1 t1 t0) fun r19 m20 => some (r19, m20)
set_option maxRecDepth 100000 in
set_option maxHeartbeats 4000000 in
theorem sX7_farmerOf_b98 {l : Launch} {Γ : kG} (hL : k_Lay Γ 7) {p : Program} {e : Env} {R : Room} {s : State} {mid : MethodId} {args : Array Value} {below : List Frame} {meth : Method} {c : Code} (C : k_C Γ p R s mid args meth c cX7_farmerOf 3 RX7 (k_R 6)) (hr : meth.sig.returnType = (some .int)) (a1 : Int32) (a2 : Int32)  (m0 : kM1) (t0 : Int32) (t1 : Int32)  : Sm Γ (K3 Γ) p l e R s mid args below meth c 3 true m0 [] [.int t0, .int t1, .int a1, .ref (Γ.1 0 0)] 98 (fX7_farmerOf_b98 a1 a2 m0 t0 t1) := by
  unfold fX7_farmerOf_b98
  refine k_callVi C (rest := []) (qX7_sum l Γ hL m0 a1 t1 t0) mwX7_sum iwX7_sum mlX7_148 (k_rm_of (by decide) (by decide)) (c3 Γ m0 0 (e_model Γ (m0 0))) (v_0 (by decide)) rfl rfl rfl (Nat.le_of_ble_eq_true rfl) dX7_farmerOf_98 (pc' := 101) rfl (fun r19 m20 => ?_)
  exact k_reti C rfl hr dX7_farmerOf_101
def fX7_farmerOf (m0 : kM1) (a1 : Int32) (a2 : Int32) : Option (Int32 × kM1) :=
  bd (fX7_isFarmer m0 a1) fun r1 m2 => if r1 = 0 then some ((-1000001), m2) else bd (fX7_in m2 a2 0 5) fun r4 m5 => if r4 = 0 then some ((-1000001), m5) else if a2 = 0 then if ¬ (48 + a1) < 0 ∧ (48 + a1).toNatClampNeg < 368 then some (m5 1 (48 + a1).toNatClampNeg, m5) else none else if a2 = 1 then bd (fX7_many m5 a1 (-1) 0) fun r10 m11 => some (r10, m11) else if a2 = 2 then bd (fX7_came m5 a1) fun r13 m14 => some (r13, m14) else if a2 = 3 then bd (fX7_many m5 a1 (-1) 1) fun r16 m17 => some (r16, m17) else if a2 = 4 then fX7_farmerOf_b98 a1 a2 m5 5 (-1) else fX7_farmerOf_b98 a1 a2 m5 10 (-1)
set_option maxRecDepth 100000 in
set_option maxHeartbeats 4000000 in
theorem qX7_farmerOf (l : Launch) (Γ : kG) (hL : k_Lay Γ 7) (m0 : kM1) (a1 : Int32) (a2 : Int32) : CT l Γ (K3 Γ) yX7_farmerOf cX7_farmerOf 3 (some .int) (k_R 6) [.ref (Γ.1 0 0), .int a1, .int a2] m0 (fX7_farmerOf m0 a1 a2) := by
  refine k_meth (own := RX7) (by decide) rfl (Nat.le_of_ble_eq_true rfl) (fun p e R s mid args below meth c C hr => ?_)
  show Sm Γ (K3 Γ) p l e R s mid args below meth c 3 true m0 [(0, .ref (Γ.1 0 0)), (1, .int a1), (2, .int a2)] [] 0 (fX7_farmerOf m0 a1 a2)
  unfold fX7_farmerOf
  refine k_aload_n C 0 dX7_farmerOf_0 rfl rfl (pc' := 1) rfl ?_
  refine k_iload_n C 1 dX7_farmerOf_1 rfl rfl (pc' := 2) rfl ?_
  refine k_callVi C (rest := []) (qX7_isFarmer l Γ hL m0 a1) mwX7_isFarmer iwX7_isFarmer mlX7_94 (k_rm_of (by decide) (by decide)) (c3 Γ m0 0 (e_model Γ (m0 0))) (v_0 (by decide)) rfl rfl rfl (Nat.le_of_ble_eq_true rfl) dX7_farmerOf_2 (pc' := 5) rfl (fun r1 m2 => ?_)
  refine k_if_eq C (tgt := 17) dX7_farmerOf_5 (by decide) (pc' := 8) rfl (fun h3 => ?_) (fun h3 => ?_)
  · refine k_ldc C (v := (-1000001)) dX7_farmerOf_17 cnX7_33 (pc' := 19) rfl ?_
    exact k_reti C rfl hr dX7_farmerOf_19
  · refine k_iload_n C 2 dX7_farmerOf_8 rfl rfl (pc' := 9) rfl ?_
    refine k_iconst C (v := 0) dX7_farmerOf_9 (by decide) (pc' := 10) rfl ?_
    refine k_iconst C (v := 5) dX7_farmerOf_10 (by decide) (pc' := 11) rfl ?_
    refine k_callSi C (rest := []) (qX7_in l Γ (K3 Γ) m2 a2 0 5) mwX7_in swX7_in mlX7_29 (k_rm_of (by decide) (by decide)) rfl rfl (Nat.le_of_ble_eq_true rfl) dX7_farmerOf_11 (pc' := 14) rfl (fun r4 m5 => ?_)
    refine k_if_ne C (tgt := 20) dX7_farmerOf_14 (by decide) (pc' := 17) rfl (fun h6 => ?_) (fun h6 => ?_)
    · refine k_iload_n C 2 dX7_farmerOf_20 rfl rfl (pc' := 21) rfl ?_
      refine k_ite (fun h7 => ?_) (fun h7 => ?_)
      · refine k_tswIn C (31) dX7_farmerOf_21 h7 (by decide) (by decide) rfl (pc' := 52) (by decide) ?_
        refine k_aload_n C 0 dX7_farmerOf_52 rfl rfl (pc' := 53) rfl ?_
        refine k_getf C 0 (c3 Γ m5 0 (e_model Γ (m5 0))) (v_0 (by decide)) flX7_7 (v := .ref (Γ.1 0 1)) rfl dX7_farmerOf_53 (pc' := 56) rfl ?_
        refine k_bipush C (v := 48) dX7_farmerOf_56 (by decide) (pc' := 58) rfl ?_
        refine k_iload_n C 1 dX7_farmerOf_58 rfl rfl (pc' := 59) rfl ?_
        refine k_iadd C dX7_farmerOf_59 (pc' := 60) rfl ?_
        refine k_iald C (c3 Γ m5 1 (e_d Γ (m5 1))) (v_0 (by decide)) dX7_farmerOf_60 (pc' := 61) rfl (fun h8 => ?_)
        exact k_reti C rfl hr dX7_farmerOf_61
      refine k_ite (fun h9 => ?_) (fun h9 => ?_)
      · refine k_tswIn C (41) dX7_farmerOf_21 h9 (by decide) (by decide) rfl (pc' := 62) (by decide) ?_
        refine k_aload_n C 0 dX7_farmerOf_62 rfl rfl (pc' := 63) rfl ?_
        refine k_iload_n C 1 dX7_farmerOf_63 rfl rfl (pc' := 64) rfl ?_
        refine k_iconst C (v := (-1)) dX7_farmerOf_64 (by decide) (pc' := 65) rfl ?_
        refine k_iconst C (v := 0) dX7_farmerOf_65 (by decide) (pc' := 66) rfl ?_
        refine k_callVi C (rest := []) (qX7_many l Γ hL m5 a1 (-1) 0) mwX7_many iwX7_many mlX7_144 (k_rm_of (by decide) (by decide)) (c3 Γ m5 0 (e_model Γ (m5 0))) (v_0 (by decide)) rfl rfl rfl (Nat.le_of_ble_eq_true rfl) dX7_farmerOf_66 (pc' := 69) rfl (fun r10 m11 => ?_)
        exact k_reti C rfl hr dX7_farmerOf_69
      refine k_ite (fun h12 => ?_) (fun h12 => ?_)
      · refine k_tswIn C (49) dX7_farmerOf_21 h12 (by decide) (by decide) rfl (pc' := 70) (by decide) ?_
        refine k_aload_n C 0 dX7_farmerOf_70 rfl rfl (pc' := 71) rfl ?_
        refine k_iload_n C 1 dX7_farmerOf_71 rfl rfl (pc' := 72) rfl ?_
        refine k_callVi C (rest := []) (qX7_came l Γ hL m5 a1) mwX7_came iwX7_came mlX7_49 (k_rm_of (by decide) (by decide)) (c3 Γ m5 0 (e_model Γ (m5 0))) (v_0 (by decide)) rfl rfl rfl (Nat.le_of_ble_eq_true rfl) dX7_farmerOf_72 (pc' := 75) rfl (fun r13 m14 => ?_)
        exact k_reti C rfl hr dX7_farmerOf_75
      refine k_ite (fun h15 => ?_) (fun h15 => ?_)
      · refine k_tswIn C (55) dX7_farmerOf_21 h15 (by decide) (by decide) rfl (pc' := 76) (by decide) ?_
        refine k_aload_n C 0 dX7_farmerOf_76 rfl rfl (pc' := 77) rfl ?_
        refine k_iload_n C 1 dX7_farmerOf_77 rfl rfl (pc' := 78) rfl ?_
        refine k_iconst C (v := (-1)) dX7_farmerOf_78 (by decide) (pc' := 79) rfl ?_
        refine k_iconst C (v := 1) dX7_farmerOf_79 (by decide) (pc' := 80) rfl ?_
        refine k_callVi C (rest := []) (qX7_many l Γ hL m5 a1 (-1) 1) mwX7_many iwX7_many mlX7_144 (k_rm_of (by decide) (by decide)) (c3 Γ m5 0 (e_model Γ (m5 0))) (v_0 (by decide)) rfl rfl rfl (Nat.le_of_ble_eq_true rfl) dX7_farmerOf_80 (pc' := 83) rfl (fun r16 m17 => ?_)
        exact k_reti C rfl hr dX7_farmerOf_83
      refine k_tswOut C dX7_farmerOf_21 (by have z0 := lv_neT h7 (show (0 : Int32).toInt = 0 by decide); have z1 := lv_neT h9 (show (1 : Int32).toInt = 1 by decide); have z2 := lv_neT h12 (show (2 : Int32).toInt = 2 by decide); have z3 := lv_neT h15 (show (3 : Int32).toInt = 3 by decide); omega) (pc' := 84) (by decide) ?_
      refine k_aload_n C 0 dX7_farmerOf_84 rfl rfl (pc' := 85) rfl ?_
      refine k_iload_n C 1 dX7_farmerOf_85 rfl rfl (pc' := 86) rfl ?_
      refine k_iconst C (v := (-1)) dX7_farmerOf_86 (by decide) (pc' := 87) rfl ?_
      refine k_iload_n C 2 dX7_farmerOf_87 rfl rfl (pc' := 88) rfl ?_
      refine k_iconst C (v := 4) dX7_farmerOf_88 (by decide) (pc' := 89) rfl ?_
      refine k_ic_ne C (tgt := 96) dX7_farmerOf_89 (by decide) (pc' := 92) rfl (fun h18 => ?_) (fun h18 => ?_)
      · refine k_bipush C (v := 10) dX7_farmerOf_96 (by decide) (pc' := 98) rfl ?_
        refine k_sub [] rfl ?_
        exact sX7_farmerOf_b98 hL C hr a1 a2 m5 10 (-1)
      · refine k_iconst C (v := 5) dX7_farmerOf_92 (by decide) (pc' := 93) rfl ?_
        refine k_goto C (pc' := 98) dX7_farmerOf_93 (by decide) ?_
        refine k_sub [] rfl ?_
        exact sX7_farmerOf_b98 hL C hr a1 a2 m5 5 (-1)
    · refine k_ldc C (v := (-1000001)) dX7_farmerOf_17 cnX7_33 (pc' := 19) rfl ?_
      exact k_reti C rfl hr dX7_farmerOf_19
def fX7_sackOf (m0 : kM1) (a1 : Int32) (a2 : Int32) : Option (Int32 × kM1) :=
  bd (fX7_isSack m0 a1) fun r1 m2 => if r1 = 0 then some ((-1000001), m2) else bd (fX7_in m2 a2 0 11) fun r4 m5 => if r4 = 0 then some ((-1000001), m5) else if 11 ≤ a2 then bd (fX7_of m5 a1 3) fun r8 m9 => if r8 = 0 then bd (fX7_placeOf m9 a1) fun r11 m12 => some (r11, m12) else some ((-1000004), m9) else bd (fX7_told m5 a1 a2) fun r13 m14 => some (r13, m14)
set_option maxRecDepth 100000 in
set_option maxHeartbeats 4000000 in
theorem qX7_sackOf (l : Launch) (Γ : kG) (hL : k_Lay Γ 7) (m0 : kM1) (a1 : Int32) (a2 : Int32) : CT l Γ (K3 Γ) yX7_sackOf cX7_sackOf 3 (some .int) (k_R 5) [.ref (Γ.1 0 0), .int a1, .int a2] m0 (fX7_sackOf m0 a1 a2) := by
  refine k_meth (own := RX7) (by decide) rfl (Nat.le_of_ble_eq_true rfl) (fun p e R s mid args below meth c C hr => ?_)
  show Sm Γ (K3 Γ) p l e R s mid args below meth c 3 true m0 [(0, .ref (Γ.1 0 0)), (1, .int a1), (2, .int a2)] [] 0 (fX7_sackOf m0 a1 a2)
  unfold fX7_sackOf
  refine k_aload_n C 0 dX7_sackOf_0 rfl rfl (pc' := 1) rfl ?_
  refine k_iload_n C 1 dX7_sackOf_1 rfl rfl (pc' := 2) rfl ?_
  refine k_callVi C (rest := []) (qX7_isSack l Γ hL m0 a1) mwX7_isSack iwX7_isSack mlX7_102 (k_rm_of (by decide) (by decide)) (c3 Γ m0 0 (e_model Γ (m0 0))) (v_0 (by decide)) rfl rfl rfl (Nat.le_of_ble_eq_true rfl) dX7_sackOf_2 (pc' := 5) rfl (fun r1 m2 => ?_)
  refine k_if_eq C (tgt := 18) dX7_sackOf_5 (by decide) (pc' := 8) rfl (fun h3 => ?_) (fun h3 => ?_)
  · refine k_ldc C (v := (-1000001)) dX7_sackOf_18 cnX7_33 (pc' := 20) rfl ?_
    exact k_reti C rfl hr dX7_sackOf_20
  · refine k_iload_n C 2 dX7_sackOf_8 rfl rfl (pc' := 9) rfl ?_
    refine k_iconst C (v := 0) dX7_sackOf_9 (by decide) (pc' := 10) rfl ?_
    refine k_bipush C (v := 11) dX7_sackOf_10 (by decide) (pc' := 12) rfl ?_
    refine k_callSi C (rest := []) (qX7_in l Γ (K3 Γ) m2 a2 0 11) mwX7_in swX7_in mlX7_29 (k_rm_of (by decide) (by decide)) rfl rfl (Nat.le_of_ble_eq_true rfl) dX7_sackOf_12 (pc' := 15) rfl (fun r4 m5 => ?_)
    refine k_if_ne C (tgt := 21) dX7_sackOf_15 (by decide) (pc' := 18) rfl (fun h6 => ?_) (fun h6 => ?_)
    · refine k_iload_n C 2 dX7_sackOf_21 rfl rfl (pc' := 22) rfl ?_
      refine k_bipush C (v := 11) dX7_sackOf_22 (by decide) (pc' := 24) rfl ?_
      refine k_ic_ge C (tgt := 36) dX7_sackOf_24 (by decide) (pc' := 27) rfl (fun h7 => ?_) (fun h7 => ?_)
      · refine k_aload_n C 0 dX7_sackOf_36 rfl rfl (pc' := 37) rfl ?_
        refine k_iload_n C 1 dX7_sackOf_37 rfl rfl (pc' := 38) rfl ?_
        refine k_iconst C (v := 3) dX7_sackOf_38 (by decide) (pc' := 39) rfl ?_
        refine k_callVi C (rest := []) (qX7_of l Γ hL m5 a1 3) mwX7_of iwX7_of mlX7_38 (k_rm_of (by decide) (by decide)) (c3 Γ m5 0 (e_model Γ (m5 0))) (v_0 (by decide)) rfl rfl rfl (Nat.le_of_ble_eq_true rfl) dX7_sackOf_39 (pc' := 42) rfl (fun r8 m9 => ?_)
        refine k_if_ne C (tgt := 53) dX7_sackOf_42 (by decide) (pc' := 45) rfl (fun h10 => ?_) (fun h10 => ?_)
        · refine k_ldc C (v := (-1000004)) dX7_sackOf_53 cnX7_151 (pc' := 55) rfl ?_
          exact k_reti C rfl hr dX7_sackOf_55
        · refine k_aload_n C 0 dX7_sackOf_45 rfl rfl (pc' := 46) rfl ?_
          refine k_iload_n C 1 dX7_sackOf_46 rfl rfl (pc' := 47) rfl ?_
          refine k_callVi C (rest := []) (qX7_placeOf l Γ hL m9 a1) mwX7_placeOf iwX7_placeOf mlX7_58 (k_rm_of (by decide) (by decide)) (c3 Γ m9 0 (e_model Γ (m9 0))) (v_0 (by decide)) rfl rfl rfl (Nat.le_of_ble_eq_true rfl) dX7_sackOf_47 (pc' := 50) rfl (fun r11 m12 => ?_)
          refine k_goto C (pc' := 55) dX7_sackOf_50 (by decide) ?_
          exact k_reti C rfl hr dX7_sackOf_55
      · refine k_aload_n C 0 dX7_sackOf_27 rfl rfl (pc' := 28) rfl ?_
        refine k_iload_n C 1 dX7_sackOf_28 rfl rfl (pc' := 29) rfl ?_
        refine k_iload_n C 2 dX7_sackOf_29 rfl rfl (pc' := 30) rfl ?_
        refine k_callVi C (rest := []) (qX7_told l Γ hL m5 a1 a2) mwX7_told iwX7_told mlX7_141 (k_rm_of (by decide) (by decide)) (c3 Γ m5 0 (e_model Γ (m5 0))) (v_0 (by decide)) rfl rfl rfl (Nat.le_of_ble_eq_true rfl) dX7_sackOf_30 (pc' := 33) rfl (fun r13 m14 => ?_)
        refine k_goto C (pc' := 55) dX7_sackOf_33 (by decide) ?_
        exact k_reti C rfl hr dX7_sackOf_55
    · refine k_ldc C (v := (-1000001)) dX7_sackOf_18 cnX7_33 (pc' := 20) rfl ?_
      exact k_reti C rfl hr dX7_sackOf_20
def fX7_queueAt (m0 : kM1) (a1 : Int32) : Option (Int32 × kM1) :=
  if 0 ≤ a1 then bd (fX7_waitingAt m0 a1) fun r2 m3 => if r2 = (-1) then some ((-1000004), m3) else some (r2, m3) else some ((-1000001), m0)
set_option maxRecDepth 100000 in
set_option maxHeartbeats 4000000 in
theorem qX7_queueAt (l : Launch) (Γ : kG) (hL : k_Lay Γ 7) (m0 : kM1) (a1 : Int32) : CT l Γ (K3 Γ) yX7_queueAt cX7_queueAt 3 (some .int) (k_R 5) [.ref (Γ.1 0 0), .int a1] m0 (fX7_queueAt m0 a1) := by
  refine k_meth (own := RX7) (by decide) rfl (Nat.le_of_ble_eq_true rfl) (fun p e R s mid args below meth c C hr => ?_)
  show Sm Γ (K3 Γ) p l e R s mid args below meth c 3 true m0 [(0, .ref (Γ.1 0 0)), (1, .int a1)] [] 0 (fX7_queueAt m0 a1)
  unfold fX7_queueAt
  refine k_iload_n C 1 dX7_queueAt_0 rfl rfl (pc' := 1) rfl ?_
  refine k_if_ge C (tgt := 7) dX7_queueAt_1 (by decide) (pc' := 4) rfl (fun h1 => ?_) (fun h1 => ?_)
  · refine k_aload_n C 0 dX7_queueAt_7 rfl rfl (pc' := 8) rfl ?_
    refine k_iload_n C 1 dX7_queueAt_8 rfl rfl (pc' := 9) rfl ?_
    refine k_callVi C (rest := []) (qX7_waitingAt l Γ hL m0 a1) mwX7_waitingAt iwX7_waitingAt mlX7_75 (k_rm_of (by decide) (by decide)) (c3 Γ m0 0 (e_model Γ (m0 0))) (v_0 (by decide)) rfl rfl rfl (Nat.le_of_ble_eq_true rfl) dX7_queueAt_9 (pc' := 12) rfl (fun r2 m3 => ?_)
    refine k_istore_n C (lv' := [(2, .int r2), (0, .ref (Γ.1 0 0)), (1, .int a1)]) dX7_queueAt_12 rfl (by decide) rfl (pc' := 13) rfl ?_
    refine k_iload_n C 0 dX7_queueAt_13 rfl rfl (pc' := 14) rfl ?_
    refine k_iconst C (v := (-1)) dX7_queueAt_14 (by decide) (pc' := 15) rfl ?_
    refine k_ic_ne C (tgt := 23) dX7_queueAt_15 (by decide) (pc' := 18) rfl (fun h4 => ?_) (fun h4 => ?_)
    · refine k_iload_n C 0 dX7_queueAt_23 rfl rfl (pc' := 24) rfl ?_
      exact k_reti C rfl hr dX7_queueAt_24
    · refine k_ldc C (v := (-1000004)) dX7_queueAt_18 cnX7_151 (pc' := 20) rfl ?_
      refine k_goto C (pc' := 24) dX7_queueAt_20 (by decide) ?_
      exact k_reti C rfl hr dX7_queueAt_24
  · refine k_ldc C (v := (-1000001)) dX7_queueAt_4 cnX7_33 (pc' := 6) rfl ?_
    exact k_reti C rfl hr dX7_queueAt_6
def fX7_account_b52 (a1 : Int32) (a2 : Int32) (a3 : Int32)  (m0 : kM1) : Option (Int32 × kM1) :=
  bd (fX7_sum m0 a1 a2 a3) fun r10 m11 => some (r10, m11)
set_option maxRecDepth 100000 in
set_option maxHeartbeats 4000000 in
theorem sX7_account_b52 {l : Launch} {Γ : kG} (hL : k_Lay Γ 7) {p : Program} {e : Env} {R : Room} {s : State} {mid : MethodId} {args : Array Value} {below : List Frame} {meth : Method} {c : Code} (C : k_C Γ p R s mid args meth c cX7_account 4 RX7 (k_R 6)) (hr : meth.sig.returnType = (some .int)) (a1 : Int32) (a2 : Int32) (a3 : Int32)  (m0 : kM1)   : Sm Γ (K3 Γ) p l e R s mid args below meth c 4 true m0 [(0, .ref (Γ.1 0 0)), (1, .int a1), (2, .int a2), (3, .int a3)] [] 52 (fX7_account_b52 a1 a2 a3 m0) := by
  unfold fX7_account_b52
  refine k_aload_n C 0 dX7_account_52 rfl rfl (pc' := 53) rfl ?_
  refine k_iload_n C 1 dX7_account_53 rfl rfl (pc' := 54) rfl ?_
  refine k_iload_n C 2 dX7_account_54 rfl rfl (pc' := 55) rfl ?_
  refine k_iload_n C 3 dX7_account_55 rfl rfl (pc' := 56) rfl ?_
  refine k_callVi C (rest := []) (qX7_sum l Γ hL m0 a1 a2 a3) mwX7_sum iwX7_sum mlX7_148 (k_rm_of (by decide) (by decide)) (c3 Γ m0 0 (e_model Γ (m0 0))) (v_0 (by decide)) rfl rfl rfl (Nat.le_of_ble_eq_true rfl) dX7_account_56 (pc' := 59) rfl (fun r10 m11 => ?_)
  exact k_reti C rfl hr dX7_account_59
def fX7_account (m0 : kM1) (a1 : Int32) (a2 : Int32) (a3 : Int32) : Option (Int32 × kM1) :=
  bd (fX7_in m0 a1 (-1) ((m0 1 28) - 1)) fun r2 m3 => if r2 = 0 then some ((-1000001), m3) else bd (fX7_in m3 a2 (-1) ((m3 1 27) - 1)) fun r6 m7 => if r6 = 0 then some ((-1000001), m7) else if a3 = 2 then fX7_account_b52 a1 a2 a3 m7 else bd (fX7_in m7 a3 4 10) fun r12 m13 => if r12 = 0 then some ((-1000001), m13) else fX7_account_b52 a1 a2 a3 m13
set_option maxRecDepth 100000 in
set_option maxHeartbeats 4000000 in
theorem qX7_account (l : Launch) (Γ : kG) (hL : k_Lay Γ 7) (m0 : kM1) (a1 : Int32) (a2 : Int32) (a3 : Int32) : CT l Γ (K3 Γ) yX7_account cX7_account 4 (some .int) (k_R 6) [.ref (Γ.1 0 0), .int a1, .int a2, .int a3] m0 (fX7_account m0 a1 a2 a3) := by
  refine k_meth (own := RX7) (by decide) rfl (Nat.le_of_ble_eq_true rfl) (fun p e R s mid args below meth c C hr => ?_)
  show Sm Γ (K3 Γ) p l e R s mid args below meth c 4 true m0 [(0, .ref (Γ.1 0 0)), (1, .int a1), (2, .int a2), (3, .int a3)] [] 0 (fX7_account m0 a1 a2 a3)
  unfold fX7_account
  refine k_iload_n C 1 dX7_account_0 rfl rfl (pc' := 1) rfl ?_
  refine k_iconst C (v := (-1)) dX7_account_1 (by decide) (pc' := 2) rfl ?_
  refine k_aload_n C 0 dX7_account_2 rfl rfl (pc' := 3) rfl ?_
  refine k_getf C 0 (c3 Γ m0 0 (e_model Γ (m0 0))) (v_0 (by decide)) flX7_7 (v := .ref (Γ.1 0 1)) rfl dX7_account_3 (pc' := 6) rfl ?_
  refine k_bipush C (v := 28) dX7_account_6 (by decide) (pc' := 8) rfl ?_
  refine k_ialdK C (n0 := 28) (c3 Γ m0 1 (e_d Γ (m0 1))) (v_0 (by decide)) (by decide) (by decide) dX7_account_8 (pc' := 9) rfl ?_
  refine k_iconst C (v := 1) dX7_account_9 (by decide) (pc' := 10) rfl ?_
  refine k_isub C dX7_account_10 (pc' := 11) rfl ?_
  refine k_callSi C (rest := []) (qX7_in l Γ (K3 Γ) m0 a1 (-1) ((m0 1 28) - 1)) mwX7_in swX7_in mlX7_29 (k_rm_of (by decide) (by decide)) rfl rfl (Nat.le_of_ble_eq_true rfl) dX7_account_11 (pc' := 14) rfl (fun r2 m3 => ?_)
  refine k_if_eq C (tgt := 49) dX7_account_14 (by decide) (pc' := 17) rfl (fun h4 => ?_) (fun h4 => ?_)
  · refine k_ldc C (v := (-1000001)) dX7_account_49 cnX7_33 (pc' := 51) rfl ?_
    exact k_reti C rfl hr dX7_account_51
  · refine k_iload_n C 2 dX7_account_17 rfl rfl (pc' := 18) rfl ?_
    refine k_iconst C (v := (-1)) dX7_account_18 (by decide) (pc' := 19) rfl ?_
    refine k_aload_n C 0 dX7_account_19 rfl rfl (pc' := 20) rfl ?_
    refine k_getf C 0 (c3 Γ m3 0 (e_model Γ (m3 0))) (v_0 (by decide)) flX7_7 (v := .ref (Γ.1 0 1)) rfl dX7_account_20 (pc' := 23) rfl ?_
    refine k_bipush C (v := 27) dX7_account_23 (by decide) (pc' := 25) rfl ?_
    refine k_ialdK C (n0 := 27) (c3 Γ m3 1 (e_d Γ (m3 1))) (v_0 (by decide)) (by decide) (by decide) dX7_account_25 (pc' := 26) rfl ?_
    refine k_iconst C (v := 1) dX7_account_26 (by decide) (pc' := 27) rfl ?_
    refine k_isub C dX7_account_27 (pc' := 28) rfl ?_
    refine k_callSi C (rest := []) (qX7_in l Γ (K3 Γ) m3 a2 (-1) ((m3 1 27) - 1)) mwX7_in swX7_in mlX7_29 (k_rm_of (by decide) (by decide)) rfl rfl (Nat.le_of_ble_eq_true rfl) dX7_account_28 (pc' := 31) rfl (fun r6 m7 => ?_)
    refine k_if_eq C (tgt := 49) dX7_account_31 (by decide) (pc' := 34) rfl (fun h8 => ?_) (fun h8 => ?_)
    · refine k_ldc C (v := (-1000001)) dX7_account_49 cnX7_33 (pc' := 51) rfl ?_
      exact k_reti C rfl hr dX7_account_51
    · refine k_iload_n C 3 dX7_account_34 rfl rfl (pc' := 35) rfl ?_
      refine k_iconst C (v := 2) dX7_account_35 (by decide) (pc' := 36) rfl ?_
      refine k_ic_eq C (tgt := 52) dX7_account_36 (by decide) (pc' := 39) rfl (fun h9 => ?_) (fun h9 => ?_)
      · exact sX7_account_b52 hL C hr a1 a2 a3 m7
      · refine k_iload_n C 3 dX7_account_39 rfl rfl (pc' := 40) rfl ?_
        refine k_iconst C (v := 4) dX7_account_40 (by decide) (pc' := 41) rfl ?_
        refine k_bipush C (v := 10) dX7_account_41 (by decide) (pc' := 43) rfl ?_
        refine k_callSi C (rest := []) (qX7_in l Γ (K3 Γ) m7 a3 4 10) mwX7_in swX7_in mlX7_29 (k_rm_of (by decide) (by decide)) rfl rfl (Nat.le_of_ble_eq_true rfl) dX7_account_43 (pc' := 46) rfl (fun r12 m13 => ?_)
        refine k_if_ne C (tgt := 52) dX7_account_46 (by decide) (pc' := 49) rfl (fun h14 => ?_) (fun h14 => ?_)
        · exact sX7_account_b52 hL C hr a1 a2 a3 m13
        · refine k_ldc C (v := (-1000001)) dX7_account_49 cnX7_33 (pc' := 51) rfl ?_
          exact k_reti C rfl hr dX7_account_51
def fX7_earn (m0 : kM1) (a1 : Int32) (a2 : Int32) : Option (Int32 × kM1) :=
  bd (fX7_isFarmer m0 a1) fun r1 m2 => if r1 = 0 then some ((-1000001), m2) else bd (fX7_in m2 a2 1 1000000000) fun r4 m5 => if r4 = 0 then some ((-1000001), m5) else if ¬ (48 + a1) < 0 ∧ (48 + a1).toNatClampNeg < 368 then if a2 ≤ (2147483647 - (m5 1 (48 + a1).toNatClampNeg)) then bd (fX7_keeps m5) fun r9 m10 => if ¬ (48 + a1) < 0 ∧ (48 + a1).toNatClampNeg < 368 then if ¬ (48 + a1) < 0 ∧ (48 + a1).toNatClampNeg < 368 then k_let (mu m10 1 (48 + a1).toNatClampNeg ((m10 1 (48 + a1).toNatClampNeg) + a2)) fun m13 => if ¬ (48 + a1) < 0 ∧ (48 + a1).toNatClampNeg < 368 then bd (fX7_acted m13 (m13 1 (48 + a1).toNatClampNeg)) fun r15 m16 => some (r15, m16) else none else none else none else some ((-1000002), m5) else none
set_option maxRecDepth 100000 in
set_option maxHeartbeats 4000000 in
theorem qX7_earn (l : Launch) (Γ : kG) (hL : k_Lay Γ 7) (m0 : kM1) (a1 : Int32) (a2 : Int32) : CT l Γ (K3 Γ) yX7_earn cX7_earn 3 (some .int) (k_R 2) [.ref (Γ.1 0 0), .int a1, .int a2] m0 (fX7_earn m0 a1 a2) := by
  refine k_meth (own := RX7) (by decide) rfl (Nat.le_of_ble_eq_true rfl) (fun p e R s mid args below meth c C hr => ?_)
  show Sm Γ (K3 Γ) p l e R s mid args below meth c 3 true m0 [(0, .ref (Γ.1 0 0)), (1, .int a1), (2, .int a2)] [] 0 (fX7_earn m0 a1 a2)
  unfold fX7_earn
  refine k_aload_n C 0 dX7_earn_0 rfl rfl (pc' := 1) rfl ?_
  refine k_iload_n C 1 dX7_earn_1 rfl rfl (pc' := 2) rfl ?_
  refine k_callVi C (rest := []) (qX7_isFarmer l Γ hL m0 a1) mwX7_isFarmer iwX7_isFarmer mlX7_94 (k_rm_of (by decide) (by decide)) (c3 Γ m0 0 (e_model Γ (m0 0))) (v_0 (by decide)) rfl rfl rfl (Nat.le_of_ble_eq_true rfl) dX7_earn_2 (pc' := 5) rfl (fun r1 m2 => ?_)
  refine k_if_eq C (tgt := 18) dX7_earn_5 (by decide) (pc' := 8) rfl (fun h3 => ?_) (fun h3 => ?_)
  · refine k_ldc C (v := (-1000001)) dX7_earn_18 cnX7_33 (pc' := 20) rfl ?_
    exact k_reti C rfl hr dX7_earn_20
  · refine k_iload_n C 2 dX7_earn_8 rfl rfl (pc' := 9) rfl ?_
    refine k_iconst C (v := 1) dX7_earn_9 (by decide) (pc' := 10) rfl ?_
    refine k_ldc C (v := 1000000000) dX7_earn_10 cnX7_152 (pc' := 12) rfl ?_
    refine k_callSi C (rest := []) (qX7_in l Γ (K3 Γ) m2 a2 1 1000000000) mwX7_in swX7_in mlX7_29 (k_rm_of (by decide) (by decide)) rfl rfl (Nat.le_of_ble_eq_true rfl) dX7_earn_12 (pc' := 15) rfl (fun r4 m5 => ?_)
    refine k_if_ne C (tgt := 21) dX7_earn_15 (by decide) (pc' := 18) rfl (fun h6 => ?_) (fun h6 => ?_)
    · refine k_iload_n C 2 dX7_earn_21 rfl rfl (pc' := 22) rfl ?_
      refine k_ldc C (v := 2147483647) dX7_earn_22 cnX7_114 (pc' := 24) rfl ?_
      refine k_aload_n C 0 dX7_earn_24 rfl rfl (pc' := 25) rfl ?_
      refine k_getf C 0 (c3 Γ m5 0 (e_model Γ (m5 0))) (v_0 (by decide)) flX7_7 (v := .ref (Γ.1 0 1)) rfl dX7_earn_25 (pc' := 28) rfl ?_
      refine k_bipush C (v := 48) dX7_earn_28 (by decide) (pc' := 30) rfl ?_
      refine k_iload_n C 1 dX7_earn_30 rfl rfl (pc' := 31) rfl ?_
      refine k_iadd C dX7_earn_31 (pc' := 32) rfl ?_
      refine k_iald C (c3 Γ m5 1 (e_d Γ (m5 1))) (v_0 (by decide)) dX7_earn_32 (pc' := 33) rfl (fun h7 => ?_)
      refine k_isub C dX7_earn_33 (pc' := 34) rfl ?_
      refine k_ic_le C (tgt := 40) dX7_earn_34 (by decide) (pc' := 37) rfl (fun h8 => ?_) (fun h8 => ?_)
      · refine k_aload_n C 0 dX7_earn_40 rfl rfl (pc' := 41) rfl ?_
        refine k_callVv C (rest := []) (qX7_keeps l Γ hL m5) mwX7_keeps iwX7_keeps mlX7_124 (k_rm_of (by decide) (by decide)) (c3 Γ m5 0 (e_model Γ (m5 0))) (v_0 (by decide)) rfl rfl rfl (Nat.le_of_ble_eq_true rfl) dX7_earn_41 (pc' := 44) rfl (fun r9 m10 => ?_)
        refine k_aload_n C 0 dX7_earn_44 rfl rfl (pc' := 45) rfl ?_
        refine k_getf C 0 (c3 Γ m10 0 (e_model Γ (m10 0))) (v_0 (by decide)) flX7_7 (v := .ref (Γ.1 0 1)) rfl dX7_earn_45 (pc' := 48) rfl ?_
        refine k_bipush C (v := 48) dX7_earn_48 (by decide) (pc' := 50) rfl ?_
        refine k_iload_n C 1 dX7_earn_50 rfl rfl (pc' := 51) rfl ?_
        refine k_iadd C dX7_earn_51 (pc' := 52) rfl ?_
        refine k_dup2 C dX7_earn_52 rfl rfl (pc' := 53) rfl ?_
        refine k_iald C (c3 Γ m10 1 (e_d Γ (m10 1))) (v_0 (by decide)) dX7_earn_53 (pc' := 54) rfl (fun h11 => ?_)
        refine k_iload_n C 2 dX7_earn_54 rfl rfl (pc' := 55) rfl ?_
        refine k_iadd C dX7_earn_55 (pc' := 56) rfl ?_
        refine k_iast C hL.k3 (c3 Γ m10 1 (e_d Γ (m10 1))) (v_0 (by decide)) (s3 Γ m10 1 (48 + a1).toNatClampNeg ((m10 1 (48 + a1).toNatClampNeg) + a2) (e_d Γ _)) dX7_earn_56 (pc' := 57) rfl (fun h12 m13 => ?_)
        refine k_aload_n C 0 dX7_earn_57 rfl rfl (pc' := 58) rfl ?_
        refine k_aload_n C 0 dX7_earn_58 rfl rfl (pc' := 59) rfl ?_
        refine k_getf C 0 (c3 Γ m13 0 (e_model Γ (m13 0))) (v_0 (by decide)) flX7_7 (v := .ref (Γ.1 0 1)) rfl dX7_earn_59 (pc' := 62) rfl ?_
        refine k_bipush C (v := 48) dX7_earn_62 (by decide) (pc' := 64) rfl ?_
        refine k_iload_n C 1 dX7_earn_64 rfl rfl (pc' := 65) rfl ?_
        refine k_iadd C dX7_earn_65 (pc' := 66) rfl ?_
        refine k_iald C (c3 Γ m13 1 (e_d Γ (m13 1))) (v_0 (by decide)) dX7_earn_66 (pc' := 67) rfl (fun h14 => ?_)
        refine k_callVi C (rest := []) (qX7_acted l Γ hL m13 (m13 1 (48 + a1).toNatClampNeg)) mwX7_acted iwX7_acted mlX7_127 (k_rm_of (by decide) (by decide)) (c3 Γ m13 0 (e_model Γ (m13 0))) (v_0 (by decide)) rfl rfl rfl (Nat.le_of_ble_eq_true rfl) dX7_earn_67 (pc' := 70) rfl (fun r15 m16 => ?_)
        exact k_reti C rfl hr dX7_earn_70
      · refine k_ldc C (v := (-1000002)) dX7_earn_37 cnX7_105 (pc' := 39) rfl ?_
        exact k_reti C rfl hr dX7_earn_39
    · refine k_ldc C (v := (-1000001)) dX7_earn_18 cnX7_33 (pc' := 20) rfl ?_
      exact k_reti C rfl hr dX7_earn_20
def fX7_pledge (m0 : kM1) (a1 : Int32) (a2 : Int32) : Option (Int32 × kM1) :=
  bd (fX7_keeps m0) fun r1 m2 => bd (fX7_pledges m2 a1 a2) fun r3 m4 => bd (fX7_acted m4 r3) fun r5 m6 => some (r5, m6)
set_option maxRecDepth 100000 in
set_option maxHeartbeats 4000000 in
theorem qX7_pledge (l : Launch) (Γ : kG) (hL : k_Lay Γ 7) (m0 : kM1) (a1 : Int32) (a2 : Int32) : CT l Γ (K3 Γ) yX7_pledge cX7_pledge 3 (some .int) (k_R 5) [.ref (Γ.1 0 0), .int a1, .int a2] m0 (fX7_pledge m0 a1 a2) := by
  refine k_meth (own := RX7) (by decide) rfl (Nat.le_of_ble_eq_true rfl) (fun p e R s mid args below meth c C hr => ?_)
  show Sm Γ (K3 Γ) p l e R s mid args below meth c 3 true m0 [(0, .ref (Γ.1 0 0)), (1, .int a1), (2, .int a2)] [] 0 (fX7_pledge m0 a1 a2)
  unfold fX7_pledge
  refine k_aload_n C 0 dX7_pledge_0 rfl rfl (pc' := 1) rfl ?_
  refine k_callVv C (rest := []) (qX7_keeps l Γ hL m0) mwX7_keeps iwX7_keeps mlX7_124 (k_rm_of (by decide) (by decide)) (c3 Γ m0 0 (e_model Γ (m0 0))) (v_0 (by decide)) rfl rfl rfl (Nat.le_of_ble_eq_true rfl) dX7_pledge_1 (pc' := 4) rfl (fun r1 m2 => ?_)
  refine k_aload_n C 0 dX7_pledge_4 rfl rfl (pc' := 5) rfl ?_
  refine k_aload_n C 0 dX7_pledge_5 rfl rfl (pc' := 6) rfl ?_
  refine k_iload_n C 1 dX7_pledge_6 rfl rfl (pc' := 7) rfl ?_
  refine k_iload_n C 2 dX7_pledge_7 rfl rfl (pc' := 8) rfl ?_
  refine k_callVi C (rest := [.ref (Γ.1 0 0)]) (qX7_pledges l Γ hL m2 a1 a2) mwX7_pledges iwX7_pledges mlX7_153 (k_rm_of (by decide) (by decide)) (c3 Γ m2 0 (e_model Γ (m2 0))) (v_0 (by decide)) rfl rfl rfl (Nat.le_of_ble_eq_true rfl) dX7_pledge_8 (pc' := 11) rfl (fun r3 m4 => ?_)
  refine k_callVi C (rest := []) (qX7_acted l Γ hL m4 r3) mwX7_acted iwX7_acted mlX7_127 (k_rm_of (by decide) (by decide)) (c3 Γ m4 0 (e_model Γ (m4 0))) (v_0 (by decide)) rfl rfl rfl (Nat.le_of_ble_eq_true rfl) dX7_pledge_11 (pc' := 14) rfl (fun r5 m6 => ?_)
  exact k_reti C rfl hr dX7_pledge_14
def fX7_owed (m0 : kM1) (a1 : Int32) : Option (Int32 × kM1) :=
  bd (fX7_isSack m0 a1) fun r1 m2 => if r1 = 0 then some ((-1000001), m2) else bd (fX7_of m2 a1 6) fun r4 m5 => if r4 = 0 then some ((-1000004), m5) else bd (fX7_owes m5 a1) fun r7 m8 => some (r7, m8)
set_option maxRecDepth 100000 in
set_option maxHeartbeats 4000000 in
theorem qX7_owed (l : Launch) (Γ : kG) (hL : k_Lay Γ 7) (m0 : kM1) (a1 : Int32) : CT l Γ (K3 Γ) yX7_owed cX7_owed 2 (some .int) (k_R 2) [.ref (Γ.1 0 0), .int a1] m0 (fX7_owed m0 a1) := by
  refine k_meth (own := RX7) (by decide) rfl (Nat.le_of_ble_eq_true rfl) (fun p e R s mid args below meth c C hr => ?_)
  show Sm Γ (K3 Γ) p l e R s mid args below meth c 2 true m0 [(0, .ref (Γ.1 0 0)), (1, .int a1)] [] 0 (fX7_owed m0 a1)
  unfold fX7_owed
  refine k_aload_n C 0 dX7_owed_0 rfl rfl (pc' := 1) rfl ?_
  refine k_iload_n C 1 dX7_owed_1 rfl rfl (pc' := 2) rfl ?_
  refine k_callVi C (rest := []) (qX7_isSack l Γ hL m0 a1) mwX7_isSack iwX7_isSack mlX7_102 (k_rm_of (by decide) (by decide)) (c3 Γ m0 0 (e_model Γ (m0 0))) (v_0 (by decide)) rfl rfl rfl (Nat.le_of_ble_eq_true rfl) dX7_owed_2 (pc' := 5) rfl (fun r1 m2 => ?_)
  refine k_if_ne C (tgt := 11) dX7_owed_5 (by decide) (pc' := 8) rfl (fun h3 => ?_) (fun h3 => ?_)
  · refine k_aload_n C 0 dX7_owed_11 rfl rfl (pc' := 12) rfl ?_
    refine k_iload_n C 1 dX7_owed_12 rfl rfl (pc' := 13) rfl ?_
    refine k_bipush C (v := 6) dX7_owed_13 (by decide) (pc' := 15) rfl ?_
    refine k_callVi C (rest := []) (qX7_of l Γ hL m2 a1 6) mwX7_of iwX7_of mlX7_38 (k_rm_of (by decide) (by decide)) (c3 Γ m2 0 (e_model Γ (m2 0))) (v_0 (by decide)) rfl rfl rfl (Nat.le_of_ble_eq_true rfl) dX7_owed_15 (pc' := 18) rfl (fun r4 m5 => ?_)
    refine k_if_ne C (tgt := 26) dX7_owed_18 (by decide) (pc' := 21) rfl (fun h6 => ?_) (fun h6 => ?_)
    · refine k_aload_n C 0 dX7_owed_26 rfl rfl (pc' := 27) rfl ?_
      refine k_iload_n C 1 dX7_owed_27 rfl rfl (pc' := 28) rfl ?_
      refine k_callVi C (rest := []) (qX7_owes l Γ hL m5 a1) mwX7_owes iwX7_owes mlX7_115 (k_rm_of (by decide) (by decide)) (c3 Γ m5 0 (e_model Γ (m5 0))) (v_0 (by decide)) rfl rfl rfl (Nat.le_of_ble_eq_true rfl) dX7_owed_28 (pc' := 31) rfl (fun r7 m8 => ?_)
      exact k_reti C rfl hr dX7_owed_31
    · refine k_ldc C (v := (-1000004)) dX7_owed_21 cnX7_151 (pc' := 23) rfl ?_
      refine k_goto C (pc' := 31) dX7_owed_23 (by decide) ?_
      exact k_reti C rfl hr dX7_owed_31
  · refine k_ldc C (v := (-1000001)) dX7_owed_8 cnX7_33 (pc' := 10) rfl ?_
    exact k_reti C rfl hr dX7_owed_10
def fX7_redeem (m0 : kM1) (a1 : Int32) : Option (Int32 × kM1) :=
  bd (fX7_keeps m0) fun r1 m2 => bd (fX7_redeems m2 a1) fun r3 m4 => bd (fX7_acted m4 r3) fun r5 m6 => some (r5, m6)
set_option maxRecDepth 100000 in
set_option maxHeartbeats 4000000 in
theorem qX7_redeem (l : Launch) (Γ : kG) (hL : k_Lay Γ 7) (m0 : kM1) (a1 : Int32) : CT l Γ (K3 Γ) yX7_redeem cX7_redeem 2 (some .int) (k_R 3) [.ref (Γ.1 0 0), .int a1] m0 (fX7_redeem m0 a1) := by
  refine k_meth (own := RX7) (by decide) rfl (Nat.le_of_ble_eq_true rfl) (fun p e R s mid args below meth c C hr => ?_)
  show Sm Γ (K3 Γ) p l e R s mid args below meth c 2 true m0 [(0, .ref (Γ.1 0 0)), (1, .int a1)] [] 0 (fX7_redeem m0 a1)
  unfold fX7_redeem
  refine k_aload_n C 0 dX7_redeem_0 rfl rfl (pc' := 1) rfl ?_
  refine k_callVv C (rest := []) (qX7_keeps l Γ hL m0) mwX7_keeps iwX7_keeps mlX7_124 (k_rm_of (by decide) (by decide)) (c3 Γ m0 0 (e_model Γ (m0 0))) (v_0 (by decide)) rfl rfl rfl (Nat.le_of_ble_eq_true rfl) dX7_redeem_1 (pc' := 4) rfl (fun r1 m2 => ?_)
  refine k_aload_n C 0 dX7_redeem_4 rfl rfl (pc' := 5) rfl ?_
  refine k_aload_n C 0 dX7_redeem_5 rfl rfl (pc' := 6) rfl ?_
  refine k_iload_n C 1 dX7_redeem_6 rfl rfl (pc' := 7) rfl ?_
  refine k_callVi C (rest := [.ref (Γ.1 0 0)]) (qX7_redeems l Γ hL m2 a1) mwX7_redeems iwX7_redeems mlX7_156 (k_rm_of (by decide) (by decide)) (c3 Γ m2 0 (e_model Γ (m2 0))) (v_0 (by decide)) rfl rfl rfl (Nat.le_of_ble_eq_true rfl) dX7_redeem_7 (pc' := 10) rfl (fun r3 m4 => ?_)
  refine k_callVi C (rest := []) (qX7_acted l Γ hL m4 r3) mwX7_acted iwX7_acted mlX7_127 (k_rm_of (by decide) (by decide)) (c3 Γ m4 0 (e_model Γ (m4 0))) (v_0 (by decide)) rfl rfl rfl (Nat.le_of_ble_eq_true rfl) dX7_redeem_10 (pc' := 13) rfl (fun r5 m6 => ?_)
  exact k_reti C rfl hr dX7_redeem_13
def fX7_ahead_b82 (a1 : Int32) (rec4 : kM1 → Int32 → Int32 → Option (Int32 × kM1)) (m0 : kM1) (b3 : Int32) (t0 : Int32) (t1 : Int32) : Option (Int32 × kM1) :=
  k_let (t1 + t0) fun v11 => k_let (b3 + 1) fun v12 => rec4 m0 v11 v12
set_option maxRecDepth 100000 in
set_option maxHeartbeats 4000000 in
theorem sX7_ahead_b82 {l : Launch} {Γ : kG} (hL : k_Lay Γ 7) {p : Program} {e : Env} {R : Room} {s : State} {mid : MethodId} {args : Array Value} {below : List Frame} {meth : Method} {c : Code} (C : k_C Γ p R s mid args meth c cX7_ahead 5 RX7 (k_R 1)) (hr : meth.sig.returnType = (some .int)) (a1 : Int32) (rec4 : kM1 → Int32 → Int32 → Option (Int32 × kM1)) (hrec4 : ∀ (m0 : kM1) (b2 : Int32) (b3 : Int32), Sm Γ (K3 Γ) p l e R s mid args below meth c 5 true m0 [(0, .ref (Γ.1 0 0)), (1, .int a1), (2, .int b2), (3, .int b3)] [] 4 (rec4 m0 b2 b3)) (m0 : kM1) (b3 : Int32) (t0 : Int32) (t1 : Int32)  : Sm Γ (K3 Γ) p l e R s mid args below meth c 5 true m0 [(0, .ref (Γ.1 0 0)), (1, .int a1), (3, .int b3)] [.int t0, .int t1] 82 (fX7_ahead_b82 a1 rec4 m0 b3 t0 t1) := by
  unfold fX7_ahead_b82
  refine k_iadd C dX7_ahead_82 (pc' := 83) rfl ?_
  refine k_topi (fun v11 => ?_)
  refine k_istore_n C (lv' := [(2, .int v11), (0, .ref (Γ.1 0 0)), (1, .int a1), (3, .int b3)]) dX7_ahead_83 rfl (by decide) rfl (pc' := 84) rfl ?_
  refine k_iinc (v := 1) (q := 3) (lv' := [(2, .int v11), (0, .ref (Γ.1 0 0)), (1, .int a1)]) C dX7_ahead_84 rfl (by decide) (by decide) (pc' := 87) rfl (fun _ => rfl) (fun v12 => ?_)
  refine k_goto C (pc' := 4) dX7_ahead_87 (by decide) ?_
  refine k_sub [2, 3, 1, 0] rfl ?_
  exact hrec4 m0 v11 v12
def fX7_ahead_b81 (a1 : Int32) (rec4 : kM1 → Int32 → Int32 → Option (Int32 × kM1)) (m0 : kM1) (b3 : Int32) (t0 : Int32) : Option (Int32 × kM1) :=
  fX7_ahead_b82 a1 rec4 m0 b3 0 t0
set_option maxRecDepth 100000 in
set_option maxHeartbeats 4000000 in
theorem sX7_ahead_b81 {l : Launch} {Γ : kG} (hL : k_Lay Γ 7) {p : Program} {e : Env} {R : Room} {s : State} {mid : MethodId} {args : Array Value} {below : List Frame} {meth : Method} {c : Code} (C : k_C Γ p R s mid args meth c cX7_ahead 5 RX7 (k_R 1)) (hr : meth.sig.returnType = (some .int)) (a1 : Int32) (rec4 : kM1 → Int32 → Int32 → Option (Int32 × kM1)) (hrec4 : ∀ (m0 : kM1) (b2 : Int32) (b3 : Int32), Sm Γ (K3 Γ) p l e R s mid args below meth c 5 true m0 [(0, .ref (Γ.1 0 0)), (1, .int a1), (2, .int b2), (3, .int b3)] [] 4 (rec4 m0 b2 b3)) (m0 : kM1) (b3 : Int32) (t0 : Int32)  : Sm Γ (K3 Γ) p l e R s mid args below meth c 5 true m0 [(0, .ref (Γ.1 0 0)), (1, .int a1), (3, .int b3)] [.int t0] 81 (fX7_ahead_b81 a1 rec4 m0 b3 t0) := by
  unfold fX7_ahead_b81
  refine k_iconst C (v := 0) dX7_ahead_81 (by decide) (pc' := 82) rfl ?_
  exact sX7_ahead_b82 hL C hr a1 rec4 hrec4 m0 b3 0 t0
def fX7_ahead_b59 (a1 : Int32) (rec4 : kM1 → Int32 → Int32 → Option (Int32 × kM1)) (m0 : kM1) (b2 : Int32) (b3 : Int32) (t0 : Int32) : Option (Int32 × kM1) :=
  bd (fX7_of m0 b3 6) fun r8 m9 => if r8 ≤ 0 then fX7_ahead_b81 a1 rec4 m9 b3 b2 else if t0 = 0 then fX7_ahead_b81 a1 rec4 m9 b3 b2 else fX7_ahead_b82 a1 rec4 m9 b3 1 b2
set_option maxRecDepth 100000 in
set_option maxHeartbeats 4000000 in
theorem sX7_ahead_b59 {l : Launch} {Γ : kG} (hL : k_Lay Γ 7) {p : Program} {e : Env} {R : Room} {s : State} {mid : MethodId} {args : Array Value} {below : List Frame} {meth : Method} {c : Code} (C : k_C Γ p R s mid args meth c cX7_ahead 5 RX7 (k_R 1)) (hr : meth.sig.returnType = (some .int)) (a1 : Int32) (rec4 : kM1 → Int32 → Int32 → Option (Int32 × kM1)) (hrec4 : ∀ (m0 : kM1) (b2 : Int32) (b3 : Int32), Sm Γ (K3 Γ) p l e R s mid args below meth c 5 true m0 [(0, .ref (Γ.1 0 0)), (1, .int a1), (2, .int b2), (3, .int b3)] [] 4 (rec4 m0 b2 b3)) (m0 : kM1) (b2 : Int32) (b3 : Int32) (t0 : Int32)  : Sm Γ (K3 Γ) p l e R s mid args below meth c 5 true m0 [(0, .ref (Γ.1 0 0)), (1, .int a1), (2, .int b2), (3, .int b3)] [.int t0] 59 (fX7_ahead_b59 a1 rec4 m0 b2 b3 t0) := by
  unfold fX7_ahead_b59
  refine k_istore C (lv' := [(4, .int t0), (0, .ref (Γ.1 0 0)), (1, .int a1), (2, .int b2), (3, .int b3)]) dX7_ahead_59 (by decide) rfl (pc' := 61) rfl ?_
  refine k_iload_n C 3 dX7_ahead_61 rfl rfl (pc' := 62) rfl ?_
  refine k_aload_n C 1 dX7_ahead_62 rfl rfl (pc' := 63) rfl ?_
  refine k_iload_n C 4 dX7_ahead_63 rfl rfl (pc' := 64) rfl ?_
  refine k_bipush C (v := 6) dX7_ahead_64 (by decide) (pc' := 66) rfl ?_
  refine k_callVi C (rest := [.int b2]) (qX7_of l Γ hL m0 b3 6) mwX7_of iwX7_of mlX7_38 (k_rm_of (by decide) (by decide)) (c3 Γ m0 0 (e_model Γ (m0 0))) (v_0 (by decide)) rfl rfl rfl (Nat.le_of_ble_eq_true rfl) dX7_ahead_66 (pc' := 69) rfl (fun r8 m9 => ?_)
  refine k_if_le C (tgt := 81) dX7_ahead_69 (by decide) (pc' := 72) rfl (fun h10 => ?_) (fun h10 => ?_)
  · refine k_sub [1, 2, 4] rfl ?_
    exact sX7_ahead_b81 hL C hr a1 rec4 hrec4 m9 b3 b2
  · refine k_iload C 0 dX7_ahead_72 rfl (pc' := 74) rfl ?_
    refine k_if_eq C (tgt := 81) dX7_ahead_74 (by decide) (pc' := 77) rfl (fun h13 => ?_) (fun h13 => ?_)
    · refine k_sub [1, 2, 4] rfl ?_
      exact sX7_ahead_b81 hL C hr a1 rec4 hrec4 m9 b3 b2
    · refine k_iconst C (v := 1) dX7_ahead_77 (by decide) (pc' := 78) rfl ?_
      refine k_goto C (pc' := 82) dX7_ahead_78 (by decide) ?_
      refine k_sub [1, 2, 4] rfl ?_
      exact sX7_ahead_b82 hL C hr a1 rec4 hrec4 m9 b3 1 b2
def fX7_ahead_b54 (a1 : Int32) (rec4 : kM1 → Int32 → Int32 → Option (Int32 × kM1)) (m0 : kM1) (b2 : Int32) (b3 : Int32) : Option (Int32 × kM1) :=
  fX7_ahead_b59 a1 rec4 m0 b2 b3 1
set_option maxRecDepth 100000 in
set_option maxHeartbeats 4000000 in
theorem sX7_ahead_b54 {l : Launch} {Γ : kG} (hL : k_Lay Γ 7) {p : Program} {e : Env} {R : Room} {s : State} {mid : MethodId} {args : Array Value} {below : List Frame} {meth : Method} {c : Code} (C : k_C Γ p R s mid args meth c cX7_ahead 5 RX7 (k_R 1)) (hr : meth.sig.returnType = (some .int)) (a1 : Int32) (rec4 : kM1 → Int32 → Int32 → Option (Int32 × kM1)) (hrec4 : ∀ (m0 : kM1) (b2 : Int32) (b3 : Int32), Sm Γ (K3 Γ) p l e R s mid args below meth c 5 true m0 [(0, .ref (Γ.1 0 0)), (1, .int a1), (2, .int b2), (3, .int b3)] [] 4 (rec4 m0 b2 b3)) (m0 : kM1) (b2 : Int32) (b3 : Int32)  : Sm Γ (K3 Γ) p l e R s mid args below meth c 5 true m0 [(0, .ref (Γ.1 0 0)), (1, .int a1), (2, .int b2), (3, .int b3)] [] 54 (fX7_ahead_b54 a1 rec4 m0 b2 b3) := by
  unfold fX7_ahead_b54
  refine k_iconst C (v := 1) dX7_ahead_54 (by decide) (pc' := 55) rfl ?_
  refine k_goto C (pc' := 59) dX7_ahead_55 (by decide) ?_
  exact sX7_ahead_b59 hL C hr a1 rec4 hrec4 m0 b2 b3 1
def fX7_ahead_b58 (a1 : Int32) (rec4 : kM1 → Int32 → Int32 → Option (Int32 × kM1)) (m0 : kM1) (b2 : Int32) (b3 : Int32) : Option (Int32 × kM1) :=
  fX7_ahead_b59 a1 rec4 m0 b2 b3 0
set_option maxRecDepth 100000 in
set_option maxHeartbeats 4000000 in
theorem sX7_ahead_b58 {l : Launch} {Γ : kG} (hL : k_Lay Γ 7) {p : Program} {e : Env} {R : Room} {s : State} {mid : MethodId} {args : Array Value} {below : List Frame} {meth : Method} {c : Code} (C : k_C Γ p R s mid args meth c cX7_ahead 5 RX7 (k_R 1)) (hr : meth.sig.returnType = (some .int)) (a1 : Int32) (rec4 : kM1 → Int32 → Int32 → Option (Int32 × kM1)) (hrec4 : ∀ (m0 : kM1) (b2 : Int32) (b3 : Int32), Sm Γ (K3 Γ) p l e R s mid args below meth c 5 true m0 [(0, .ref (Γ.1 0 0)), (1, .int a1), (2, .int b2), (3, .int b3)] [] 4 (rec4 m0 b2 b3)) (m0 : kM1) (b2 : Int32) (b3 : Int32)  : Sm Γ (K3 Γ) p l e R s mid args below meth c 5 true m0 [(0, .ref (Γ.1 0 0)), (1, .int a1), (2, .int b2), (3, .int b3)] [] 58 (fX7_ahead_b58 a1 rec4 m0 b2 b3) := by
  unfold fX7_ahead_b58
  refine k_iconst C (v := 0) dX7_ahead_58 (by decide) (pc' := 59) rfl ?_
  exact sX7_ahead_b59 hL C hr a1 rec4 hrec4 m0 b2 b3 0
def fX7_ahead_b4 (a1 : Int32) : Nat → kM1 → Int32 → Int32 → Option (Int32 × kM1)
  | 0, _, _, _ => none
  | n + 1, m0, b2, b3 =>
  if (m0 1 29) ≤ b3 then some (b2, m0) else bd (fX7_of m0 b3 9) fun r3 m4 => bd (fX7_of m4 a1 9) fun r5 m6 => if r3 < r5 then fX7_ahead_b54 a1 (fX7_ahead_b4 a1 n) m6 b2 b3 else bd (fX7_of m6 b3 9) fun r14 m15 => bd (fX7_of m15 a1 9) fun r16 m17 => if r14 = r16 then if a1 ≤ b3 then fX7_ahead_b58 a1 (fX7_ahead_b4 a1 n) m17 b2 b3 else fX7_ahead_b54 a1 (fX7_ahead_b4 a1 n) m17 b2 b3 else fX7_ahead_b58 a1 (fX7_ahead_b4 a1 n) m17 b2 b3
set_option maxRecDepth 100000 in
set_option maxHeartbeats 4000000 in
theorem sX7_ahead_b4 {l : Launch} {Γ : kG} (hL : k_Lay Γ 7) {p : Program} {e : Env} {R : Room} {s : State} {mid : MethodId} {args : Array Value} {below : List Frame} {meth : Method} {c : Code} (C : k_C Γ p R s mid args meth c cX7_ahead 5 RX7 (k_R 1)) (hr : meth.sig.returnType = (some .int)) (a1 : Int32)  (n : Nat) : ∀ (m0 : kM1) (b2 : Int32) (b3 : Int32), Sm Γ (K3 Γ) p l e R s mid args below meth c 5 true m0 [(0, .ref (Γ.1 0 0)), (1, .int a1), (2, .int b2), (3, .int b3)] [] 4 (fX7_ahead_b4 a1 n m0 b2 b3) := by
  induction n with
  | zero => intros; exact k_none
  | succ n ih =>
    intro m0 b2 b3
    unfold fX7_ahead_b4
    refine k_iload_n C 3 dX7_ahead_4 rfl rfl (pc' := 5) rfl ?_
    refine k_aload_n C 0 dX7_ahead_5 rfl rfl (pc' := 6) rfl ?_
    refine k_getf C 0 (c3 Γ m0 0 (e_model Γ (m0 0))) (v_0 (by decide)) flX7_7 (v := .ref (Γ.1 0 1)) rfl dX7_ahead_6 (pc' := 9) rfl ?_
    refine k_bipush C (v := 29) dX7_ahead_9 (by decide) (pc' := 11) rfl ?_
    refine k_ialdK C (n0 := 29) (c3 Γ m0 1 (e_d Γ (m0 1))) (v_0 (by decide)) (by decide) (by decide) dX7_ahead_11 (pc' := 12) rfl ?_
    refine k_ic_ge C (tgt := 90) dX7_ahead_12 (by decide) (pc' := 15) rfl (fun h2 => ?_) (fun h2 => ?_)
    · refine k_iload_n C 2 dX7_ahead_90 rfl rfl (pc' := 91) rfl ?_
      exact k_reti C rfl hr dX7_ahead_91
    · refine k_aload_n C 0 dX7_ahead_15 rfl rfl (pc' := 16) rfl ?_
      refine k_iload_n C 3 dX7_ahead_16 rfl rfl (pc' := 17) rfl ?_
      refine k_bipush C (v := 9) dX7_ahead_17 (by decide) (pc' := 19) rfl ?_
      refine k_callVi C (rest := []) (qX7_of l Γ hL m0 b3 9) mwX7_of iwX7_of mlX7_38 (k_rm_of (by decide) (by decide)) (c3 Γ m0 0 (e_model Γ (m0 0))) (v_0 (by decide)) rfl rfl rfl (Nat.le_of_ble_eq_true rfl) dX7_ahead_19 (pc' := 22) rfl (fun r3 m4 => ?_)
      refine k_aload_n C 0 dX7_ahead_22 rfl rfl (pc' := 23) rfl ?_
      refine k_iload_n C 1 dX7_ahead_23 rfl rfl (pc' := 24) rfl ?_
      refine k_bipush C (v := 9) dX7_ahead_24 (by decide) (pc' := 26) rfl ?_
      refine k_callVi C (rest := [.int r3]) (qX7_of l Γ hL m4 a1 9) mwX7_of iwX7_of mlX7_38 (k_rm_of (by decide) (by decide)) (c3 Γ m4 0 (e_model Γ (m4 0))) (v_0 (by decide)) rfl rfl rfl (Nat.le_of_ble_eq_true rfl) dX7_ahead_26 (pc' := 29) rfl (fun r5 m6 => ?_)
      refine k_ic_lt C (tgt := 54) dX7_ahead_29 (by decide) (pc' := 32) rfl (fun h7 => ?_) (fun h7 => ?_)
      · exact sX7_ahead_b54 hL C hr a1 (fX7_ahead_b4 a1 n) ih m6 b2 b3
      · refine k_aload_n C 0 dX7_ahead_32 rfl rfl (pc' := 33) rfl ?_
        refine k_iload_n C 3 dX7_ahead_33 rfl rfl (pc' := 34) rfl ?_
        refine k_bipush C (v := 9) dX7_ahead_34 (by decide) (pc' := 36) rfl ?_
        refine k_callVi C (rest := []) (qX7_of l Γ hL m6 b3 9) mwX7_of iwX7_of mlX7_38 (k_rm_of (by decide) (by decide)) (c3 Γ m6 0 (e_model Γ (m6 0))) (v_0 (by decide)) rfl rfl rfl (Nat.le_of_ble_eq_true rfl) dX7_ahead_36 (pc' := 39) rfl (fun r14 m15 => ?_)
        refine k_aload_n C 0 dX7_ahead_39 rfl rfl (pc' := 40) rfl ?_
        refine k_iload_n C 1 dX7_ahead_40 rfl rfl (pc' := 41) rfl ?_
        refine k_bipush C (v := 9) dX7_ahead_41 (by decide) (pc' := 43) rfl ?_
        refine k_callVi C (rest := [.int r14]) (qX7_of l Γ hL m15 a1 9) mwX7_of iwX7_of mlX7_38 (k_rm_of (by decide) (by decide)) (c3 Γ m15 0 (e_model Γ (m15 0))) (v_0 (by decide)) rfl rfl rfl (Nat.le_of_ble_eq_true rfl) dX7_ahead_43 (pc' := 46) rfl (fun r16 m17 => ?_)
        refine k_ic_ne C (tgt := 58) dX7_ahead_46 (by decide) (pc' := 49) rfl (fun h18 => ?_) (fun h18 => ?_)
        · exact sX7_ahead_b58 hL C hr a1 (fX7_ahead_b4 a1 n) ih m17 b2 b3
        · refine k_iload_n C 3 dX7_ahead_49 rfl rfl (pc' := 50) rfl ?_
          refine k_iload_n C 1 dX7_ahead_50 rfl rfl (pc' := 51) rfl ?_
          refine k_ic_ge C (tgt := 58) dX7_ahead_51 (by decide) (pc' := 54) rfl (fun h19 => ?_) (fun h19 => ?_)
          · exact sX7_ahead_b58 hL C hr a1 (fX7_ahead_b4 a1 n) ih m17 b2 b3
          · exact sX7_ahead_b54 hL C hr a1 (fX7_ahead_b4 a1 n) ih m17 b2 b3
def fX7_ahead (m0 : kM1) (a1 : Int32) : Option (Int32 × kM1) :=
  fX7_ahead_b4 a1 kFu m0 0 0
set_option maxRecDepth 100000 in
set_option maxHeartbeats 4000000 in
theorem qX7_ahead (l : Launch) (Γ : kG) (hL : k_Lay Γ 7) (m0 : kM1) (a1 : Int32) : CT l Γ (K3 Γ) yX7_ahead cX7_ahead 5 (some .int) (k_R 1) [.ref (Γ.1 0 0), .int a1] m0 (fX7_ahead m0 a1) := by
  refine k_meth (own := RX7) (by decide) rfl (Nat.le_of_ble_eq_true rfl) (fun p e R s mid args below meth c C hr => ?_)
  show Sm Γ (K3 Γ) p l e R s mid args below meth c 5 true m0 [(0, .ref (Γ.1 0 0)), (1, .int a1)] [] 0 (fX7_ahead m0 a1)
  unfold fX7_ahead
  refine k_iconst C (v := 0) dX7_ahead_0 (by decide) (pc' := 1) rfl ?_
  refine k_istore_n C (lv' := [(2, .int 0), (0, .ref (Γ.1 0 0)), (1, .int a1)]) dX7_ahead_1 rfl (by decide) rfl (pc' := 2) rfl ?_
  refine k_iconst C (v := 0) dX7_ahead_2 (by decide) (pc' := 3) rfl ?_
  refine k_istore_n C (lv' := [(3, .int 0), (2, .int 0), (0, .ref (Γ.1 0 0)), (1, .int a1)]) dX7_ahead_3 rfl (by decide) rfl (pc' := 4) rfl ?_
  refine k_sub [2, 3, 1, 0] rfl ?_
  exact sX7_ahead_b4 hL C hr a1 kFu m0 0 0
def fX7_pledgeAt_b68 (a1 : Int32) (a2 : Int32) (rec18 : kM1 → Int32 → Option (Int32 × kM1)) (m0 : kM1) (b3 : Int32) : Option (Int32 × kM1) :=
  k_let (b3 + 1) fun v10 => rec18 m0 v10
set_option maxRecDepth 100000 in
set_option maxHeartbeats 4000000 in
theorem sX7_pledgeAt_b68 {l : Launch} {Γ : kG} (hL : k_Lay Γ 7) {p : Program} {e : Env} {R : Room} {s : State} {mid : MethodId} {args : Array Value} {below : List Frame} {meth : Method} {c : Code} (C : k_C Γ p R s mid args meth c cX7_pledgeAt 4 RX7 (k_R 2)) (hr : meth.sig.returnType = (some .int)) (a1 : Int32) (a2 : Int32) (rec18 : kM1 → Int32 → Option (Int32 × kM1)) (hrec18 : ∀ (m0 : kM1) (b3 : Int32), Sm Γ (K3 Γ) p l e R s mid args below meth c 4 true m0 [(0, .ref (Γ.1 0 0)), (1, .int a1), (2, .int a2), (3, .int b3)] [] 18 (rec18 m0 b3)) (m0 : kM1) (b3 : Int32)  : Sm Γ (K3 Γ) p l e R s mid args below meth c 4 true m0 [(0, .ref (Γ.1 0 0)), (1, .int a1), (2, .int a2), (3, .int b3)] [] 68 (fX7_pledgeAt_b68 a1 a2 rec18 m0 b3) := by
  unfold fX7_pledgeAt_b68
  refine k_iinc (v := 1) (q := 3) (lv' := [(0, .ref (Γ.1 0 0)), (1, .int a1), (2, .int a2)]) C dX7_pledgeAt_68 rfl (by decide) (by decide) (pc' := 71) rfl (fun _ => rfl) (fun v10 => ?_)
  refine k_goto C (pc' := 18) dX7_pledgeAt_71 (by decide) ?_
  refine k_sub [1, 2, 3, 0] rfl ?_
  exact hrec18 m0 v10
def fX7_pledgeAt_b18 (a1 : Int32) (a2 : Int32) : Nat → kM1 → Int32 → Option (Int32 × kM1)
  | 0, _, _ => none
  | n + 1, m0, b3 =>
  if (m0 1 29) ≤ b3 then some ((-1000004), m0) else bd (fX7_of m0 b3 6) fun r7 m8 => if r7 ≤ 0 then fX7_pledgeAt_b68 a1 a2 (fX7_pledgeAt_b18 a1 a2 n) m8 b3 else bd (fX7_ahead m8 b3) fun r11 m12 => if r11 = a1 then if a2 = 0 then some (b3, m12) else bd (fX7_of m12 b3 ((6 + a2) - 1)) fun r15 m16 => some (r15, m16) else fX7_pledgeAt_b68 a1 a2 (fX7_pledgeAt_b18 a1 a2 n) m12 b3
set_option maxRecDepth 100000 in
set_option maxHeartbeats 4000000 in
theorem sX7_pledgeAt_b18 {l : Launch} {Γ : kG} (hL : k_Lay Γ 7) {p : Program} {e : Env} {R : Room} {s : State} {mid : MethodId} {args : Array Value} {below : List Frame} {meth : Method} {c : Code} (C : k_C Γ p R s mid args meth c cX7_pledgeAt 4 RX7 (k_R 2)) (hr : meth.sig.returnType = (some .int)) (a1 : Int32) (a2 : Int32)  (n : Nat) : ∀ (m0 : kM1) (b3 : Int32), Sm Γ (K3 Γ) p l e R s mid args below meth c 4 true m0 [(0, .ref (Γ.1 0 0)), (1, .int a1), (2, .int a2), (3, .int b3)] [] 18 (fX7_pledgeAt_b18 a1 a2 n m0 b3) := by
  induction n with
  | zero => intros; exact k_none
  | succ n ih =>
    intro m0 b3
    unfold fX7_pledgeAt_b18
    refine k_iload_n C 3 dX7_pledgeAt_18 rfl rfl (pc' := 19) rfl ?_
    refine k_aload_n C 0 dX7_pledgeAt_19 rfl rfl (pc' := 20) rfl ?_
    refine k_getf C 0 (c3 Γ m0 0 (e_model Γ (m0 0))) (v_0 (by decide)) flX7_7 (v := .ref (Γ.1 0 1)) rfl dX7_pledgeAt_20 (pc' := 23) rfl ?_
    refine k_bipush C (v := 29) dX7_pledgeAt_23 (by decide) (pc' := 25) rfl ?_
    refine k_ialdK C (n0 := 29) (c3 Γ m0 1 (e_d Γ (m0 1))) (v_0 (by decide)) (by decide) (by decide) dX7_pledgeAt_25 (pc' := 26) rfl ?_
    refine k_ic_ge C (tgt := 74) dX7_pledgeAt_26 (by decide) (pc' := 29) rfl (fun h6 => ?_) (fun h6 => ?_)
    · refine k_ldc C (v := (-1000004)) dX7_pledgeAt_74 cnX7_151 (pc' := 76) rfl ?_
      exact k_reti C rfl hr dX7_pledgeAt_76
    · refine k_aload_n C 0 dX7_pledgeAt_29 rfl rfl (pc' := 30) rfl ?_
      refine k_iload_n C 3 dX7_pledgeAt_30 rfl rfl (pc' := 31) rfl ?_
      refine k_bipush C (v := 6) dX7_pledgeAt_31 (by decide) (pc' := 33) rfl ?_
      refine k_callVi C (rest := []) (qX7_of l Γ hL m0 b3 6) mwX7_of iwX7_of mlX7_38 (k_rm_of (by decide) (by decide)) (c3 Γ m0 0 (e_model Γ (m0 0))) (v_0 (by decide)) rfl rfl rfl (Nat.le_of_ble_eq_true rfl) dX7_pledgeAt_33 (pc' := 36) rfl (fun r7 m8 => ?_)
      refine k_if_le C (tgt := 68) dX7_pledgeAt_36 (by decide) (pc' := 39) rfl (fun h9 => ?_) (fun h9 => ?_)
      · exact sX7_pledgeAt_b68 hL C hr a1 a2 (fX7_pledgeAt_b18 a1 a2 n) ih m8 b3
      · refine k_aload_n C 0 dX7_pledgeAt_39 rfl rfl (pc' := 40) rfl ?_
        refine k_iload_n C 3 dX7_pledgeAt_40 rfl rfl (pc' := 41) rfl ?_
        refine k_callVi C (rest := []) (qX7_ahead l Γ hL m8 b3) mwX7_ahead iwX7_ahead mlX7_159 (k_rm_of (by decide) (by decide)) (c3 Γ m8 0 (e_model Γ (m8 0))) (v_0 (by decide)) rfl rfl rfl (Nat.le_of_ble_eq_true rfl) dX7_pledgeAt_41 (pc' := 44) rfl (fun r11 m12 => ?_)
        refine k_iload_n C 1 dX7_pledgeAt_44 rfl rfl (pc' := 45) rfl ?_
        refine k_ic_ne C (tgt := 68) dX7_pledgeAt_45 (by decide) (pc' := 48) rfl (fun h13 => ?_) (fun h13 => ?_)
        · exact sX7_pledgeAt_b68 hL C hr a1 a2 (fX7_pledgeAt_b18 a1 a2 n) ih m12 b3
        · refine k_iload_n C 2 dX7_pledgeAt_48 rfl rfl (pc' := 49) rfl ?_
          refine k_if_ne C (tgt := 56) dX7_pledgeAt_49 (by decide) (pc' := 52) rfl (fun h14 => ?_) (fun h14 => ?_)
          · refine k_aload_n C 0 dX7_pledgeAt_56 rfl rfl (pc' := 57) rfl ?_
            refine k_iload_n C 3 dX7_pledgeAt_57 rfl rfl (pc' := 58) rfl ?_
            refine k_bipush C (v := 6) dX7_pledgeAt_58 (by decide) (pc' := 60) rfl ?_
            refine k_iload_n C 2 dX7_pledgeAt_60 rfl rfl (pc' := 61) rfl ?_
            refine k_iadd C dX7_pledgeAt_61 (pc' := 62) rfl ?_
            refine k_iconst C (v := 1) dX7_pledgeAt_62 (by decide) (pc' := 63) rfl ?_
            refine k_isub C dX7_pledgeAt_63 (pc' := 64) rfl ?_
            refine k_callVi C (rest := []) (qX7_of l Γ hL m12 b3 ((6 + a2) - 1)) mwX7_of iwX7_of mlX7_38 (k_rm_of (by decide) (by decide)) (c3 Γ m12 0 (e_model Γ (m12 0))) (v_0 (by decide)) rfl rfl rfl (Nat.le_of_ble_eq_true rfl) dX7_pledgeAt_64 (pc' := 67) rfl (fun r15 m16 => ?_)
            exact k_reti C rfl hr dX7_pledgeAt_67
          · refine k_iload_n C 3 dX7_pledgeAt_52 rfl rfl (pc' := 53) rfl ?_
            refine k_goto C (pc' := 67) dX7_pledgeAt_53 (by decide) ?_
            exact k_reti C rfl hr dX7_pledgeAt_67
def fX7_pledgeAt (m0 : kM1) (a1 : Int32) (a2 : Int32) : Option (Int32 × kM1) :=
  if a1 < 0 then some ((-1000001), m0) else bd (fX7_in m0 a2 0 4) fun r2 m3 => if r2 = 0 then some ((-1000001), m3) else fX7_pledgeAt_b18 a1 a2 kFu m3 0
set_option maxRecDepth 100000 in
set_option maxHeartbeats 4000000 in
theorem qX7_pledgeAt (l : Launch) (Γ : kG) (hL : k_Lay Γ 7) (m0 : kM1) (a1 : Int32) (a2 : Int32) : CT l Γ (K3 Γ) yX7_pledgeAt cX7_pledgeAt 4 (some .int) (k_R 2) [.ref (Γ.1 0 0), .int a1, .int a2] m0 (fX7_pledgeAt m0 a1 a2) := by
  refine k_meth (own := RX7) (by decide) rfl (Nat.le_of_ble_eq_true rfl) (fun p e R s mid args below meth c C hr => ?_)
  show Sm Γ (K3 Γ) p l e R s mid args below meth c 4 true m0 [(0, .ref (Γ.1 0 0)), (1, .int a1), (2, .int a2)] [] 0 (fX7_pledgeAt m0 a1 a2)
  unfold fX7_pledgeAt
  refine k_iload_n C 1 dX7_pledgeAt_0 rfl rfl (pc' := 1) rfl ?_
  refine k_if_lt C (tgt := 13) dX7_pledgeAt_1 (by decide) (pc' := 4) rfl (fun h1 => ?_) (fun h1 => ?_)
  · refine k_ldc C (v := (-1000001)) dX7_pledgeAt_13 cnX7_33 (pc' := 15) rfl ?_
    exact k_reti C rfl hr dX7_pledgeAt_15
  · refine k_iload_n C 2 dX7_pledgeAt_4 rfl rfl (pc' := 5) rfl ?_
    refine k_iconst C (v := 0) dX7_pledgeAt_5 (by decide) (pc' := 6) rfl ?_
    refine k_iconst C (v := 4) dX7_pledgeAt_6 (by decide) (pc' := 7) rfl ?_
    refine k_callSi C (rest := []) (qX7_in l Γ (K3 Γ) m0 a2 0 4) mwX7_in swX7_in mlX7_29 (k_rm_of (by decide) (by decide)) rfl rfl (Nat.le_of_ble_eq_true rfl) dX7_pledgeAt_7 (pc' := 10) rfl (fun r2 m3 => ?_)
    refine k_if_ne C (tgt := 16) dX7_pledgeAt_10 (by decide) (pc' := 13) rfl (fun h4 => ?_) (fun h4 => ?_)
    · refine k_iconst C (v := 0) dX7_pledgeAt_16 (by decide) (pc' := 17) rfl ?_
      refine k_istore_n C (lv' := [(3, .int 0), (0, .ref (Γ.1 0 0)), (1, .int a1), (2, .int a2)]) dX7_pledgeAt_17 rfl (by decide) rfl (pc' := 18) rfl ?_
      refine k_sub [1, 2, 3, 0] rfl ?_
      exact sX7_pledgeAt_b18 hL C hr a1 a2 kFu m3 0
    · refine k_ldc C (v := (-1000001)) dX7_pledgeAt_13 cnX7_33 (pc' := 15) rfl ?_
      exact k_reti C rfl hr dX7_pledgeAt_15
def fX7_pass_b38 (a1 : Int32) : Nat → kM1 → Int32 → Option (Int32 × kM1)
  | 0, _, _ => none
  | n + 1, m0, b2 =>
  if a1 ≤ b2 then bd (fX7_acted m0 (m0 1 26)) fun r10 m11 => some (r10, m11) else bd (fX7_goes m0) fun r12 m13 => k_let (b2 + 1) fun v14 => fX7_pass_b38 a1 n m13 v14
set_option maxRecDepth 100000 in
set_option maxHeartbeats 4000000 in
theorem sX7_pass_b38 {l : Launch} {Γ : kG} (hL : k_Lay Γ 7) {p : Program} {e : Env} {R : Room} {s : State} {mid : MethodId} {args : Array Value} {below : List Frame} {meth : Method} {c : Code} (C : k_C Γ p R s mid args meth c cX7_pass 3 RX7 (k_R 7)) (hr : meth.sig.returnType = (some .int)) (a1 : Int32)  (n : Nat) : ∀ (m0 : kM1) (b2 : Int32), Sm Γ (K3 Γ) p l e R s mid args below meth c 3 true m0 [(0, .ref (Γ.1 0 0)), (1, .int a1), (2, .int b2)] [] 38 (fX7_pass_b38 a1 n m0 b2) := by
  induction n with
  | zero => intros; exact k_none
  | succ n ih =>
    intro m0 b2
    unfold fX7_pass_b38
    refine k_iload_n C 2 dX7_pass_38 rfl rfl (pc' := 39) rfl ?_
    refine k_iload_n C 1 dX7_pass_39 rfl rfl (pc' := 40) rfl ?_
    refine k_ic_ge C (tgt := 53) dX7_pass_40 (by decide) (pc' := 43) rfl (fun h8 => ?_) (fun h8 => ?_)
    · refine k_aload_n C 0 dX7_pass_53 rfl rfl (pc' := 54) rfl ?_
      refine k_aload_n C 0 dX7_pass_54 rfl rfl (pc' := 55) rfl ?_
      refine k_getf C 0 (c3 Γ m0 0 (e_model Γ (m0 0))) (v_0 (by decide)) flX7_7 (v := .ref (Γ.1 0 1)) rfl dX7_pass_55 (pc' := 58) rfl ?_
      refine k_bipush C (v := 26) dX7_pass_58 (by decide) (pc' := 60) rfl ?_
      refine k_ialdK C (n0 := 26) (c3 Γ m0 1 (e_d Γ (m0 1))) (v_0 (by decide)) (by decide) (by decide) dX7_pass_60 (pc' := 61) rfl ?_
      refine k_callVi C (rest := []) (qX7_acted l Γ hL m0 (m0 1 26)) mwX7_acted iwX7_acted mlX7_127 (k_rm_of (by decide) (by decide)) (c3 Γ m0 0 (e_model Γ (m0 0))) (v_0 (by decide)) rfl rfl rfl (Nat.le_of_ble_eq_true rfl) dX7_pass_61 (pc' := 64) rfl (fun r10 m11 => ?_)
      exact k_reti C rfl hr dX7_pass_64
    · refine k_aload_n C 0 dX7_pass_43 rfl rfl (pc' := 44) rfl ?_
      refine k_callVv C (rest := []) (qX7_goes l Γ hL m0) mwX7_goes iwX7_goes mlX7_162 (k_rm_of (by decide) (by decide)) (c3 Γ m0 0 (e_model Γ (m0 0))) (v_0 (by decide)) rfl rfl rfl (Nat.le_of_ble_eq_true rfl) dX7_pass_44 (pc' := 47) rfl (fun r12 m13 => ?_)
      refine k_iinc (v := 1) (q := 2) (lv' := [(0, .ref (Γ.1 0 0)), (1, .int a1)]) C dX7_pass_47 rfl (by decide) (by decide) (pc' := 50) rfl (fun _ => rfl) (fun v14 => ?_)
      refine k_goto C (pc' := 38) dX7_pass_50 (by decide) ?_
      refine k_sub [1, 2, 0] rfl ?_
      exact ih m13 v14
def fX7_pass (m0 : kM1) (a1 : Int32) : Option (Int32 × kM1) :=
  bd (fX7_in m0 a1 1 200) fun r1 m2 => if r1 = 0 then some ((-1000001), m2) else if ((m2 1 26) + a1) ≤ 10000 then bd (fX7_keeps m2) fun r6 m7 => fX7_pass_b38 a1 kFu m7 0 else some ((-1000003), m2)
set_option maxRecDepth 100000 in
set_option maxHeartbeats 4000000 in
theorem qX7_pass (l : Launch) (Γ : kG) (hL : k_Lay Γ 7) (m0 : kM1) (a1 : Int32) : CT l Γ (K3 Γ) yX7_pass cX7_pass 3 (some .int) (k_R 7) [.ref (Γ.1 0 0), .int a1] m0 (fX7_pass m0 a1) := by
  refine k_meth (own := RX7) (by decide) rfl (Nat.le_of_ble_eq_true rfl) (fun p e R s mid args below meth c C hr => ?_)
  show Sm Γ (K3 Γ) p l e R s mid args below meth c 3 true m0 [(0, .ref (Γ.1 0 0)), (1, .int a1)] [] 0 (fX7_pass m0 a1)
  unfold fX7_pass
  refine k_iload_n C 1 dX7_pass_0 rfl rfl (pc' := 1) rfl ?_
  refine k_iconst C (v := 1) dX7_pass_1 (by decide) (pc' := 2) rfl ?_
  refine k_sipush C (v := 200) dX7_pass_2 (by decide) (pc' := 5) rfl ?_
  refine k_callSi C (rest := []) (qX7_in l Γ (K3 Γ) m0 a1 1 200) mwX7_in swX7_in mlX7_29 (k_rm_of (by decide) (by decide)) rfl rfl (Nat.le_of_ble_eq_true rfl) dX7_pass_5 (pc' := 8) rfl (fun r1 m2 => ?_)
  refine k_if_ne C (tgt := 14) dX7_pass_8 (by decide) (pc' := 11) rfl (fun h3 => ?_) (fun h3 => ?_)
  · refine k_aload_n C 0 dX7_pass_14 rfl rfl (pc' := 15) rfl ?_
    refine k_getf C 0 (c3 Γ m2 0 (e_model Γ (m2 0))) (v_0 (by decide)) flX7_7 (v := .ref (Γ.1 0 1)) rfl dX7_pass_15 (pc' := 18) rfl ?_
    refine k_bipush C (v := 26) dX7_pass_18 (by decide) (pc' := 20) rfl ?_
    refine k_ialdK C (n0 := 26) (c3 Γ m2 1 (e_d Γ (m2 1))) (v_0 (by decide)) (by decide) (by decide) dX7_pass_20 (pc' := 21) rfl ?_
    refine k_iload_n C 1 dX7_pass_21 rfl rfl (pc' := 22) rfl ?_
    refine k_iadd C dX7_pass_22 (pc' := 23) rfl ?_
    refine k_sipush C (v := 10000) dX7_pass_23 (by decide) (pc' := 26) rfl ?_
    refine k_ic_le C (tgt := 32) dX7_pass_26 (by decide) (pc' := 29) rfl (fun h5 => ?_) (fun h5 => ?_)
    · refine k_aload_n C 0 dX7_pass_32 rfl rfl (pc' := 33) rfl ?_
      refine k_callVv C (rest := []) (qX7_keeps l Γ hL m2) mwX7_keeps iwX7_keeps mlX7_124 (k_rm_of (by decide) (by decide)) (c3 Γ m2 0 (e_model Γ (m2 0))) (v_0 (by decide)) rfl rfl rfl (Nat.le_of_ble_eq_true rfl) dX7_pass_33 (pc' := 36) rfl (fun r6 m7 => ?_)
      refine k_iconst C (v := 0) dX7_pass_36 (by decide) (pc' := 37) rfl ?_
      refine k_istore_n C (lv' := [(2, .int 0), (0, .ref (Γ.1 0 0)), (1, .int a1)]) dX7_pass_37 rfl (by decide) rfl (pc' := 38) rfl ?_
      refine k_sub [1, 2, 0] rfl ?_
      exact sX7_pass_b38 hL C hr a1 kFu m7 0
    · refine k_ldc C (v := (-1000003)) dX7_pass_29 cnX7_101 (pc' := 31) rfl ?_
      exact k_reti C rfl hr dX7_pass_31
  · refine k_ldc C (v := (-1000001)) dX7_pass_11 cnX7_33 (pc' := 13) rfl ?_
    exact k_reti C rfl hr dX7_pass_13
def fX7_seaIn (m0 : kM1) (a1 : Int32) : Option (Int32 × kM1) :=
  bd (fX7_in m0 a1 0 5000) fun r1 m2 => if r1 = 0 then some ((-1000001), m2) else bd (fX7_sea m2 ((m2 1 26) + a1)) fun r5 m6 => some (r5, m6)
set_option maxRecDepth 100000 in
set_option maxHeartbeats 4000000 in
theorem qX7_seaIn (l : Launch) (Γ : kG) (hL : k_Lay Γ 7) (m0 : kM1) (a1 : Int32) : CT l Γ (K3 Γ) yX7_seaIn cX7_seaIn 2 (some .int) (k_R 1) [.ref (Γ.1 0 0), .int a1] m0 (fX7_seaIn m0 a1) := by
  refine k_meth (own := RX7) (by decide) rfl (Nat.le_of_ble_eq_true rfl) (fun p e R s mid args below meth c C hr => ?_)
  show Sm Γ (K3 Γ) p l e R s mid args below meth c 2 true m0 [(0, .ref (Γ.1 0 0)), (1, .int a1)] [] 0 (fX7_seaIn m0 a1)
  unfold fX7_seaIn
  refine k_iload_n C 1 dX7_seaIn_0 rfl rfl (pc' := 1) rfl ?_
  refine k_iconst C (v := 0) dX7_seaIn_1 (by decide) (pc' := 2) rfl ?_
  refine k_sipush C (v := 5000) dX7_seaIn_2 (by decide) (pc' := 5) rfl ?_
  refine k_callSi C (rest := []) (qX7_in l Γ (K3 Γ) m0 a1 0 5000) mwX7_in swX7_in mlX7_29 (k_rm_of (by decide) (by decide)) rfl rfl (Nat.le_of_ble_eq_true rfl) dX7_seaIn_5 (pc' := 8) rfl (fun r1 m2 => ?_)
  refine k_if_eq C (tgt := 27) dX7_seaIn_8 (by decide) (pc' := 11) rfl (fun h3 => ?_) (fun h3 => ?_)
  · refine k_ldc C (v := (-1000001)) dX7_seaIn_27 cnX7_33 (pc' := 29) rfl ?_
    exact k_reti C rfl hr dX7_seaIn_29
  · refine k_aload_n C 0 dX7_seaIn_11 rfl rfl (pc' := 12) rfl ?_
    refine k_aload_n C 0 dX7_seaIn_12 rfl rfl (pc' := 13) rfl ?_
    refine k_getf C 0 (c3 Γ m2 0 (e_model Γ (m2 0))) (v_0 (by decide)) flX7_7 (v := .ref (Γ.1 0 1)) rfl dX7_seaIn_13 (pc' := 16) rfl ?_
    refine k_bipush C (v := 26) dX7_seaIn_16 (by decide) (pc' := 18) rfl ?_
    refine k_ialdK C (n0 := 26) (c3 Γ m2 1 (e_d Γ (m2 1))) (v_0 (by decide)) (by decide) (by decide) dX7_seaIn_18 (pc' := 19) rfl ?_
    refine k_iload_n C 1 dX7_seaIn_19 rfl rfl (pc' := 20) rfl ?_
    refine k_iadd C dX7_seaIn_20 (pc' := 21) rfl ?_
    refine k_callVi C (rest := []) (qX7_sea l Γ hL m2 ((m2 1 26) + a1)) mwX7_sea iwX7_sea mlX7_61 (k_rm_of (by decide) (by decide)) (c3 Γ m2 0 (e_model Γ (m2 0))) (v_0 (by decide)) rfl rfl rfl (Nat.le_of_ble_eq_true rfl) dX7_seaIn_21 (pc' := 24) rfl (fun r5 m6 => ?_)
    refine k_goto C (pc' := 29) dX7_seaIn_24 (by decide) ?_
    exact k_reti C rfl hr dX7_seaIn_29
def fX7_nextHigh_b2 : Nat → kM1 → Int32 → Option (Int32 × kM1)
  | 0, _, _ => none
  | n + 1, m0, b1 =>
  if ¬ (m0 1 4) = 0 then if (((m0 1 26) + b1) - ((m0 1 26) + b1) / (m0 1 4) * (m0 1 4)) = ((m0 1 4) / 2) then some (b1, m0) else k_let (b1 + 1) fun v5 => fX7_nextHigh_b2 n m0 v5 else none
set_option maxRecDepth 100000 in
set_option maxHeartbeats 4000000 in
theorem sX7_nextHigh_b2 {l : Launch} {Γ : kG} (hL : k_Lay Γ 7) {p : Program} {e : Env} {R : Room} {s : State} {mid : MethodId} {args : Array Value} {below : List Frame} {meth : Method} {c : Code} (C : k_C Γ p R s mid args meth c cX7_nextHigh 2 RX7 (k_R 0)) (hr : meth.sig.returnType = (some .int))  (n : Nat) : ∀ (m0 : kM1) (b1 : Int32), Sm Γ (K3 Γ) p l e R s mid args below meth c 2 true m0 [(0, .ref (Γ.1 0 0)), (1, .int b1)] [] 2 (fX7_nextHigh_b2 n m0 b1) := by
  induction n with
  | zero => intros; exact k_none
  | succ n ih =>
    intro m0 b1
    unfold fX7_nextHigh_b2
    refine k_aload_n C 0 dX7_nextHigh_2 rfl rfl (pc' := 3) rfl ?_
    refine k_getf C 0 (c3 Γ m0 0 (e_model Γ (m0 0))) (v_0 (by decide)) flX7_7 (v := .ref (Γ.1 0 1)) rfl dX7_nextHigh_3 (pc' := 6) rfl ?_
    refine k_bipush C (v := 26) dX7_nextHigh_6 (by decide) (pc' := 8) rfl ?_
    refine k_ialdK C (n0 := 26) (c3 Γ m0 1 (e_d Γ (m0 1))) (v_0 (by decide)) (by decide) (by decide) dX7_nextHigh_8 (pc' := 9) rfl ?_
    refine k_iload_n C 1 dX7_nextHigh_9 rfl rfl (pc' := 10) rfl ?_
    refine k_iadd C dX7_nextHigh_10 (pc' := 11) rfl ?_
    refine k_aload_n C 0 dX7_nextHigh_11 rfl rfl (pc' := 12) rfl ?_
    refine k_getf C 0 (c3 Γ m0 0 (e_model Γ (m0 0))) (v_0 (by decide)) flX7_7 (v := .ref (Γ.1 0 1)) rfl dX7_nextHigh_12 (pc' := 15) rfl ?_
    refine k_iconst C (v := 4) dX7_nextHigh_15 (by decide) (pc' := 16) rfl ?_
    refine k_ialdK C (n0 := 4) (c3 Γ m0 1 (e_d Γ (m0 1))) (v_0 (by decide)) (by decide) (by decide) dX7_nextHigh_16 (pc' := 17) rfl ?_
    refine k_irem C dX7_nextHigh_17 (pc' := 18) rfl ?_
    refine k_aload_n C 0 dX7_nextHigh_18 rfl rfl (pc' := 19) rfl ?_
    refine k_getf C 0 (c3 Γ m0 0 (e_model Γ (m0 0))) (v_0 (by decide)) flX7_7 (v := .ref (Γ.1 0 1)) rfl dX7_nextHigh_19 (pc' := 22) rfl ?_
    refine k_iconst C (v := 4) dX7_nextHigh_22 (by decide) (pc' := 23) rfl ?_
    refine k_ialdK C (n0 := 4) (c3 Γ m0 1 (e_d Γ (m0 1))) (v_0 (by decide)) (by decide) (by decide) dX7_nextHigh_23 (pc' := 24) rfl ?_
    refine k_iconst C (v := 2) dX7_nextHigh_24 (by decide) (pc' := 25) rfl ?_
    refine k_idivK C dX7_nextHigh_25 (by decide) (pc' := 26) rfl ?_
    refine k_ic_eq C (tgt := 35) dX7_nextHigh_26 (by decide) (pc' := 29) rfl (fun h4 => ?_) (fun h4 => ?_)
    · refine k_iload_n C 1 dX7_nextHigh_35 rfl rfl (pc' := 36) rfl ?_
      exact k_reti C rfl hr dX7_nextHigh_36
    · refine k_iinc (v := 1) (q := 1) (lv' := [(0, .ref (Γ.1 0 0))]) C dX7_nextHigh_29 rfl (by decide) (by decide) (pc' := 32) rfl (fun _ => rfl) (fun v5 => ?_)
      refine k_goto C (pc' := 2) dX7_nextHigh_32 (by decide) ?_
      refine k_sub [1, 0] rfl ?_
      exact ih m0 v5
def fX7_nextHigh (m0 : kM1) : Option (Int32 × kM1) :=
  fX7_nextHigh_b2 kFu m0 1
set_option maxRecDepth 100000 in
set_option maxHeartbeats 4000000 in
theorem qX7_nextHigh (l : Launch) (Γ : kG) (hL : k_Lay Γ 7) (m0 : kM1) : CT l Γ (K3 Γ) yX7_nextHigh cX7_nextHigh 2 (some .int) (k_R 0) [.ref (Γ.1 0 0)] m0 (fX7_nextHigh m0 ) := by
  refine k_meth (own := RX7) (by decide) rfl (Nat.le_of_ble_eq_true rfl) (fun p e R s mid args below meth c C hr => ?_)
  show Sm Γ (K3 Γ) p l e R s mid args below meth c 2 true m0 [(0, .ref (Γ.1 0 0))] [] 0 (fX7_nextHigh m0 )
  unfold fX7_nextHigh
  refine k_iconst C (v := 1) dX7_nextHigh_0 (by decide) (pc' := 1) rfl ?_
  refine k_istore_n C (lv' := [(1, .int 1), (0, .ref (Γ.1 0 0))]) dX7_nextHigh_1 rfl (by decide) rfl (pc' := 2) rfl ?_
  refine k_sub [1, 0] rfl ?_
  exact sX7_nextHigh_b2 hL C hr kFu m0 1
