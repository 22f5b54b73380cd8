def fX3_seaAt_b88 (a1 : Int32)  (m0 : kM1) (t0 : Int32) : Option (Int32 × kM1) :=
  some ((m0 1 1) + t0, m0)
set_option maxRecDepth 100000 in
set_option maxHeartbeats 4000000 in
theorem sX3_seaAt_b88 {l : Launch} {Γ : kG} (hL : k_Lay Γ 314) {M : kM2} {i : Nat} (hi : i < 7) {p : Program} {e : Env} {R : Room} {s : State} {mid : MethodId} {args : Array Value} {below : List Frame} {meth : Method} {c : Code} (C : k_C Γ p R s mid args meth c cX3_seaAt 8 RX3 (k_R 1)) (hr : meth.sig.returnType = (some .int)) (a1 : Int32)  (m0 : kM1) (t0 : Int32)  : Sm Γ (K1 Γ M i) p l e R s mid args below meth c 8 true m0 [(0, .ref (Γ.1 i 0))] [.int t0] 88 (fX3_seaAt_b88 a1 m0 t0) := by
  unfold fX3_seaAt_b88
  refine k_istore C (lv' := [(7, .int t0), (0, .ref (Γ.1 i 0))]) dX3_seaAt_88 (by decide) rfl (pc' := 90) rfl ?_
  refine k_aload_n C 1 dX3_seaAt_90 rfl rfl (pc' := 91) rfl ?_
  refine k_getf C 0 (c1 Γ M i m0 0 (e_mill Γ hi (m0 0))) (v_i hi (by decide)) flX3_18 (v := .ref (Γ.1 i 1)) rfl dX3_seaAt_91 (pc' := 94) rfl ?_
  refine k_iconst C (v := 1) dX3_seaAt_94 (by decide) (pc' := 95) rfl ?_
  refine k_ialdK C (n0 := 1) (c1 Γ M i m0 1 (e_sets Γ hi (m0 1))) (v_i hi (by decide)) (by decide) (by decide) dX3_seaAt_95 (pc' := 96) rfl ?_
  refine k_iload C 0 dX3_seaAt_96 rfl (pc' := 98) rfl ?_
  refine k_iadd C dX3_seaAt_98 (pc' := 99) rfl ?_
  exact k_reti C rfl hr dX3_seaAt_99
def fX3_seaAt (m0 : kM1) (a1 : Int32) : Option (Int32 × kM1) :=
  k_let (m0 1 4) fun v2 => bd (fX6_quotient m0 a1 v2) fun r3 m4 => k_let (a1 - (r3 * v2)) fun v5 => k_let (v2 / 2) fun v6 => k_let ((m4 1 2) + (((m4 1 3) * (if 0 ≤ ((r3 - r3 / 14 * 14) - 7) then ((r3 - r3 / 14 * 14) - 7) else 0 - ((r3 - r3 / 14 * 14) - 7))) / 7)) fun v9 => if v6 < v5 then bd (fX6_quotient m4 (v9 * (v2 - v5)) (v2 - v6)) fun r11 m12 => fX3_seaAt_b88 a1 m12 r11 else bd (fX6_quotient m4 (v9 * v5) v6) fun r14 m15 => fX3_seaAt_b88 a1 m15 r14
set_option maxRecDepth 100000 in
set_option maxHeartbeats 4000000 in
theorem qX3_seaAt (l : Launch) (Γ : kG) (hL : k_Lay Γ 314) (M : kM2) (i : Nat) (hi : i < 7) (m0 : kM1) (a1 : Int32) : CT l Γ (K1 Γ M i) yX3_seaAt cX3_seaAt 8 (some .int) (k_R 1) [.ref (Γ.1 i 0), .int a1] m0 (fX3_seaAt m0 a1) := by
  refine k_meth (own := RX3) (by decide) rfl (Nat.le_of_ble_eq_true rfl) (fun p e R s mid args below meth c C hr => ?_)
  show Sm Γ (K1 Γ M i) p l e R s mid args below meth c 8 true m0 [(0, .ref (Γ.1 i 0)), (1, .int a1)] [] 0 (fX3_seaAt m0 a1)
  unfold fX3_seaAt
  refine k_aload_n C 0 dX3_seaAt_0 rfl rfl (pc' := 1) rfl ?_
  refine k_getf C 0 (c1 Γ M i m0 0 (e_mill Γ hi (m0 0))) (v_i hi (by decide)) flX3_18 (v := .ref (Γ.1 i 1)) rfl dX3_seaAt_1 (pc' := 4) rfl ?_
  refine k_iconst C (v := 4) dX3_seaAt_4 (by decide) (pc' := 5) rfl ?_
  refine k_ialdK C (n0 := 4) (c1 Γ M i m0 1 (e_sets Γ hi (m0 1))) (v_i hi (by decide)) (by decide) (by decide) dX3_seaAt_5 (pc' := 6) rfl ?_
  refine k_topi (fun v2 => ?_)
  refine k_istore_n C (lv' := [(2, .int v2), (0, .ref (Γ.1 i 0)), (1, .int a1)]) dX3_seaAt_6 rfl (by decide) rfl (pc' := 7) rfl ?_
  refine k_iload_n C 2 dX3_seaAt_7 rfl rfl (pc' := 8) rfl ?_
  refine k_iload_n C 0 dX3_seaAt_8 rfl rfl (pc' := 9) rfl ?_
  refine k_callSNi C (rest := []) (qX6_quotient l Γ (K1 Γ M i) m0 a1 v2) mwX6_quotient swX6_quotient (fun h => h.2.1) (k_rm_of (by decide) (by decide)) rfl rfl (Nat.le_of_ble_eq_true rfl) dX3_seaAt_9 (pc' := 12) rfl (fun r3 m4 => ?_)
  refine k_istore_n C (lv' := [(3, .int r3), (2, .int v2), (0, .ref (Γ.1 i 0)), (1, .int a1)]) dX3_seaAt_12 rfl (by decide) rfl (pc' := 13) rfl ?_
  refine k_iload_n C 3 dX3_seaAt_13 rfl rfl (pc' := 14) rfl ?_
  refine k_iload_n C 0 dX3_seaAt_14 rfl rfl (pc' := 15) rfl ?_
  refine k_iload_n C 1 dX3_seaAt_15 rfl rfl (pc' := 16) rfl ?_
  refine k_imul C dX3_seaAt_16 (pc' := 17) rfl ?_
  refine k_isub C dX3_seaAt_17 (pc' := 18) rfl ?_
  refine k_topi (fun v5 => ?_)
  refine k_istore C (lv' := [(4, .int v5), (3, .int r3), (2, .int v2), (0, .ref (Γ.1 i 0)), (1, .int a1)]) dX3_seaAt_18 (by decide) rfl (pc' := 20) rfl ?_
  refine k_iload_n C 2 dX3_seaAt_20 rfl rfl (pc' := 21) rfl ?_
  refine k_iconst C (v := 2) dX3_seaAt_21 (by decide) (pc' := 22) rfl ?_
  refine k_idivK C dX3_seaAt_22 (by decide) (pc' := 23) rfl ?_
  refine k_topi (fun v6 => ?_)
  refine k_istore C (lv' := [(5, .int v6), (4, .int v5), (3, .int r3), (2, .int v2), (0, .ref (Γ.1 i 0)), (1, .int a1)]) dX3_seaAt_23 (by decide) rfl (pc' := 25) rfl ?_
  refine k_aload_n C 4 dX3_seaAt_25 rfl rfl (pc' := 26) rfl ?_
  refine k_getf C 0 (c1 Γ M i m4 0 (e_mill Γ hi (m4 0))) (v_i hi (by decide)) flX3_18 (v := .ref (Γ.1 i 1)) rfl dX3_seaAt_26 (pc' := 29) rfl ?_
  refine k_iconst C (v := 2) dX3_seaAt_29 (by decide) (pc' := 30) rfl ?_
  refine k_ialdK C (n0 := 2) (c1 Γ M i m4 1 (e_sets Γ hi (m4 1))) (v_i hi (by decide)) (by decide) (by decide) dX3_seaAt_30 (pc' := 31) rfl ?_
  refine k_aload_n C 4 dX3_seaAt_31 rfl rfl (pc' := 32) rfl ?_
  refine k_getf C 0 (c1 Γ M i m4 0 (e_mill Γ hi (m4 0))) (v_i hi (by decide)) flX3_18 (v := .ref (Γ.1 i 1)) rfl dX3_seaAt_32 (pc' := 35) rfl ?_
  refine k_iconst C (v := 3) dX3_seaAt_35 (by decide) (pc' := 36) rfl ?_
  refine k_ialdK C (n0 := 3) (c1 Γ M i m4 1 (e_sets Γ hi (m4 1))) (v_i hi (by decide)) (by decide) (by decide) dX3_seaAt_36 (pc' := 37) rfl ?_
  refine k_iload_n C 2 dX3_seaAt_37 rfl rfl (pc' := 38) rfl ?_
  refine k_bipush C (v := 14) dX3_seaAt_38 (by decide) (pc' := 40) rfl ?_
  refine k_iremK C dX3_seaAt_40 (by decide) (pc' := 41) rfl ?_
  refine k_bipush C (v := 7) dX3_seaAt_41 (by decide) (pc' := 43) rfl ?_
  refine k_isub C dX3_seaAt_43 (pc' := 44) rfl ?_
  refine k_mabs C mlX3_272 kw_abs ⟨Nat.le_of_ble_eq_true rfl, Nat.le_of_ble_eq_true rfl⟩ (Nat.le_of_ble_eq_true rfl) dX3_seaAt_44 (pc' := 47) rfl ?_
  refine k_imul C dX3_seaAt_47 (pc' := 48) rfl ?_
  refine k_bipush C (v := 7) dX3_seaAt_48 (by decide) (pc' := 50) rfl ?_
  refine k_idivK C dX3_seaAt_50 (by decide) (pc' := 51) rfl ?_
  refine k_iadd C dX3_seaAt_51 (pc' := 52) rfl ?_
  refine k_topi (fun v9 => ?_)
  refine k_istore C (lv' := [(6, .int v9), (5, .int v6), (4, .int v5), (3, .int r3), (2, .int v2), (0, .ref (Γ.1 i 0)), (1, .int a1)]) dX3_seaAt_52 (by decide) rfl (pc' := 54) rfl ?_
  refine k_iload C 2 dX3_seaAt_54 rfl (pc' := 56) rfl ?_
  refine k_iload C 1 dX3_seaAt_56 rfl (pc' := 58) rfl ?_
  refine k_ic_gt C (tgt := 74) dX3_seaAt_58 (by decide) (pc' := 61) rfl (fun h10 => ?_) (fun h10 => ?_)
  · refine k_iload C 0 dX3_seaAt_74 rfl (pc' := 76) rfl ?_
    refine k_iload_n C 4 dX3_seaAt_76 rfl rfl (pc' := 77) rfl ?_
    refine k_iload C 2 dX3_seaAt_77 rfl (pc' := 79) rfl ?_
    refine k_isub C dX3_seaAt_79 (pc' := 80) rfl ?_
    refine k_imul C dX3_seaAt_80 (pc' := 81) rfl ?_
    refine k_iload_n C 4 dX3_seaAt_81 rfl rfl (pc' := 82) rfl ?_
    refine k_iload C 1 dX3_seaAt_82 rfl (pc' := 84) rfl ?_
    refine k_isub C dX3_seaAt_84 (pc' := 85) rfl ?_
    refine k_callSNi C (rest := []) (qX6_quotient l Γ (K1 Γ M i) m4 (v9 * (v2 - v5)) (v2 - v6)) mwX6_quotient swX6_quotient (fun h => h.2.1) (k_rm_of (by decide) (by decide)) rfl rfl (Nat.le_of_ble_eq_true rfl) dX3_seaAt_85 (pc' := 88) rfl (fun r11 m12 => ?_)
    refine k_sub [5] rfl ?_
    exact sX3_seaAt_b88 hL hi C hr a1 m12 r11
  · refine k_iload C 0 dX3_seaAt_61 rfl (pc' := 63) rfl ?_
    refine k_iload C 2 dX3_seaAt_63 rfl (pc' := 65) rfl ?_
    refine k_imul C dX3_seaAt_65 (pc' := 66) rfl ?_
    refine k_iload C 1 dX3_seaAt_66 rfl (pc' := 68) rfl ?_
    refine k_callSNi C (rest := []) (qX6_quotient l Γ (K1 Γ M i) m4 (v9 * v5) v6) mwX6_quotient swX6_quotient (fun h => h.2.1) (k_rm_of (by decide) (by decide)) rfl rfl (Nat.le_of_ble_eq_true rfl) dX3_seaAt_68 (pc' := 71) rfl (fun r14 m15 => ?_)
    refine k_goto C (pc' := 88) dX3_seaAt_71 (by decide) ?_
    refine k_sub [5] rfl ?_
    exact sX3_seaAt_b88 hL hi C hr a1 m15 r14
def fX3_step_b24   (m0 : kM1) : Option (Int32 × kM1) :=
  bd (fX3_seaAt m0 (m0 0 8)) fun r3 m4 => bd (fX3_flowIn m4 r3) fun r5 m6 => bd (fX3_leakOut m6 r3) fun r7 m8 => bd (fX3_grind m8 r3) fun r9 m10 => some (0, m10)
set_option maxRecDepth 100000 in
set_option maxHeartbeats 4000000 in
theorem sX3_step_b24 {l : Launch} {Γ : kG} (hL : k_Lay Γ 314) {M : kM2} {i : Nat} (hi : i < 7) {p : Program} {e : Env} {R : Room} {s : State} {mid : MethodId} {args : Array Value} {below : List Frame} {meth : Method} {c : Code} (C : k_C Γ p R s mid args meth c cX3_step 2 RX3 (k_R 4)) (hr : meth.sig.returnType = none)  (m0 : kM1)   : Sm Γ (K1 Γ M i) p l e R s mid args below meth c 2 false m0 [(0, .ref (Γ.1 i 0))] [] 24 (fX3_step_b24 m0) := by
  unfold fX3_step_b24
  refine k_aload_n C 0 dX3_step_24 rfl rfl (pc' := 25) rfl ?_
  refine k_aload_n C 0 dX3_step_25 rfl rfl (pc' := 26) rfl ?_
  refine k_getf C 8 (c1 Γ M i m0 0 (e_mill Γ hi (m0 0))) (v_i hi (by decide)) flX3_67 (v := .int (m0 0 8)) rfl dX3_step_26 (pc' := 29) rfl ?_
  refine k_callVi C (rest := []) (qX3_seaAt l Γ hL M i hi m0 (m0 0 8)) mwX3_seaAt iwX3_seaAt mlX3_256 (k_rm_of (by decide) (by decide)) (c1 Γ M i m0 0 (e_mill Γ hi (m0 0))) (v_i hi (by decide)) rfl rfl rfl (Nat.le_of_ble_eq_true rfl) dX3_step_29 (pc' := 32) rfl (fun r3 m4 => ?_)
  refine k_istore_n C (lv' := [(1, .int r3), (0, .ref (Γ.1 i 0))]) dX3_step_32 rfl (by decide) rfl (pc' := 33) rfl ?_
  refine k_aload_n C 1 dX3_step_33 rfl rfl (pc' := 34) rfl ?_
  refine k_iload_n C 0 dX3_step_34 rfl rfl (pc' := 35) rfl ?_
  refine k_callVv C (rest := []) (qX3_flowIn l Γ hL M i hi m4 r3) mwX3_flowIn iwX3_flowIn mlX3_259 (k_rm_of (by decide) (by decide)) (c1 Γ M i m4 0 (e_mill Γ hi (m4 0))) (v_i hi (by decide)) rfl rfl rfl (Nat.le_of_ble_eq_true rfl) dX3_step_35 (pc' := 38) rfl (fun r5 m6 => ?_)
  refine k_aload_n C 1 dX3_step_38 rfl rfl (pc' := 39) rfl ?_
  refine k_iload_n C 0 dX3_step_39 rfl rfl (pc' := 40) rfl ?_
  refine k_callVv C (rest := []) (qX3_leakOut l Γ hL M i hi m6 r3) mwX3_leakOut iwX3_leakOut mlX3_263 (k_rm_of (by decide) (by decide)) (c1 Γ M i m6 0 (e_mill Γ hi (m6 0))) (v_i hi (by decide)) rfl rfl rfl (Nat.le_of_ble_eq_true rfl) dX3_step_40 (pc' := 43) rfl (fun r7 m8 => ?_)
  refine k_aload_n C 1 dX3_step_43 rfl rfl (pc' := 44) rfl ?_
  refine k_iload_n C 0 dX3_step_44 rfl rfl (pc' := 45) rfl ?_
  refine k_callVv C (rest := []) (qX3_grind l Γ hL M i hi m8 r3) mwX3_grind iwX3_grind mlX3_266 (k_rm_of (by decide) (by decide)) (c1 Γ M i m8 0 (e_mill Γ hi (m8 0))) (v_i hi (by decide)) rfl rfl rfl (Nat.le_of_ble_eq_true rfl) dX3_step_45 (pc' := 48) rfl (fun r9 m10 => ?_)
  exact k_retv C rfl hr dX3_step_48
def fX3_step (m0 : kM1) : Option (Int32 × kM1) :=
  k_let (mu m0 0 8 ((m0 0 8) + 1)) fun m1 => if ((m1 0 8) - (m1 0 8) / 96 * 96) = 0 then bd (fX3_dropOldPledges m1) fun r11 m12 => fX3_step_b24 m12 else fX3_step_b24 m1
set_option maxRecDepth 100000 in
set_option maxHeartbeats 4000000 in
theorem qX3_step (l : Launch) (Γ : kG) (hL : k_Lay Γ 314) (M : kM2) (i : Nat) (hi : i < 7) (m0 : kM1) : CT l Γ (K1 Γ M i) yX3_step cX3_step 2 none (k_R 4) [.ref (Γ.1 i 0)] m0 (fX3_step m0 ) := by
  refine k_meth (own := RX3) (by decide) rfl (Nat.le_of_ble_eq_true rfl) (fun p e R s mid args below meth c C hr => ?_)
  show Sm Γ (K1 Γ M i) p l e R s mid args below meth c 2 false m0 [(0, .ref (Γ.1 i 0))] [] 0 (fX3_step m0 )
  unfold fX3_step
  refine k_aload_n C 0 dX3_step_0 rfl rfl (pc' := 1) rfl ?_
  refine k_dup C dX3_step_1 rfl (pc' := 2) rfl ?_
  refine k_getf C 8 (c1 Γ M i m0 0 (e_mill Γ hi (m0 0))) (v_i hi (by decide)) flX3_67 (v := .int (m0 0 8)) rfl dX3_step_2 (pc' := 5) rfl ?_
  refine k_iconst C (v := 1) dX3_step_5 (by decide) (pc' := 6) rfl ?_
  refine k_iadd C dX3_step_6 (pc' := 7) rfl ?_
  refine k_putf C (hL.k1 M i) 8 (c1 Γ M i m0 0 (e_mill Γ hi (m0 0))) (v_i hi (by decide)) flX3_67 fpX3_8 (Nat.le_of_ble_eq_true rfl) (s1 Γ M i m0 0 8 ((m0 0 8) + 1) ((e_mill Γ hi _).trans (congrArg (fun z => Sum.inr (3, z)) (f_mill Γ i (m0 0) ((m0 0 8) + 1) 8 (by decide))))) dX3_step_7 (pc' := 10) rfl (fun m1 => ?_)
  refine k_aload_n C 0 dX3_step_10 rfl rfl (pc' := 11) rfl ?_
  refine k_getf C 8 (c1 Γ M i m1 0 (e_mill Γ hi (m1 0))) (v_i hi (by decide)) flX3_67 (v := .int (m1 0 8)) rfl dX3_step_11 (pc' := 14) rfl ?_
  refine k_bipush C (v := 96) dX3_step_14 (by decide) (pc' := 16) rfl ?_
  refine k_iremK C dX3_step_16 (by decide) (pc' := 17) rfl ?_
  refine k_if_ne C (tgt := 24) dX3_step_17 (by decide) (pc' := 20) rfl (fun h2 => ?_) (fun h2 => ?_)
  · exact sX3_step_b24 hL hi C hr m1
  · refine k_aload_n C 0 dX3_step_20 rfl rfl (pc' := 21) rfl ?_
    refine k_callVv C (rest := []) (qX3_dropOldPledges l Γ hL M i hi m1) mwX3_dropOldPledges iwX3_dropOldPledges mlX3_253 (k_rm_of (by decide) (by decide)) (c1 Γ M i m1 0 (e_mill Γ hi (m1 0))) (v_i hi (by decide)) rfl rfl rfl (Nat.le_of_ble_eq_true rfl) dX3_step_21 (pc' := 24) rfl (fun r11 m12 => ?_)
    exact sX3_step_b24 hL hi C hr m12
def fX3_letPass_b31 (a1 : Int32) : Nat → kM1 → Int32 → Option (Int32 × kM1)
  | 0, _, _ => none
  | n + 1, m0, b2 =>
  if a1 ≤ b2 then some (m0 0 8, m0) else bd (fX3_step m0) fun r6 m7 => k_let (b2 + 1) fun v8 => fX3_letPass_b31 a1 n m7 v8
set_option maxRecDepth 100000 in
set_option maxHeartbeats 4000000 in
theorem sX3_letPass_b31 {l : Launch} {Γ : kG} (hL : k_Lay Γ 314) {M : kM2} {i : Nat} (hi : i < 7) {p : Program} {e : Env} {R : Room} {s : State} {mid : MethodId} {args : Array Value} {below : List Frame} {meth : Method} {c : Code} (C : k_C Γ p R s mid args meth c cX3_letPass 3 RX3 (k_R 5)) (hr : meth.sig.returnType = (some .int)) (a1 : Int32)  (n : Nat) : ∀ (m0 : kM1) (b2 : Int32), Sm Γ (K1 Γ M i) p l e R s mid args below meth c 3 true m0 [(0, .ref (Γ.1 i 0)), (1, .int a1), (2, .int b2)] [] 31 (fX3_letPass_b31 a1 n m0 b2) := by
  induction n with
  | zero => intros; exact k_none
  | succ n ih =>
    intro m0 b2
    unfold fX3_letPass_b31
    refine k_iload_n C 2 dX3_letPass_31 rfl rfl (pc' := 32) rfl ?_
    refine k_iload_n C 1 dX3_letPass_32 rfl rfl (pc' := 33) rfl ?_
    refine k_ic_ge C (tgt := 46) dX3_letPass_33 (by decide) (pc' := 36) rfl (fun h5 => ?_) (fun h5 => ?_)
    · refine k_aload_n C 0 dX3_letPass_46 rfl rfl (pc' := 47) rfl ?_
      refine k_getf C 8 (c1 Γ M i m0 0 (e_mill Γ hi (m0 0))) (v_i hi (by decide)) flX3_67 (v := .int (m0 0 8)) rfl dX3_letPass_47 (pc' := 50) rfl ?_
      exact k_reti C rfl hr dX3_letPass_50
    · refine k_aload_n C 0 dX3_letPass_36 rfl rfl (pc' := 37) rfl ?_
      refine k_callVv C (rest := []) (qX3_step l Γ hL M i hi m0) mwX3_step iwX3_step mlX3_250 (k_rm_of (by decide) (by decide)) (c1 Γ M i m0 0 (e_mill Γ hi (m0 0))) (v_i hi (by decide)) rfl rfl rfl (Nat.le_of_ble_eq_true rfl) dX3_letPass_37 (pc' := 40) rfl (fun r6 m7 => ?_)
      refine k_iinc (v := 1) (q := 2) (lv' := [(0, .ref (Γ.1 i 0)), (1, .int a1)]) C dX3_letPass_40 rfl (by decide) (by decide) (pc' := 43) rfl (fun _ => rfl) (fun v8 => ?_)
      refine k_goto C (pc' := 31) dX3_letPass_43 (by decide) ?_
      refine k_sub [1, 2, 0] rfl ?_
      exact ih m7 v8
def fX3_letPass (m0 : kM1) (a1 : Int32) : Option (Int32 × kM1) :=
  bd (fX6_within m0 a1 1 200) fun r1 m2 => if r1 = 0 then some ((-1000001), m2) else if ((m2 0 8) + a1) ≤ 10000 then fX3_letPass_b31 a1 kFu m2 0 else some ((-1000003), m2)
set_option maxRecDepth 100000 in
set_option maxHeartbeats 4000000 in
theorem qX3_letPass (l : Launch) (Γ : kG) (hL : k_Lay Γ 314) (M : kM2) (i : Nat) (hi : i < 7) (m0 : kM1) (a1 : Int32) : CT l Γ (K1 Γ M i) yX3_letPass cX3_letPass 3 (some .int) (k_R 5) [.ref (Γ.1 i 0), .int a1] m0 (fX3_letPass m0 a1) := by
  refine k_meth (own := RX3) (by decide) rfl (Nat.le_of_ble_eq_true rfl) (fun p e R s mid args below meth c C hr => ?_)
  show Sm Γ (K1 Γ M i) p l e R s mid args below meth c 3 true m0 [(0, .ref (Γ.1 i 0)), (1, .int a1)] [] 0 (fX3_letPass m0 a1)
  unfold fX3_letPass
  refine k_iload_n C 1 dX3_letPass_0 rfl rfl (pc' := 1) rfl ?_
  refine k_iconst C (v := 1) dX3_letPass_1 (by decide) (pc' := 2) rfl ?_
  refine k_sipush C (v := 200) dX3_letPass_2 (by decide) (pc' := 5) rfl ?_
  refine k_callSNi C (rest := []) (qX6_within l Γ (K1 Γ M i) m0 a1 1 200) mwX6_within swX6_within (fun h => h.1) (k_rm_of (by decide) (by decide)) rfl rfl (Nat.le_of_ble_eq_true rfl) dX3_letPass_5 (pc' := 8) rfl (fun r1 m2 => ?_)
  refine k_if_ne C (tgt := 14) dX3_letPass_8 (by decide) (pc' := 11) rfl (fun h3 => ?_) (fun h3 => ?_)
  · refine k_aload_n C 0 dX3_letPass_14 rfl rfl (pc' := 15) rfl ?_
    refine k_getf C 8 (c1 Γ M i m2 0 (e_mill Γ hi (m2 0))) (v_i hi (by decide)) flX3_67 (v := .int (m2 0 8)) rfl dX3_letPass_15 (pc' := 18) rfl ?_
    refine k_iload_n C 1 dX3_letPass_18 rfl rfl (pc' := 19) rfl ?_
    refine k_iadd C dX3_letPass_19 (pc' := 20) rfl ?_
    refine k_sipush C (v := 10000) dX3_letPass_20 (by decide) (pc' := 23) rfl ?_
    refine k_ic_le C (tgt := 29) dX3_letPass_23 (by decide) (pc' := 26) rfl (fun h4 => ?_) (fun h4 => ?_)
    · refine k_iconst C (v := 0) dX3_letPass_29 (by decide) (pc' := 30) rfl ?_
      refine k_istore_n C (lv' := [(2, .int 0), (0, .ref (Γ.1 i 0)), (1, .int a1)]) dX3_letPass_30 rfl (by decide) rfl (pc' := 31) rfl ?_
      refine k_sub [1, 2, 0] rfl ?_
      exact sX3_letPass_b31 hL hi C hr a1 kFu m2 0
    · refine k_ldc C (v := (-1000003)) dX3_letPass_26 cnX3_122 (pc' := 28) rfl ?_
      exact k_reti C rfl hr dX3_letPass_28
  · refine k_ldc C (v := (-1000001)) dX3_letPass_11 cnX3_120 (pc' := 13) rfl ?_
    exact k_reti C rfl hr dX3_letPass_13
def fX3_stepsToHigh (m0 : kM1) : Option (Int32 × kM1) :=
  k_let (m0 1 4) fun v2 => bd (fX6_quotient m0 (m0 0 8) v2) fun r3 m4 => k_let ((m0 0 8) - (r3 * v2)) fun v5 => k_let ((v2 / 2) - v5) fun v6 => if v6 ≤ 0 then some (v6 + v2, m4) else some (v6, m4)
set_option maxRecDepth 100000 in
set_option maxHeartbeats 4000000 in
theorem qX3_stepsToHigh (l : Launch) (Γ : kG) (hL : k_Lay Γ 314) (M : kM2) (i : Nat) (hi : i < 7) (m0 : kM1) : CT l Γ (K1 Γ M i) yX3_stepsToHigh cX3_stepsToHigh 4 (some .int) (k_R 1) [.ref (Γ.1 i 0)] m0 (fX3_stepsToHigh m0 ) := by
  refine k_meth (own := RX3) (by decide) rfl (Nat.le_of_ble_eq_true rfl) (fun p e R s mid args below meth c C hr => ?_)
  show Sm Γ (K1 Γ M i) p l e R s mid args below meth c 4 true m0 [(0, .ref (Γ.1 i 0))] [] 0 (fX3_stepsToHigh m0 )
  unfold fX3_stepsToHigh
  refine k_aload_n C 0 dX3_stepsToHigh_0 rfl rfl (pc' := 1) rfl ?_
  refine k_getf C 0 (c1 Γ M i m0 0 (e_mill Γ hi (m0 0))) (v_i hi (by decide)) flX3_18 (v := .ref (Γ.1 i 1)) rfl dX3_stepsToHigh_1 (pc' := 4) rfl ?_
  refine k_iconst C (v := 4) dX3_stepsToHigh_4 (by decide) (pc' := 5) rfl ?_
  refine k_ialdK C (n0 := 4) (c1 Γ M i m0 1 (e_sets Γ hi (m0 1))) (v_i hi (by decide)) (by decide) (by decide) dX3_stepsToHigh_5 (pc' := 6) rfl ?_
  refine k_topi (fun v2 => ?_)
  refine k_istore_n C (lv' := [(1, .int v2), (0, .ref (Γ.1 i 0))]) dX3_stepsToHigh_6 rfl (by decide) rfl (pc' := 7) rfl ?_
  refine k_aload_n C 1 dX3_stepsToHigh_7 rfl rfl (pc' := 8) rfl ?_
  refine k_getf C 8 (c1 Γ M i m0 0 (e_mill Γ hi (m0 0))) (v_i hi (by decide)) flX3_67 (v := .int (m0 0 8)) rfl dX3_stepsToHigh_8 (pc' := 11) rfl ?_
  refine k_aload_n C 1 dX3_stepsToHigh_11 rfl rfl (pc' := 12) rfl ?_
  refine k_getf C 8 (c1 Γ M i m0 0 (e_mill Γ hi (m0 0))) (v_i hi (by decide)) flX3_67 (v := .int (m0 0 8)) rfl dX3_stepsToHigh_12 (pc' := 15) rfl ?_
  refine k_iload_n C 0 dX3_stepsToHigh_15 rfl rfl (pc' := 16) rfl ?_
  refine k_callSNi C (rest := [.int (m0 0 8)]) (qX6_quotient l Γ (K1 Γ M i) m0 (m0 0 8) v2) mwX6_quotient swX6_quotient (fun h => h.2.1) (k_rm_of (by decide) (by decide)) rfl rfl (Nat.le_of_ble_eq_true rfl) dX3_stepsToHigh_16 (pc' := 19) rfl (fun r3 m4 => ?_)
  refine k_iload_n C 0 dX3_stepsToHigh_19 rfl rfl (pc' := 20) rfl ?_
  refine k_imul C dX3_stepsToHigh_20 (pc' := 21) rfl ?_
  refine k_isub C dX3_stepsToHigh_21 (pc' := 22) rfl ?_
  refine k_topi (fun v5 => ?_)
  refine k_istore_n C (lv' := [(2, .int v5), (1, .int v2), (0, .ref (Γ.1 i 0))]) dX3_stepsToHigh_22 rfl (by decide) rfl (pc' := 23) rfl ?_
  refine k_iload_n C 1 dX3_stepsToHigh_23 rfl rfl (pc' := 24) rfl ?_
  refine k_iconst C (v := 2) dX3_stepsToHigh_24 (by decide) (pc' := 25) rfl ?_
  refine k_idivK C dX3_stepsToHigh_25 (by decide) (pc' := 26) rfl ?_
  refine k_iload_n C 0 dX3_stepsToHigh_26 rfl rfl (pc' := 27) rfl ?_
  refine k_isub C dX3_stepsToHigh_27 (pc' := 28) rfl ?_
  refine k_topi (fun v6 => ?_)
  refine k_istore_n C (lv' := [(3, .int v6), (2, .int v5), (1, .int v2), (0, .ref (Γ.1 i 0))]) dX3_stepsToHigh_28 rfl (by decide) rfl (pc' := 29) rfl ?_
  refine k_iload_n C 0 dX3_stepsToHigh_29 rfl rfl (pc' := 30) rfl ?_
  refine k_if_le C (tgt := 37) dX3_stepsToHigh_30 (by decide) (pc' := 33) rfl (fun h7 => ?_) (fun h7 => ?_)
  · refine k_iload_n C 0 dX3_stepsToHigh_37 rfl rfl (pc' := 38) rfl ?_
    refine k_iload_n C 2 dX3_stepsToHigh_38 rfl rfl (pc' := 39) rfl ?_
    refine k_iadd C dX3_stepsToHigh_39 (pc' := 40) rfl ?_
    exact k_reti C rfl hr dX3_stepsToHigh_40
  · refine k_iload_n C 0 dX3_stepsToHigh_33 rfl rfl (pc' := 34) rfl ?_
    refine k_goto C (pc' := 40) dX3_stepsToHigh_34 (by decide) ?_
    exact k_reti C rfl hr dX3_stepsToHigh_40
def fX3_tellPond (m0 : kM1) (a1 : Int32) : Option (Int32 × kM1) :=
  if a1 = 0 then some (m0 0 9, m0) else if a1 = 1 then bd (fX3_level m0) fun r3 m4 => some (r3, m4) else if a1 = 2 then bd (fX3_seaAt m0 (m0 0 8)) fun r6 m7 => some (r6, m7) else if a1 = 3 then bd (fX3_level m0) fun r9 m10 => bd (fX3_seaAt m10 (m10 0 8)) fun r11 m12 => some (r9 - r11, m12) else if a1 = 4 then some (m0 0 11, m0) else if a1 = 5 then some (m0 0 10, m0) else if a1 = 6 then if (m0 0 12) = (-1) then some ((-1000004), m0) else some (m0 0 12, m0) else if a1 = 7 then some (m0 0 14, m0) else if a1 = 8 then some (m0 0 15, m0) else if a1 = 9 then some (m0 0 16, m0) else if a1 = 10 then some (m0 0 17, m0) else bd (fX6_within m0 a1 11 14) fun r21 m22 => if r21 = 0 then some ((-1000001), m22) else if ¬ (a1 - 11) < 0 ∧ (a1 - 11).toNatClampNeg < 4 then some (m22 2 (a1 - 11).toNatClampNeg, m22) else none
set_option maxRecDepth 100000 in
set_option maxHeartbeats 4000000 in
theorem qX3_tellPond (l : Launch) (Γ : kG) (hL : k_Lay Γ 314) (M : kM2) (i : Nat) (hi : i < 7) (m0 : kM1) (a1 : Int32) : CT l Γ (K1 Γ M i) yX3_tellPond cX3_tellPond 2 (some .int) (k_R 2) [.ref (Γ.1 i 0), .int a1] m0 (fX3_tellPond m0 a1) := by
  refine k_meth (own := RX3) (by decide) rfl (Nat.le_of_ble_eq_true rfl) (fun p e R s mid args below meth c C hr => ?_)
  show Sm Γ (K1 Γ M i) p l e R s mid args below meth c 2 true m0 [(0, .ref (Γ.1 i 0)), (1, .int a1)] [] 0 (fX3_tellPond m0 a1)
  unfold fX3_tellPond
  refine k_iload_n C 1 dX3_tellPond_0 rfl rfl (pc' := 1) rfl ?_
  refine k_ite (fun h1 => ?_) (fun h1 => ?_)
  · refine k_tswIn C (59) dX3_tellPond_1 h1 (by decide) (by decide) rfl (pc' := 60) (by decide) ?_
    refine k_aload_n C 0 dX3_tellPond_60 rfl rfl (pc' := 61) rfl ?_
    refine k_getf C 9 (c1 Γ M i m0 0 (e_mill Γ hi (m0 0))) (v_i hi (by decide)) flX3_70 (v := .int (m0 0 9)) rfl dX3_tellPond_61 (pc' := 64) rfl ?_
    exact k_reti C rfl hr dX3_tellPond_64
  refine k_ite (fun h2 => ?_) (fun h2 => ?_)
  · refine k_tswIn C (64) dX3_tellPond_1 h2 (by decide) (by decide) rfl (pc' := 65) (by decide) ?_
    refine k_aload_n C 0 dX3_tellPond_65 rfl rfl (pc' := 66) rfl ?_
    refine k_callVi C (rest := []) (qX3_level l Γ hL M i hi m0) mwX3_level iwX3_level mlX3_277 (k_rm_of (by decide) (by decide)) (c1 Γ M i m0 0 (e_mill Γ hi (m0 0))) (v_i hi (by decide)) rfl rfl rfl (Nat.le_of_ble_eq_true rfl) dX3_tellPond_66 (pc' := 69) rfl (fun r3 m4 => ?_)
    exact k_reti C rfl hr dX3_tellPond_69
  refine k_ite (fun h5 => ?_) (fun h5 => ?_)
  · refine k_tswIn C (69) dX3_tellPond_1 h5 (by decide) (by decide) rfl (pc' := 70) (by decide) ?_
    refine k_aload_n C 0 dX3_tellPond_70 rfl rfl (pc' := 71) rfl ?_
    refine k_aload_n C 0 dX3_tellPond_71 rfl rfl (pc' := 72) rfl ?_
    refine k_getf C 8 (c1 Γ M i m0 0 (e_mill Γ hi (m0 0))) (v_i hi (by decide)) flX3_67 (v := .int (m0 0 8)) rfl dX3_tellPond_72 (pc' := 75) rfl ?_
    refine k_callVi C (rest := []) (qX3_seaAt l Γ hL M i hi m0 (m0 0 8)) mwX3_seaAt iwX3_seaAt mlX3_256 (k_rm_of (by decide) (by decide)) (c1 Γ M i m0 0 (e_mill Γ hi (m0 0))) (v_i hi (by decide)) rfl rfl rfl (Nat.le_of_ble_eq_true rfl) dX3_tellPond_75 (pc' := 78) rfl (fun r6 m7 => ?_)
    exact k_reti C rfl hr dX3_tellPond_78
  refine k_ite (fun h8 => ?_) (fun h8 => ?_)
  · refine k_tswIn C (78) dX3_tellPond_1 h8 (by decide) (by decide) rfl (pc' := 79) (by decide) ?_
    refine k_aload_n C 0 dX3_tellPond_79 rfl rfl (pc' := 80) rfl ?_
    refine k_callVi C (rest := []) (qX3_level l Γ hL M i hi m0) mwX3_level iwX3_level mlX3_277 (k_rm_of (by decide) (by decide)) (c1 Γ M i m0 0 (e_mill Γ hi (m0 0))) (v_i hi (by decide)) rfl rfl rfl (Nat.le_of_ble_eq_true rfl) dX3_tellPond_80 (pc' := 83) rfl (fun r9 m10 => ?_)
    refine k_aload_n C 0 dX3_tellPond_83 rfl rfl (pc' := 84) rfl ?_
    refine k_aload_n C 0 dX3_tellPond_84 rfl rfl (pc' := 85) rfl ?_
    refine k_getf C 8 (c1 Γ M i m10 0 (e_mill Γ hi (m10 0))) (v_i hi (by decide)) flX3_67 (v := .int (m10 0 8)) rfl dX3_tellPond_85 (pc' := 88) rfl ?_
    refine k_callVi C (rest := [.int r9]) (qX3_seaAt l Γ hL M i hi m10 (m10 0 8)) mwX3_seaAt iwX3_seaAt mlX3_256 (k_rm_of (by decide) (by decide)) (c1 Γ M i m10 0 (e_mill Γ hi (m10 0))) (v_i hi (by decide)) rfl rfl rfl (Nat.le_of_ble_eq_true rfl) dX3_tellPond_88 (pc' := 91) rfl (fun r11 m12 => ?_)
    refine k_isub C dX3_tellPond_91 (pc' := 92) rfl ?_
    exact k_reti C rfl hr dX3_tellPond_92
  refine k_ite (fun h13 => ?_) (fun h13 => ?_)
  · refine k_tswIn C (92) dX3_tellPond_1 h13 (by decide) (by decide) rfl (pc' := 93) (by decide) ?_
    refine k_aload_n C 0 dX3_tellPond_93 rfl rfl (pc' := 94) rfl ?_
    refine k_getf C 11 (c1 Γ M i m0 0 (e_mill Γ hi (m0 0))) (v_i hi (by decide)) flX3_76 (v := .int (m0 0 11)) rfl dX3_tellPond_94 (pc' := 97) rfl ?_
    exact k_reti C rfl hr dX3_tellPond_97
  refine k_ite (fun h14 => ?_) (fun h14 => ?_)
  · refine k_tswIn C (97) dX3_tellPond_1 h14 (by decide) (by decide) rfl (pc' := 98) (by decide) ?_
    refine k_aload_n C 0 dX3_tellPond_98 rfl rfl (pc' := 99) rfl ?_
    refine k_getf C 10 (c1 Γ M i m0 0 (e_mill Γ hi (m0 0))) (v_i hi (by decide)) flX3_73 (v := .int (m0 0 10)) rfl dX3_tellPond_99 (pc' := 102) rfl ?_
    exact k_reti C rfl hr dX3_tellPond_102
  refine k_ite (fun h15 => ?_) (fun h15 => ?_)
  · refine k_tswIn C (102) dX3_tellPond_1 h15 (by decide) (by decide) rfl (pc' := 103) (by decide) ?_
    refine k_aload_n C 0 dX3_tellPond_103 rfl rfl (pc' := 104) rfl ?_
    refine k_getf C 12 (c1 Γ M i m0 0 (e_mill Γ hi (m0 0))) (v_i hi (by decide)) flX3_47 (v := .int (m0 0 12)) rfl dX3_tellPond_104 (pc' := 107) rfl ?_
    refine k_iconst C (v := (-1)) dX3_tellPond_107 (by decide) (pc' := 108) rfl ?_
    refine k_ic_ne C (tgt := 116) dX3_tellPond_108 (by decide) (pc' := 111) rfl (fun h16 => ?_) (fun h16 => ?_)
    · refine k_aload_n C 0 dX3_tellPond_116 rfl rfl (pc' := 117) rfl ?_
      refine k_getf C 12 (c1 Γ M i m0 0 (e_mill Γ hi (m0 0))) (v_i hi (by decide)) flX3_47 (v := .int (m0 0 12)) rfl dX3_tellPond_117 (pc' := 120) rfl ?_
      exact k_reti C rfl hr dX3_tellPond_120
    · refine k_ldc C (v := (-1000004)) dX3_tellPond_111 cnX3_189 (pc' := 113) rfl ?_
      refine k_goto C (pc' := 120) dX3_tellPond_113 (by decide) ?_
      exact k_reti C rfl hr dX3_tellPond_120
  refine k_ite (fun h17 => ?_) (fun h17 => ?_)
  · refine k_tswIn C (120) dX3_tellPond_1 h17 (by decide) (by decide) rfl (pc' := 121) (by decide) ?_
    refine k_aload_n C 0 dX3_tellPond_121 rfl rfl (pc' := 122) rfl ?_
    refine k_getf C 14 (c1 Γ M i m0 0 (e_mill Γ hi (m0 0))) (v_i hi (by decide)) flX3_79 (v := .int (m0 0 14)) rfl dX3_tellPond_122 (pc' := 125) rfl ?_
    exact k_reti C rfl hr dX3_tellPond_125
  refine k_ite (fun h18 => ?_) (fun h18 => ?_)
  · refine k_tswIn C (125) dX3_tellPond_1 h18 (by decide) (by decide) rfl (pc' := 126) (by decide) ?_
    refine k_aload_n C 0 dX3_tellPond_126 rfl rfl (pc' := 127) rfl ?_
    refine k_getf C 15 (c1 Γ M i m0 0 (e_mill Γ hi (m0 0))) (v_i hi (by decide)) flX3_82 (v := .int (m0 0 15)) rfl dX3_tellPond_127 (pc' := 130) rfl ?_
    exact k_reti C rfl hr dX3_tellPond_130
  refine k_ite (fun h19 => ?_) (fun h19 => ?_)
  · refine k_tswIn C (130) dX3_tellPond_1 h19 (by decide) (by decide) rfl (pc' := 131) (by decide) ?_
    refine k_aload_n C 0 dX3_tellPond_131 rfl rfl (pc' := 132) rfl ?_
    refine k_getf C 16 (c1 Γ M i m0 0 (e_mill Γ hi (m0 0))) (v_i hi (by decide)) flX3_85 (v := .int (m0 0 16)) rfl dX3_tellPond_132 (pc' := 135) rfl ?_
    exact k_reti C rfl hr dX3_tellPond_135
  refine k_ite (fun h20 => ?_) (fun h20 => ?_)
  · refine k_tswIn C (135) dX3_tellPond_1 h20 (by decide) (by decide) rfl (pc' := 136) (by decide) ?_
    refine k_aload_n C 0 dX3_tellPond_136 rfl rfl (pc' := 137) rfl ?_
    refine k_getf C 17 (c1 Γ M i m0 0 (e_mill Γ hi (m0 0))) (v_i hi (by decide)) flX3_88 (v := .int (m0 0 17)) rfl dX3_tellPond_137 (pc' := 140) rfl ?_
    exact k_reti C rfl hr dX3_tellPond_140
  refine k_tswOut C dX3_tellPond_1 (by have z0 := lv_neT h1 (show (0 : Int32).toInt = 0 by decide); have z1 := lv_neT h2 (show (1 : Int32).toInt = 1 by decide); have z2 := lv_neT h5 (show (2 : Int32).toInt = 2 by decide); have z3 := lv_neT h8 (show (3 : Int32).toInt = 3 by decide); have z4 := lv_neT h13 (show (4 : Int32).toInt = 4 by decide); have z5 := lv_neT h14 (show (5 : Int32).toInt = 5 by decide); have z6 := lv_neT h15 (show (6 : Int32).toInt = 6 by decide); have z7 := lv_neT h17 (show (7 : Int32).toInt = 7 by decide); have z8 := lv_neT h18 (show (8 : Int32).toInt = 8 by decide); have z9 := lv_neT h19 (show (9 : Int32).toInt = 9 by decide); have z10 := lv_neT h20 (show (10 : Int32).toInt = 10 by decide); omega) (pc' := 141) (by decide) ?_
  refine k_iload_n C 1 dX3_tellPond_141 rfl rfl (pc' := 142) rfl ?_
  refine k_bipush C (v := 11) dX3_tellPond_142 (by decide) (pc' := 144) rfl ?_
  refine k_bipush C (v := 14) dX3_tellPond_144 (by decide) (pc' := 146) rfl ?_
  refine k_callSNi C (rest := []) (qX6_within l Γ (K1 Γ M i) m0 a1 11 14) mwX6_within swX6_within (fun h => h.1) (k_rm_of (by decide) (by decide)) rfl rfl (Nat.le_of_ble_eq_true rfl) dX3_tellPond_146 (pc' := 149) rfl (fun r21 m22 => ?_)
  refine k_if_eq C (tgt := 164) dX3_tellPond_149 (by decide) (pc' := 152) rfl (fun h23 => ?_) (fun h23 => ?_)
  · refine k_ldc C (v := (-1000001)) dX3_tellPond_164 cnX3_120 (pc' := 166) rfl ?_
    exact k_reti C rfl hr dX3_tellPond_166
  · refine k_aload_n C 0 dX3_tellPond_152 rfl rfl (pc' := 153) rfl ?_
    refine k_getf C 1 (c1 Γ M i m22 0 (e_mill Γ hi (m22 0))) (v_i hi (by decide)) flX3_26 (v := .ref (Γ.1 i 2)) rfl dX3_tellPond_153 (pc' := 156) rfl ?_
    refine k_iload_n C 1 dX3_tellPond_156 rfl rfl (pc' := 157) rfl ?_
    refine k_bipush C (v := 11) dX3_tellPond_157 (by decide) (pc' := 159) rfl ?_
    refine k_isub C dX3_tellPond_159 (pc' := 160) rfl ?_
    refine k_iald C (c1 Γ M i m22 2 (e_leaks Γ hi (m22 2))) (v_i hi (by decide)) dX3_tellPond_160 (pc' := 161) rfl (fun h24 => ?_)
    refine k_goto C (pc' := 166) dX3_tellPond_161 (by decide) ?_
    exact k_reti C rfl hr dX3_tellPond_166
def fX3_countOf (m0 : kM1) (a1 : Int32) : Option (Int32 × kM1) :=
  if a1 = 0 then some (m0 0 5, m0) else if a1 = 1 then some (m0 0 6, m0) else if a1 = 2 then some (m0 0 7, m0) else if a1 = 3 then bd (fX3_sacksInStage m0 0) fun r5 m6 => some (r5, m6) else if a1 = 4 then bd (fX3_sacksInStage m0 2) fun r8 m9 => some (r8, m9) else if a1 = 5 then bd (fX3_sacksInStage m0 3) fun r11 m12 => some (r11, m12) else if a1 = 6 then bd (fX3_pledgesOf m0 (-1)) fun r14 m15 => some (r14, m15) else if a1 = 7 then some (m0 0 8, m0) else if a1 = 8 then bd (fX3_today m0) fun r18 m19 => some (r18, m19) else some ((-1000001), m0)
set_option maxRecDepth 100000 in
set_option maxHeartbeats 4000000 in
theorem qX3_countOf (l : Launch) (Γ : kG) (hL : k_Lay Γ 314) (M : kM2) (i : Nat) (hi : i < 7) (m0 : kM1) (a1 : Int32) : CT l Γ (K1 Γ M i) yX3_countOf cX3_countOf 2 (some .int) (k_R 2) [.ref (Γ.1 i 0), .int a1] m0 (fX3_countOf m0 a1) := by
  refine k_meth (own := RX3) (by decide) rfl (Nat.le_of_ble_eq_true rfl) (fun p e R s mid args below meth c C hr => ?_)
  show Sm Γ (K1 Γ M i) p l e R s mid args below meth c 2 true m0 [(0, .ref (Γ.1 i 0)), (1, .int a1)] [] 0 (fX3_countOf m0 a1)
  unfold fX3_countOf
  refine k_iload_n C 1 dX3_countOf_0 rfl rfl (pc' := 1) rfl ?_
  refine k_ite (fun h1 => ?_) (fun h1 => ?_)
  · refine k_tswIn C (51) dX3_countOf_1 h1 (by decide) (by decide) rfl (pc' := 52) (by decide) ?_
    refine k_aload_n C 0 dX3_countOf_52 rfl rfl (pc' := 53) rfl ?_
    refine k_getf C 5 (c1 Γ M i m0 0 (e_mill Γ hi (m0 0))) (v_i hi (by decide)) flX3_91 (v := .int (m0 0 5)) rfl dX3_countOf_53 (pc' := 56) rfl ?_
    exact k_reti C rfl hr dX3_countOf_56
  refine k_ite (fun h2 => ?_) (fun h2 => ?_)
  · refine k_tswIn C (56) dX3_countOf_1 h2 (by decide) (by decide) rfl (pc' := 57) (by decide) ?_
    refine k_aload_n C 0 dX3_countOf_57 rfl rfl (pc' := 58) rfl ?_
    refine k_getf C 6 (c1 Γ M i m0 0 (e_mill Γ hi (m0 0))) (v_i hi (by decide)) flX3_94 (v := .int (m0 0 6)) rfl dX3_countOf_58 (pc' := 61) rfl ?_
    exact k_reti C rfl hr dX3_countOf_61
  refine k_ite (fun h3 => ?_) (fun h3 => ?_)
  · refine k_tswIn C (61) dX3_countOf_1 h3 (by decide) (by decide) rfl (pc' := 62) (by decide) ?_
    refine k_aload_n C 0 dX3_countOf_62 rfl rfl (pc' := 63) rfl ?_
    refine k_getf C 7 (c1 Γ M i m0 0 (e_mill Γ hi (m0 0))) (v_i hi (by decide)) flX3_97 (v := .int (m0 0 7)) rfl dX3_countOf_63 (pc' := 66) rfl ?_
    exact k_reti C rfl hr dX3_countOf_66
  refine k_ite (fun h4 => ?_) (fun h4 => ?_)
  · refine k_tswIn C (66) dX3_countOf_1 h4 (by decide) (by decide) rfl (pc' := 67) (by decide) ?_
    refine k_aload_n C 0 dX3_countOf_67 rfl rfl (pc' := 68) rfl ?_
    refine k_iconst C (v := 0) dX3_countOf_68 (by decide) (pc' := 69) rfl ?_
    refine k_callVi C (rest := []) (qX3_sacksInStage l Γ hL M i hi m0 0) mwX3_sacksInStage iwX3_sacksInStage mlX3_302 (k_rm_of (by decide) (by decide)) (c1 Γ M i m0 0 (e_mill Γ hi (m0 0))) (v_i hi (by decide)) rfl rfl rfl (Nat.le_of_ble_eq_true rfl) dX3_countOf_69 (pc' := 72) rfl (fun r5 m6 => ?_)
    exact k_reti C rfl hr dX3_countOf_72
  refine k_ite (fun h7 => ?_) (fun h7 => ?_)
  · refine k_tswIn C (72) dX3_countOf_1 h7 (by decide) (by decide) rfl (pc' := 73) (by decide) ?_
    refine k_aload_n C 0 dX3_countOf_73 rfl rfl (pc' := 74) rfl ?_
    refine k_iconst C (v := 2) dX3_countOf_74 (by decide) (pc' := 75) rfl ?_
    refine k_callVi C (rest := []) (qX3_sacksInStage l Γ hL M i hi m0 2) mwX3_sacksInStage iwX3_sacksInStage mlX3_302 (k_rm_of (by decide) (by decide)) (c1 Γ M i m0 0 (e_mill Γ hi (m0 0))) (v_i hi (by decide)) rfl rfl rfl (Nat.le_of_ble_eq_true rfl) dX3_countOf_75 (pc' := 78) rfl (fun r8 m9 => ?_)
    exact k_reti C rfl hr dX3_countOf_78
  refine k_ite (fun h10 => ?_) (fun h10 => ?_)
  · refine k_tswIn C (78) dX3_countOf_1 h10 (by decide) (by decide) rfl (pc' := 79) (by decide) ?_
    refine k_aload_n C 0 dX3_countOf_79 rfl rfl (pc' := 80) rfl ?_
    refine k_iconst C (v := 3) dX3_countOf_80 (by decide) (pc' := 81) rfl ?_
    refine k_callVi C (rest := []) (qX3_sacksInStage l Γ hL M i hi m0 3) mwX3_sacksInStage iwX3_sacksInStage mlX3_302 (k_rm_of (by decide) (by decide)) (c1 Γ M i m0 0 (e_mill Γ hi (m0 0))) (v_i hi (by decide)) rfl rfl rfl (Nat.le_of_ble_eq_true rfl) dX3_countOf_81 (pc' := 84) rfl (fun r11 m12 => ?_)
    exact k_reti C rfl hr dX3_countOf_84
  refine k_ite (fun h13 => ?_) (fun h13 => ?_)
  · refine k_tswIn C (84) dX3_countOf_1 h13 (by decide) (by decide) rfl (pc' := 85) (by decide) ?_
    refine k_aload_n C 0 dX3_countOf_85 rfl rfl (pc' := 86) rfl ?_
    refine k_iconst C (v := (-1)) dX3_countOf_86 (by decide) (pc' := 87) rfl ?_
    refine k_callVi C (rest := []) (qX3_pledgesOf l Γ hL M i hi m0 (-1)) mwX3_pledgesOf iwX3_pledgesOf mlX3_178 (k_rm_of (by decide) (by decide)) (c1 Γ M i m0 0 (e_mill Γ hi (m0 0))) (v_i hi (by decide)) rfl rfl rfl (Nat.le_of_ble_eq_true rfl) dX3_countOf_87 (pc' := 90) rfl (fun r14 m15 => ?_)
    exact k_reti C rfl hr dX3_countOf_90
  refine k_ite (fun h16 => ?_) (fun h16 => ?_)
  · refine k_tswIn C (90) dX3_countOf_1 h16 (by decide) (by decide) rfl (pc' := 91) (by decide) ?_
    refine k_aload_n C 0 dX3_countOf_91 rfl rfl (pc' := 92) rfl ?_
    refine k_getf C 8 (c1 Γ M i m0 0 (e_mill Γ hi (m0 0))) (v_i hi (by decide)) flX3_67 (v := .int (m0 0 8)) rfl dX3_countOf_92 (pc' := 95) rfl ?_
    exact k_reti C rfl hr dX3_countOf_95
  refine k_ite (fun h17 => ?_) (fun h17 => ?_)
  · refine k_tswIn C (95) dX3_countOf_1 h17 (by decide) (by decide) rfl (pc' := 96) (by decide) ?_
    refine k_aload_n C 0 dX3_countOf_96 rfl rfl (pc' := 97) rfl ?_
    refine k_callVi C (rest := []) (qX3_today l Γ hL M i hi m0) mwX3_today iwX3_today mlX3_223 (k_rm_of (by decide) (by decide)) (c1 Γ M i m0 0 (e_mill Γ hi (m0 0))) (v_i hi (by decide)) rfl rfl rfl (Nat.le_of_ble_eq_true rfl) dX3_countOf_97 (pc' := 100) rfl (fun r18 m19 => ?_)
    exact k_reti C rfl hr dX3_countOf_100
  refine k_tswOut C dX3_countOf_1 (by have z0 := lv_neT h1 (show (0 : Int32).toInt = 0 by decide); have z1 := lv_neT h2 (show (1 : Int32).toInt = 1 by decide); have z2 := lv_neT h3 (show (2 : Int32).toInt = 2 by decide); have z3 := lv_neT h4 (show (3 : Int32).toInt = 3 by decide); have z4 := lv_neT h7 (show (4 : Int32).toInt = 4 by decide); have z5 := lv_neT h10 (show (5 : Int32).toInt = 5 by decide); have z6 := lv_neT h13 (show (6 : Int32).toInt = 6 by decide); have z7 := lv_neT h16 (show (7 : Int32).toInt = 7 by decide); have z8 := lv_neT h17 (show (8 : Int32).toInt = 8 by decide); omega) (pc' := 101) (by decide) ?_
  refine k_ldc C (v := (-1000001)) dX3_countOf_101 cnX3_120 (pc' := 103) rfl ?_
  exact k_reti C rfl hr dX3_countOf_103
def fX1_hold (M0 : kM2) (i1 : Nat) : Option (Int32 × kM2) :=
  if ¬ (((M0 7 1 1) + (M0 7 1 2)) - ((M0 7 1 1) + (M0 7 1 2)) / 5 * 5) < 0 ∧ (((M0 7 1 1) + (M0 7 1 2)) - ((M0 7 1 1) + (M0 7 1 2)) / 5 * 5).toNatClampNeg < 5 then bd (fX3_copyFrom M0 ((2 + (((M0 7 1 1) + (M0 7 1 2)) - ((M0 7 1 1) + (M0 7 1 2)) / 5 * 5).toNatClampNeg)) i1) fun r2 M3 => some (0, M3) else none
set_option maxRecDepth 100000 in
set_option maxHeartbeats 4000000 in
theorem qX1_hold (l : Launch) (Γ : kG) (hL : k_Lay Γ 314) (M0 : kM2) (i1 : Nat) (hi1 : i1 < 7) : CT l Γ (K2 Γ) yX1_hold cX1_hold 2 none (k_R 3) [.ref (Γ.1 7 1), .ref (Γ.1 i1 0)] M0 (fX1_hold M0 i1) := by
  refine k_meth (own := RX1) (by decide) rfl (Nat.le_of_ble_eq_true rfl) (fun p e R s mid args below meth c C hr => ?_)
  show Sm Γ (K2 Γ) p l e R s mid args below meth c 2 false M0 [(0, .ref (Γ.1 7 1)), (1, .ref (Γ.1 i1 0))] [] 0 (fX1_hold M0 i1)
  unfold fX1_hold
  refine k_aload_n C 0 dX1_hold_0 rfl rfl (pc' := 1) rfl ?_
  refine k_getf C 0 (c2 Γ M0 7 1 (e_hist Γ (M0 7 1))) (v_7 (by decide)) flX1_11 (v := .ref (Γ.1 7 2)) rfl dX1_hold_1 (pc' := 4) rfl ?_
  refine k_aload_n C 0 dX1_hold_4 rfl rfl (pc' := 5) rfl ?_
  refine k_getf C 1 (c2 Γ M0 7 1 (e_hist Γ (M0 7 1))) (v_7 (by decide)) flX1_18 (v := .int (M0 7 1 1)) rfl dX1_hold_5 (pc' := 8) rfl ?_
  refine k_aload_n C 0 dX1_hold_8 rfl rfl (pc' := 9) rfl ?_
  refine k_getf C 2 (c2 Γ M0 7 1 (e_hist Γ (M0 7 1))) (v_7 (by decide)) flX1_22 (v := .int (M0 7 1 2)) rfl dX1_hold_9 (pc' := 12) rfl ?_
  refine k_iadd C dX1_hold_12 (pc' := 13) rfl ?_
  refine k_iconst C (v := 5) dX1_hold_13 (by decide) (pc' := 14) rfl ?_
  refine k_iremK C dX1_hold_14 (by decide) (pc' := 15) rfl ?_
  refine k_aald C 5 (c2 Γ M0 7 2 (e_states Γ (M0 7 2))) (v_7 (by decide)) rfl (b := Γ.1 (2 + (((M0 7 1 1) + (M0 7 1 2)) - ((M0 7 1 1) + (M0 7 1 2)) / 5 * 5).toNatClampNeg) 0) rfl dX1_hold_15 (pc' := 16) rfl (fun h1 => ?_)
  refine k_aload_n C 1 dX1_hold_16 rfl rfl (pc' := 17) rfl ?_
  refine k_callVv C (rest := []) (qX3_copyFrom l Γ hL M0 ((2 + (((M0 7 1 1) + (M0 7 1 2)) - ((M0 7 1 1) + (M0 7 1 2)) / 5 * 5).toNatClampNeg)) i1 (i_state h1) hi1) mwX3_copyFrom iwX3_copyFrom mlX1_25 (k_rm_of (by decide) (by decide)) (c2 Γ M0 (2 + (((M0 7 1 1) + (M0 7 1 2)) - ((M0 7 1 1) + (M0 7 1 2)) / 5 * 5).toNatClampNeg) 0 (e_mill Γ (i_state h1) (M0 (2 + (((M0 7 1 1) + (M0 7 1 2)) - ((M0 7 1 1) + (M0 7 1 2)) / 5 * 5).toNatClampNeg) 0))) (v_i (i_state h1) (by decide)) rfl rfl rfl (Nat.le_of_ble_eq_true rfl) dX1_hold_17 (pc' := 20) rfl (fun r2 M3 => ?_)
  exact k_retv C rfl hr dX1_hold_20
def fX1_keepIfDone (m0 : kM1) (a1 : Int32) : Option (Int32 × kM1) :=
  if a1 < 0 then some (a1, m0) else if 4 ≤ (m0 1 2) then k_let (mu m0 1 1 (((m0 1 1) + 1) - ((m0 1 1) + 1) / 5 * 5)) fun m3 => some (a1, m3) else k_let (mu m0 1 2 ((m0 1 2) + 1)) fun m4 => some (a1, m4)
set_option maxRecDepth 100000 in
set_option maxHeartbeats 4000000 in
theorem qX1_keepIfDone (l : Launch) (Γ : kG) (hL : k_Lay Γ 314) (M : kM2) (m0 : kM1) (a1 : Int32) : CT l Γ (K1 Γ M 7) yX1_keepIfDone cX1_keepIfDone 2 (some .int) (k_R 0) [.ref (Γ.1 7 1), .int a1] m0 (fX1_keepIfDone m0 a1) := by
  refine k_meth (own := RX1) (by decide) rfl (Nat.le_of_ble_eq_true rfl) (fun p e R s mid args below meth c C hr => ?_)
  show Sm Γ (K1 Γ M 7) p l e R s mid args below meth c 2 true m0 [(0, .ref (Γ.1 7 1)), (1, .int a1)] [] 0 (fX1_keepIfDone m0 a1)
  unfold fX1_keepIfDone
  refine k_iload_n C 1 dX1_keepIfDone_0 rfl rfl (pc' := 1) rfl ?_
  refine k_if_lt C (tgt := 37) dX1_keepIfDone_1 (by decide) (pc' := 4) rfl (fun h1 => ?_) (fun h1 => ?_)
  · refine k_iload_n C 1 dX1_keepIfDone_37 rfl rfl (pc' := 38) rfl ?_
    exact k_reti C rfl hr dX1_keepIfDone_38
  · refine k_aload_n C 0 dX1_keepIfDone_4 rfl rfl (pc' := 5) rfl ?_
    refine k_getf C 2 (c1 Γ M 7 m0 1 (e_hist Γ (m0 1))) (v_7 (by decide)) flX1_22 (v := .int (m0 1 2)) rfl dX1_keepIfDone_5 (pc' := 8) rfl ?_
    refine k_iconst C (v := 4) dX1_keepIfDone_8 (by decide) (pc' := 9) rfl ?_
    refine k_ic_ge C (tgt := 25) dX1_keepIfDone_9 (by decide) (pc' := 12) rfl (fun h2 => ?_) (fun h2 => ?_)
    · refine k_aload_n C 0 dX1_keepIfDone_25 rfl rfl (pc' := 26) rfl ?_
      refine k_aload_n C 0 dX1_keepIfDone_26 rfl rfl (pc' := 27) rfl ?_
      refine k_getf C 1 (c1 Γ M 7 m0 1 (e_hist Γ (m0 1))) (v_7 (by decide)) flX1_18 (v := .int (m0 1 1)) rfl dX1_keepIfDone_27 (pc' := 30) rfl ?_
      refine k_iconst C (v := 1) dX1_keepIfDone_30 (by decide) (pc' := 31) rfl ?_
      refine k_iadd C dX1_keepIfDone_31 (pc' := 32) rfl ?_
      refine k_iconst C (v := 5) dX1_keepIfDone_32 (by decide) (pc' := 33) rfl ?_
      refine k_iremK C dX1_keepIfDone_33 (by decide) (pc' := 34) rfl ?_
      refine k_putf C (hL.k1 M 7) 1 (c1 Γ M 7 m0 1 (e_hist Γ (m0 1))) (v_7 (by decide)) flX1_18 fpX1_1 (Nat.le_of_ble_eq_true rfl) (s1 Γ M 7 m0 1 1 (((m0 1 1) + 1) - ((m0 1 1) + 1) / 5 * 5) ((e_hist Γ _).trans (congrArg (fun z => Sum.inr (1, z)) (f_hist Γ (m0 1) (((m0 1 1) + 1) - ((m0 1 1) + 1) / 5 * 5) 1 (by decide))))) dX1_keepIfDone_34 (pc' := 37) rfl (fun m3 => ?_)
      refine k_iload_n C 1 dX1_keepIfDone_37 rfl rfl (pc' := 38) rfl ?_
      exact k_reti C rfl hr dX1_keepIfDone_38
    · refine k_aload_n C 0 dX1_keepIfDone_12 rfl rfl (pc' := 13) rfl ?_
      refine k_dup C dX1_keepIfDone_13 rfl (pc' := 14) rfl ?_
      refine k_getf C 2 (c1 Γ M 7 m0 1 (e_hist Γ (m0 1))) (v_7 (by decide)) flX1_22 (v := .int (m0 1 2)) rfl dX1_keepIfDone_14 (pc' := 17) rfl ?_
      refine k_iconst C (v := 1) dX1_keepIfDone_17 (by decide) (pc' := 18) rfl ?_
      refine k_iadd C dX1_keepIfDone_18 (pc' := 19) rfl ?_
      refine k_putf C (hL.k1 M 7) 2 (c1 Γ M 7 m0 1 (e_hist Γ (m0 1))) (v_7 (by decide)) flX1_22 fpX1_2 (Nat.le_of_ble_eq_true rfl) (s1 Γ M 7 m0 1 2 ((m0 1 2) + 1) ((e_hist Γ _).trans (congrArg (fun z => Sum.inr (1, z)) (f_hist Γ (m0 1) ((m0 1 2) + 1) 2 (by decide))))) dX1_keepIfDone_19 (pc' := 22) rfl (fun m4 => ?_)
      refine k_goto C (pc' := 37) dX1_keepIfDone_22 (by decide) ?_
      refine k_iload_n C 1 dX1_keepIfDone_37 rfl rfl (pc' := 38) rfl ?_
      exact k_reti C rfl hr dX1_keepIfDone_38
def fX1_restore (M0 : kM2) (i1 : Nat) : Option (Int32 × kM2) :=
  if (M0 7 1 2) = 0 then some ((-1000002), M0) else k_let (mw M0 7 1 2 ((M0 7 1 2) - 1)) fun M2 => if ¬ (((M2 7 1 1) + (M2 7 1 2)) - ((M2 7 1 1) + (M2 7 1 2)) / 5 * 5) < 0 ∧ (((M2 7 1 1) + (M2 7 1 2)) - ((M2 7 1 1) + (M2 7 1 2)) / 5 * 5).toNatClampNeg < 5 then bd (fX3_copyFrom M2 i1 ((2 + (((M2 7 1 1) + (M2 7 1 2)) - ((M2 7 1 1) + (M2 7 1 2)) / 5 * 5).toNatClampNeg))) fun r4 M5 => some (M5 7 1 2, M5) else none
set_option maxRecDepth 100000 in
set_option maxHeartbeats 4000000 in
theorem qX1_restore (l : Launch) (Γ : kG) (hL : k_Lay Γ 314) (M0 : kM2) (i1 : Nat) (hi1 : i1 < 7) : CT l Γ (K2 Γ) yX1_restore cX1_restore 2 (some .int) (k_R 3) [.ref (Γ.1 7 1), .ref (Γ.1 i1 0)] M0 (fX1_restore M0 i1) := by
  refine k_meth (own := RX1) (by decide) rfl (Nat.le_of_ble_eq_true rfl) (fun p e R s mid args below meth c C hr => ?_)
  show Sm Γ (K2 Γ) p l e R s mid args below meth c 2 true M0 [(0, .ref (Γ.1 7 1)), (1, .ref (Γ.1 i1 0))] [] 0 (fX1_restore M0 i1)
  unfold fX1_restore
  refine k_aload_n C 0 dX1_restore_0 rfl rfl (pc' := 1) rfl ?_
  refine k_getf C 2 (c2 Γ M0 7 1 (e_hist Γ (M0 7 1))) (v_7 (by decide)) flX1_22 (v := .int (M0 7 1 2)) rfl dX1_restore_1 (pc' := 4) rfl ?_
  refine k_if_ne C (tgt := 10) dX1_restore_4 (by decide) (pc' := 7) rfl (fun h1 => ?_) (fun h1 => ?_)
  · refine k_aload_n C 0 dX1_restore_10 rfl rfl (pc' := 11) rfl ?_
    refine k_dup C dX1_restore_11 rfl (pc' := 12) rfl ?_
    refine k_getf C 2 (c2 Γ M0 7 1 (e_hist Γ (M0 7 1))) (v_7 (by decide)) flX1_22 (v := .int (M0 7 1 2)) rfl dX1_restore_12 (pc' := 15) rfl ?_
    refine k_iconst C (v := 1) dX1_restore_15 (by decide) (pc' := 16) rfl ?_
    refine k_isub C dX1_restore_16 (pc' := 17) rfl ?_
    refine k_putf C hL.k2 2 (c2 Γ M0 7 1 (e_hist Γ (M0 7 1))) (v_7 (by decide)) flX1_22 fpX1_2 (Nat.le_of_ble_eq_true rfl) (s2 Γ M0 7 1 2 ((M0 7 1 2) - 1) ((e_hist Γ _).trans (congrArg (fun z => Sum.inr (1, z)) (f_hist Γ (M0 7 1) ((M0 7 1 2) - 1) 2 (by decide))))) dX1_restore_17 (pc' := 20) rfl (fun M2 => ?_)
    refine k_aload_n C 1 dX1_restore_20 rfl rfl (pc' := 21) rfl ?_
    refine k_aload_n C 0 dX1_restore_21 rfl rfl (pc' := 22) rfl ?_
    refine k_getf C 0 (c2 Γ M2 7 1 (e_hist Γ (M2 7 1))) (v_7 (by decide)) flX1_11 (v := .ref (Γ.1 7 2)) rfl dX1_restore_22 (pc' := 25) rfl ?_
    refine k_aload_n C 0 dX1_restore_25 rfl rfl (pc' := 26) rfl ?_
    refine k_getf C 1 (c2 Γ M2 7 1 (e_hist Γ (M2 7 1))) (v_7 (by decide)) flX1_18 (v := .int (M2 7 1 1)) rfl dX1_restore_26 (pc' := 29) rfl ?_
    refine k_aload_n C 0 dX1_restore_29 rfl rfl (pc' := 30) rfl ?_
    refine k_getf C 2 (c2 Γ M2 7 1 (e_hist Γ (M2 7 1))) (v_7 (by decide)) flX1_22 (v := .int (M2 7 1 2)) rfl dX1_restore_30 (pc' := 33) rfl ?_
    refine k_iadd C dX1_restore_33 (pc' := 34) rfl ?_
    refine k_iconst C (v := 5) dX1_restore_34 (by decide) (pc' := 35) rfl ?_
    refine k_iremK C dX1_restore_35 (by decide) (pc' := 36) rfl ?_
    refine k_aald C 5 (c2 Γ M2 7 2 (e_states Γ (M2 7 2))) (v_7 (by decide)) rfl (b := Γ.1 (2 + (((M2 7 1 1) + (M2 7 1 2)) - ((M2 7 1 1) + (M2 7 1 2)) / 5 * 5).toNatClampNeg) 0) rfl dX1_restore_36 (pc' := 37) rfl (fun h3 => ?_)
    refine k_callVv C (rest := []) (qX3_copyFrom l Γ hL M2 i1 ((2 + (((M2 7 1 1) + (M2 7 1 2)) - ((M2 7 1 1) + (M2 7 1 2)) / 5 * 5).toNatClampNeg)) hi1 (i_state h3)) mwX3_copyFrom iwX3_copyFrom mlX1_25 (k_rm_of (by decide) (by decide)) (c2 Γ M2 i1 0 (e_mill Γ hi1 (M2 i1 0))) (v_i hi1 (by decide)) rfl rfl rfl (Nat.le_of_ble_eq_true rfl) dX1_restore_37 (pc' := 40) rfl (fun r4 M5 => ?_)
    refine k_aload_n C 0 dX1_restore_40 rfl rfl (pc' := 41) rfl ?_
    refine k_getf C 2 (c2 Γ M5 7 1 (e_hist Γ (M5 7 1))) (v_7 (by decide)) flX1_22 (v := .int (M5 7 1 2)) rfl dX1_restore_41 (pc' := 44) rfl ?_
    exact k_reti C rfl hr dX1_restore_44
  · refine k_ldc C (v := (-1000002)) dX1_restore_7 cnX1_29 (pc' := 9) rfl ?_
    exact k_reti C rfl hr dX1_restore_9
def fX4_append (m0 : kM1) (a1 : Int32) : Option (Int32 × kM1) :=
  if (m0 3 2) < 60 then if ¬ (m0 3 2) < 0 ∧ (m0 3 2).toNatClampNeg < 60 then k_let (mu m0 4 (m0 3 2).toNatClampNeg (vp_nar .char a1)) fun m3 => k_let (mu m3 3 2 ((m3 3 2) + 1)) fun m4 => some (m4 3 2, m4) else none else some ((-1000003), m0)
set_option maxRecDepth 100000 in
set_option maxHeartbeats 4000000 in
theorem qX4_append (l : Launch) (Γ : kG) (hL : k_Lay Γ 314) (M : kM2) (m0 : kM1) (a1 : Int32) : CT l Γ (K1 Γ M 7) yX4_append cX4_append 2 (some .int) (k_R 0) [.ref (Γ.1 7 3), .int a1] m0 (fX4_append m0 a1) := by
  refine k_meth (own := RX4) (by decide) rfl (Nat.le_of_ble_eq_true rfl) (fun p e R s mid args below meth c C hr => ?_)
  show Sm Γ (K1 Γ M 7) p l e R s mid args below meth c 2 true m0 [(0, .ref (Γ.1 7 3)), (1, .int a1)] [] 0 (fX4_append m0 a1)
  unfold fX4_append
  refine k_aload_n C 0 dX4_append_0 rfl rfl (pc' := 1) rfl ?_
  refine k_getf C 2 (c1 Γ M 7 m0 3 (e_ord Γ (m0 3))) (v_7 (by decide)) flX4_19 (v := .int (m0 3 2)) rfl dX4_append_1 (pc' := 4) rfl ?_
  refine k_bipush C (v := 60) dX4_append_4 (by decide) (pc' := 6) rfl ?_
  refine k_ic_lt C (tgt := 12) dX4_append_6 (by decide) (pc' := 9) rfl (fun h1 => ?_) (fun h1 => ?_)
  · refine k_aload_n C 0 dX4_append_12 rfl rfl (pc' := 13) rfl ?_
    refine k_getf C 0 (c1 Γ M 7 m0 3 (e_ord Γ (m0 3))) (v_7 (by decide)) flX4_9 (v := .ref (Γ.1 7 4)) rfl dX4_append_13 (pc' := 16) rfl ?_
    refine k_aload_n C 0 dX4_append_16 rfl rfl (pc' := 17) rfl ?_
    refine k_getf C 2 (c1 Γ M 7 m0 3 (e_ord Γ (m0 3))) (v_7 (by decide)) flX4_19 (v := .int (m0 3 2)) rfl dX4_append_17 (pc' := 20) rfl ?_
    refine k_iload_n C 1 dX4_append_20 rfl rfl (pc' := 21) rfl ?_
    refine k_cast C (hL.k1 M 7) (c1 Γ M 7 m0 4 (e_text Γ (m0 4))) (v_7 (by decide)) (s1 Γ M 7 m0 4 (m0 3 2).toNatClampNeg (vp_nar .char a1) (e_text Γ _)) dX4_append_21 (pc' := 22) rfl (fun h2 m3 => ?_)
    refine k_aload_n C 0 dX4_append_22 rfl rfl (pc' := 23) rfl ?_
    refine k_dup C dX4_append_23 rfl (pc' := 24) rfl ?_
    refine k_getf C 2 (c1 Γ M 7 m3 3 (e_ord Γ (m3 3))) (v_7 (by decide)) flX4_19 (v := .int (m3 3 2)) rfl dX4_append_24 (pc' := 27) rfl ?_
    refine k_iconst C (v := 1) dX4_append_27 (by decide) (pc' := 28) rfl ?_
    refine k_iadd C dX4_append_28 (pc' := 29) rfl ?_
    refine k_putf C (hL.k1 M 7) 2 (c1 Γ M 7 m3 3 (e_ord Γ (m3 3))) (v_7 (by decide)) flX4_19 fpX4_2 (Nat.le_of_ble_eq_true rfl) (s1 Γ M 7 m3 3 2 ((m3 3 2) + 1) ((e_ord Γ _).trans (congrArg (fun z => Sum.inr (4, z)) (f_ord Γ (m3 3) ((m3 3 2) + 1) 2 (by decide))))) dX4_append_29 (pc' := 32) rfl (fun m4 => ?_)
    refine k_aload_n C 0 dX4_append_32 rfl rfl (pc' := 33) rfl ?_
    refine k_getf C 2 (c1 Γ M 7 m4 3 (e_ord Γ (m4 3))) (v_7 (by decide)) flX4_19 (v := .int (m4 3 2)) rfl dX4_append_33 (pc' := 36) rfl ?_
    exact k_reti C rfl hr dX4_append_36
  · refine k_ldc C (v := (-1000003)) dX4_append_9 cnX4_23 (pc' := 11) rfl ?_
    exact k_reti C rfl hr dX4_append_11
def fX4_empty (m0 : kM1) : Option (Int32 × kM1) :=
  k_let (m0 3 2) fun v1 => k_let (mu m0 3 2 0) fun m2 => some (v1, m2)
set_option maxRecDepth 100000 in
set_option maxHeartbeats 4000000 in
theorem qX4_empty (l : Launch) (Γ : kG) (hL : k_Lay Γ 314) (M : kM2) (m0 : kM1) : CT l Γ (K1 Γ M 7) yX4_empty cX4_empty 2 (some .int) (k_R 0) [.ref (Γ.1 7 3)] m0 (fX4_empty m0 ) := by
  refine k_meth (own := RX4) (by decide) rfl (Nat.le_of_ble_eq_true rfl) (fun p e R s mid args below meth c C hr => ?_)
  show Sm Γ (K1 Γ M 7) p l e R s mid args below meth c 2 true m0 [(0, .ref (Γ.1 7 3))] [] 0 (fX4_empty m0 )
  unfold fX4_empty
  refine k_aload_n C 0 dX4_empty_0 rfl rfl (pc' := 1) rfl ?_
  refine k_getf C 2 (c1 Γ M 7 m0 3 (e_ord Γ (m0 3))) (v_7 (by decide)) flX4_19 (v := .int (m0 3 2)) rfl dX4_empty_1 (pc' := 4) rfl ?_
  refine k_topi (fun v1 => ?_)
  refine k_istore_n C (lv' := [(1, .int v1), (0, .ref (Γ.1 7 3))]) dX4_empty_4 rfl (by decide) rfl (pc' := 5) rfl ?_
  refine k_aload_n C 1 dX4_empty_5 rfl rfl (pc' := 6) rfl ?_
  refine k_iconst C (v := 0) dX4_empty_6 (by decide) (pc' := 7) rfl ?_
  refine k_putf C (hL.k1 M 7) 2 (c1 Γ M 7 m0 3 (e_ord Γ (m0 3))) (v_7 (by decide)) flX4_19 fpX4_2 (Nat.le_of_ble_eq_true rfl) (s1 Γ M 7 m0 3 2 0 ((e_ord Γ _).trans (congrArg (fun z => Sum.inr (4, z)) (f_ord Γ (m0 3) 0 2 (by decide))))) dX4_empty_7 (pc' := 10) rfl (fun m2 => ?_)
  refine k_iload_n C 0 dX4_empty_10 rfl rfl (pc' := 11) rfl ?_
  exact k_reti C rfl hr dX4_empty_11
def fX4_answerOf (M0 : kM2) (i1 : Nat) : Option (Int32 × kM2) :=
  if ¬ (M0 7 3 4) < 0 ∧ (M0 7 3 4).toNatClampNeg < 60 then if (M0 7 4 (M0 7 3 4).toNatClampNeg) = 98 then bd (k_on M0 i1 (fX3_addSack (M0 i1) (M0 7 5 0) (M0 7 5 1) (M0 7 5 2))) fun r6 M7 => some (r6, M7) else if (M0 7 4 (M0 7 3 4).toNatClampNeg) = 102 then bd (k_on M0 i1 (fX3_fetchSack (M0 i1) (M0 7 5 0))) fun r10 M11 => some (r10, M11) else if (M0 7 4 (M0 7 3 4).toNatClampNeg) = 112 then bd (k_on M0 i1 (fX3_putInPledge (M0 i1) (M0 7 5 0) (M0 7 5 1))) fun r15 M16 => some (r15, M16) else if (M0 7 4 (M0 7 3 4).toNatClampNeg) = 114 then bd (k_on M0 i1 (fX3_redeemPledge (M0 i1) (M0 7 5 0))) fun r19 M20 => some (r19, M20) else bd (k_on M0 i1 (fX3_changeOpening (M0 i1) (M0 7 5 0))) fun r22 M23 => some (r22, M23) else none
set_option maxRecDepth 100000 in
set_option maxHeartbeats 4000000 in
theorem qX4_answerOf (l : Launch) (Γ : kG) (hL : k_Lay Γ 314) (M0 : kM2) (i1 : Nat) (hi1 : i1 < 7) : CT l Γ (K2 Γ) yX4_answerOf cX4_answerOf 2 (some .int) (k_R 3) [.ref (Γ.1 7 3), .ref (Γ.1 i1 0)] M0 (fX4_answerOf M0 i1) := by
  refine k_meth (own := RX4) (by decide) rfl (Nat.le_of_ble_eq_true rfl) (fun p e R s mid args below meth c C hr => ?_)
  show Sm Γ (K2 Γ) p l e R s mid args below meth c 2 true M0 [(0, .ref (Γ.1 7 3)), (1, .ref (Γ.1 i1 0))] [] 0 (fX4_answerOf M0 i1)
  unfold fX4_answerOf
  refine k_aload_n C 0 dX4_answerOf_0 rfl rfl (pc' := 1) rfl ?_
  refine k_getf C 0 (c2 Γ M0 7 3 (e_ord Γ (M0 7 3))) (v_7 (by decide)) flX4_9 (v := .ref (Γ.1 7 4)) rfl dX4_answerOf_1 (pc' := 4) rfl ?_
  refine k_aload_n C 0 dX4_answerOf_4 rfl rfl (pc' := 5) rfl ?_
  refine k_getf C 4 (c2 Γ M0 7 3 (e_ord Γ (M0 7 3))) (v_7 (by decide)) flX4_27 (v := .int (M0 7 3 4)) rfl dX4_answerOf_5 (pc' := 8) rfl ?_
  refine k_cald C (c2 Γ M0 7 4 (e_text Γ (M0 7 4))) (v_7 (by decide)) dX4_answerOf_8 (pc' := 9) rfl (fun h1 => ?_)
  refine k_ite (fun h2 => ?_) (fun h2 => ?_)
  · refine k_lsw C (off := 43) dX4_answerOf_9 (by decide) (by rw [h2]; rfl) (pc' := 52) (by decide) ?_
    refine k_aload_n C 1 dX4_answerOf_52 rfl rfl (pc' := 53) rfl ?_
    refine k_aload_n C 0 dX4_answerOf_53 rfl rfl (pc' := 54) rfl ?_
    refine k_getf C 1 (c2 Γ M0 7 3 (e_ord Γ (M0 7 3))) (v_7 (by decide)) flX4_15 (v := .ref (Γ.1 7 5)) rfl dX4_answerOf_54 (pc' := 57) rfl ?_
    refine k_iconst C (v := 0) dX4_answerOf_57 (by decide) (pc' := 58) rfl ?_
    refine k_ialdK C (n0 := 0) (c2 Γ M0 7 5 (e_nums Γ (M0 7 5))) (v_7 (by decide)) (by decide) (by decide) dX4_answerOf_58 (pc' := 59) rfl ?_
    refine k_aload_n C 0 dX4_answerOf_59 rfl rfl (pc' := 60) rfl ?_
    refine k_getf C 1 (c2 Γ M0 7 3 (e_ord Γ (M0 7 3))) (v_7 (by decide)) flX4_15 (v := .ref (Γ.1 7 5)) rfl dX4_answerOf_60 (pc' := 63) rfl ?_
    refine k_iconst C (v := 1) dX4_answerOf_63 (by decide) (pc' := 64) rfl ?_
    refine k_ialdK C (n0 := 1) (c2 Γ M0 7 5 (e_nums Γ (M0 7 5))) (v_7 (by decide)) (by decide) (by decide) dX4_answerOf_64 (pc' := 65) rfl ?_
    refine k_aload_n C 0 dX4_answerOf_65 rfl rfl (pc' := 66) rfl ?_
    refine k_getf C 1 (c2 Γ M0 7 3 (e_ord Γ (M0 7 3))) (v_7 (by decide)) flX4_15 (v := .ref (Γ.1 7 5)) rfl dX4_answerOf_66 (pc' := 69) rfl ?_
    refine k_iconst C (v := 2) dX4_answerOf_69 (by decide) (pc' := 70) rfl ?_
    refine k_ialdK C (n0 := 2) (c2 Γ M0 7 5 (e_nums Γ (M0 7 5))) (v_7 (by decide)) (by decide) (by decide) dX4_answerOf_70 (pc' := 71) rfl ?_
    refine k_callVi C (rest := []) (CT.lift2 (qX3_addSack l Γ hL M0 i1 hi1 (M0 i1) (M0 7 5 0) (M0 7 5 1) (M0 7 5 2))) mwX3_addSack iwX3_addSack mlX4_78 (k_rm_of (by decide) (by decide)) (c2 Γ M0 i1 0 (e_mill Γ hi1 (M0 i1 0))) (v_i hi1 (by decide)) rfl rfl rfl (Nat.le_of_ble_eq_true rfl) dX4_answerOf_71 (pc' := 74) rfl (fun r6 M7 => ?_)
    exact k_reti C rfl hr dX4_answerOf_74
  refine k_ite (fun h8 => ?_) (fun h8 => ?_)
  · refine k_lsw C (off := 66) dX4_answerOf_9 (by decide) (by rw [h8]; rfl) (pc' := 75) (by decide) ?_
    refine k_aload_n C 1 dX4_answerOf_75 rfl rfl (pc' := 76) rfl ?_
    refine k_aload_n C 0 dX4_answerOf_76 rfl rfl (pc' := 77) rfl ?_
    refine k_getf C 1 (c2 Γ M0 7 3 (e_ord Γ (M0 7 3))) (v_7 (by decide)) flX4_15 (v := .ref (Γ.1 7 5)) rfl dX4_answerOf_77 (pc' := 80) rfl ?_
    refine k_iconst C (v := 0) dX4_answerOf_80 (by decide) (pc' := 81) rfl ?_
    refine k_ialdK C (n0 := 0) (c2 Γ M0 7 5 (e_nums Γ (M0 7 5))) (v_7 (by decide)) (by decide) (by decide) dX4_answerOf_81 (pc' := 82) rfl ?_
    refine k_callVi C (rest := []) (CT.lift2 (qX3_fetchSack l Γ hL M0 i1 hi1 (M0 i1) (M0 7 5 0))) mwX3_fetchSack iwX3_fetchSack mlX4_82 (k_rm_of (by decide) (by decide)) (c2 Γ M0 i1 0 (e_mill Γ hi1 (M0 i1 0))) (v_i hi1 (by decide)) rfl rfl rfl (Nat.le_of_ble_eq_true rfl) dX4_answerOf_82 (pc' := 85) rfl (fun r10 M11 => ?_)
    exact k_reti C rfl hr dX4_answerOf_85
  refine k_ite (fun h12 => ?_) (fun h12 => ?_)
  · refine k_lsw C (off := 77) dX4_answerOf_9 (by decide) (by rw [h12]; rfl) (pc' := 86) (by decide) ?_
    refine k_aload_n C 1 dX4_answerOf_86 rfl rfl (pc' := 87) rfl ?_
    refine k_aload_n C 0 dX4_answerOf_87 rfl rfl (pc' := 88) rfl ?_
    refine k_getf C 1 (c2 Γ M0 7 3 (e_ord Γ (M0 7 3))) (v_7 (by decide)) flX4_15 (v := .ref (Γ.1 7 5)) rfl dX4_answerOf_88 (pc' := 91) rfl ?_
    refine k_iconst C (v := 0) dX4_answerOf_91 (by decide) (pc' := 92) rfl ?_
    refine k_ialdK C (n0 := 0) (c2 Γ M0 7 5 (e_nums Γ (M0 7 5))) (v_7 (by decide)) (by decide) (by decide) dX4_answerOf_92 (pc' := 93) rfl ?_
    refine k_aload_n C 0 dX4_answerOf_93 rfl rfl (pc' := 94) rfl ?_
    refine k_getf C 1 (c2 Γ M0 7 3 (e_ord Γ (M0 7 3))) (v_7 (by decide)) flX4_15 (v := .ref (Γ.1 7 5)) rfl dX4_answerOf_94 (pc' := 97) rfl ?_
    refine k_iconst C (v := 1) dX4_answerOf_97 (by decide) (pc' := 98) rfl ?_
    refine k_ialdK C (n0 := 1) (c2 Γ M0 7 5 (e_nums Γ (M0 7 5))) (v_7 (by decide)) (by decide) (by decide) dX4_answerOf_98 (pc' := 99) rfl ?_
    refine k_callVi C (rest := []) (CT.lift2 (qX3_putInPledge l Γ hL M0 i1 hi1 (M0 i1) (M0 7 5 0) (M0 7 5 1))) mwX3_putInPledge iwX3_putInPledge mlX4_86 (k_rm_of (by decide) (by decide)) (c2 Γ M0 i1 0 (e_mill Γ hi1 (M0 i1 0))) (v_i hi1 (by decide)) rfl rfl rfl (Nat.le_of_ble_eq_true rfl) dX4_answerOf_99 (pc' := 102) rfl (fun r15 M16 => ?_)
    exact k_reti C rfl hr dX4_answerOf_102
  refine k_ite (fun h17 => ?_) (fun h17 => ?_)
  · refine k_lsw C (off := 94) dX4_answerOf_9 (by decide) (by rw [h17]; rfl) (pc' := 103) (by decide) ?_
    refine k_aload_n C 1 dX4_answerOf_103 rfl rfl (pc' := 104) rfl ?_
    refine k_aload_n C 0 dX4_answerOf_104 rfl rfl (pc' := 105) rfl ?_
    refine k_getf C 1 (c2 Γ M0 7 3 (e_ord Γ (M0 7 3))) (v_7 (by decide)) flX4_15 (v := .ref (Γ.1 7 5)) rfl dX4_answerOf_105 (pc' := 108) rfl ?_
    refine k_iconst C (v := 0) dX4_answerOf_108 (by decide) (pc' := 109) rfl ?_
    refine k_ialdK C (n0 := 0) (c2 Γ M0 7 5 (e_nums Γ (M0 7 5))) (v_7 (by decide)) (by decide) (by decide) dX4_answerOf_109 (pc' := 110) rfl ?_
    refine k_callVi C (rest := []) (CT.lift2 (qX3_redeemPledge l Γ hL M0 i1 hi1 (M0 i1) (M0 7 5 0))) mwX3_redeemPledge iwX3_redeemPledge mlX4_90 (k_rm_of (by decide) (by decide)) (c2 Γ M0 i1 0 (e_mill Γ hi1 (M0 i1 0))) (v_i hi1 (by decide)) rfl rfl rfl (Nat.le_of_ble_eq_true rfl) dX4_answerOf_110 (pc' := 113) rfl (fun r19 M20 => ?_)
    exact k_reti C rfl hr dX4_answerOf_113
  refine k_lsw C (off := 105) dX4_answerOf_9 (by decide) ((lv_osw h2 (by decide)).trans ((lv_osw h8 (by decide)).trans ((lv_osw h12 (by decide)).trans ((lv_osw h17 (by decide)).trans rfl)))) (pc' := 114) (by decide) ?_
  refine k_aload_n C 1 dX4_answerOf_114 rfl rfl (pc' := 115) rfl ?_
  refine k_aload_n C 0 dX4_answerOf_115 rfl rfl (pc' := 116) rfl ?_
  refine k_getf C 1 (c2 Γ M0 7 3 (e_ord Γ (M0 7 3))) (v_7 (by decide)) flX4_15 (v := .ref (Γ.1 7 5)) rfl dX4_answerOf_116 (pc' := 119) rfl ?_
  refine k_iconst C (v := 0) dX4_answerOf_119 (by decide) (pc' := 120) rfl ?_
  refine k_ialdK C (n0 := 0) (c2 Γ M0 7 5 (e_nums Γ (M0 7 5))) (v_7 (by decide)) (by decide) (by decide) dX4_answerOf_120 (pc' := 121) rfl ?_
  refine k_callVi C (rest := []) (CT.lift2 (qX3_changeOpening l Γ hL M0 i1 hi1 (M0 i1) (M0 7 5 0))) mwX3_changeOpening iwX3_changeOpening mlX4_93 (k_rm_of (by decide) (by decide)) (c2 Γ M0 i1 0 (e_mill Γ hi1 (M0 i1 0))) (v_i hi1 (by decide)) rfl rfl rfl (Nat.le_of_ble_eq_true rfl) dX4_answerOf_121 (pc' := 124) rfl (fun r22 M23 => ?_)
  exact k_reti C rfl hr dX4_answerOf_124
def fX4_isKnown (M0 : kM2) (i1 : Nat) : Option (Int32 × kM2) :=
  if ¬ (M0 7 3 4) < 0 ∧ (M0 7 3 4).toNatClampNeg < 60 then if (M0 7 4 (M0 7 3 4).toNatClampNeg) = 98 then bd (k_on M0 i1 (fX3_hasFarmer (M0 i1) (M0 7 5 0))) fun r4 M5 => if r4 = 0 then some (0, M5) else bd (k_on M5 i1 (fX3_hasKind (M5 i1) (M5 7 5 1))) fun r8 M9 => if r8 = 0 then some (0, M9) else some (1, M9) else if (M0 7 4 (M0 7 3 4).toNatClampNeg) = 103 then some (1, M0) else bd (k_on M0 i1 (fX3_hasSack (M0 i1) (M0 7 5 0))) fun r13 M14 => if r13 = 0 ∨ r13 = 1 then some (r13, M14) else none else none
set_option maxRecDepth 100000 in
set_option maxHeartbeats 4000000 in
theorem qX4_isKnown (l : Launch) (Γ : kG) (hL : k_Lay Γ 314) (M0 : kM2) (i1 : Nat) (hi1 : i1 < 7) : CT l Γ (K2 Γ) yX4_isKnown cX4_isKnown 2 (some .boolean) (k_R 1) [.ref (Γ.1 7 3), .ref (Γ.1 i1 0)] M0 (fX4_isKnown M0 i1) := by
  refine k_meth (own := RX4) (by decide) rfl (Nat.le_of_ble_eq_true rfl) (fun p e R s mid args below meth c C hr => ?_)
  show Sm Γ (K2 Γ) p l e R s mid args below meth c 2 true M0 [(0, .ref (Γ.1 7 3)), (1, .ref (Γ.1 i1 0))] [] 0 (fX4_isKnown M0 i1)
  unfold fX4_isKnown
  refine k_aload_n C 0 dX4_isKnown_0 rfl rfl (pc' := 1) rfl ?_
  refine k_getf C 0 (c2 Γ M0 7 3 (e_ord Γ (M0 7 3))) (v_7 (by decide)) flX4_9 (v := .ref (Γ.1 7 4)) rfl dX4_isKnown_1 (pc' := 4) rfl ?_
  refine k_aload_n C 0 dX4_isKnown_4 rfl rfl (pc' := 5) rfl ?_
  refine k_getf C 4 (c2 Γ M0 7 3 (e_ord Γ (M0 7 3))) (v_7 (by decide)) flX4_27 (v := .int (M0 7 3 4)) rfl dX4_isKnown_5 (pc' := 8) rfl ?_
  refine k_cald C (c2 Γ M0 7 4 (e_text Γ (M0 7 4))) (v_7 (by decide)) dX4_isKnown_8 (pc' := 9) rfl (fun h1 => ?_)
  refine k_ite (fun h2 => ?_) (fun h2 => ?_)
  · refine k_lsw C (off := 27) dX4_isKnown_9 (by decide) (by rw [h2]; rfl) (pc' := 36) (by decide) ?_
    refine k_aload_n C 1 dX4_isKnown_36 rfl rfl (pc' := 37) rfl ?_
    refine k_aload_n C 0 dX4_isKnown_37 rfl rfl (pc' := 38) rfl ?_
    refine k_getf C 1 (c2 Γ M0 7 3 (e_ord Γ (M0 7 3))) (v_7 (by decide)) flX4_15 (v := .ref (Γ.1 7 5)) rfl dX4_isKnown_38 (pc' := 41) rfl ?_
    refine k_iconst C (v := 0) dX4_isKnown_41 (by decide) (pc' := 42) rfl ?_
    refine k_ialdK C (n0 := 0) (c2 Γ M0 7 5 (e_nums Γ (M0 7 5))) (v_7 (by decide)) (by decide) (by decide) dX4_isKnown_42 (pc' := 43) rfl ?_
    refine k_callVi C (rest := []) (CT.lift2 (qX3_hasFarmer l Γ hL M0 i1 hi1 (M0 i1) (M0 7 5 0))) mwX3_hasFarmer iwX3_hasFarmer mlX4_67 (k_rm_of (by decide) (by decide)) (c2 Γ M0 i1 0 (e_mill Γ hi1 (M0 i1 0))) (v_i hi1 (by decide)) rfl rfl rfl (Nat.le_of_ble_eq_true rfl) dX4_isKnown_43 (pc' := 46) rfl (fun r4 M5 => ?_)
    refine k_if_eq C (tgt := 66) dX4_isKnown_46 (by decide) (pc' := 49) rfl (fun h6 => ?_) (fun h6 => ?_)
    · refine k_iconst C (v := 0) dX4_isKnown_66 (by decide) (pc' := 67) rfl ?_
      exact k_retz C rfl hr (Or.inl rfl) dX4_isKnown_67
    · refine k_aload_n C 1 dX4_isKnown_49 rfl rfl (pc' := 50) rfl ?_
      refine k_aload_n C 0 dX4_isKnown_50 rfl rfl (pc' := 51) rfl ?_
      refine k_getf C 1 (c2 Γ M5 7 3 (e_ord Γ (M5 7 3))) (v_7 (by decide)) flX4_15 (v := .ref (Γ.1 7 5)) rfl dX4_isKnown_51 (pc' := 54) rfl ?_
      refine k_iconst C (v := 1) dX4_isKnown_54 (by decide) (pc' := 55) rfl ?_
      refine k_ialdK C (n0 := 1) (c2 Γ M5 7 5 (e_nums Γ (M5 7 5))) (v_7 (by decide)) (by decide) (by decide) dX4_isKnown_55 (pc' := 56) rfl ?_
      refine k_callVi C (rest := []) (CT.lift2 (qX3_hasKind l Γ hL M5 i1 hi1 (M5 i1) (M5 7 5 1))) mwX3_hasKind iwX3_hasKind mlX4_72 (k_rm_of (by decide) (by decide)) (c2 Γ M5 i1 0 (e_mill Γ hi1 (M5 i1 0))) (v_i hi1 (by decide)) rfl rfl rfl (Nat.le_of_ble_eq_true rfl) dX4_isKnown_56 (pc' := 59) rfl (fun r8 M9 => ?_)
      refine k_if_eq C (tgt := 66) dX4_isKnown_59 (by decide) (pc' := 62) rfl (fun h10 => ?_) (fun h10 => ?_)
      · refine k_iconst C (v := 0) dX4_isKnown_66 (by decide) (pc' := 67) rfl ?_
        exact k_retz C rfl hr (Or.inl rfl) dX4_isKnown_67
      · refine k_iconst C (v := 1) dX4_isKnown_62 (by decide) (pc' := 63) rfl ?_
        refine k_goto C (pc' := 67) dX4_isKnown_63 (by decide) ?_
        exact k_retz C rfl hr (Or.inr rfl) dX4_isKnown_67
  refine k_ite (fun h11 => ?_) (fun h11 => ?_)
  · refine k_lsw C (off := 59) dX4_isKnown_9 (by decide) (by rw [h11]; rfl) (pc' := 68) (by decide) ?_
    refine k_iconst C (v := 1) dX4_isKnown_68 (by decide) (pc' := 69) rfl ?_
    exact k_retz C rfl hr (Or.inr rfl) dX4_isKnown_69
  refine k_lsw C (off := 61) dX4_isKnown_9 (by decide) ((lv_osw h2 (by decide)).trans ((lv_osw h11 (by decide)).trans rfl)) (pc' := 70) (by decide) ?_
  refine k_aload_n C 1 dX4_isKnown_70 rfl rfl (pc' := 71) rfl ?_
  refine k_aload_n C 0 dX4_isKnown_71 rfl rfl (pc' := 72) rfl ?_
  refine k_getf C 1 (c2 Γ M0 7 3 (e_ord Γ (M0 7 3))) (v_7 (by decide)) flX4_15 (v := .ref (Γ.1 7 5)) rfl dX4_isKnown_72 (pc' := 75) rfl ?_
  refine k_iconst C (v := 0) dX4_isKnown_75 (by decide) (pc' := 76) rfl ?_
  refine k_ialdK C (n0 := 0) (c2 Γ M0 7 5 (e_nums Γ (M0 7 5))) (v_7 (by decide)) (by decide) (by decide) dX4_isKnown_76 (pc' := 77) rfl ?_
  refine k_callVi C (rest := []) (CT.lift2 (qX3_hasSack l Γ hL M0 i1 hi1 (M0 i1) (M0 7 5 0))) mwX3_hasSack iwX3_hasSack mlX4_75 (k_rm_of (by decide) (by decide)) (c2 Γ M0 i1 0 (e_mill Γ hi1 (M0 i1 0))) (v_i hi1 (by decide)) rfl rfl rfl (Nat.le_of_ble_eq_true rfl) dX4_isKnown_77 (pc' := 80) rfl (fun r13 M14 => ?_)
  exact k_gd (fun h => k_retz C rfl hr h dX4_isKnown_80)
def fX4_doOrder (M0 : kM2) (i1 : Nat) : Option (Int32 × kM2) :=
  bd (fX4_isKnown M0 i1) fun r1 M2 => if r1 = 0 then some (2, M2) else bd (fX4_answerOf M2 i1) fun r4 M5 => if 0 ≤ r4 then some (0, M5) else some (3, M5)
set_option maxRecDepth 100000 in
set_option maxHeartbeats 4000000 in
theorem qX4_doOrder (l : Launch) (Γ : kG) (hL : k_Lay Γ 314) (M0 : kM2) (i1 : Nat) (hi1 : i1 < 7) : CT l Γ (K2 Γ) yX4_doOrder cX4_doOrder 2 (some .int) (k_R 4) [.ref (Γ.1 7 3), .ref (Γ.1 i1 0)] M0 (fX4_doOrder M0 i1) := by
  refine k_meth (own := RX4) (by decide) rfl (Nat.le_of_ble_eq_true rfl) (fun p e R s mid args below meth c C hr => ?_)
  show Sm Γ (K2 Γ) p l e R s mid args below meth c 2 true M0 [(0, .ref (Γ.1 7 3)), (1, .ref (Γ.1 i1 0))] [] 0 (fX4_doOrder M0 i1)
  unfold fX4_doOrder
  refine k_aload_n C 0 dX4_doOrder_0 rfl rfl (pc' := 1) rfl ?_
  refine k_aload_n C 1 dX4_doOrder_1 rfl rfl (pc' := 2) rfl ?_
  refine k_callVi C (rest := []) (qX4_isKnown l Γ hL M0 i1 hi1) mwX4_isKnown iwX4_isKnown mlX4_60 (k_rm_of (by decide) (by decide)) (c2 Γ M0 7 3 (e_ord Γ (M0 7 3))) (v_7 (by decide)) rfl rfl rfl (Nat.le_of_ble_eq_true rfl) dX4_doOrder_2 (pc' := 5) rfl (fun r1 M2 => ?_)
  refine k_if_ne C (tgt := 10) dX4_doOrder_5 (by decide) (pc' := 8) rfl (fun h3 => ?_) (fun h3 => ?_)
  · refine k_aload_n C 0 dX4_doOrder_10 rfl rfl (pc' := 11) rfl ?_
    refine k_aload_n C 1 dX4_doOrder_11 rfl rfl (pc' := 12) rfl ?_
    refine k_callVi C (rest := []) (qX4_answerOf l Γ hL M2 i1 hi1) mwX4_answerOf iwX4_answerOf mlX4_64 (k_rm_of (by decide) (by decide)) (c2 Γ M2 7 3 (e_ord Γ (M2 7 3))) (v_7 (by decide)) rfl rfl rfl (Nat.le_of_ble_eq_true rfl) dX4_doOrder_12 (pc' := 15) rfl (fun r4 M5 => ?_)
    refine k_if_ge C (tgt := 22) dX4_doOrder_15 (by decide) (pc' := 18) rfl (fun h6 => ?_) (fun h6 => ?_)
    · refine k_iconst C (v := 0) dX4_doOrder_22 (by decide) (pc' := 23) rfl ?_
      exact k_reti C rfl hr dX4_doOrder_23
    · refine k_iconst C (v := 3) dX4_doOrder_18 (by decide) (pc' := 19) rfl ?_
      refine k_goto C (pc' := 23) dX4_doOrder_19 (by decide) ?_
      exact k_reti C rfl hr dX4_doOrder_23
  · refine k_iconst C (v := 2) dX4_doOrder_8 (by decide) (pc' := 9) rfl ?_
    exact k_reti C rfl hr dX4_doOrder_9
def fX4_readNumber_b73 (a1 : Int32)  (m0 : kM1) (b2 : Int32) (b3 : Int32) : Option (Int32 × kM1) :=
  if ¬ a1 < 0 ∧ a1.toNatClampNeg < 3 then k_let (mu m0 5 a1.toNatClampNeg b3) fun m3 => if b2 ≤ 0 then some (0, m3) else some (1, m3) else none
set_option maxRecDepth 100000 in
set_option maxHeartbeats 4000000 in
theorem sX4_readNumber_b73 {l : Launch} {Γ : kG} (hL : k_Lay Γ 314) {M : kM2} {p : Program} {e : Env} {R : Room} {s : State} {mid : MethodId} {args : Array Value} {below : List Frame} {meth : Method} {c : Code} (C : k_C Γ p R s mid args meth c cX4_readNumber 4 RX4 (k_R 1)) (hr : meth.sig.returnType = (some .boolean)) (a1 : Int32)  (m0 : kM1) (b2 : Int32) (b3 : Int32)  : Sm Γ (K1 Γ M 7) p l e R s mid args below meth c 4 true m0 [(0, .ref (Γ.1 7 3)), (1, .int a1), (2, .int b2), (3, .int b3)] [] 73 (fX4_readNumber_b73 a1 m0 b2 b3) := by
  unfold fX4_readNumber_b73
  refine k_aload_n C 0 dX4_readNumber_73 rfl rfl (pc' := 74) rfl ?_
  refine k_getf C 1 (c1 Γ M 7 m0 3 (e_ord Γ (m0 3))) (v_7 (by decide)) flX4_15 (v := .ref (Γ.1 7 5)) rfl dX4_readNumber_74 (pc' := 77) rfl ?_
  refine k_iload_n C 1 dX4_readNumber_77 rfl rfl (pc' := 78) rfl ?_
  refine k_iload_n C 3 dX4_readNumber_78 rfl rfl (pc' := 79) rfl ?_
  refine k_iast C (hL.k1 M 7) (c1 Γ M 7 m0 5 (e_nums Γ (m0 5))) (v_7 (by decide)) (s1 Γ M 7 m0 5 a1.toNatClampNeg b3 (e_nums Γ _)) dX4_readNumber_79 (pc' := 80) rfl (fun h2 m3 => ?_)
  refine k_iload_n C 2 dX4_readNumber_80 rfl rfl (pc' := 81) rfl ?_
  refine k_if_le C (tgt := 88) dX4_readNumber_81 (by decide) (pc' := 84) rfl (fun h4 => ?_) (fun h4 => ?_)
  · refine k_iconst C (v := 0) dX4_readNumber_88 (by decide) (pc' := 89) rfl ?_
    exact k_retz C rfl hr (Or.inl rfl) dX4_readNumber_89
  · refine k_iconst C (v := 1) dX4_readNumber_84 (by decide) (pc' := 85) rfl ?_
    refine k_goto C (pc' := 89) dX4_readNumber_85 (by decide) ?_
    exact k_retz C rfl hr (Or.inr rfl) dX4_readNumber_89
def fX4_readNumber_b4 (a1 : Int32) : Nat → kM1 → Int32 → Int32 → Option (Int32 × kM1)
  | 0, _, _, _ => none
  | n + 1, m0, b2, b3 =>
  if 3 ≤ b2 then fX4_readNumber_b73 a1 m0 b2 b3 else if (m0 3 2) ≤ (m0 3 3) then fX4_readNumber_b73 a1 m0 b2 b3 else if ¬ (m0 3 3) < 0 ∧ (m0 3 3).toNatClampNeg < 60 then bd (fX6_within m0 (m0 4 (m0 3 3).toNatClampNeg) 48 57) fun r7 m8 => if r7 = 0 then fX4_readNumber_b73 a1 m8 b2 b3 else if ¬ (m8 3 3) < 0 ∧ (m8 3 3).toNatClampNeg < 60 then k_let ((b3 * 10) + ((m8 4 (m8 3 3).toNatClampNeg) - 48)) fun v11 => k_let (mu m8 3 3 ((m8 3 3) + 1)) fun m12 => k_let (b2 + 1) fun v13 => fX4_readNumber_b4 a1 n m12 v13 v11 else none else none
set_option maxRecDepth 100000 in
set_option maxHeartbeats 4000000 in
theorem sX4_readNumber_b4 {l : Launch} {Γ : kG} (hL : k_Lay Γ 314) {M : kM2} {p : Program} {e : Env} {R : Room} {s : State} {mid : MethodId} {args : Array Value} {below : List Frame} {meth : Method} {c : Code} (C : k_C Γ p R s mid args meth c cX4_readNumber 4 RX4 (k_R 1)) (hr : meth.sig.returnType = (some .boolean)) (a1 : Int32)  (n : Nat) : ∀ (m0 : kM1) (b2 : Int32) (b3 : Int32), Sm Γ (K1 Γ M 7) p l e R s mid args below meth c 4 true m0 [(0, .ref (Γ.1 7 3)), (1, .int a1), (2, .int b2), (3, .int b3)] [] 4 (fX4_readNumber_b4 a1 n m0 b2 b3) := by
  induction n with
  | zero => intros; exact k_none
  | succ n ih =>
    intro m0 b2 b3
    unfold fX4_readNumber_b4
    refine k_iload_n C 2 dX4_readNumber_4 rfl rfl (pc' := 5) rfl ?_
    refine k_iconst C (v := 3) dX4_readNumber_5 (by decide) (pc' := 6) rfl ?_
    refine k_ic_ge C (tgt := 73) dX4_readNumber_6 (by decide) (pc' := 9) rfl (fun h1 => ?_) (fun h1 => ?_)
    · exact sX4_readNumber_b73 hL C hr a1 m0 b2 b3
    · refine k_aload_n C 0 dX4_readNumber_9 rfl rfl (pc' := 10) rfl ?_
      refine k_getf C 3 (c1 Γ M 7 m0 3 (e_ord Γ (m0 3))) (v_7 (by decide)) flX4_24 (v := .int (m0 3 3)) rfl dX4_readNumber_10 (pc' := 13) rfl ?_
      refine k_aload_n C 0 dX4_readNumber_13 rfl rfl (pc' := 14) rfl ?_
      refine k_getf C 2 (c1 Γ M 7 m0 3 (e_ord Γ (m0 3))) (v_7 (by decide)) flX4_19 (v := .int (m0 3 2)) rfl dX4_readNumber_14 (pc' := 17) rfl ?_
      refine k_ic_ge C (tgt := 73) dX4_readNumber_17 (by decide) (pc' := 20) rfl (fun h5 => ?_) (fun h5 => ?_)
      · exact sX4_readNumber_b73 hL C hr a1 m0 b2 b3
      · refine k_aload_n C 0 dX4_readNumber_20 rfl rfl (pc' := 21) rfl ?_
        refine k_getf C 0 (c1 Γ M 7 m0 3 (e_ord Γ (m0 3))) (v_7 (by decide)) flX4_9 (v := .ref (Γ.1 7 4)) rfl dX4_readNumber_21 (pc' := 24) rfl ?_
        refine k_aload_n C 0 dX4_readNumber_24 rfl rfl (pc' := 25) rfl ?_
        refine k_getf C 3 (c1 Γ M 7 m0 3 (e_ord Γ (m0 3))) (v_7 (by decide)) flX4_24 (v := .int (m0 3 3)) rfl dX4_readNumber_25 (pc' := 28) rfl ?_
        refine k_cald C (c1 Γ M 7 m0 4 (e_text Γ (m0 4))) (v_7 (by decide)) dX4_readNumber_28 (pc' := 29) rfl (fun h6 => ?_)
        refine k_bipush C (v := 48) dX4_readNumber_29 (by decide) (pc' := 31) rfl ?_
        refine k_bipush C (v := 57) dX4_readNumber_31 (by decide) (pc' := 33) rfl ?_
        refine k_callSNi C (rest := []) (qX6_within l Γ (K1 Γ M 7) m0 (m0 4 (m0 3 3).toNatClampNeg) 48 57) mwX6_within swX6_within (fun h => h.2.2.1) (k_rm_of (by decide) (by decide)) rfl rfl (Nat.le_of_ble_eq_true rfl) dX4_readNumber_33 (pc' := 36) rfl (fun r7 m8 => ?_)
        refine k_if_eq C (tgt := 73) dX4_readNumber_36 (by decide) (pc' := 39) rfl (fun h9 => ?_) (fun h9 => ?_)
        · exact sX4_readNumber_b73 hL C hr a1 m8 b2 b3
        · refine k_iload_n C 3 dX4_readNumber_39 rfl rfl (pc' := 40) rfl ?_
          refine k_bipush C (v := 10) dX4_readNumber_40 (by decide) (pc' := 42) rfl ?_
          refine k_imul C dX4_readNumber_42 (pc' := 43) rfl ?_
          refine k_aload_n C 0 dX4_readNumber_43 rfl rfl (pc' := 44) rfl ?_
          refine k_getf C 0 (c1 Γ M 7 m8 3 (e_ord Γ (m8 3))) (v_7 (by decide)) flX4_9 (v := .ref (Γ.1 7 4)) rfl dX4_readNumber_44 (pc' := 47) rfl ?_
          refine k_aload_n C 0 dX4_readNumber_47 rfl rfl (pc' := 48) rfl ?_
          refine k_getf C 3 (c1 Γ M 7 m8 3 (e_ord Γ (m8 3))) (v_7 (by decide)) flX4_24 (v := .int (m8 3 3)) rfl dX4_readNumber_48 (pc' := 51) rfl ?_
          refine k_cald C (c1 Γ M 7 m8 4 (e_text Γ (m8 4))) (v_7 (by decide)) dX4_readNumber_51 (pc' := 52) rfl (fun h10 => ?_)
          refine k_bipush C (v := 48) dX4_readNumber_52 (by decide) (pc' := 54) rfl ?_
          refine k_isub C dX4_readNumber_54 (pc' := 55) rfl ?_
          refine k_iadd C dX4_readNumber_55 (pc' := 56) rfl ?_
          refine k_topi (fun v11 => ?_)
          refine k_istore_n C (lv' := [(3, .int v11), (0, .ref (Γ.1 7 3)), (1, .int a1), (2, .int b2)]) dX4_readNumber_56 rfl (by decide) rfl (pc' := 57) rfl ?_
          refine k_aload_n C 1 dX4_readNumber_57 rfl rfl (pc' := 58) rfl ?_
          refine k_dup C dX4_readNumber_58 rfl (pc' := 59) rfl ?_
          refine k_getf C 3 (c1 Γ M 7 m8 3 (e_ord Γ (m8 3))) (v_7 (by decide)) flX4_24 (v := .int (m8 3 3)) rfl dX4_readNumber_59 (pc' := 62) rfl ?_
          refine k_iconst C (v := 1) dX4_readNumber_62 (by decide) (pc' := 63) rfl ?_
          refine k_iadd C dX4_readNumber_63 (pc' := 64) rfl ?_
          refine k_putf C (hL.k1 M 7) 3 (c1 Γ M 7 m8 3 (e_ord Γ (m8 3))) (v_7 (by decide)) flX4_24 fpX4_3 (Nat.le_of_ble_eq_true rfl) (s1 Γ M 7 m8 3 3 ((m8 3 3) + 1) ((e_ord Γ _).trans (congrArg (fun z => Sum.inr (4, z)) (f_ord Γ (m8 3) ((m8 3 3) + 1) 3 (by decide))))) dX4_readNumber_64 (pc' := 67) rfl (fun m12 => ?_)
          refine k_iinc (v := 1) (q := 3) (lv' := [(3, .int v11), (0, .ref (Γ.1 7 3)), (1, .int a1)]) C dX4_readNumber_67 rfl (by decide) (by decide) (pc' := 70) rfl (fun _ => rfl) (fun v13 => ?_)
          refine k_goto C (pc' := 4) dX4_readNumber_70 (by decide) ?_
          refine k_sub [2, 3, 0, 1] rfl ?_
          exact ih m12 v13 v11
def fX4_readNumber (m0 : kM1) (a1 : Int32) : Option (Int32 × kM1) :=
  fX4_readNumber_b4 a1 kFu m0 0 0
set_option maxRecDepth 100000 in
set_option maxHeartbeats 4000000 in
theorem qX4_readNumber (l : Launch) (Γ : kG) (hL : k_Lay Γ 314) (M : kM2) (m0 : kM1) (a1 : Int32) : CT l Γ (K1 Γ M 7) yX4_readNumber cX4_readNumber 4 (some .boolean) (k_R 1) [.ref (Γ.1 7 3), .int a1] m0 (fX4_readNumber m0 a1) := by
  refine k_meth (own := RX4) (by decide) rfl (Nat.le_of_ble_eq_true rfl) (fun p e R s mid args below meth c C hr => ?_)
  show Sm Γ (K1 Γ M 7) p l e R s mid args below meth c 4 true m0 [(0, .ref (Γ.1 7 3)), (1, .int a1)] [] 0 (fX4_readNumber m0 a1)
  unfold fX4_readNumber
  refine k_iconst C (v := 0) dX4_readNumber_0 (by decide) (pc' := 1) rfl ?_
  refine k_istore_n C (lv' := [(2, .int 0), (0, .ref (Γ.1 7 3)), (1, .int a1)]) dX4_readNumber_1 rfl (by decide) rfl (pc' := 2) rfl ?_
  refine k_iconst C (v := 0) dX4_readNumber_2 (by decide) (pc' := 3) rfl ?_
  refine k_istore_n C (lv' := [(3, .int 0), (2, .int 0), (0, .ref (Γ.1 7 3)), (1, .int a1)]) dX4_readNumber_3 rfl (by decide) rfl (pc' := 4) rfl ?_
  refine k_sub [2, 3, 1, 0] rfl ?_
  exact sX4_readNumber_b4 hL C hr a1 kFu m0 0 0
def fX4_readSign (m0 : kM1) (a1 : Int32) : Option (Int32 × kM1) :=
  if (m0 3 2) ≤ (m0 3 3) then some (0, m0) else if ¬ (m0 3 3) < 0 ∧ (m0 3 3).toNatClampNeg < 60 then if (m0 4 (m0 3 3).toNatClampNeg) = a1 then k_let (mu m0 3 3 ((m0 3 3) + 1)) fun m4 => some (1, m4) else some (0, m0) else none
set_option maxRecDepth 100000 in
set_option maxHeartbeats 4000000 in
theorem qX4_readSign (l : Launch) (Γ : kG) (hL : k_Lay Γ 314) (M : kM2) (m0 : kM1) (a1 : Int32) : CT l Γ (K1 Γ M 7) yX4_readSign cX4_readSign 2 (some .boolean) (k_R 0) [.ref (Γ.1 7 3), .int a1] m0 (fX4_readSign m0 a1) := by
  refine k_meth (own := RX4) (by decide) rfl (Nat.le_of_ble_eq_true rfl) (fun p e R s mid args below meth c C hr => ?_)
  show Sm Γ (K1 Γ M 7) p l e R s mid args below meth c 2 true m0 [(0, .ref (Γ.1 7 3)), (1, .int a1)] [] 0 (fX4_readSign m0 a1)
  unfold fX4_readSign
  refine k_aload_n C 0 dX4_readSign_0 rfl rfl (pc' := 1) rfl ?_
  refine k_getf C 3 (c1 Γ M 7 m0 3 (e_ord Γ (m0 3))) (v_7 (by decide)) flX4_24 (v := .int (m0 3 3)) rfl dX4_readSign_1 (pc' := 4) rfl ?_
  refine k_aload_n C 0 dX4_readSign_4 rfl rfl (pc' := 5) rfl ?_
  refine k_getf C 2 (c1 Γ M 7 m0 3 (e_ord Γ (m0 3))) (v_7 (by decide)) flX4_19 (v := .int (m0 3 2)) rfl dX4_readSign_5 (pc' := 8) rfl ?_
  refine k_ic_ge C (tgt := 24) dX4_readSign_8 (by decide) (pc' := 11) rfl (fun h1 => ?_) (fun h1 => ?_)
  · refine k_iconst C (v := 0) dX4_readSign_24 (by decide) (pc' := 25) rfl ?_
    exact k_retz C rfl hr (Or.inl rfl) dX4_readSign_25
  · refine k_aload_n C 0 dX4_readSign_11 rfl rfl (pc' := 12) rfl ?_
    refine k_getf C 0 (c1 Γ M 7 m0 3 (e_ord Γ (m0 3))) (v_7 (by decide)) flX4_9 (v := .ref (Γ.1 7 4)) rfl dX4_readSign_12 (pc' := 15) rfl ?_
    refine k_aload_n C 0 dX4_readSign_15 rfl rfl (pc' := 16) rfl ?_
    refine k_getf C 3 (c1 Γ M 7 m0 3 (e_ord Γ (m0 3))) (v_7 (by decide)) flX4_24 (v := .int (m0 3 3)) rfl dX4_readSign_16 (pc' := 19) rfl ?_
    refine k_cald C (c1 Γ M 7 m0 4 (e_text Γ (m0 4))) (v_7 (by decide)) dX4_readSign_19 (pc' := 20) rfl (fun h2 => ?_)
    refine k_iload_n C 1 dX4_readSign_20 rfl rfl (pc' := 21) rfl ?_
    refine k_ic_eq C (tgt := 26) dX4_readSign_21 (by decide) (pc' := 24) rfl (fun h3 => ?_) (fun h3 => ?_)
    · refine k_aload_n C 0 dX4_readSign_26 rfl rfl (pc' := 27) rfl ?_
      refine k_dup C dX4_readSign_27 rfl (pc' := 28) rfl ?_
      refine k_getf C 3 (c1 Γ M 7 m0 3 (e_ord Γ (m0 3))) (v_7 (by decide)) flX4_24 (v := .int (m0 3 3)) rfl dX4_readSign_28 (pc' := 31) rfl ?_
      refine k_iconst C (v := 1) dX4_readSign_31 (by decide) (pc' := 32) rfl ?_
      refine k_iadd C dX4_readSign_32 (pc' := 33) rfl ?_
      refine k_putf C (hL.k1 M 7) 3 (c1 Γ M 7 m0 3 (e_ord Γ (m0 3))) (v_7 (by decide)) flX4_24 fpX4_3 (Nat.le_of_ble_eq_true rfl) (s1 Γ M 7 m0 3 3 ((m0 3 3) + 1) ((e_ord Γ _).trans (congrArg (fun z => Sum.inr (4, z)) (f_ord Γ (m0 3) ((m0 3 3) + 1) 3 (by decide))))) dX4_readSign_33 (pc' := 36) rfl (fun m4 => ?_)
      refine k_iconst C (v := 1) dX4_readSign_36 (by decide) (pc' := 37) rfl ?_
      exact k_retz C rfl hr (Or.inr rfl) dX4_readSign_37
    · refine k_iconst C (v := 0) dX4_readSign_24 (by decide) (pc' := 25) rfl ?_
      exact k_retz C rfl hr (Or.inl rfl) dX4_readSign_25
def fX4_readOrder_b43  (rec25 : kM1 → Int32 → Int32 → Option (Int32 × kM1)) (m0 : kM1) (b1 : Int32) (b2 : Int32) : Option (Int32 × kM1) :=
  bd (fX4_readNumber m0 b2) fun r11 m12 => if r11 = 0 then some (0, m12) else k_let (b2 + 1) fun v14 => rec25 m12 b1 v14
set_option maxRecDepth 100000 in
set_option maxHeartbeats 4000000 in
theorem sX4_readOrder_b43 {l : Launch} {Γ : kG} (hL : k_Lay Γ 314) {M : kM2} {p : Program} {e : Env} {R : Room} {s : State} {mid : MethodId} {args : Array Value} {below : List Frame} {meth : Method} {c : Code} (C : k_C Γ p R s mid args meth c cX4_readOrder 3 RX4 (k_R 2)) (hr : meth.sig.returnType = (some .boolean)) (rec25 : kM1 → Int32 → Int32 → Option (Int32 × kM1)) (hrec25 : ∀ (m0 : kM1) (b1 : Int32) (b2 : Int32), Sm Γ (K1 Γ M 7) p l e R s mid args below meth c 3 true m0 [(0, .ref (Γ.1 7 3)), (1, .int b1), (2, .int b2)] [] 25 (rec25 m0 b1 b2)) (m0 : kM1) (b1 : Int32) (b2 : Int32)  : Sm Γ (K1 Γ M 7) p l e R s mid args below meth c 3 true m0 [(0, .ref (Γ.1 7 3)), (1, .int b1), (2, .int b2)] [] 43 (fX4_readOrder_b43 rec25 m0 b1 b2) := by
  unfold fX4_readOrder_b43
  refine k_aload_n C 0 dX4_readOrder_43 rfl rfl (pc' := 44) rfl ?_
  refine k_iload_n C 2 dX4_readOrder_44 rfl rfl (pc' := 45) rfl ?_
  refine k_callVi C (rest := []) (qX4_readNumber l Γ hL M m0 b2) mwX4_readNumber iwX4_readNumber mlX4_52 (k_rm_of (by decide) (by decide)) (c1 Γ M 7 m0 3 (e_ord Γ (m0 3))) (v_7 (by decide)) rfl rfl rfl (Nat.le_of_ble_eq_true rfl) dX4_readOrder_45 (pc' := 48) rfl (fun r11 m12 => ?_)
  refine k_if_ne C (tgt := 53) dX4_readOrder_48 (by decide) (pc' := 51) rfl (fun h13 => ?_) (fun h13 => ?_)
  · refine k_iinc (v := 1) (q := 2) (lv' := [(0, .ref (Γ.1 7 3)), (1, .int b1)]) C dX4_readOrder_53 rfl (by decide) (by decide) (pc' := 56) rfl (fun _ => rfl) (fun v14 => ?_)
    refine k_goto C (pc' := 25) dX4_readOrder_56 (by decide) ?_
    refine k_sub [1, 2, 0] rfl ?_
    exact hrec25 m12 b1 v14
  · refine k_iconst C (v := 0) dX4_readOrder_51 (by decide) (pc' := 52) rfl ?_
    exact k_retz C rfl hr (Or.inl rfl) dX4_readOrder_52
def fX4_readOrder_b25 : Nat → kM1 → Int32 → Int32 → Option (Int32 × kM1)
  | 0, _, _, _ => none
  | n + 1, m0, b1, b2 =>
  if b1 ≤ b2 then if b1 ≤ 0 then some (0, m0) else bd (fX4_readSign m0 59) fun r7 m8 => if r7 = 0 then some (0, m8) else some (1, m8) else if b2 ≤ 0 then fX4_readOrder_b43 (fX4_readOrder_b25 n) m0 b1 b2 else bd (fX4_readSign m0 44) fun r15 m16 => if r15 = 0 then some (0, m16) else fX4_readOrder_b43 (fX4_readOrder_b25 n) m16 b1 b2
set_option maxRecDepth 100000 in
set_option maxHeartbeats 4000000 in
theorem sX4_readOrder_b25 {l : Launch} {Γ : kG} (hL : k_Lay Γ 314) {M : kM2} {p : Program} {e : Env} {R : Room} {s : State} {mid : MethodId} {args : Array Value} {below : List Frame} {meth : Method} {c : Code} (C : k_C Γ p R s mid args meth c cX4_readOrder 3 RX4 (k_R 2)) (hr : meth.sig.returnType = (some .boolean))  (n : Nat) : ∀ (m0 : kM1) (b1 : Int32) (b2 : Int32), Sm Γ (K1 Γ M 7) p l e R s mid args below meth c 3 true m0 [(0, .ref (Γ.1 7 3)), (1, .int b1), (2, .int b2)] [] 25 (fX4_readOrder_b25 n m0 b1 b2) := by
  induction n with
  | zero => intros; exact k_none
  | succ n ih =>
    intro m0 b1 b2
    unfold fX4_readOrder_b25
    refine k_iload_n C 2 dX4_readOrder_25 rfl rfl (pc' := 26) rfl ?_
    refine k_iload_n C 1 dX4_readOrder_26 rfl rfl (pc' := 27) rfl ?_
    refine k_ic_ge C (tgt := 59) dX4_readOrder_27 (by decide) (pc' := 30) rfl (fun h5 => ?_) (fun h5 => ?_)
    · refine k_iload_n C 1 dX4_readOrder_59 rfl rfl (pc' := 60) rfl ?_
      refine k_if_le C (tgt := 76) dX4_readOrder_60 (by decide) (pc' := 63) rfl (fun h6 => ?_) (fun h6 => ?_)
      · refine k_iconst C (v := 0) dX4_readOrder_76 (by decide) (pc' := 77) rfl ?_
        exact k_retz C rfl hr (Or.inl rfl) dX4_readOrder_77
      · refine k_aload_n C 0 dX4_readOrder_63 rfl rfl (pc' := 64) rfl ?_
        refine k_bipush C (v := 59) dX4_readOrder_64 (by decide) (pc' := 66) rfl ?_
        refine k_callVi C (rest := []) (qX4_readSign l Γ hL M m0 59) mwX4_readSign iwX4_readSign mlX4_48 (k_rm_of (by decide) (by decide)) (c1 Γ M 7 m0 3 (e_ord Γ (m0 3))) (v_7 (by decide)) rfl rfl rfl (Nat.le_of_ble_eq_true rfl) dX4_readOrder_66 (pc' := 69) rfl (fun r7 m8 => ?_)
        refine k_if_eq C (tgt := 76) dX4_readOrder_69 (by decide) (pc' := 72) rfl (fun h9 => ?_) (fun h9 => ?_)
        · refine k_iconst C (v := 0) dX4_readOrder_76 (by decide) (pc' := 77) rfl ?_
          exact k_retz C rfl hr (Or.inl rfl) dX4_readOrder_77
        · refine k_iconst C (v := 1) dX4_readOrder_72 (by decide) (pc' := 73) rfl ?_
          refine k_goto C (pc' := 77) dX4_readOrder_73 (by decide) ?_
          exact k_retz C rfl hr (Or.inr rfl) dX4_readOrder_77
    · refine k_iload_n C 2 dX4_readOrder_30 rfl rfl (pc' := 31) rfl ?_
      refine k_if_le C (tgt := 43) dX4_readOrder_31 (by decide) (pc' := 34) rfl (fun h10 => ?_) (fun h10 => ?_)
      · exact sX4_readOrder_b43 hL C hr (fX4_readOrder_b25 n) ih m0 b1 b2
      · refine k_aload_n C 0 dX4_readOrder_34 rfl rfl (pc' := 35) rfl ?_
        refine k_bipush C (v := 44) dX4_readOrder_35 (by decide) (pc' := 37) rfl ?_
        refine k_callVi C (rest := []) (qX4_readSign l Γ hL M m0 44) mwX4_readSign iwX4_readSign mlX4_48 (k_rm_of (by decide) (by decide)) (c1 Γ M 7 m0 3 (e_ord Γ (m0 3))) (v_7 (by decide)) rfl rfl rfl (Nat.le_of_ble_eq_true rfl) dX4_readOrder_37 (pc' := 40) rfl (fun r15 m16 => ?_)
        refine k_if_eq C (tgt := 51) dX4_readOrder_40 (by decide) (pc' := 43) rfl (fun h17 => ?_) (fun h17 => ?_)
        · refine k_iconst C (v := 0) dX4_readOrder_51 (by decide) (pc' := 52) rfl ?_
          exact k_retz C rfl hr (Or.inl rfl) dX4_readOrder_52
        · exact sX4_readOrder_b43 hL C hr (fX4_readOrder_b25 n) ih m16 b1 b2
def fX4_readOrder (m0 : kM1) : Option (Int32 × kM1) :=
  if ¬ (m0 3 3) < 0 ∧ (m0 3 3).toNatClampNeg < 60 then bd (fX4_numbersAfter m0 (m0 4 (m0 3 3).toNatClampNeg)) fun r2 m3 => k_let (mu m3 3 3 ((m3 3 3) + 1)) fun m4 => fX4_readOrder_b25 kFu m4 r2 0 else none
set_option maxRecDepth 100000 in
set_option maxHeartbeats 4000000 in
theorem qX4_readOrder (l : Launch) (Γ : kG) (hL : k_Lay Γ 314) (M : kM2) (m0 : kM1) : CT l Γ (K1 Γ M 7) yX4_readOrder cX4_readOrder 3 (some .boolean) (k_R 2) [.ref (Γ.1 7 3)] m0 (fX4_readOrder m0 ) := by
  refine k_meth (own := RX4) (by decide) rfl (Nat.le_of_ble_eq_true rfl) (fun p e R s mid args below meth c C hr => ?_)
  show Sm Γ (K1 Γ M 7) p l e R s mid args below meth c 3 true m0 [(0, .ref (Γ.1 7 3))] [] 0 (fX4_readOrder m0 )
  unfold fX4_readOrder
  refine k_aload_n C 0 dX4_readOrder_0 rfl rfl (pc' := 1) rfl ?_
  refine k_getf C 0 (c1 Γ M 7 m0 3 (e_ord Γ (m0 3))) (v_7 (by decide)) flX4_9 (v := .ref (Γ.1 7 4)) rfl dX4_readOrder_1 (pc' := 4) rfl ?_
  refine k_aload_n C 0 dX4_readOrder_4 rfl rfl (pc' := 5) rfl ?_
  refine k_getf C 3 (c1 Γ M 7 m0 3 (e_ord Γ (m0 3))) (v_7 (by decide)) flX4_24 (v := .int (m0 3 3)) rfl dX4_readOrder_5 (pc' := 8) rfl ?_
  refine k_cald C (c1 Γ M 7 m0 4 (e_text Γ (m0 4))) (v_7 (by decide)) dX4_readOrder_8 (pc' := 9) rfl (fun h1 => ?_)
  refine k_callSi C (rest := []) (qX4_numbersAfter l Γ (K1 Γ M 7) m0 (m0 4 (m0 3 3).toNatClampNeg)) mwX4_numbersAfter swX4_numbersAfter mlX4_44 (k_rm_of (by decide) (by decide)) rfl rfl (Nat.le_of_ble_eq_true rfl) dX4_readOrder_9 (pc' := 12) rfl (fun r2 m3 => ?_)
  refine k_istore_n C (lv' := [(1, .int r2), (0, .ref (Γ.1 7 3))]) dX4_readOrder_12 rfl (by decide) rfl (pc' := 13) rfl ?_
  refine k_aload_n C 1 dX4_readOrder_13 rfl rfl (pc' := 14) rfl ?_
  refine k_dup C dX4_readOrder_14 rfl (pc' := 15) rfl ?_
  refine k_getf C 3 (c1 Γ M 7 m3 3 (e_ord Γ (m3 3))) (v_7 (by decide)) flX4_24 (v := .int (m3 3 3)) rfl dX4_readOrder_15 (pc' := 18) rfl ?_
  refine k_iconst C (v := 1) dX4_readOrder_18 (by decide) (pc' := 19) rfl ?_
  refine k_iadd C dX4_readOrder_19 (pc' := 20) rfl ?_
  refine k_putf C (hL.k1 M 7) 3 (c1 Γ M 7 m3 3 (e_ord Γ (m3 3))) (v_7 (by decide)) flX4_24 fpX4_3 (Nat.le_of_ble_eq_true rfl) (s1 Γ M 7 m3 3 3 ((m3 3 3) + 1) ((e_ord Γ _).trans (congrArg (fun z => Sum.inr (4, z)) (f_ord Γ (m3 3) ((m3 3 3) + 1) 3 (by decide))))) dX4_readOrder_20 (pc' := 23) rfl (fun m4 => ?_)
  refine k_iconst C (v := 0) dX4_readOrder_23 (by decide) (pc' := 24) rfl ?_
  refine k_istore_n C (lv' := [(2, .int 0), (1, .int r2), (0, .ref (Γ.1 7 3))]) dX4_readOrder_24 rfl (by decide) rfl (pc' := 25) rfl ?_
  refine k_sub [2, 1, 0] rfl ?_
  exact sX4_readOrder_b25 hL C hr kFu m4 r2 0
def fX4_doAll_b91 (i1 : Nat) (rec22 : kM2 → Int32 → Option (Int32 × kM2)) (M0 : kM2) (b2 : Int32) : Option (Int32 × kM2) :=
  k_let (b2 + 1) fun v14 => rec22 M0 v14
set_option maxRecDepth 100000 in
set_option maxHeartbeats 4000000 in
theorem sX4_doAll_b91 {l : Launch} {Γ : kG} (hL : k_Lay Γ 314) {p : Program} {e : Env} {R : Room} {s : State} {mid : MethodId} {args : Array Value} {below : List Frame} {meth : Method} {c : Code} (C : k_C Γ p R s mid args meth c cX4_doAll 3 RX4 (k_R 5)) (hr : meth.sig.returnType = none) (i1 : Nat) (hi1 : i1 < 7) (rec22 : kM2 → Int32 → Option (Int32 × kM2)) (hrec22 : ∀ (M0 : kM2) (b2 : Int32), Sm Γ (K2 Γ) p l e R s mid args below meth c 3 false M0 [(0, .ref (Γ.1 7 3)), (1, .ref (Γ.1 i1 0)), (2, .int b2)] [] 22 (rec22 M0 b2)) (M0 : kM2) (b2 : Int32)  : Sm Γ (K2 Γ) p l e R s mid args below meth c 3 false M0 [(0, .ref (Γ.1 7 3)), (1, .ref (Γ.1 i1 0)), (2, .int b2)] [] 91 (fX4_doAll_b91 i1 rec22 M0 b2) := by
  unfold fX4_doAll_b91
  refine k_iinc (v := 1) (q := 2) (lv' := [(0, .ref (Γ.1 7 3)), (1, .ref (Γ.1 i1 0))]) C dX4_doAll_91 rfl (by decide) (by decide) (pc' := 94) rfl (fun _ => rfl) (fun v14 => ?_)
  refine k_goto C (pc' := 22) dX4_doAll_94 (by decide) ?_
  refine k_sub [1, 2, 0] rfl ?_
  exact hrec22 M0 v14
def fX4_doAll_b71 (i1 : Nat) (rec22 : kM2 → Int32 → Option (Int32 × kM2)) (M0 : kM2) (b2 : Int32) (t0 : Int32) : Option (Int32 × kM2) :=
  k_let (mw M0 7 3 5 t0) fun M12 => if (M12 7 3 5) = 0 then k_let (mw M12 7 3 6 ((M12 7 3 6) + 1)) fun M15 => fX4_doAll_b91 i1 rec22 M15 b2 else fX4_doAll_b91 i1 rec22 M12 b2
set_option maxRecDepth 100000 in
set_option maxHeartbeats 4000000 in
theorem sX4_doAll_b71 {l : Launch} {Γ : kG} (hL : k_Lay Γ 314) {p : Program} {e : Env} {R : Room} {s : State} {mid : MethodId} {args : Array Value} {below : List Frame} {meth : Method} {c : Code} (C : k_C Γ p R s mid args meth c cX4_doAll 3 RX4 (k_R 5)) (hr : meth.sig.returnType = none) (i1 : Nat) (hi1 : i1 < 7) (rec22 : kM2 → Int32 → Option (Int32 × kM2)) (hrec22 : ∀ (M0 : kM2) (b2 : Int32), Sm Γ (K2 Γ) p l e R s mid args below meth c 3 false M0 [(0, .ref (Γ.1 7 3)), (1, .ref (Γ.1 i1 0)), (2, .int b2)] [] 22 (rec22 M0 b2)) (M0 : kM2) (b2 : Int32) (t0 : Int32)  : Sm Γ (K2 Γ) p l e R s mid args below meth c 3 false M0 [(0, .ref (Γ.1 7 3)), (1, .ref (Γ.1 i1 0)), (2, .int b2)] [.int t0, .ref (Γ.1 7 3)] 71 (fX4_doAll_b71 i1 rec22 M0 b2 t0) := by
  unfold fX4_doAll_b71
  refine k_putf C hL.k2 5 (c2 Γ M0 7 3 (e_ord Γ (M0 7 3))) (v_7 (by decide)) flX4_30 fpX4_5 (Nat.le_of_ble_eq_true rfl) (s2 Γ M0 7 3 5 t0 ((e_ord Γ _).trans (congrArg (fun z => Sum.inr (4, z)) (f_ord Γ (M0 7 3) t0 5 (by decide))))) dX4_doAll_71 (pc' := 74) rfl (fun M12 => ?_)
  refine k_aload_n C 0 dX4_doAll_74 rfl rfl (pc' := 75) rfl ?_
  refine k_getf C 5 (c2 Γ M12 7 3 (e_ord Γ (M12 7 3))) (v_7 (by decide)) flX4_30 (v := .int (M12 7 3 5)) rfl dX4_doAll_75 (pc' := 78) rfl ?_
  refine k_if_ne C (tgt := 91) dX4_doAll_78 (by decide) (pc' := 81) rfl (fun h13 => ?_) (fun h13 => ?_)
  · exact sX4_doAll_b91 hL C hr i1 hi1 rec22 hrec22 M12 b2
  · refine k_aload_n C 0 dX4_doAll_81 rfl rfl (pc' := 82) rfl ?_
    refine k_dup C dX4_doAll_82 rfl (pc' := 83) rfl ?_
    refine k_getf C 6 (c2 Γ M12 7 3 (e_ord Γ (M12 7 3))) (v_7 (by decide)) flX4_33 (v := .int (M12 7 3 6)) rfl dX4_doAll_83 (pc' := 86) rfl ?_
    refine k_iconst C (v := 1) dX4_doAll_86 (by decide) (pc' := 87) rfl ?_
    refine k_iadd C dX4_doAll_87 (pc' := 88) rfl ?_
    refine k_putf C hL.k2 6 (c2 Γ M12 7 3 (e_ord Γ (M12 7 3))) (v_7 (by decide)) flX4_33 fpX4_6 (Nat.le_of_ble_eq_true rfl) (s2 Γ M12 7 3 6 ((M12 7 3 6) + 1) ((e_ord Γ _).trans (congrArg (fun z => Sum.inr (4, z)) (f_ord Γ (M12 7 3) ((M12 7 3 6) + 1) 6 (by decide))))) dX4_doAll_88 (pc' := 91) rfl (fun M15 => ?_)
    exact sX4_doAll_b91 hL C hr i1 hi1 rec22 hrec22 M15 b2
def fX4_doAll_b22 (i1 : Nat) : Nat → kM2 → Int32 → Option (Int32 × kM2)
  | 0, _, _ => none
  | n + 1, M0, b2 =>
  if 60 ≤ b2 then some (0, M0) else if (M0 7 3 2) ≤ (M0 7 3 3) then some (0, M0) else if (M0 7 3 5) = 0 then k_let (mw M0 7 3 4 (M0 7 3 3)) fun M8 => bd (k_on M8 7 (fX4_readOrder (M8 7))) fun r9 M10 => if r9 = 0 then fX4_doAll_b71 i1 (fX4_doAll_b22 i1 n) M10 b2 1 else bd (fX4_doOrder M10 i1) fun r16 M17 => fX4_doAll_b71 i1 (fX4_doAll_b22 i1 n) M17 b2 r16 else some (0, M0)
set_option maxRecDepth 100000 in
set_option maxHeartbeats 4000000 in
theorem sX4_doAll_b22 {l : Launch} {Γ : kG} (hL : k_Lay Γ 314) {p : Program} {e : Env} {R : Room} {s : State} {mid : MethodId} {args : Array Value} {below : List Frame} {meth : Method} {c : Code} (C : k_C Γ p R s mid args meth c cX4_doAll 3 RX4 (k_R 5)) (hr : meth.sig.returnType = none) (i1 : Nat) (hi1 : i1 < 7)  (n : Nat) : ∀ (M0 : kM2) (b2 : Int32), Sm Γ (K2 Γ) p l e R s mid args below meth c 3 false M0 [(0, .ref (Γ.1 7 3)), (1, .ref (Γ.1 i1 0)), (2, .int b2)] [] 22 (fX4_doAll_b22 i1 n M0 b2) := by
  induction n with
  | zero => intros; exact k_none
  | succ n ih =>
    intro M0 b2
    unfold fX4_doAll_b22
    refine k_iload_n C 2 dX4_doAll_22 rfl rfl (pc' := 23) rfl ?_
    refine k_bipush C (v := 60) dX4_doAll_23 (by decide) (pc' := 25) rfl ?_
    refine k_ic_ge C (tgt := 97) dX4_doAll_25 (by decide) (pc' := 28) rfl (fun h5 => ?_) (fun h5 => ?_)
    · exact k_retv C rfl hr dX4_doAll_97
    · refine k_aload_n C 0 dX4_doAll_28 rfl rfl (pc' := 29) rfl ?_
      refine k_getf C 3 (c2 Γ M0 7 3 (e_ord Γ (M0 7 3))) (v_7 (by decide)) flX4_24 (v := .int (M0 7 3 3)) rfl dX4_doAll_29 (pc' := 32) rfl ?_
      refine k_aload_n C 0 dX4_doAll_32 rfl rfl (pc' := 33) rfl ?_
      refine k_getf C 2 (c2 Γ M0 7 3 (e_ord Γ (M0 7 3))) (v_7 (by decide)) flX4_19 (v := .int (M0 7 3 2)) rfl dX4_doAll_33 (pc' := 36) rfl ?_
      refine k_ic_ge C (tgt := 97) dX4_doAll_36 (by decide) (pc' := 39) rfl (fun h6 => ?_) (fun h6 => ?_)
      · exact k_retv C rfl hr dX4_doAll_97
      · refine k_aload_n C 0 dX4_doAll_39 rfl rfl (pc' := 40) rfl ?_
        refine k_getf C 5 (c2 Γ M0 7 3 (e_ord Γ (M0 7 3))) (v_7 (by decide)) flX4_30 (v := .int (M0 7 3 5)) rfl dX4_doAll_40 (pc' := 43) rfl ?_
        refine k_if_ne C (tgt := 97) dX4_doAll_43 (by decide) (pc' := 46) rfl (fun h7 => ?_) (fun h7 => ?_)
        · exact k_retv C rfl hr dX4_doAll_97
        · refine k_aload_n C 0 dX4_doAll_46 rfl rfl (pc' := 47) rfl ?_
          refine k_aload_n C 0 dX4_doAll_47 rfl rfl (pc' := 48) rfl ?_
          refine k_getf C 3 (c2 Γ M0 7 3 (e_ord Γ (M0 7 3))) (v_7 (by decide)) flX4_24 (v := .int (M0 7 3 3)) rfl dX4_doAll_48 (pc' := 51) rfl ?_
          refine k_putf C hL.k2 4 (c2 Γ M0 7 3 (e_ord Γ (M0 7 3))) (v_7 (by decide)) flX4_27 fpX4_4 (Nat.le_of_ble_eq_true rfl) (s2 Γ M0 7 3 4 (M0 7 3 3) ((e_ord Γ _).trans (congrArg (fun z => Sum.inr (4, z)) (f_ord Γ (M0 7 3) (M0 7 3 3) 4 (by decide))))) dX4_doAll_51 (pc' := 54) rfl (fun M8 => ?_)
          refine k_aload_n C 0 dX4_doAll_54 rfl rfl (pc' := 55) rfl ?_
          refine k_aload_n C 0 dX4_doAll_55 rfl rfl (pc' := 56) rfl ?_
          refine k_callVi C (rest := [.ref (Γ.1 7 3)]) (CT.lift2 (qX4_readOrder l Γ hL M8 (M8 7))) mwX4_readOrder iwX4_readOrder mlX4_36 (k_rm_of (by decide) (by decide)) (c2 Γ M8 7 3 (e_ord Γ (M8 7 3))) (v_7 (by decide)) rfl rfl rfl (Nat.le_of_ble_eq_true rfl) dX4_doAll_56 (pc' := 59) rfl (fun r9 M10 => ?_)
          refine k_if_eq C (tgt := 70) dX4_doAll_59 (by decide) (pc' := 62) rfl (fun h11 => ?_) (fun h11 => ?_)
          · refine k_iconst C (v := 1) dX4_doAll_70 (by decide) (pc' := 71) rfl ?_
            exact sX4_doAll_b71 hL C hr i1 hi1 (fX4_doAll_b22 i1 n) ih M10 b2 1
          · refine k_aload_n C 0 dX4_doAll_62 rfl rfl (pc' := 63) rfl ?_
            refine k_aload_n C 1 dX4_doAll_63 rfl rfl (pc' := 64) rfl ?_
            refine k_callVi C (rest := [.ref (Γ.1 7 3)]) (qX4_doOrder l Γ hL M10 i1 hi1) mwX4_doOrder iwX4_doOrder mlX4_40 (k_rm_of (by decide) (by decide)) (c2 Γ M10 7 3 (e_ord Γ (M10 7 3))) (v_7 (by decide)) rfl rfl rfl (Nat.le_of_ble_eq_true rfl) dX4_doAll_64 (pc' := 67) rfl (fun r16 M17 => ?_)
            refine k_goto C (pc' := 71) dX4_doAll_67 (by decide) ?_
            exact sX4_doAll_b71 hL C hr i1 hi1 (fX4_doAll_b22 i1 n) ih M17 b2 r16
def fX4_doAll (M0 : kM2) (i1 : Nat) : Option (Int32 × kM2) :=
  k_let (mw M0 7 3 3 0) fun M1 => k_let (mw M1 7 3 4 0) fun M2 => k_let (mw M2 7 3 5 0) fun M3 => k_let (mw M3 7 3 6 0) fun M4 => fX4_doAll_b22 i1 kFu M4 0
set_option maxRecDepth 100000 in
set_option maxHeartbeats 4000000 in
theorem qX4_doAll (l : Launch) (Γ : kG) (hL : k_Lay Γ 314) (M0 : kM2) (i1 : Nat) (hi1 : i1 < 7) : CT l Γ (K2 Γ) yX4_doAll cX4_doAll 3 none (k_R 5) [.ref (Γ.1 7 3), .ref (Γ.1 i1 0)] M0 (fX4_doAll M0 i1) := by
  refine k_meth (own := RX4) (by decide) rfl (Nat.le_of_ble_eq_true rfl) (fun p e R s mid args below meth c C hr => ?_)
  show Sm Γ (K2 Γ) p l e R s mid args below meth c 3 false M0 [(0, .ref (Γ.1 7 3)), (1, .ref (Γ.1 i1 0))] [] 0 (fX4_doAll M0 i1)
  unfold fX4_doAll
  refine k_aload_n C 0 dX4_doAll_0 rfl rfl (pc' := 1) rfl ?_
  refine k_iconst C (v := 0) dX4_doAll_1 (by decide) (pc' := 2) rfl ?_
  refine k_putf C hL.k2 3 (c2 Γ M0 7 3 (e_ord Γ (M0 7 3))) (v_7 (by decide)) flX4_24 fpX4_3 (Nat.le_of_ble_eq_true rfl) (s2 Γ M0 7 3 3 0 ((e_ord Γ _).trans (congrArg (fun z => Sum.inr (4, z)) (f_ord Γ (M0 7 3) 0 3 (by decide))))) dX4_doAll_2 (pc' := 5) rfl (fun M1 => ?_)
  refine k_aload_n C 0 dX4_doAll_5 rfl rfl (pc' := 6) rfl ?_
  refine k_iconst C (v := 0) dX4_doAll_6 (by decide) (pc' := 7) rfl ?_
  refine k_putf C hL.k2 4 (c2 Γ M1 7 3 (e_ord Γ (M1 7 3))) (v_7 (by decide)) flX4_27 fpX4_4 (Nat.le_of_ble_eq_true rfl) (s2 Γ M1 7 3 4 0 ((e_ord Γ _).trans (congrArg (fun z => Sum.inr (4, z)) (f_ord Γ (M1 7 3) 0 4 (by decide))))) dX4_doAll_7 (pc' := 10) rfl (fun M2 => ?_)
  refine k_aload_n C 0 dX4_doAll_10 rfl rfl (pc' := 11) rfl ?_
  refine k_iconst C (v := 0) dX4_doAll_11 (by decide) (pc' := 12) rfl ?_
  refine k_putf C hL.k2 5 (c2 Γ M2 7 3 (e_ord Γ (M2 7 3))) (v_7 (by decide)) flX4_30 fpX4_5 (Nat.le_of_ble_eq_true rfl) (s2 Γ M2 7 3 5 0 ((e_ord Γ _).trans (congrArg (fun z => Sum.inr (4, z)) (f_ord Γ (M2 7 3) 0 5 (by decide))))) dX4_doAll_12 (pc' := 15) rfl (fun M3 => ?_)
  refine k_aload_n C 0 dX4_doAll_15 rfl rfl (pc' := 16) rfl ?_
  refine k_iconst C (v := 0) dX4_doAll_16 (by decide) (pc' := 17) rfl ?_
  refine k_putf C hL.k2 6 (c2 Γ M3 7 3 (e_ord Γ (M3 7 3))) (v_7 (by decide)) flX4_33 fpX4_6 (Nat.le_of_ble_eq_true rfl) (s2 Γ M3 7 3 6 0 ((e_ord Γ _).trans (congrArg (fun z => Sum.inr (4, z)) (f_ord Γ (M3 7 3) 0 6 (by decide))))) dX4_doAll_17 (pc' := 20) rfl (fun M4 => ?_)
  refine k_iconst C (v := 0) dX4_doAll_20 (by decide) (pc' := 21) rfl ?_
  refine k_istore_n C (lv' := [(2, .int 0), (0, .ref (Γ.1 7 3)), (1, .ref (Γ.1 i1 0))]) dX4_doAll_21 rfl (by decide) rfl (pc' := 22) rfl ?_
  refine k_sub [1, 2, 0] rfl ?_
  exact sX4_doAll_b22 hL C hr i1 hi1 kFu M4 0
def fX6_set (M0 : kM2) (a1 : Int32) (a2 : Int32) : Option (Int32 × kM2) :=
  bd (fX1_hold M0 0) fun r1 M2 => bd (k_on M2 0 (fX3_changeSetting (M2 0) a1 a2)) fun r3 M4 => bd (k_on M4 7 (fX1_keepIfDone (M4 7) r3)) fun r5 M6 => some (r5, M6)
set_option maxRecDepth 100000 in
set_option maxHeartbeats 4000000 in
theorem qX6_set (l : Launch) (Γ : kG) (hL : k_Lay Γ 314) (M0 : kM2) (a1 : Int32) (a2 : Int32) : CT l Γ (K2 Γ) yX6_set cX6_set 3 (some .int) (k_R 4) [.ref (Γ.1 7 0), .int a1, .int a2] M0 (fX6_set M0 a1 a2) := by
  refine k_meth (own := RX6) (by decide) rfl (Nat.le_of_ble_eq_true rfl) (fun p e R s mid args below meth c C hr => ?_)
  show Sm Γ (K2 Γ) p l e R s mid args below meth c 3 true M0 [(0, .ref (Γ.1 7 0)), (1, .int a1), (2, .int a2)] [] 0 (fX6_set M0 a1 a2)
  unfold fX6_set
  refine k_aload_n C 0 dX6_set_0 rfl rfl (pc' := 1) rfl ?_
  refine k_getf C 2 (c2 Γ M0 7 0 (e_sea Γ (M0 7 0))) (v_7 (by decide)) flX6_22 (v := .ref (Γ.1 7 1)) rfl dX6_set_1 (pc' := 4) rfl ?_
  refine k_aload_n C 0 dX6_set_4 rfl rfl (pc' := 5) rfl ?_
  refine k_getf C 0 (c2 Γ M0 7 0 (e_sea Γ (M0 7 0))) (v_7 (by decide)) flX6_10 (v := .ref (Γ.1 0 0)) rfl dX6_set_5 (pc' := 8) rfl ?_
  refine k_callVv C (rest := []) (qX1_hold l Γ hL M0 0 (by decide)) mwX1_hold iwX1_hold mlX6_33 (k_rm_of (by decide) (by decide)) (c2 Γ M0 7 1 (e_hist Γ (M0 7 1))) (v_7 (by decide)) rfl rfl rfl (Nat.le_of_ble_eq_true rfl) dX6_set_8 (pc' := 11) rfl (fun r1 M2 => ?_)
  refine k_aload_n C 0 dX6_set_11 rfl rfl (pc' := 12) rfl ?_
  refine k_getf C 2 (c2 Γ M2 7 0 (e_sea Γ (M2 7 0))) (v_7 (by decide)) flX6_22 (v := .ref (Γ.1 7 1)) rfl dX6_set_12 (pc' := 15) rfl ?_
  refine k_aload_n C 0 dX6_set_15 rfl rfl (pc' := 16) rfl ?_
  refine k_getf C 0 (c2 Γ M2 7 0 (e_sea Γ (M2 7 0))) (v_7 (by decide)) flX6_10 (v := .ref (Γ.1 0 0)) rfl dX6_set_16 (pc' := 19) rfl ?_
  refine k_iload_n C 1 dX6_set_19 rfl rfl (pc' := 20) rfl ?_
  refine k_iload_n C 2 dX6_set_20 rfl rfl (pc' := 21) rfl ?_
  refine k_callVi C (rest := [.ref (Γ.1 7 1)]) (CT.lift2 (qX3_changeSetting l Γ hL M2 0 (by decide) (M2 0) a1 a2)) mwX3_changeSetting iwX3_changeSetting mlX6_37 (k_rm_of (by decide) (by decide)) (c2 Γ M2 0 0 (e_mill Γ (by decide) (M2 0 0))) (v_i (by decide) (by decide)) rfl rfl rfl (Nat.le_of_ble_eq_true rfl) dX6_set_21 (pc' := 24) rfl (fun r3 M4 => ?_)
  refine k_callVi C (rest := []) (CT.lift2 (qX1_keepIfDone l Γ hL M4 (M4 7) r3)) mwX1_keepIfDone iwX1_keepIfDone mlX6_41 (k_rm_of (by decide) (by decide)) (c2 Γ M4 7 1 (e_hist Γ (M4 7 1))) (v_7 (by decide)) rfl rfl rfl (Nat.le_of_ble_eq_true rfl) dX6_set_24 (pc' := 27) rfl (fun r5 M6 => ?_)
  exact k_reti C rfl hr dX6_set_27
def fX6_leak (M0 : kM2) (a1 : Int32) (a2 : Int32) : Option (Int32 × kM2) :=
  bd (fX1_hold M0 0) fun r1 M2 => bd (k_on M2 0 (fX3_changeLeak (M2 0) a1 a2)) fun r3 M4 => bd (k_on M4 7 (fX1_keepIfDone (M4 7) r3)) fun r5 M6 => some (r5, M6)
set_option maxRecDepth 100000 in
set_option maxHeartbeats 4000000 in
theorem qX6_leak (l : Launch) (Γ : kG) (hL : k_Lay Γ 314) (M0 : kM2) (a1 : Int32) (a2 : Int32) : CT l Γ (K2 Γ) yX6_leak cX6_leak 3 (some .int) (k_R 4) [.ref (Γ.1 7 0), .int a1, .int a2] M0 (fX6_leak M0 a1 a2) := by
  refine k_meth (own := RX6) (by decide) rfl (Nat.le_of_ble_eq_true rfl) (fun p e R s mid args below meth c C hr => ?_)
  show Sm Γ (K2 Γ) p l e R s mid args below meth c 3 true M0 [(0, .ref (Γ.1 7 0)), (1, .int a1), (2, .int a2)] [] 0 (fX6_leak M0 a1 a2)
  unfold fX6_leak
  refine k_aload_n C 0 dX6_leak_0 rfl rfl (pc' := 1) rfl ?_
  refine k_getf C 2 (c2 Γ M0 7 0 (e_sea Γ (M0 7 0))) (v_7 (by decide)) flX6_22 (v := .ref (Γ.1 7 1)) rfl dX6_leak_1 (pc' := 4) rfl ?_
  refine k_aload_n C 0 dX6_leak_4 rfl rfl (pc' := 5) rfl ?_
  refine k_getf C 0 (c2 Γ M0 7 0 (e_sea Γ (M0 7 0))) (v_7 (by decide)) flX6_10 (v := .ref (Γ.1 0 0)) rfl dX6_leak_5 (pc' := 8) rfl ?_
  refine k_callVv C (rest := []) (qX1_hold l Γ hL M0 0 (by decide)) mwX1_hold iwX1_hold mlX6_33 (k_rm_of (by decide) (by decide)) (c2 Γ M0 7 1 (e_hist Γ (M0 7 1))) (v_7 (by decide)) rfl rfl rfl (Nat.le_of_ble_eq_true rfl) dX6_leak_8 (pc' := 11) rfl (fun r1 M2 => ?_)
  refine k_aload_n C 0 dX6_leak_11 rfl rfl (pc' := 12) rfl ?_
  refine k_getf C 2 (c2 Γ M2 7 0 (e_sea Γ (M2 7 0))) (v_7 (by decide)) flX6_22 (v := .ref (Γ.1 7 1)) rfl dX6_leak_12 (pc' := 15) rfl ?_
  refine k_aload_n C 0 dX6_leak_15 rfl rfl (pc' := 16) rfl ?_
  refine k_getf C 0 (c2 Γ M2 7 0 (e_sea Γ (M2 7 0))) (v_7 (by decide)) flX6_10 (v := .ref (Γ.1 0 0)) rfl dX6_leak_16 (pc' := 19) rfl ?_
  refine k_iload_n C 1 dX6_leak_19 rfl rfl (pc' := 20) rfl ?_
  refine k_iload_n C 2 dX6_leak_20 rfl rfl (pc' := 21) rfl ?_
  refine k_callVi C (rest := [.ref (Γ.1 7 1)]) (CT.lift2 (qX3_changeLeak l Γ hL M2 0 (by decide) (M2 0) a1 a2)) mwX3_changeLeak iwX3_changeLeak mlX6_45 (k_rm_of (by decide) (by decide)) (c2 Γ M2 0 0 (e_mill Γ (by decide) (M2 0 0))) (v_i (by decide) (by decide)) rfl rfl rfl (Nat.le_of_ble_eq_true rfl) dX6_leak_21 (pc' := 24) rfl (fun r3 M4 => ?_)
  refine k_callVi C (rest := []) (CT.lift2 (qX1_keepIfDone l Γ hL M4 (M4 7) r3)) mwX1_keepIfDone iwX1_keepIfDone mlX6_41 (k_rm_of (by decide) (by decide)) (c2 Γ M4 7 1 (e_hist Γ (M4 7 1))) (v_7 (by decide)) rfl rfl rfl (Nat.le_of_ble_eq_true rfl) dX6_leak_24 (pc' := 27) rfl (fun r5 M6 => ?_)
  exact k_reti C rfl hr dX6_leak_27
def fX6_lock (M0 : kM2) (a1 : Int32) : Option (Int32 × kM2) :=
  bd (fX1_hold M0 0) fun r1 M2 => bd (k_on M2 0 (fX3_changeLock (M2 0) a1)) fun r3 M4 => bd (k_on M4 7 (fX1_keepIfDone (M4 7) r3)) fun r5 M6 => some (r5, M6)
set_option maxRecDepth 100000 in
set_option maxHeartbeats 4000000 in
theorem qX6_lock (l : Launch) (Γ : kG) (hL : k_Lay Γ 314) (M0 : kM2) (a1 : Int32) : CT l Γ (K2 Γ) yX6_lock cX6_lock 2 (some .int) (k_R 4) [.ref (Γ.1 7 0), .int a1] M0 (fX6_lock M0 a1) := by
  refine k_meth (own := RX6) (by decide) rfl (Nat.le_of_ble_eq_true rfl) (fun p e R s mid args below meth c C hr => ?_)
  show Sm Γ (K2 Γ) p l e R s mid args below meth c 2 true M0 [(0, .ref (Γ.1 7 0)), (1, .int a1)] [] 0 (fX6_lock M0 a1)
  unfold fX6_lock
  refine k_aload_n C 0 dX6_lock_0 rfl rfl (pc' := 1) rfl ?_
  refine k_getf C 2 (c2 Γ M0 7 0 (e_sea Γ (M0 7 0))) (v_7 (by decide)) flX6_22 (v := .ref (Γ.1 7 1)) rfl dX6_lock_1 (pc' := 4) rfl ?_
  refine k_aload_n C 0 dX6_lock_4 rfl rfl (pc' := 5) rfl ?_
  refine k_getf C 0 (c2 Γ M0 7 0 (e_sea Γ (M0 7 0))) (v_7 (by decide)) flX6_10 (v := .ref (Γ.1 0 0)) rfl dX6_lock_5 (pc' := 8) rfl ?_
  refine k_callVv C (rest := []) (qX1_hold l Γ hL M0 0 (by decide)) mwX1_hold iwX1_hold mlX6_33 (k_rm_of (by decide) (by decide)) (c2 Γ M0 7 1 (e_hist Γ (M0 7 1))) (v_7 (by decide)) rfl rfl rfl (Nat.le_of_ble_eq_true rfl) dX6_lock_8 (pc' := 11) rfl (fun r1 M2 => ?_)
  refine k_aload_n C 0 dX6_lock_11 rfl rfl (pc' := 12) rfl ?_
  refine k_getf C 2 (c2 Γ M2 7 0 (e_sea Γ (M2 7 0))) (v_7 (by decide)) flX6_22 (v := .ref (Γ.1 7 1)) rfl dX6_lock_12 (pc' := 15) rfl ?_
  refine k_aload_n C 0 dX6_lock_15 rfl rfl (pc' := 16) rfl ?_
  refine k_getf C 0 (c2 Γ M2 7 0 (e_sea Γ (M2 7 0))) (v_7 (by decide)) flX6_10 (v := .ref (Γ.1 0 0)) rfl dX6_lock_16 (pc' := 19) rfl ?_
  refine k_iload_n C 1 dX6_lock_19 rfl rfl (pc' := 20) rfl ?_
  refine k_callVi C (rest := [.ref (Γ.1 7 1)]) (CT.lift2 (qX3_changeLock l Γ hL M2 0 (by decide) (M2 0) a1)) mwX3_changeLock iwX3_changeLock mlX6_48 (k_rm_of (by decide) (by decide)) (c2 Γ M2 0 0 (e_mill Γ (by decide) (M2 0 0))) (v_i (by decide) (by decide)) rfl rfl rfl (Nat.le_of_ble_eq_true rfl) dX6_lock_20 (pc' := 23) rfl (fun r3 M4 => ?_)
  refine k_callVi C (rest := []) (CT.lift2 (qX1_keepIfDone l Γ hL M4 (M4 7) r3)) mwX1_keepIfDone iwX1_keepIfDone mlX6_41 (k_rm_of (by decide) (by decide)) (c2 Γ M4 7 1 (e_hist Γ (M4 7 1))) (v_7 (by decide)) rfl rfl rfl (Nat.le_of_ble_eq_true rfl) dX6_lock_23 (pc' := 26) rfl (fun r5 M6 => ?_)
  exact k_reti C rfl hr dX6_lock_26
def fX6_gate (M0 : kM2) (a1 : Int32) : Option (Int32 × kM2) :=
  bd (fX1_hold M0 0) fun r1 M2 => bd (k_on M2 0 (fX3_changeOpening (M2 0) a1)) fun r3 M4 => bd (k_on M4 7 (fX1_keepIfDone (M4 7) r3)) fun r5 M6 => some (r5, M6)
set_option maxRecDepth 100000 in
set_option maxHeartbeats 4000000 in
theorem qX6_gate (l : Launch) (Γ : kG) (hL : k_Lay Γ 314) (M0 : kM2) (a1 : Int32) : CT l Γ (K2 Γ) yX6_gate cX6_gate 2 (some .int) (k_R 4) [.ref (Γ.1 7 0), .int a1] M0 (fX6_gate M0 a1) := by
  refine k_meth (own := RX6) (by decide) rfl (Nat.le_of_ble_eq_true rfl) (fun p e R s mid args below meth c C hr => ?_)
  show Sm Γ (K2 Γ) p l e R s mid args below meth c 2 true M0 [(0, .ref (Γ.1 7 0)), (1, .int a1)] [] 0 (fX6_gate M0 a1)
  unfold fX6_gate
  refine k_aload_n C 0 dX6_gate_0 rfl rfl (pc' := 1) rfl ?_
  refine k_getf C 2 (c2 Γ M0 7 0 (e_sea Γ (M0 7 0))) (v_7 (by decide)) flX6_22 (v := .ref (Γ.1 7 1)) rfl dX6_gate_1 (pc' := 4) rfl ?_
  refine k_aload_n C 0 dX6_gate_4 rfl rfl (pc' := 5) rfl ?_
  refine k_getf C 0 (c2 Γ M0 7 0 (e_sea Γ (M0 7 0))) (v_7 (by decide)) flX6_10 (v := .ref (Γ.1 0 0)) rfl dX6_gate_5 (pc' := 8) rfl ?_
  refine k_callVv C (rest := []) (qX1_hold l Γ hL M0 0 (by decide)) mwX1_hold iwX1_hold mlX6_33 (k_rm_of (by decide) (by decide)) (c2 Γ M0 7 1 (e_hist Γ (M0 7 1))) (v_7 (by decide)) rfl rfl rfl (Nat.le_of_ble_eq_true rfl) dX6_gate_8 (pc' := 11) rfl (fun r1 M2 => ?_)
  refine k_aload_n C 0 dX6_gate_11 rfl rfl (pc' := 12) rfl ?_
  refine k_getf C 2 (c2 Γ M2 7 0 (e_sea Γ (M2 7 0))) (v_7 (by decide)) flX6_22 (v := .ref (Γ.1 7 1)) rfl dX6_gate_12 (pc' := 15) rfl ?_
  refine k_aload_n C 0 dX6_gate_15 rfl rfl (pc' := 16) rfl ?_
  refine k_getf C 0 (c2 Γ M2 7 0 (e_sea Γ (M2 7 0))) (v_7 (by decide)) flX6_10 (v := .ref (Γ.1 0 0)) rfl dX6_gate_16 (pc' := 19) rfl ?_
  refine k_iload_n C 1 dX6_gate_19 rfl rfl (pc' := 20) rfl ?_
  refine k_callVi C (rest := [.ref (Γ.1 7 1)]) (CT.lift2 (qX3_changeOpening l Γ hL M2 0 (by decide) (M2 0) a1)) mwX3_changeOpening iwX3_changeOpening mlX6_51 (k_rm_of (by decide) (by decide)) (c2 Γ M2 0 0 (e_mill Γ (by decide) (M2 0 0))) (v_i (by decide) (by decide)) rfl rfl rfl (Nat.le_of_ble_eq_true rfl) dX6_gate_20 (pc' := 23) rfl (fun r3 M4 => ?_)
  refine k_callVi C (rest := []) (CT.lift2 (qX1_keepIfDone l Γ hL M4 (M4 7) r3)) mwX1_keepIfDone iwX1_keepIfDone mlX6_41 (k_rm_of (by decide) (by decide)) (c2 Γ M4 7 1 (e_hist Γ (M4 7 1))) (v_7 (by decide)) rfl rfl rfl (Nat.le_of_ble_eq_true rfl) dX6_gate_23 (pc' := 26) rfl (fun r5 M6 => ?_)
  exact k_reti C rfl hr dX6_gate_26
