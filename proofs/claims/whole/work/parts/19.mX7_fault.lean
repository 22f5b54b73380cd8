def fX7_fault_b27 (a1 : Int32)  (m0 : kM1) (b2 : Int32) : Option (Int32 × kM1) :=
  some (b2, m0)
set_option maxRecDepth 100000 in
set_option maxHeartbeats 4000000 in
theorem sX7_fault_b27 {l : Launch} {Γ : kG} (hL : k_Lay Γ 7) {p : Program} {e : Env} {R : Room} {s : State} {mid : MethodId} {args : Array Value} {below : List Frame} {meth : Method} {c : Code} (C : k_C Γ p R s mid args meth c cX7_fault 3 RX7 (k_R 8)) (hr : meth.sig.returnType = (some .int)) (a1 : Int32)  (m0 : kM1) (b2 : Int32)  : Sm Γ (K3 Γ) p l e R s mid args below meth c 3 true m0 [(2, .int b2)] [] 27 (fX7_fault_b27 a1 m0 b2) := by
  unfold fX7_fault_b27
  refine k_iload_n C 0 dX7_fault_27 rfl rfl (pc' := 28) rfl ?_
  refine k_goto C (pc' := 35) dX7_fault_28 (by decide) ?_
  exact k_reti C rfl hr dX7_fault_35
def fX7_fault (m0 : kM1) (a1 : Int32) : Option (Int32 × kM1) :=
  bd (fX7_in m0 a1 0 1) fun r1 m2 => if r1 = 0 then some ((-1000001), m2) else bd (fX7_faulty m2) fun r4 m5 => if r4 = (-1000004) then fX7_fault_b27 a1 m5 r4 else if a1 = 0 then fX7_fault_b27 a1 m5 r4 else some (m5 0 8, m5)
set_option maxRecDepth 100000 in
set_option maxHeartbeats 4000000 in
theorem qX7_fault (l : Launch) (Γ : kG) (hL : k_Lay Γ 7) (m0 : kM1) (a1 : Int32) : CT l Γ (K3 Γ) yX7_fault cX7_fault 3 (some .int) (k_R 8) [.ref (Γ.1 0 0), .int a1] m0 (fX7_fault m0 a1) := by
  refine k_meth (own := RX7) (by decide) rfl (Nat.le_of_ble_eq_true rfl) (fun p e R s mid args below meth c C hr => ?_)
  show Sm Γ (K3 Γ) p l e R s mid args below meth c 3 true m0 [(0, .ref (Γ.1 0 0)), (1, .int a1)] [] 0 (fX7_fault m0 a1)
  unfold fX7_fault
  refine k_iload_n C 1 dX7_fault_0 rfl rfl (pc' := 1) rfl ?_
  refine k_iconst C (v := 0) dX7_fault_1 (by decide) (pc' := 2) rfl ?_
  refine k_iconst C (v := 1) dX7_fault_2 (by decide) (pc' := 3) rfl ?_
  refine k_callSi C (rest := []) (qX7_in l Γ (K3 Γ) m0 a1 0 1) mwX7_in swX7_in mlX7_29 (k_rm_of (by decide) (by decide)) rfl rfl (Nat.le_of_ble_eq_true rfl) dX7_fault_3 (pc' := 6) rfl (fun r1 m2 => ?_)
  refine k_if_ne C (tgt := 12) dX7_fault_6 (by decide) (pc' := 9) rfl (fun h3 => ?_) (fun h3 => ?_)
  · refine k_aload_n C 0 dX7_fault_12 rfl rfl (pc' := 13) rfl ?_
    refine k_callVi C (rest := []) (qX7_faulty l Γ hL m2) mwX7_faulty iwX7_faulty mlX7_200 (k_rm_of (by decide) (by decide)) (c3 Γ m2 0 (e_model Γ (m2 0))) (v_0 (by decide)) rfl rfl rfl (Nat.le_of_ble_eq_true rfl) dX7_fault_13 (pc' := 16) rfl (fun r4 m5 => ?_)
    refine k_istore_n C (lv' := [(2, .int r4), (0, .ref (Γ.1 0 0)), (1, .int a1)]) dX7_fault_16 rfl (by decide) rfl (pc' := 17) rfl ?_
    refine k_iload_n C 0 dX7_fault_17 rfl rfl (pc' := 18) rfl ?_
    refine k_ldc C (v := (-1000004)) dX7_fault_18 cnX7_151 (pc' := 20) rfl ?_
    refine k_ic_eq C (tgt := 27) dX7_fault_20 (by decide) (pc' := 23) rfl (fun h6 => ?_) (fun h6 => ?_)
    · refine k_sub [0] rfl ?_
      exact sX7_fault_b27 hL C hr a1 m5 r4
    · refine k_iload_n C 2 dX7_fault_23 rfl rfl (pc' := 24) rfl ?_
      refine k_if_ne C (tgt := 31) dX7_fault_24 (by decide) (pc' := 27) rfl (fun h7 => ?_) (fun h7 => ?_)
      · refine k_aload_n C 1 dX7_fault_31 rfl rfl (pc' := 32) rfl ?_
        refine k_getf C 8 (c3 Γ m5 0 (e_model Γ (m5 0))) (v_0 (by decide)) flX7_197 (v := .int (m5 0 8)) rfl dX7_fault_32 (pc' := 35) rfl ?_
        exact k_reti C rfl hr dX7_fault_35
      · refine k_sub [0] rfl ?_
        exact sX7_fault_b27 hL C hr a1 m5 r4
  · refine k_ldc C (v := (-1000001)) dX7_fault_9 cnX7_33 (pc' := 11) rfl ?_
    exact k_reti C rfl hr dX7_fault_11
def fX7_play_b47  (rec23 : kM1 → Int32 → Option (Int32 × kM1)) (m0 : kM1) (t0 : Int32) (t1 : Int32) : Option (Int32 × kM1) :=
  k_let (t1 + t0) fun v13 => rec23 m0 v13
set_option maxRecDepth 100000 in
set_option maxHeartbeats 4000000 in
theorem sX7_play_b47 {l : Launch} {Γ : kG} (hL : k_Lay Γ 7) {p : Program} {e : Env} {R : Room} {s : State} {mid : MethodId} {args : Array Value} {below : List Frame} {meth : Method} {c : Code} (C : k_C Γ p R s mid args meth c cX7_play 2 RX7 (k_R 8)) (hr : meth.sig.returnType = (some .int)) (rec23 : kM1 → Int32 → Option (Int32 × kM1)) (hrec23 : ∀ (m0 : kM1) (b1 : Int32), Sm Γ (K3 Γ) p l e R s mid args below meth c 2 true m0 [(0, .ref (Γ.1 0 0)), (1, .int b1)] [] 23 (rec23 m0 b1)) (m0 : kM1) (t0 : Int32) (t1 : Int32)  : Sm Γ (K3 Γ) p l e R s mid args below meth c 2 true m0 [(0, .ref (Γ.1 0 0))] [.int t0, .int t1] 47 (fX7_play_b47 rec23 m0 t0 t1) := by
  unfold fX7_play_b47
  refine k_iadd C dX7_play_47 (pc' := 48) rfl ?_
  refine k_topi (fun v13 => ?_)
  refine k_istore_n C (lv' := [(1, .int v13), (0, .ref (Γ.1 0 0))]) dX7_play_48 rfl (by decide) rfl (pc' := 49) rfl ?_
  refine k_goto C (pc' := 23) dX7_play_49 (by decide) ?_
  refine k_sub [1, 0] rfl ?_
  exact hrec23 m0 v13
def fX7_play_b23 : Nat → kM1 → Int32 → Option (Int32 × kM1)
  | 0, _, _ => none
  | n + 1, m0, b1 =>
  if (m0 0 6) ≤ (m0 0 7) then bd (fX7_acted m0 b1) fun r8 m9 => some (r8, m9) else bd (fX7_doesNext m0) fun r10 m11 => if r10 = 0 then fX7_play_b47 (fX7_play_b23 n) m11 1 b1 else fX7_play_b47 (fX7_play_b23 n) m11 0 b1
set_option maxRecDepth 100000 in
set_option maxHeartbeats 4000000 in
theorem sX7_play_b23 {l : Launch} {Γ : kG} (hL : k_Lay Γ 7) {p : Program} {e : Env} {R : Room} {s : State} {mid : MethodId} {args : Array Value} {below : List Frame} {meth : Method} {c : Code} (C : k_C Γ p R s mid args meth c cX7_play 2 RX7 (k_R 8)) (hr : meth.sig.returnType = (some .int))  (n : Nat) : ∀ (m0 : kM1) (b1 : Int32), Sm Γ (K3 Γ) p l e R s mid args below meth c 2 true m0 [(0, .ref (Γ.1 0 0)), (1, .int b1)] [] 23 (fX7_play_b23 n m0 b1) := by
  induction n with
  | zero => intros; exact k_none
  | succ n ih =>
    intro m0 b1
    unfold fX7_play_b23
    refine k_aload_n C 0 dX7_play_23 rfl rfl (pc' := 24) rfl ?_
    refine k_getf C 7 (c3 Γ m0 0 (e_model Γ (m0 0))) (v_0 (by decide)) flX7_174 (v := .int (m0 0 7)) rfl dX7_play_24 (pc' := 27) rfl ?_
    refine k_aload_n C 0 dX7_play_27 rfl rfl (pc' := 28) rfl ?_
    refine k_getf C 6 (c3 Γ m0 0 (e_model Γ (m0 0))) (v_0 (by decide)) flX7_171 (v := .int (m0 0 6)) rfl dX7_play_28 (pc' := 31) rfl ?_
    refine k_ic_ge C (tgt := 52) dX7_play_31 (by decide) (pc' := 34) rfl (fun h7 => ?_) (fun h7 => ?_)
    · refine k_aload_n C 0 dX7_play_52 rfl rfl (pc' := 53) rfl ?_
      refine k_iload_n C 1 dX7_play_53 rfl rfl (pc' := 54) rfl ?_
      refine k_callVi C (rest := []) (qX7_acted l Γ hL m0 b1) mwX7_acted iwX7_acted mlX7_127 (k_rm_of (by decide) (by decide)) (c3 Γ m0 0 (e_model Γ (m0 0))) (v_0 (by decide)) rfl rfl rfl (Nat.le_of_ble_eq_true rfl) dX7_play_54 (pc' := 57) rfl (fun r8 m9 => ?_)
      exact k_reti C rfl hr dX7_play_57
    · refine k_iload_n C 1 dX7_play_34 rfl rfl (pc' := 35) rfl ?_
      refine k_aload_n C 0 dX7_play_35 rfl rfl (pc' := 36) rfl ?_
      refine k_callVi C (rest := [.int b1]) (qX7_doesNext l Γ hL m0) mwX7_doesNext iwX7_doesNext mlX7_194 (k_rm_of (by decide) (by decide)) (c3 Γ m0 0 (e_model Γ (m0 0))) (v_0 (by decide)) rfl rfl rfl (Nat.le_of_ble_eq_true rfl) dX7_play_36 (pc' := 39) rfl (fun r10 m11 => ?_)
      refine k_if_ne C (tgt := 46) dX7_play_39 (by decide) (pc' := 42) rfl (fun h12 => ?_) (fun h12 => ?_)
      · refine k_iconst C (v := 0) dX7_play_46 (by decide) (pc' := 47) rfl ?_
        refine k_sub [0] rfl ?_
        exact sX7_play_b47 hL C hr (fX7_play_b23 n) ih m11 0 b1
      · refine k_iconst C (v := 1) dX7_play_42 (by decide) (pc' := 43) rfl ?_
        refine k_goto C (pc' := 47) dX7_play_43 (by decide) ?_
        refine k_sub [0] rfl ?_
        exact sX7_play_b47 hL C hr (fX7_play_b23 n) ih m11 1 b1
def fX7_play (m0 : kM1) : Option (Int32 × kM1) :=
  bd (fX7_faulty m0) fun r1 m2 => if r1 = (-1000004) then bd (fX7_keeps m2) fun r4 m5 => k_let (mu m5 0 7 0) fun m6 => fX7_play_b23 kFu m6 0 else some ((-1000002), m2)
set_option maxRecDepth 100000 in
set_option maxHeartbeats 4000000 in
theorem qX7_play (l : Launch) (Γ : kG) (hL : k_Lay Γ 7) (m0 : kM1) : CT l Γ (K3 Γ) yX7_play cX7_play 2 (some .int) (k_R 8) [.ref (Γ.1 0 0)] m0 (fX7_play m0 ) := by
  refine k_meth (own := RX7) (by decide) rfl (Nat.le_of_ble_eq_true rfl) (fun p e R s mid args below meth c C hr => ?_)
  show Sm Γ (K3 Γ) p l e R s mid args below meth c 2 true m0 [(0, .ref (Γ.1 0 0))] [] 0 (fX7_play m0 )
  unfold fX7_play
  refine k_aload_n C 0 dX7_play_0 rfl rfl (pc' := 1) rfl ?_
  refine k_callVi C (rest := []) (qX7_faulty l Γ hL m0) mwX7_faulty iwX7_faulty mlX7_200 (k_rm_of (by decide) (by decide)) (c3 Γ m0 0 (e_model Γ (m0 0))) (v_0 (by decide)) rfl rfl rfl (Nat.le_of_ble_eq_true rfl) dX7_play_1 (pc' := 4) rfl (fun r1 m2 => ?_)
  refine k_ldc C (v := (-1000004)) dX7_play_4 cnX7_151 (pc' := 6) rfl ?_
  refine k_ic_eq C (tgt := 12) dX7_play_6 (by decide) (pc' := 9) rfl (fun h3 => ?_) (fun h3 => ?_)
  · refine k_aload_n C 0 dX7_play_12 rfl rfl (pc' := 13) rfl ?_
    refine k_callVv C (rest := []) (qX7_keeps l Γ hL m2) mwX7_keeps iwX7_keeps mlX7_124 (k_rm_of (by decide) (by decide)) (c3 Γ m2 0 (e_model Γ (m2 0))) (v_0 (by decide)) rfl rfl rfl (Nat.le_of_ble_eq_true rfl) dX7_play_13 (pc' := 16) rfl (fun r4 m5 => ?_)
    refine k_iconst C (v := 0) dX7_play_16 (by decide) (pc' := 17) rfl ?_
    refine k_istore_n C (lv' := [(1, .int 0), (0, .ref (Γ.1 0 0))]) dX7_play_17 rfl (by decide) rfl (pc' := 18) rfl ?_
    refine k_aload_n C 1 dX7_play_18 rfl rfl (pc' := 19) rfl ?_
    refine k_iconst C (v := 0) dX7_play_19 (by decide) (pc' := 20) rfl ?_
    refine k_putf C hL.k3 7 (c3 Γ m5 0 (e_model Γ (m5 0))) (v_0 (by decide)) flX7_174 fpX7_7 (Nat.le_of_ble_eq_true rfl) (s3 Γ m5 0 7 0 ((e_model Γ _).trans (congrArg (fun z => Sum.inr (7, z)) (f_model_7 Γ (m5 0) 0)))) dX7_play_20 (pc' := 23) rfl (fun m6 => ?_)
    refine k_sub [1, 0] rfl ?_
    exact sX7_play_b23 hL C hr kFu m6 0
  · refine k_ldc C (v := (-1000002)) dX7_play_9 cnX7_105 (pc' := 11) rfl ?_
    exact k_reti C rfl hr dX7_play_11
