def fX7_keeps_b2 : Nat → kM1 → Int32 → Option (Int32 × kM1)
  | 0, _, _ => none
  | n + 1, m0, b1 =>
  if 368 ≤ b1 then some (0, m0) else if ¬ b1 < 0 ∧ b1.toNatClampNeg < 368 then if ¬ b1 < 0 ∧ b1.toNatClampNeg < 368 then k_let (mu m0 4 b1.toNatClampNeg (m0 1 b1.toNatClampNeg)) fun m4 => k_let (b1 + 1) fun v5 => fX7_keeps_b2 n m4 v5 else none else none
set_option maxRecDepth 100000 in
set_option maxHeartbeats 4000000 in
theorem sX7_keeps_b2 {l : Launch} {Γ : kG} (hL : k_Lay Γ 7) {p : Program} {e : Env} {R : Room} {s : State} {mid : MethodId} {args : Array Value} {below : List Frame} {meth : Method} {c : Code} (C : k_C Γ p R s mid args meth c cX7_keeps 2 RX7 (k_R 0)) (hr : meth.sig.returnType = none)  (n : Nat) : ∀ (m0 : kM1) (b1 : Int32), Sm Γ (K3 Γ) p l e R s mid args below meth c 2 false m0 [(0, .ref (Γ.1 0 0)), (1, .int b1)] [] 2 (fX7_keeps_b2 n m0 b1) := by
  induction n with
  | zero => intros; exact k_none
  | succ n ih =>
    intro m0 b1
    unfold fX7_keeps_b2
    refine k_iload_n C 1 dX7_keeps_2 rfl rfl (pc' := 3) rfl ?_
    refine k_sipush C (v := 368) dX7_keeps_3 (by decide) (pc' := 6) rfl ?_
    refine k_ic_ge C (tgt := 27) dX7_keeps_6 (by decide) (pc' := 9) rfl (fun h1 => ?_) (fun h1 => ?_)
    · exact k_retv C rfl hr dX7_keeps_27
    · refine k_aload_n C 0 dX7_keeps_9 rfl rfl (pc' := 10) rfl ?_
      refine k_getf C 3 (c3 Γ m0 0 (e_model Γ (m0 0))) (v_0 (by decide)) flX7_19 (v := .ref (Γ.1 0 4)) rfl dX7_keeps_10 (pc' := 13) rfl ?_
      refine k_iload_n C 1 dX7_keeps_13 rfl rfl (pc' := 14) rfl ?_
      refine k_aload_n C 0 dX7_keeps_14 rfl rfl (pc' := 15) rfl ?_
      refine k_getf C 0 (c3 Γ m0 0 (e_model Γ (m0 0))) (v_0 (by decide)) flX7_7 (v := .ref (Γ.1 0 1)) rfl dX7_keeps_15 (pc' := 18) rfl ?_
      refine k_iload_n C 1 dX7_keeps_18 rfl rfl (pc' := 19) rfl ?_
      refine k_iald C (c3 Γ m0 1 (e_d Γ (m0 1))) (v_0 (by decide)) dX7_keeps_19 (pc' := 20) rfl (fun h2 => ?_)
      refine k_iast C hL.k3 (c3 Γ m0 4 (e_begun Γ (m0 4))) (v_0 (by decide)) (s3 Γ m0 4 b1.toNatClampNeg (m0 1 b1.toNatClampNeg) (e_begun Γ _)) dX7_keeps_20 (pc' := 21) rfl (fun h3 m4 => ?_)
      refine k_iinc (v := 1) (q := 1) (lv' := [(0, .ref (Γ.1 0 0))]) C dX7_keeps_21 rfl (by decide) (by decide) (pc' := 24) rfl (fun _ => rfl) (fun v5 => ?_)
      refine k_goto C (pc' := 2) dX7_keeps_24 (by decide) ?_
      refine k_sub [1, 0] rfl ?_
      exact ih m4 v5
def fX7_keeps (m0 : kM1) : Option (Int32 × kM1) :=
  fX7_keeps_b2 kFu m0 0
set_option maxRecDepth 100000 in
set_option maxHeartbeats 4000000 in
theorem qX7_keeps (l : Launch) (Γ : kG) (hL : k_Lay Γ 7) (m0 : kM1) : CT l Γ (K3 Γ) yX7_keeps cX7_keeps 2 none (k_R 0) [.ref (Γ.1 0 0)] m0 (fX7_keeps m0 ) := by
  refine k_meth (own := RX7) (by decide) rfl (Nat.le_of_ble_eq_true rfl) (fun p e R s mid args below meth c C hr => ?_)
  show Sm Γ (K3 Γ) p l e R s mid args below meth c 2 false m0 [(0, .ref (Γ.1 0 0))] [] 0 (fX7_keeps m0 )
  unfold fX7_keeps
  refine k_iconst C (v := 0) dX7_keeps_0 (by decide) (pc' := 1) rfl ?_
  refine k_istore_n C (lv' := [(1, .int 0), (0, .ref (Γ.1 0 0))]) dX7_keeps_1 rfl (by decide) rfl (pc' := 2) rfl ?_
  refine k_sub [1, 0] rfl ?_
  exact sX7_keeps_b2 hL C hr kFu m0 0
def fX7_acted_b57 (a1 : Int32) : Nat → kM1 → Int32 → Option (Int32 × kM1)
  | 0, _, _ => none
  | n + 1, m0, b2 =>
  if 368 ≤ b2 then k_let (mu m0 0 4 ((m0 0 4) + 1)) fun m4 => some (a1, m4) else if ¬ b2 < 0 ∧ b2.toNatClampNeg < 368 then if ¬ ((368 * (m0 0 4)) + b2) < 0 ∧ ((368 * (m0 0 4)) + b2).toNatClampNeg < 1472 then k_let (mu m0 2 ((368 * (m0 0 4)) + b2).toNatClampNeg (m0 4 b2.toNatClampNeg)) fun m7 => k_let (b2 + 1) fun v8 => fX7_acted_b57 a1 n m7 v8 else none else none
set_option maxRecDepth 100000 in
set_option maxHeartbeats 4000000 in
theorem sX7_acted_b57 {l : Launch} {Γ : kG} (hL : k_Lay Γ 7) {p : Program} {e : Env} {R : Room} {s : State} {mid : MethodId} {args : Array Value} {below : List Frame} {meth : Method} {c : Code} (C : k_C Γ p R s mid args meth c cX7_acted 3 RX7 (k_R 0)) (hr : meth.sig.returnType = (some .int)) (a1 : Int32)  (n : Nat) : ∀ (m0 : kM1) (b2 : Int32), Sm Γ (K3 Γ) p l e R s mid args below meth c 3 true m0 [(0, .ref (Γ.1 0 0)), (1, .int a1), (2, .int b2)] [] 57 (fX7_acted_b57 a1 n m0 b2) := by
  induction n with
  | zero => intros; exact k_none
  | succ n ih =>
    intro m0 b2
    unfold fX7_acted_b57
    refine k_iload_n C 2 dX7_acted_57 rfl rfl (pc' := 58) rfl ?_
    refine k_sipush C (v := 368) dX7_acted_58 (by decide) (pc' := 61) rfl ?_
    refine k_ic_ge C (tgt := 91) dX7_acted_61 (by decide) (pc' := 64) rfl (fun h3 => ?_) (fun h3 => ?_)
    · refine k_aload_n C 0 dX7_acted_91 rfl rfl (pc' := 92) rfl ?_
      refine k_dup C dX7_acted_92 rfl (pc' := 93) rfl ?_
      refine k_getf C 4 (c3 Γ m0 0 (e_model Γ (m0 0))) (v_0 (by decide)) flX7_34 (v := .int (m0 0 4)) rfl dX7_acted_93 (pc' := 96) rfl ?_
      refine k_iconst C (v := 1) dX7_acted_96 (by decide) (pc' := 97) rfl ?_
      refine k_iadd C dX7_acted_97 (pc' := 98) rfl ?_
      refine k_putf C hL.k3 4 (c3 Γ m0 0 (e_model Γ (m0 0))) (v_0 (by decide)) flX7_34 fpX7_4 (Nat.le_of_ble_eq_true rfl) (s3 Γ m0 0 4 ((m0 0 4) + 1) ((e_model Γ _).trans (congrArg (fun z => Sum.inr (7, z)) (f_model_4 Γ (m0 0) ((m0 0 4) + 1))))) dX7_acted_98 (pc' := 101) rfl (fun m4 => ?_)
      refine k_iload_n C 1 dX7_acted_101 rfl rfl (pc' := 102) rfl ?_
      exact k_reti C rfl hr dX7_acted_102
    · refine k_aload_n C 0 dX7_acted_64 rfl rfl (pc' := 65) rfl ?_
      refine k_getf C 1 (c3 Γ m0 0 (e_model Γ (m0 0))) (v_0 (by decide)) flX7_13 (v := .ref (Γ.1 0 2)) rfl dX7_acted_65 (pc' := 68) rfl ?_
      refine k_sipush C (v := 368) dX7_acted_68 (by decide) (pc' := 71) rfl ?_
      refine k_aload_n C 0 dX7_acted_71 rfl rfl (pc' := 72) rfl ?_
      refine k_getf C 4 (c3 Γ m0 0 (e_model Γ (m0 0))) (v_0 (by decide)) flX7_34 (v := .int (m0 0 4)) rfl dX7_acted_72 (pc' := 75) rfl ?_
      refine k_imul C dX7_acted_75 (pc' := 76) rfl ?_
      refine k_iload_n C 2 dX7_acted_76 rfl rfl (pc' := 77) rfl ?_
      refine k_iadd C dX7_acted_77 (pc' := 78) rfl ?_
      refine k_aload_n C 0 dX7_acted_78 rfl rfl (pc' := 79) rfl ?_
      refine k_getf C 3 (c3 Γ m0 0 (e_model Γ (m0 0))) (v_0 (by decide)) flX7_19 (v := .ref (Γ.1 0 4)) rfl dX7_acted_79 (pc' := 82) rfl ?_
      refine k_iload_n C 2 dX7_acted_82 rfl rfl (pc' := 83) rfl ?_
      refine k_iald C (c3 Γ m0 4 (e_begun Γ (m0 4))) (v_0 (by decide)) dX7_acted_83 (pc' := 84) rfl (fun h5 => ?_)
      refine k_iast C hL.k3 (c3 Γ m0 2 (e_was Γ (m0 2))) (v_0 (by decide)) (s3 Γ m0 2 ((368 * (m0 0 4)) + b2).toNatClampNeg (m0 4 b2.toNatClampNeg) (e_was Γ _)) dX7_acted_84 (pc' := 85) rfl (fun h6 m7 => ?_)
      refine k_iinc (v := 1) (q := 2) (lv' := [(0, .ref (Γ.1 0 0)), (1, .int a1)]) C dX7_acted_85 rfl (by decide) (by decide) (pc' := 88) rfl (fun _ => rfl) (fun v8 => ?_)
      refine k_goto C (pc' := 57) dX7_acted_88 (by decide) ?_
      refine k_sub [1, 2, 0] rfl ?_
      exact ih m7 v8
def fX7_acted_b55 (a1 : Int32)  (m0 : kM1) : Option (Int32 × kM1) :=
  fX7_acted_b57 a1 kFu m0 0
set_option maxRecDepth 100000 in
set_option maxHeartbeats 4000000 in
theorem sX7_acted_b55 {l : Launch} {Γ : kG} (hL : k_Lay Γ 7) {p : Program} {e : Env} {R : Room} {s : State} {mid : MethodId} {args : Array Value} {below : List Frame} {meth : Method} {c : Code} (C : k_C Γ p R s mid args meth c cX7_acted 3 RX7 (k_R 0)) (hr : meth.sig.returnType = (some .int)) (a1 : Int32)  (m0 : kM1)   : Sm Γ (K3 Γ) p l e R s mid args below meth c 3 true m0 [(0, .ref (Γ.1 0 0)), (1, .int a1)] [] 55 (fX7_acted_b55 a1 m0) := by
  unfold fX7_acted_b55
  refine k_iconst C (v := 0) dX7_acted_55 (by decide) (pc' := 56) rfl ?_
  refine k_istore_n C (lv' := [(2, .int 0), (0, .ref (Γ.1 0 0)), (1, .int a1)]) dX7_acted_56 rfl (by decide) rfl (pc' := 57) rfl ?_
  refine k_sub [1, 2, 0] rfl ?_
  exact sX7_acted_b57 hL C hr a1 kFu m0 0
def fX7_acted_b16 (a1 : Int32) : Nat → kM1 → Int32 → Option (Int32 × kM1)
  | 0, _, _ => none
  | n + 1, m0, b2 =>
  if 1104 ≤ b2 then k_let (mu m0 0 4 ((m0 0 4) - 1)) fun m10 => fX7_acted_b55 a1 m10 else if ¬ (b2 + 368) < 0 ∧ (b2 + 368).toNatClampNeg < 1472 then if ¬ b2 < 0 ∧ b2.toNatClampNeg < 1472 then k_let (mu m0 2 b2.toNatClampNeg (m0 2 (b2 + 368).toNatClampNeg)) fun m13 => k_let (b2 + 1) fun v14 => fX7_acted_b16 a1 n m13 v14 else none else none
set_option maxRecDepth 100000 in
set_option maxHeartbeats 4000000 in
theorem sX7_acted_b16 {l : Launch} {Γ : kG} (hL : k_Lay Γ 7) {p : Program} {e : Env} {R : Room} {s : State} {mid : MethodId} {args : Array Value} {below : List Frame} {meth : Method} {c : Code} (C : k_C Γ p R s mid args meth c cX7_acted 3 RX7 (k_R 0)) (hr : meth.sig.returnType = (some .int)) (a1 : Int32)  (n : Nat) : ∀ (m0 : kM1) (b2 : Int32), Sm Γ (K3 Γ) p l e R s mid args below meth c 3 true m0 [(0, .ref (Γ.1 0 0)), (1, .int a1), (2, .int b2)] [] 16 (fX7_acted_b16 a1 n m0 b2) := by
  induction n with
  | zero => intros; exact k_none
  | succ n ih =>
    intro m0 b2
    unfold fX7_acted_b16
    refine k_iload_n C 2 dX7_acted_16 rfl rfl (pc' := 17) rfl ?_
    refine k_sipush C (v := 1104) dX7_acted_17 (by decide) (pc' := 20) rfl ?_
    refine k_ic_ge C (tgt := 45) dX7_acted_20 (by decide) (pc' := 23) rfl (fun h9 => ?_) (fun h9 => ?_)
    · refine k_aload_n C 0 dX7_acted_45 rfl rfl (pc' := 46) rfl ?_
      refine k_dup C dX7_acted_46 rfl (pc' := 47) rfl ?_
      refine k_getf C 4 (c3 Γ m0 0 (e_model Γ (m0 0))) (v_0 (by decide)) flX7_34 (v := .int (m0 0 4)) rfl dX7_acted_47 (pc' := 50) rfl ?_
      refine k_iconst C (v := 1) dX7_acted_50 (by decide) (pc' := 51) rfl ?_
      refine k_isub C dX7_acted_51 (pc' := 52) rfl ?_
      refine k_putf C hL.k3 4 (c3 Γ m0 0 (e_model Γ (m0 0))) (v_0 (by decide)) flX7_34 fpX7_4 (Nat.le_of_ble_eq_true rfl) (s3 Γ m0 0 4 ((m0 0 4) - 1) ((e_model Γ _).trans (congrArg (fun z => Sum.inr (7, z)) (f_model_4 Γ (m0 0) ((m0 0 4) - 1))))) dX7_acted_52 (pc' := 55) rfl (fun m10 => ?_)
      refine k_sub [0, 1] rfl ?_
      exact sX7_acted_b55 hL C hr a1 m10
    · refine k_aload_n C 0 dX7_acted_23 rfl rfl (pc' := 24) rfl ?_
      refine k_getf C 1 (c3 Γ m0 0 (e_model Γ (m0 0))) (v_0 (by decide)) flX7_13 (v := .ref (Γ.1 0 2)) rfl dX7_acted_24 (pc' := 27) rfl ?_
      refine k_iload_n C 2 dX7_acted_27 rfl rfl (pc' := 28) rfl ?_
      refine k_aload_n C 0 dX7_acted_28 rfl rfl (pc' := 29) rfl ?_
      refine k_getf C 1 (c3 Γ m0 0 (e_model Γ (m0 0))) (v_0 (by decide)) flX7_13 (v := .ref (Γ.1 0 2)) rfl dX7_acted_29 (pc' := 32) rfl ?_
      refine k_iload_n C 2 dX7_acted_32 rfl rfl (pc' := 33) rfl ?_
      refine k_sipush C (v := 368) dX7_acted_33 (by decide) (pc' := 36) rfl ?_
      refine k_iadd C dX7_acted_36 (pc' := 37) rfl ?_
      refine k_iald C (c3 Γ m0 2 (e_was Γ (m0 2))) (v_0 (by decide)) dX7_acted_37 (pc' := 38) rfl (fun h11 => ?_)
      refine k_iast C hL.k3 (c3 Γ m0 2 (e_was Γ (m0 2))) (v_0 (by decide)) (s3 Γ m0 2 b2.toNatClampNeg (m0 2 (b2 + 368).toNatClampNeg) (e_was Γ _)) dX7_acted_38 (pc' := 39) rfl (fun h12 m13 => ?_)
      refine k_iinc (v := 1) (q := 2) (lv' := [(0, .ref (Γ.1 0 0)), (1, .int a1)]) C dX7_acted_39 rfl (by decide) (by decide) (pc' := 42) rfl (fun _ => rfl) (fun v14 => ?_)
      refine k_goto C (pc' := 16) dX7_acted_42 (by decide) ?_
      refine k_sub [1, 2, 0] rfl ?_
      exact ih m13 v14
def fX7_acted (m0 : kM1) (a1 : Int32) : Option (Int32 × kM1) :=
  if a1 ≤ (-1000001) then some (a1, m0) else if (m0 0 4) = 4 then fX7_acted_b16 a1 kFu m0 0 else fX7_acted_b55 a1 m0
set_option maxRecDepth 100000 in
set_option maxHeartbeats 4000000 in
theorem qX7_acted (l : Launch) (Γ : kG) (hL : k_Lay Γ 7) (m0 : kM1) (a1 : Int32) : CT l Γ (K3 Γ) yX7_acted cX7_acted 3 (some .int) (k_R 0) [.ref (Γ.1 0 0), .int a1] m0 (fX7_acted m0 a1) := by
  refine k_meth (own := RX7) (by decide) rfl (Nat.le_of_ble_eq_true rfl) (fun p e R s mid args below meth c C hr => ?_)
  show Sm Γ (K3 Γ) p l e R s mid args below meth c 3 true m0 [(0, .ref (Γ.1 0 0)), (1, .int a1)] [] 0 (fX7_acted m0 a1)
  unfold fX7_acted
  refine k_iload_n C 1 dX7_acted_0 rfl rfl (pc' := 1) rfl ?_
  refine k_ldc C (v := (-1000001)) dX7_acted_1 cnX7_33 (pc' := 3) rfl ?_
  refine k_ic_le C (tgt := 101) dX7_acted_3 (by decide) (pc' := 6) rfl (fun h1 => ?_) (fun h1 => ?_)
  · refine k_iload_n C 1 dX7_acted_101 rfl rfl (pc' := 102) rfl ?_
    exact k_reti C rfl hr dX7_acted_102
  · refine k_aload_n C 0 dX7_acted_6 rfl rfl (pc' := 7) rfl ?_
    refine k_getf C 4 (c3 Γ m0 0 (e_model Γ (m0 0))) (v_0 (by decide)) flX7_34 (v := .int (m0 0 4)) rfl dX7_acted_7 (pc' := 10) rfl ?_
    refine k_iconst C (v := 4) dX7_acted_10 (by decide) (pc' := 11) rfl ?_
    refine k_ic_ne C (tgt := 55) dX7_acted_11 (by decide) (pc' := 14) rfl (fun h2 => ?_) (fun h2 => ?_)
    · exact sX7_acted_b55 hL C hr a1 m0
    · refine k_iconst C (v := 0) dX7_acted_14 (by decide) (pc' := 15) rfl ?_
      refine k_istore_n C (lv' := [(2, .int 0), (0, .ref (Γ.1 0 0)), (1, .int a1)]) dX7_acted_15 rfl (by decide) rfl (pc' := 16) rfl ?_
      refine k_sub [1, 2, 0] rfl ?_
      exact sX7_acted_b16 hL C hr a1 kFu m0 0
def fX7_lays_b2 : Nat → kM1 → Int32 → Option (Int32 × kM1)
  | 0, _, _ => none
  | n + 1, m0, b1 =>
  if 368 ≤ b1 then some (0, m0) else if ¬ b1 < 0 ∧ b1.toNatClampNeg < 368 then if ¬ b1 < 0 ∧ b1.toNatClampNeg < 368 then k_let (mu m0 3 b1.toNatClampNeg (m0 1 b1.toNatClampNeg)) fun m4 => k_let (b1 + 1) fun v5 => fX7_lays_b2 n m4 v5 else none else none
set_option maxRecDepth 100000 in
set_option maxHeartbeats 4000000 in
theorem sX7_lays_b2 {l : Launch} {Γ : kG} (hL : k_Lay Γ 7) {p : Program} {e : Env} {R : Room} {s : State} {mid : MethodId} {args : Array Value} {below : List Frame} {meth : Method} {c : Code} (C : k_C Γ p R s mid args meth c cX7_lays 2 RX7 (k_R 0)) (hr : meth.sig.returnType = none)  (n : Nat) : ∀ (m0 : kM1) (b1 : Int32), Sm Γ (K3 Γ) p l e R s mid args below meth c 2 false m0 [(0, .ref (Γ.1 0 0)), (1, .int b1)] [] 2 (fX7_lays_b2 n m0 b1) := by
  induction n with
  | zero => intros; exact k_none
  | succ n ih =>
    intro m0 b1
    unfold fX7_lays_b2
    refine k_iload_n C 1 dX7_lays_2 rfl rfl (pc' := 3) rfl ?_
    refine k_sipush C (v := 368) dX7_lays_3 (by decide) (pc' := 6) rfl ?_
    refine k_ic_ge C (tgt := 27) dX7_lays_6 (by decide) (pc' := 9) rfl (fun h1 => ?_) (fun h1 => ?_)
    · exact k_retv C rfl hr dX7_lays_27
    · refine k_aload_n C 0 dX7_lays_9 rfl rfl (pc' := 10) rfl ?_
      refine k_getf C 2 (c3 Γ m0 0 (e_model Γ (m0 0))) (v_0 (by decide)) flX7_16 (v := .ref (Γ.1 0 3)) rfl dX7_lays_10 (pc' := 13) rfl ?_
      refine k_iload_n C 1 dX7_lays_13 rfl rfl (pc' := 14) rfl ?_
      refine k_aload_n C 0 dX7_lays_14 rfl rfl (pc' := 15) rfl ?_
      refine k_getf C 0 (c3 Γ m0 0 (e_model Γ (m0 0))) (v_0 (by decide)) flX7_7 (v := .ref (Γ.1 0 1)) rfl dX7_lays_15 (pc' := 18) rfl ?_
      refine k_iload_n C 1 dX7_lays_18 rfl rfl (pc' := 19) rfl ?_
      refine k_iald C (c3 Γ m0 1 (e_d Γ (m0 1))) (v_0 (by decide)) dX7_lays_19 (pc' := 20) rfl (fun h2 => ?_)
      refine k_iast C hL.k3 (c3 Γ m0 3 (e_aside Γ (m0 3))) (v_0 (by decide)) (s3 Γ m0 3 b1.toNatClampNeg (m0 1 b1.toNatClampNeg) (e_aside Γ _)) dX7_lays_20 (pc' := 21) rfl (fun h3 m4 => ?_)
      refine k_iinc (v := 1) (q := 1) (lv' := [(0, .ref (Γ.1 0 0))]) C dX7_lays_21 rfl (by decide) (by decide) (pc' := 24) rfl (fun _ => rfl) (fun v5 => ?_)
      refine k_goto C (pc' := 2) dX7_lays_24 (by decide) ?_
      refine k_sub [1, 0] rfl ?_
      exact ih m4 v5
def fX7_lays (m0 : kM1) : Option (Int32 × kM1) :=
  fX7_lays_b2 kFu m0 0
set_option maxRecDepth 100000 in
set_option maxHeartbeats 4000000 in
theorem qX7_lays (l : Launch) (Γ : kG) (hL : k_Lay Γ 7) (m0 : kM1) : CT l Γ (K3 Γ) yX7_lays cX7_lays 2 none (k_R 0) [.ref (Γ.1 0 0)] m0 (fX7_lays m0 ) := by
  refine k_meth (own := RX7) (by decide) rfl (Nat.le_of_ble_eq_true rfl) (fun p e R s mid args below meth c C hr => ?_)
  show Sm Γ (K3 Γ) p l e R s mid args below meth c 2 false m0 [(0, .ref (Γ.1 0 0))] [] 0 (fX7_lays m0 )
  unfold fX7_lays
  refine k_iconst C (v := 0) dX7_lays_0 (by decide) (pc' := 1) rfl ?_
  refine k_istore_n C (lv' := [(1, .int 0), (0, .ref (Γ.1 0 0))]) dX7_lays_1 rfl (by decide) rfl (pc' := 2) rfl ?_
  refine k_sub [1, 0] rfl ?_
  exact sX7_lays_b2 hL C hr kFu m0 0
def fX7_restores_b2 : Nat → kM1 → Int32 → Option (Int32 × kM1)
  | 0, _, _ => none
  | n + 1, m0, b1 =>
  if 368 ≤ b1 then some (0, m0) else if ¬ b1 < 0 ∧ b1.toNatClampNeg < 368 then if ¬ b1 < 0 ∧ b1.toNatClampNeg < 368 then k_let (mu m0 1 b1.toNatClampNeg (m0 3 b1.toNatClampNeg)) fun m4 => k_let (b1 + 1) fun v5 => fX7_restores_b2 n m4 v5 else none else none
set_option maxRecDepth 100000 in
set_option maxHeartbeats 4000000 in
theorem sX7_restores_b2 {l : Launch} {Γ : kG} (hL : k_Lay Γ 7) {p : Program} {e : Env} {R : Room} {s : State} {mid : MethodId} {args : Array Value} {below : List Frame} {meth : Method} {c : Code} (C : k_C Γ p R s mid args meth c cX7_restores 2 RX7 (k_R 0)) (hr : meth.sig.returnType = none)  (n : Nat) : ∀ (m0 : kM1) (b1 : Int32), Sm Γ (K3 Γ) p l e R s mid args below meth c 2 false m0 [(0, .ref (Γ.1 0 0)), (1, .int b1)] [] 2 (fX7_restores_b2 n m0 b1) := by
  induction n with
  | zero => intros; exact k_none
  | succ n ih =>
    intro m0 b1
    unfold fX7_restores_b2
    refine k_iload_n C 1 dX7_restores_2 rfl rfl (pc' := 3) rfl ?_
    refine k_sipush C (v := 368) dX7_restores_3 (by decide) (pc' := 6) rfl ?_
    refine k_ic_ge C (tgt := 27) dX7_restores_6 (by decide) (pc' := 9) rfl (fun h1 => ?_) (fun h1 => ?_)
    · exact k_retv C rfl hr dX7_restores_27
    · refine k_aload_n C 0 dX7_restores_9 rfl rfl (pc' := 10) rfl ?_
      refine k_getf C 0 (c3 Γ m0 0 (e_model Γ (m0 0))) (v_0 (by decide)) flX7_7 (v := .ref (Γ.1 0 1)) rfl dX7_restores_10 (pc' := 13) rfl ?_
      refine k_iload_n C 1 dX7_restores_13 rfl rfl (pc' := 14) rfl ?_
      refine k_aload_n C 0 dX7_restores_14 rfl rfl (pc' := 15) rfl ?_
      refine k_getf C 2 (c3 Γ m0 0 (e_model Γ (m0 0))) (v_0 (by decide)) flX7_16 (v := .ref (Γ.1 0 3)) rfl dX7_restores_15 (pc' := 18) rfl ?_
      refine k_iload_n C 1 dX7_restores_18 rfl rfl (pc' := 19) rfl ?_
      refine k_iald C (c3 Γ m0 3 (e_aside Γ (m0 3))) (v_0 (by decide)) dX7_restores_19 (pc' := 20) rfl (fun h2 => ?_)
      refine k_iast C hL.k3 (c3 Γ m0 1 (e_d Γ (m0 1))) (v_0 (by decide)) (s3 Γ m0 1 b1.toNatClampNeg (m0 3 b1.toNatClampNeg) (e_d Γ _)) dX7_restores_20 (pc' := 21) rfl (fun h3 m4 => ?_)
      refine k_iinc (v := 1) (q := 1) (lv' := [(0, .ref (Γ.1 0 0))]) C dX7_restores_21 rfl (by decide) (by decide) (pc' := 24) rfl (fun _ => rfl) (fun v5 => ?_)
      refine k_goto C (pc' := 2) dX7_restores_24 (by decide) ?_
      refine k_sub [1, 0] rfl ?_
      exact ih m4 v5
def fX7_restores (m0 : kM1) : Option (Int32 × kM1) :=
  fX7_restores_b2 kFu m0 0
set_option maxRecDepth 100000 in
set_option maxHeartbeats 4000000 in
theorem qX7_restores (l : Launch) (Γ : kG) (hL : k_Lay Γ 7) (m0 : kM1) : CT l Γ (K3 Γ) yX7_restores cX7_restores 2 none (k_R 0) [.ref (Γ.1 0 0)] m0 (fX7_restores m0 ) := by
  refine k_meth (own := RX7) (by decide) rfl (Nat.le_of_ble_eq_true rfl) (fun p e R s mid args below meth c C hr => ?_)
  show Sm Γ (K3 Γ) p l e R s mid args below meth c 2 false m0 [(0, .ref (Γ.1 0 0))] [] 0 (fX7_restores m0 )
  unfold fX7_restores
  refine k_iconst C (v := 0) dX7_restores_0 (by decide) (pc' := 1) rfl ?_
  refine k_istore_n C (lv' := [(1, .int 0), (0, .ref (Γ.1 0 0))]) dX7_restores_1 rfl (by decide) rfl (pc' := 2) rfl ?_
  refine k_sub [1, 0] rfl ?_
  exact sX7_restores_b2 hL C hr kFu m0 0
def fX7_toll (m0 : kM1) (a1 : Int32) : Option (Int32 × kM1) :=
  bd (fX7_of m0 a1 4) fun r1 m2 => bd (fX7_of m2 a1 5) fun r3 m4 => some ((r1 * r3) / 100, m4)
set_option maxRecDepth 100000 in
set_option maxHeartbeats 4000000 in
theorem qX7_toll (l : Launch) (Γ : kG) (hL : k_Lay Γ 7) (m0 : kM1) (a1 : Int32) : CT l Γ (K3 Γ) yX7_toll cX7_toll 2 (some .int) (k_R 1) [.ref (Γ.1 0 0), .int a1] m0 (fX7_toll m0 a1) := by
  refine k_meth (own := RX7) (by decide) rfl (Nat.le_of_ble_eq_true rfl) (fun p e R s mid args below meth c C hr => ?_)
  show Sm Γ (K3 Γ) p l e R s mid args below meth c 2 true m0 [(0, .ref (Γ.1 0 0)), (1, .int a1)] [] 0 (fX7_toll m0 a1)
  unfold fX7_toll
  refine k_aload_n C 0 dX7_toll_0 rfl rfl (pc' := 1) rfl ?_
  refine k_iload_n C 1 dX7_toll_1 rfl rfl (pc' := 2) rfl ?_
  refine k_iconst C (v := 4) dX7_toll_2 (by decide) (pc' := 3) rfl ?_
  refine k_callVi C (rest := []) (qX7_of l Γ hL m0 a1 4) mwX7_of iwX7_of mlX7_38 (k_rm_of (by decide) (by decide)) (c3 Γ m0 0 (e_model Γ (m0 0))) (v_0 (by decide)) rfl rfl rfl (Nat.le_of_ble_eq_true rfl) dX7_toll_3 (pc' := 6) rfl (fun r1 m2 => ?_)
  refine k_aload_n C 0 dX7_toll_6 rfl rfl (pc' := 7) rfl ?_
  refine k_iload_n C 1 dX7_toll_7 rfl rfl (pc' := 8) rfl ?_
  refine k_iconst C (v := 5) dX7_toll_8 (by decide) (pc' := 9) rfl ?_
  refine k_callVi C (rest := [.int r1]) (qX7_of l Γ hL m2 a1 5) mwX7_of iwX7_of mlX7_38 (k_rm_of (by decide) (by decide)) (c3 Γ m2 0 (e_model Γ (m2 0))) (v_0 (by decide)) rfl rfl rfl (Nat.le_of_ble_eq_true rfl) dX7_toll_9 (pc' := 12) rfl (fun r3 m4 => ?_)
  refine k_imul C dX7_toll_12 (pc' := 13) rfl ?_
  refine k_bipush C (v := 100) dX7_toll_13 (by decide) (pc' := 15) rfl ?_
  refine k_idivK C dX7_toll_15 (by decide) (pc' := 16) rfl ?_
  exact k_reti C rfl hr dX7_toll_16
def fX7_dust (m0 : kM1) (a1 : Int32) : Option (Int32 × kM1) :=
  bd (fX7_of m0 a1 4) fun r1 m2 => bd (fX7_toll m2 a1) fun r3 m4 => bd (fX7_of m4 a1 1) fun r5 m6 => if ¬ ((30 + (3 * r5)) + 1) < 0 ∧ ((30 + (3 * r5)) + 1).toNatClampNeg < 368 then some (((r1 - r3) * (m6 1 ((30 + (3 * r5)) + 1).toNatClampNeg)) / 100, m6) else none
set_option maxRecDepth 100000 in
set_option maxHeartbeats 4000000 in
theorem qX7_dust (l : Launch) (Γ : kG) (hL : k_Lay Γ 7) (m0 : kM1) (a1 : Int32) : CT l Γ (K3 Γ) yX7_dust cX7_dust 2 (some .int) (k_R 2) [.ref (Γ.1 0 0), .int a1] m0 (fX7_dust m0 a1) := by
  refine k_meth (own := RX7) (by decide) rfl (Nat.le_of_ble_eq_true rfl) (fun p e R s mid args below meth c C hr => ?_)
  show Sm Γ (K3 Γ) p l e R s mid args below meth c 2 true m0 [(0, .ref (Γ.1 0 0)), (1, .int a1)] [] 0 (fX7_dust m0 a1)
  unfold fX7_dust
  refine k_aload_n C 0 dX7_dust_0 rfl rfl (pc' := 1) rfl ?_
  refine k_iload_n C 1 dX7_dust_1 rfl rfl (pc' := 2) rfl ?_
  refine k_iconst C (v := 4) dX7_dust_2 (by decide) (pc' := 3) rfl ?_
  refine k_callVi C (rest := []) (qX7_of l Γ hL m0 a1 4) mwX7_of iwX7_of mlX7_38 (k_rm_of (by decide) (by decide)) (c3 Γ m0 0 (e_model Γ (m0 0))) (v_0 (by decide)) rfl rfl rfl (Nat.le_of_ble_eq_true rfl) dX7_dust_3 (pc' := 6) rfl (fun r1 m2 => ?_)
  refine k_aload_n C 0 dX7_dust_6 rfl rfl (pc' := 7) rfl ?_
  refine k_iload_n C 1 dX7_dust_7 rfl rfl (pc' := 8) rfl ?_
  refine k_callVi C (rest := [.int r1]) (qX7_toll l Γ hL m2 a1) mwX7_toll iwX7_toll mlX7_42 (k_rm_of (by decide) (by decide)) (c3 Γ m2 0 (e_model Γ (m2 0))) (v_0 (by decide)) rfl rfl rfl (Nat.le_of_ble_eq_true rfl) dX7_dust_8 (pc' := 11) rfl (fun r3 m4 => ?_)
  refine k_isub C dX7_dust_11 (pc' := 12) rfl ?_
  refine k_aload_n C 0 dX7_dust_12 rfl rfl (pc' := 13) rfl ?_
  refine k_getf C 0 (c3 Γ m4 0 (e_model Γ (m4 0))) (v_0 (by decide)) flX7_7 (v := .ref (Γ.1 0 1)) rfl dX7_dust_13 (pc' := 16) rfl ?_
  refine k_bipush C (v := 30) dX7_dust_16 (by decide) (pc' := 18) rfl ?_
  refine k_iconst C (v := 3) dX7_dust_18 (by decide) (pc' := 19) rfl ?_
  refine k_aload_n C 0 dX7_dust_19 rfl rfl (pc' := 20) rfl ?_
  refine k_iload_n C 1 dX7_dust_20 rfl rfl (pc' := 21) rfl ?_
  refine k_iconst C (v := 1) dX7_dust_21 (by decide) (pc' := 22) rfl ?_
  refine k_callVi C (rest := [.int 3, .int 30, .ref (Γ.1 0 1), .int (r1 - r3)]) (qX7_of l Γ hL m4 a1 1) mwX7_of iwX7_of mlX7_38 (k_rm_of (by decide) (by decide)) (c3 Γ m4 0 (e_model Γ (m4 0))) (v_0 (by decide)) rfl rfl rfl (Nat.le_of_ble_eq_true rfl) dX7_dust_22 (pc' := 25) rfl (fun r5 m6 => ?_)
  refine k_imul C dX7_dust_25 (pc' := 26) rfl ?_
  refine k_iadd C dX7_dust_26 (pc' := 27) rfl ?_
  refine k_iconst C (v := 1) dX7_dust_27 (by decide) (pc' := 28) rfl ?_
  refine k_iadd C dX7_dust_28 (pc' := 29) rfl ?_
  refine k_iald C (c3 Γ m6 1 (e_d Γ (m6 1))) (v_0 (by decide)) dX7_dust_29 (pc' := 30) rfl (fun h7 => ?_)
  refine k_imul C dX7_dust_30 (pc' := 31) rfl ?_
  refine k_bipush C (v := 100) dX7_dust_31 (by decide) (pc' := 33) rfl ?_
  refine k_idivK C dX7_dust_33 (by decide) (pc' := 34) rfl ?_
  exact k_reti C rfl hr dX7_dust_34
def fX7_grain (m0 : kM1) (a1 : Int32) : Option (Int32 × kM1) :=
  bd (fX7_of m0 a1 3) fun r1 m2 => if r1 = 3 then some (0, m2) else bd (fX7_of m2 a1 2) fun r4 m5 => bd (fX7_of m5 a1 4) fun r6 m7 => some (r4 - r6, m7)
set_option maxRecDepth 100000 in
set_option maxHeartbeats 4000000 in
theorem qX7_grain (l : Launch) (Γ : kG) (hL : k_Lay Γ 7) (m0 : kM1) (a1 : Int32) : CT l Γ (K3 Γ) yX7_grain cX7_grain 2 (some .int) (k_R 1) [.ref (Γ.1 0 0), .int a1] m0 (fX7_grain m0 a1) := by
  refine k_meth (own := RX7) (by decide) rfl (Nat.le_of_ble_eq_true rfl) (fun p e R s mid args below meth c C hr => ?_)
  show Sm Γ (K3 Γ) p l e R s mid args below meth c 2 true m0 [(0, .ref (Γ.1 0 0)), (1, .int a1)] [] 0 (fX7_grain m0 a1)
  unfold fX7_grain
  refine k_aload_n C 0 dX7_grain_0 rfl rfl (pc' := 1) rfl ?_
  refine k_iload_n C 1 dX7_grain_1 rfl rfl (pc' := 2) rfl ?_
  refine k_iconst C (v := 3) dX7_grain_2 (by decide) (pc' := 3) rfl ?_
  refine k_callVi C (rest := []) (qX7_of l Γ hL m0 a1 3) mwX7_of iwX7_of mlX7_38 (k_rm_of (by decide) (by decide)) (c3 Γ m0 0 (e_model Γ (m0 0))) (v_0 (by decide)) rfl rfl rfl (Nat.le_of_ble_eq_true rfl) dX7_grain_3 (pc' := 6) rfl (fun r1 m2 => ?_)
  refine k_iconst C (v := 3) dX7_grain_6 (by decide) (pc' := 7) rfl ?_
  refine k_ic_ne C (tgt := 14) dX7_grain_7 (by decide) (pc' := 10) rfl (fun h3 => ?_) (fun h3 => ?_)
  · refine k_aload_n C 0 dX7_grain_14 rfl rfl (pc' := 15) rfl ?_
    refine k_iload_n C 1 dX7_grain_15 rfl rfl (pc' := 16) rfl ?_
    refine k_iconst C (v := 2) dX7_grain_16 (by decide) (pc' := 17) rfl ?_
    refine k_callVi C (rest := []) (qX7_of l Γ hL m2 a1 2) mwX7_of iwX7_of mlX7_38 (k_rm_of (by decide) (by decide)) (c3 Γ m2 0 (e_model Γ (m2 0))) (v_0 (by decide)) rfl rfl rfl (Nat.le_of_ble_eq_true rfl) dX7_grain_17 (pc' := 20) rfl (fun r4 m5 => ?_)
    refine k_aload_n C 0 dX7_grain_20 rfl rfl (pc' := 21) rfl ?_
    refine k_iload_n C 1 dX7_grain_21 rfl rfl (pc' := 22) rfl ?_
    refine k_iconst C (v := 4) dX7_grain_22 (by decide) (pc' := 23) rfl ?_
    refine k_callVi C (rest := [.int r4]) (qX7_of l Γ hL m5 a1 4) mwX7_of iwX7_of mlX7_38 (k_rm_of (by decide) (by decide)) (c3 Γ m5 0 (e_model Γ (m5 0))) (v_0 (by decide)) rfl rfl rfl (Nat.le_of_ble_eq_true rfl) dX7_grain_23 (pc' := 26) rfl (fun r6 m7 => ?_)
    refine k_isub C dX7_grain_26 (pc' := 27) rfl ?_
    exact k_reti C rfl hr dX7_grain_27
  · refine k_iconst C (v := 0) dX7_grain_10 (by decide) (pc' := 11) rfl ?_
    refine k_goto C (pc' := 27) dX7_grain_11 (by decide) ?_
    exact k_reti C rfl hr dX7_grain_27
def fX7_flour (m0 : kM1) (a1 : Int32) : Option (Int32 × kM1) :=
  bd (fX7_of m0 a1 3) fun r1 m2 => if r1 = 3 then some (0, m2) else bd (fX7_of m2 a1 4) fun r4 m5 => bd (fX7_toll m5 a1) fun r6 m7 => bd (fX7_dust m7 a1) fun r8 m9 => bd (fX7_of m9 a1 6) fun r10 m11 => bd (fX7_of m11 a1 10) fun r12 m13 => some ((((r4 - r6) - r8) - r10) - r12, m13)
set_option maxRecDepth 100000 in
set_option maxHeartbeats 4000000 in
theorem qX7_flour (l : Launch) (Γ : kG) (hL : k_Lay Γ 7) (m0 : kM1) (a1 : Int32) : CT l Γ (K3 Γ) yX7_flour cX7_flour 2 (some .int) (k_R 3) [.ref (Γ.1 0 0), .int a1] m0 (fX7_flour m0 a1) := by
  refine k_meth (own := RX7) (by decide) rfl (Nat.le_of_ble_eq_true rfl) (fun p e R s mid args below meth c C hr => ?_)
  show Sm Γ (K3 Γ) p l e R s mid args below meth c 2 true m0 [(0, .ref (Γ.1 0 0)), (1, .int a1)] [] 0 (fX7_flour m0 a1)
  unfold fX7_flour
  refine k_aload_n C 0 dX7_flour_0 rfl rfl (pc' := 1) rfl ?_
  refine k_iload_n C 1 dX7_flour_1 rfl rfl (pc' := 2) rfl ?_
  refine k_iconst C (v := 3) dX7_flour_2 (by decide) (pc' := 3) rfl ?_
  refine k_callVi C (rest := []) (qX7_of l Γ hL m0 a1 3) mwX7_of iwX7_of mlX7_38 (k_rm_of (by decide) (by decide)) (c3 Γ m0 0 (e_model Γ (m0 0))) (v_0 (by decide)) rfl rfl rfl (Nat.le_of_ble_eq_true rfl) dX7_flour_3 (pc' := 6) rfl (fun r1 m2 => ?_)
  refine k_iconst C (v := 3) dX7_flour_6 (by decide) (pc' := 7) rfl ?_
  refine k_ic_ne C (tgt := 14) dX7_flour_7 (by decide) (pc' := 10) rfl (fun h3 => ?_) (fun h3 => ?_)
  · refine k_aload_n C 0 dX7_flour_14 rfl rfl (pc' := 15) rfl ?_
    refine k_iload_n C 1 dX7_flour_15 rfl rfl (pc' := 16) rfl ?_
    refine k_iconst C (v := 4) dX7_flour_16 (by decide) (pc' := 17) rfl ?_
    refine k_callVi C (rest := []) (qX7_of l Γ hL m2 a1 4) mwX7_of iwX7_of mlX7_38 (k_rm_of (by decide) (by decide)) (c3 Γ m2 0 (e_model Γ (m2 0))) (v_0 (by decide)) rfl rfl rfl (Nat.le_of_ble_eq_true rfl) dX7_flour_17 (pc' := 20) rfl (fun r4 m5 => ?_)
    refine k_aload_n C 0 dX7_flour_20 rfl rfl (pc' := 21) rfl ?_
    refine k_iload_n C 1 dX7_flour_21 rfl rfl (pc' := 22) rfl ?_
    refine k_callVi C (rest := [.int r4]) (qX7_toll l Γ hL m5 a1) mwX7_toll iwX7_toll mlX7_42 (k_rm_of (by decide) (by decide)) (c3 Γ m5 0 (e_model Γ (m5 0))) (v_0 (by decide)) rfl rfl rfl (Nat.le_of_ble_eq_true rfl) dX7_flour_22 (pc' := 25) rfl (fun r6 m7 => ?_)
    refine k_isub C dX7_flour_25 (pc' := 26) rfl ?_
    refine k_aload_n C 0 dX7_flour_26 rfl rfl (pc' := 27) rfl ?_
    refine k_iload_n C 1 dX7_flour_27 rfl rfl (pc' := 28) rfl ?_
    refine k_callVi C (rest := [.int (r4 - r6)]) (qX7_dust l Γ hL m7 a1) mwX7_dust iwX7_dust mlX7_46 (k_rm_of (by decide) (by decide)) (c3 Γ m7 0 (e_model Γ (m7 0))) (v_0 (by decide)) rfl rfl rfl (Nat.le_of_ble_eq_true rfl) dX7_flour_28 (pc' := 31) rfl (fun r8 m9 => ?_)
    refine k_isub C dX7_flour_31 (pc' := 32) rfl ?_
    refine k_aload_n C 0 dX7_flour_32 rfl rfl (pc' := 33) rfl ?_
    refine k_iload_n C 1 dX7_flour_33 rfl rfl (pc' := 34) rfl ?_
    refine k_bipush C (v := 6) dX7_flour_34 (by decide) (pc' := 36) rfl ?_
    refine k_callVi C (rest := [.int ((r4 - r6) - r8)]) (qX7_of l Γ hL m9 a1 6) mwX7_of iwX7_of mlX7_38 (k_rm_of (by decide) (by decide)) (c3 Γ m9 0 (e_model Γ (m9 0))) (v_0 (by decide)) rfl rfl rfl (Nat.le_of_ble_eq_true rfl) dX7_flour_36 (pc' := 39) rfl (fun r10 m11 => ?_)
    refine k_isub C dX7_flour_39 (pc' := 40) rfl ?_
    refine k_aload_n C 0 dX7_flour_40 rfl rfl (pc' := 41) rfl ?_
    refine k_iload_n C 1 dX7_flour_41 rfl rfl (pc' := 42) rfl ?_
    refine k_bipush C (v := 10) dX7_flour_42 (by decide) (pc' := 44) rfl ?_
    refine k_callVi C (rest := [.int (((r4 - r6) - r8) - r10)]) (qX7_of l Γ hL m11 a1 10) mwX7_of iwX7_of mlX7_38 (k_rm_of (by decide) (by decide)) (c3 Γ m11 0 (e_model Γ (m11 0))) (v_0 (by decide)) rfl rfl rfl (Nat.le_of_ble_eq_true rfl) dX7_flour_44 (pc' := 47) rfl (fun r12 m13 => ?_)
    refine k_isub C dX7_flour_47 (pc' := 48) rfl ?_
    exact k_reti C rfl hr dX7_flour_48
  · refine k_iconst C (v := 0) dX7_flour_10 (by decide) (pc' := 11) rfl ?_
    refine k_goto C (pc' := 48) dX7_flour_11 (by decide) ?_
    exact k_reti C rfl hr dX7_flour_48
def fX7_came_b42 (a1 : Int32) (rec4 : kM1 → Int32 → Int32 → Option (Int32 × kM1)) (m0 : kM1) (b3 : Int32) (t0 : Int32) (t1 : Int32) : Option (Int32 × kM1) :=
  k_let (t1 + t0) fun v6 => k_let (b3 + 1) fun v7 => rec4 m0 v6 v7
set_option maxRecDepth 100000 in
set_option maxHeartbeats 4000000 in
theorem sX7_came_b42 {l : Launch} {Γ : kG} (hL : k_Lay Γ 7) {p : Program} {e : Env} {R : Room} {s : State} {mid : MethodId} {args : Array Value} {below : List Frame} {meth : Method} {c : Code} (C : k_C Γ p R s mid args meth c cX7_came 4 RX7 (k_R 1)) (hr : meth.sig.returnType = (some .int)) (a1 : Int32) (rec4 : kM1 → Int32 → Int32 → Option (Int32 × kM1)) (hrec4 : ∀ (m0 : kM1) (b2 : Int32) (b3 : Int32), Sm Γ (K3 Γ) p l e R s mid args below meth c 4 true m0 [(0, .ref (Γ.1 0 0)), (1, .int a1), (2, .int b2), (3, .int b3)] [] 4 (rec4 m0 b2 b3)) (m0 : kM1) (b3 : Int32) (t0 : Int32) (t1 : Int32)  : Sm Γ (K3 Γ) p l e R s mid args below meth c 4 true m0 [(0, .ref (Γ.1 0 0)), (1, .int a1), (3, .int b3)] [.int t0, .int t1] 42 (fX7_came_b42 a1 rec4 m0 b3 t0 t1) := by
  unfold fX7_came_b42
  refine k_iadd C dX7_came_42 (pc' := 43) rfl ?_
  refine k_topi (fun v6 => ?_)
  refine k_istore_n C (lv' := [(2, .int v6), (0, .ref (Γ.1 0 0)), (1, .int a1), (3, .int b3)]) dX7_came_43 rfl (by decide) rfl (pc' := 44) rfl ?_
  refine k_iinc (v := 1) (q := 3) (lv' := [(2, .int v6), (0, .ref (Γ.1 0 0)), (1, .int a1)]) C dX7_came_44 rfl (by decide) (by decide) (pc' := 47) rfl (fun _ => rfl) (fun v7 => ?_)
  refine k_goto C (pc' := 4) dX7_came_47 (by decide) ?_
  refine k_sub [2, 3, 1, 0] rfl ?_
  exact hrec4 m0 v6 v7
def fX7_came_b41 (a1 : Int32) (rec4 : kM1 → Int32 → Int32 → Option (Int32 × kM1)) (m0 : kM1) (b3 : Int32) (t0 : Int32) : Option (Int32 × kM1) :=
  fX7_came_b42 a1 rec4 m0 b3 0 t0
set_option maxRecDepth 100000 in
set_option maxHeartbeats 4000000 in
theorem sX7_came_b41 {l : Launch} {Γ : kG} (hL : k_Lay Γ 7) {p : Program} {e : Env} {R : Room} {s : State} {mid : MethodId} {args : Array Value} {below : List Frame} {meth : Method} {c : Code} (C : k_C Γ p R s mid args meth c cX7_came 4 RX7 (k_R 1)) (hr : meth.sig.returnType = (some .int)) (a1 : Int32) (rec4 : kM1 → Int32 → Int32 → Option (Int32 × kM1)) (hrec4 : ∀ (m0 : kM1) (b2 : Int32) (b3 : Int32), Sm Γ (K3 Γ) p l e R s mid args below meth c 4 true m0 [(0, .ref (Γ.1 0 0)), (1, .int a1), (2, .int b2), (3, .int b3)] [] 4 (rec4 m0 b2 b3)) (m0 : kM1) (b3 : Int32) (t0 : Int32)  : Sm Γ (K3 Γ) p l e R s mid args below meth c 4 true m0 [(0, .ref (Γ.1 0 0)), (1, .int a1), (3, .int b3)] [.int t0] 41 (fX7_came_b41 a1 rec4 m0 b3 t0) := by
  unfold fX7_came_b41
  refine k_iconst C (v := 0) dX7_came_41 (by decide) (pc' := 42) rfl ?_
  exact sX7_came_b42 hL C hr a1 rec4 hrec4 m0 b3 0 t0
def fX7_came_b4 (a1 : Int32) : Nat → kM1 → Int32 → Int32 → Option (Int32 × kM1)
  | 0, _, _, _ => none
  | n + 1, m0, b2, b3 =>
  if (m0 1 29) ≤ b3 then some (b2, m0) else bd (fX7_of m0 b3 0) fun r3 m4 => if r3 = a1 then bd (fX7_of m4 b3 12) fun r8 m9 => if r8 = 1 then fX7_came_b42 a1 (fX7_came_b4 a1 n) m9 b3 1 b2 else fX7_came_b41 a1 (fX7_came_b4 a1 n) m9 b3 b2 else fX7_came_b41 a1 (fX7_came_b4 a1 n) m4 b3 b2
set_option maxRecDepth 100000 in
set_option maxHeartbeats 4000000 in
theorem sX7_came_b4 {l : Launch} {Γ : kG} (hL : k_Lay Γ 7) {p : Program} {e : Env} {R : Room} {s : State} {mid : MethodId} {args : Array Value} {below : List Frame} {meth : Method} {c : Code} (C : k_C Γ p R s mid args meth c cX7_came 4 RX7 (k_R 1)) (hr : meth.sig.returnType = (some .int)) (a1 : Int32)  (n : Nat) : ∀ (m0 : kM1) (b2 : Int32) (b3 : Int32), Sm Γ (K3 Γ) p l e R s mid args below meth c 4 true m0 [(0, .ref (Γ.1 0 0)), (1, .int a1), (2, .int b2), (3, .int b3)] [] 4 (fX7_came_b4 a1 n m0 b2 b3) := by
  induction n with
  | zero => intros; exact k_none
  | succ n ih =>
    intro m0 b2 b3
    unfold fX7_came_b4
    refine k_iload_n C 3 dX7_came_4 rfl rfl (pc' := 5) rfl ?_
    refine k_aload_n C 0 dX7_came_5 rfl rfl (pc' := 6) rfl ?_
    refine k_getf C 0 (c3 Γ m0 0 (e_model Γ (m0 0))) (v_0 (by decide)) flX7_7 (v := .ref (Γ.1 0 1)) rfl dX7_came_6 (pc' := 9) rfl ?_
    refine k_bipush C (v := 29) dX7_came_9 (by decide) (pc' := 11) rfl ?_
    refine k_ialdK C (n0 := 29) (c3 Γ m0 1 (e_d Γ (m0 1))) (v_0 (by decide)) (by decide) (by decide) dX7_came_11 (pc' := 12) rfl ?_
    refine k_ic_ge C (tgt := 50) dX7_came_12 (by decide) (pc' := 15) rfl (fun h2 => ?_) (fun h2 => ?_)
    · refine k_iload_n C 2 dX7_came_50 rfl rfl (pc' := 51) rfl ?_
      exact k_reti C rfl hr dX7_came_51
    · refine k_iload_n C 2 dX7_came_15 rfl rfl (pc' := 16) rfl ?_
      refine k_aload_n C 0 dX7_came_16 rfl rfl (pc' := 17) rfl ?_
      refine k_iload_n C 3 dX7_came_17 rfl rfl (pc' := 18) rfl ?_
      refine k_iconst C (v := 0) dX7_came_18 (by decide) (pc' := 19) rfl ?_
      refine k_callVi C (rest := [.int b2]) (qX7_of l Γ hL m0 b3 0) mwX7_of iwX7_of mlX7_38 (k_rm_of (by decide) (by decide)) (c3 Γ m0 0 (e_model Γ (m0 0))) (v_0 (by decide)) rfl rfl rfl (Nat.le_of_ble_eq_true rfl) dX7_came_19 (pc' := 22) rfl (fun r3 m4 => ?_)
      refine k_iload_n C 1 dX7_came_22 rfl rfl (pc' := 23) rfl ?_
      refine k_ic_ne C (tgt := 41) dX7_came_23 (by decide) (pc' := 26) rfl (fun h5 => ?_) (fun h5 => ?_)
      · refine k_sub [0, 1, 3] rfl ?_
        exact sX7_came_b41 hL C hr a1 (fX7_came_b4 a1 n) ih m4 b3 b2
      · refine k_aload_n C 0 dX7_came_26 rfl rfl (pc' := 27) rfl ?_
        refine k_iload_n C 3 dX7_came_27 rfl rfl (pc' := 28) rfl ?_
        refine k_bipush C (v := 12) dX7_came_28 (by decide) (pc' := 30) rfl ?_
        refine k_callVi C (rest := [.int b2]) (qX7_of l Γ hL m4 b3 12) mwX7_of iwX7_of mlX7_38 (k_rm_of (by decide) (by decide)) (c3 Γ m4 0 (e_model Γ (m4 0))) (v_0 (by decide)) rfl rfl rfl (Nat.le_of_ble_eq_true rfl) dX7_came_30 (pc' := 33) rfl (fun r8 m9 => ?_)
        refine k_iconst C (v := 1) dX7_came_33 (by decide) (pc' := 34) rfl ?_
        refine k_ic_ne C (tgt := 41) dX7_came_34 (by decide) (pc' := 37) rfl (fun h10 => ?_) (fun h10 => ?_)
        · refine k_sub [0, 1, 3] rfl ?_
          exact sX7_came_b41 hL C hr a1 (fX7_came_b4 a1 n) ih m9 b3 b2
        · refine k_iconst C (v := 1) dX7_came_37 (by decide) (pc' := 38) rfl ?_
          refine k_goto C (pc' := 42) dX7_came_38 (by decide) ?_
          refine k_sub [0, 1, 3] rfl ?_
          exact sX7_came_b42 hL C hr a1 (fX7_came_b4 a1 n) ih m9 b3 1 b2
def fX7_came (m0 : kM1) (a1 : Int32) : Option (Int32 × kM1) :=
  fX7_came_b4 a1 kFu m0 0 0
set_option maxRecDepth 100000 in
set_option maxHeartbeats 4000000 in
theorem qX7_came (l : Launch) (Γ : kG) (hL : k_Lay Γ 7) (m0 : kM1) (a1 : Int32) : CT l Γ (K3 Γ) yX7_came cX7_came 4 (some .int) (k_R 1) [.ref (Γ.1 0 0), .int a1] m0 (fX7_came m0 a1) := by
  refine k_meth (own := RX7) (by decide) rfl (Nat.le_of_ble_eq_true rfl) (fun p e R s mid args below meth c C hr => ?_)
  show Sm Γ (K3 Γ) p l e R s mid args below meth c 4 true m0 [(0, .ref (Γ.1 0 0)), (1, .int a1)] [] 0 (fX7_came m0 a1)
  unfold fX7_came
  refine k_iconst C (v := 0) dX7_came_0 (by decide) (pc' := 1) rfl ?_
  refine k_istore_n C (lv' := [(2, .int 0), (0, .ref (Γ.1 0 0)), (1, .int a1)]) dX7_came_1 rfl (by decide) rfl (pc' := 2) rfl ?_
  refine k_iconst C (v := 0) dX7_came_2 (by decide) (pc' := 3) rfl ?_
  refine k_istore_n C (lv' := [(3, .int 0), (2, .int 0), (0, .ref (Γ.1 0 0)), (1, .int a1)]) dX7_came_3 rfl (by decide) rfl (pc' := 4) rfl ?_
  refine k_sub [2, 3, 1, 0] rfl ?_
  exact sX7_came_b4 hL C hr a1 kFu m0 0 0
def fX7_weight_b72 (a1 : Int32)  (m0 : kM1) (t0 : Int32) : Option (Int32 × kM1) :=
  bd (fX7_of m0 a1 1) fun r15 m16 => bd (fX7_hardness m16 r15) fun r17 m18 => some (t0 + r17, m18)
set_option maxRecDepth 100000 in
set_option maxHeartbeats 4000000 in
theorem sX7_weight_b72 {l : Launch} {Γ : kG} (hL : k_Lay Γ 7) {p : Program} {e : Env} {R : Room} {s : State} {mid : MethodId} {args : Array Value} {below : List Frame} {meth : Method} {c : Code} (C : k_C Γ p R s mid args meth c cX7_weight 2 RX7 (k_R 2)) (hr : meth.sig.returnType = (some .int)) (a1 : Int32)  (m0 : kM1) (t0 : Int32)  : Sm Γ (K3 Γ) p l e R s mid args below meth c 2 true m0 [(0, .ref (Γ.1 0 0)), (1, .int a1)] [.int t0] 72 (fX7_weight_b72 a1 m0 t0) := by
  unfold fX7_weight_b72
  refine k_aload_n C 0 dX7_weight_72 rfl rfl (pc' := 73) rfl ?_
  refine k_aload_n C 0 dX7_weight_73 rfl rfl (pc' := 74) rfl ?_
  refine k_iload_n C 1 dX7_weight_74 rfl rfl (pc' := 75) rfl ?_
  refine k_iconst C (v := 1) dX7_weight_75 (by decide) (pc' := 76) rfl ?_
  refine k_callVi C (rest := [.ref (Γ.1 0 0), .int t0]) (qX7_of l Γ hL m0 a1 1) mwX7_of iwX7_of mlX7_38 (k_rm_of (by decide) (by decide)) (c3 Γ m0 0 (e_model Γ (m0 0))) (v_0 (by decide)) rfl rfl rfl (Nat.le_of_ble_eq_true rfl) dX7_weight_76 (pc' := 79) rfl (fun r15 m16 => ?_)
  refine k_callVi C (rest := [.int t0]) (qX7_hardness l Γ hL m16 r15) mwX7_hardness iwX7_hardness mlX7_52 (k_rm_of (by decide) (by decide)) (c3 Γ m16 0 (e_model Γ (m16 0))) (v_0 (by decide)) rfl rfl rfl (Nat.le_of_ble_eq_true rfl) dX7_weight_79 (pc' := 82) rfl (fun r17 m18 => ?_)
  refine k_iadd C dX7_weight_82 (pc' := 83) rfl ?_
  exact k_reti C rfl hr dX7_weight_83
def fX7_weight (m0 : kM1) (a1 : Int32) : Option (Int32 × kM1) :=
  if (m0 1 12) = 1 then bd (fX7_of m0 a1 2) fun r3 m4 => some (r3, m4) else if (m0 1 12) = 2 then bd (fX7_of m0 a1 0) fun r6 m7 => bd (fX7_came m7 r6) fun r8 m9 => some (r8, m9) else if (m0 1 12) = 3 then bd (fX7_of m0 a1 1) fun r11 m12 => if r11 = (m12 1 25) then fX7_weight_b72 a1 m12 0 else fX7_weight_b72 a1 m12 10 else some (0, m0)
set_option maxRecDepth 100000 in
set_option maxHeartbeats 4000000 in
theorem qX7_weight (l : Launch) (Γ : kG) (hL : k_Lay Γ 7) (m0 : kM1) (a1 : Int32) : CT l Γ (K3 Γ) yX7_weight cX7_weight 2 (some .int) (k_R 2) [.ref (Γ.1 0 0), .int a1] m0 (fX7_weight m0 a1) := by
  refine k_meth (own := RX7) (by decide) rfl (Nat.le_of_ble_eq_true rfl) (fun p e R s mid args below meth c C hr => ?_)
  show Sm Γ (K3 Γ) p l e R s mid args below meth c 2 true m0 [(0, .ref (Γ.1 0 0)), (1, .int a1)] [] 0 (fX7_weight m0 a1)
  unfold fX7_weight
  refine k_aload_n C 0 dX7_weight_0 rfl rfl (pc' := 1) rfl ?_
  refine k_getf C 0 (c3 Γ m0 0 (e_model Γ (m0 0))) (v_0 (by decide)) flX7_7 (v := .ref (Γ.1 0 1)) rfl dX7_weight_1 (pc' := 4) rfl ?_
  refine k_bipush C (v := 12) dX7_weight_4 (by decide) (pc' := 6) rfl ?_
  refine k_ialdK C (n0 := 12) (c3 Γ m0 1 (e_d Γ (m0 1))) (v_0 (by decide)) (by decide) (by decide) dX7_weight_6 (pc' := 7) rfl ?_
  refine k_ite (fun h2 => ?_) (fun h2 => ?_)
  · refine k_tswIn C (25) dX7_weight_7 h2 (by decide) (by decide) rfl (pc' := 32) (by decide) ?_
    refine k_aload_n C 0 dX7_weight_32 rfl rfl (pc' := 33) rfl ?_
    refine k_iload_n C 1 dX7_weight_33 rfl rfl (pc' := 34) rfl ?_
    refine k_iconst C (v := 2) dX7_weight_34 (by decide) (pc' := 35) rfl ?_
    refine k_callVi C (rest := []) (qX7_of l Γ hL m0 a1 2) mwX7_of iwX7_of mlX7_38 (k_rm_of (by decide) (by decide)) (c3 Γ m0 0 (e_model Γ (m0 0))) (v_0 (by decide)) rfl rfl rfl (Nat.le_of_ble_eq_true rfl) dX7_weight_35 (pc' := 38) rfl (fun r3 m4 => ?_)
    exact k_reti C rfl hr dX7_weight_38
  refine k_ite (fun h5 => ?_) (fun h5 => ?_)
  · refine k_tswIn C (32) dX7_weight_7 h5 (by decide) (by decide) rfl (pc' := 39) (by decide) ?_
    refine k_aload_n C 0 dX7_weight_39 rfl rfl (pc' := 40) rfl ?_
    refine k_aload_n C 0 dX7_weight_40 rfl rfl (pc' := 41) rfl ?_
    refine k_iload_n C 1 dX7_weight_41 rfl rfl (pc' := 42) rfl ?_
    refine k_iconst C (v := 0) dX7_weight_42 (by decide) (pc' := 43) rfl ?_
    refine k_callVi C (rest := [.ref (Γ.1 0 0)]) (qX7_of l Γ hL m0 a1 0) mwX7_of iwX7_of mlX7_38 (k_rm_of (by decide) (by decide)) (c3 Γ m0 0 (e_model Γ (m0 0))) (v_0 (by decide)) rfl rfl rfl (Nat.le_of_ble_eq_true rfl) dX7_weight_43 (pc' := 46) rfl (fun r6 m7 => ?_)
    refine k_callVi C (rest := []) (qX7_came l Γ hL m7 r6) mwX7_came iwX7_came mlX7_49 (k_rm_of (by decide) (by decide)) (c3 Γ m7 0 (e_model Γ (m7 0))) (v_0 (by decide)) rfl rfl rfl (Nat.le_of_ble_eq_true rfl) dX7_weight_46 (pc' := 49) rfl (fun r8 m9 => ?_)
    exact k_reti C rfl hr dX7_weight_49
  refine k_ite (fun h10 => ?_) (fun h10 => ?_)
  · refine k_tswIn C (43) dX7_weight_7 h10 (by decide) (by decide) rfl (pc' := 50) (by decide) ?_
    refine k_aload_n C 0 dX7_weight_50 rfl rfl (pc' := 51) rfl ?_
    refine k_iload_n C 1 dX7_weight_51 rfl rfl (pc' := 52) rfl ?_
    refine k_iconst C (v := 1) dX7_weight_52 (by decide) (pc' := 53) rfl ?_
    refine k_callVi C (rest := []) (qX7_of l Γ hL m0 a1 1) mwX7_of iwX7_of mlX7_38 (k_rm_of (by decide) (by decide)) (c3 Γ m0 0 (e_model Γ (m0 0))) (v_0 (by decide)) rfl rfl rfl (Nat.le_of_ble_eq_true rfl) dX7_weight_53 (pc' := 56) rfl (fun r11 m12 => ?_)
    refine k_aload_n C 0 dX7_weight_56 rfl rfl (pc' := 57) rfl ?_
    refine k_getf C 0 (c3 Γ m12 0 (e_model Γ (m12 0))) (v_0 (by decide)) flX7_7 (v := .ref (Γ.1 0 1)) rfl dX7_weight_57 (pc' := 60) rfl ?_
    refine k_bipush C (v := 25) dX7_weight_60 (by decide) (pc' := 62) rfl ?_
    refine k_ialdK C (n0 := 25) (c3 Γ m12 1 (e_d Γ (m12 1))) (v_0 (by decide)) (by decide) (by decide) dX7_weight_62 (pc' := 63) rfl ?_
    refine k_ic_ne C (tgt := 70) dX7_weight_63 (by decide) (pc' := 66) rfl (fun h14 => ?_) (fun h14 => ?_)
    · refine k_bipush C (v := 10) dX7_weight_70 (by decide) (pc' := 72) rfl ?_
      exact sX7_weight_b72 hL C hr a1 m12 10
    · refine k_iconst C (v := 0) dX7_weight_66 (by decide) (pc' := 67) rfl ?_
      refine k_goto C (pc' := 72) dX7_weight_67 (by decide) ?_
      exact sX7_weight_b72 hL C hr a1 m12 0
  refine k_tswOut C dX7_weight_7 (by have z0 := lv_neT h2 (show (1 : Int32).toInt = 1 by decide); have z1 := lv_neT h5 (show (2 : Int32).toInt = 2 by decide); have z2 := lv_neT h10 (show (3 : Int32).toInt = 3 by decide); omega) (pc' := 84) (by decide) ?_
  refine k_iconst C (v := 0) dX7_weight_84 (by decide) (pc' := 85) rfl ?_
  exact k_reti C rfl hr dX7_weight_85
def fX7_placeOf_b78 (a1 : Int32) (rec4 : kM1 → Int32 → Int32 → Option (Int32 × kM1)) (m0 : kM1) (b3 : Int32) (t0 : Int32) (t1 : Int32) : Option (Int32 × kM1) :=
  k_let (t1 + t0) fun v11 => k_let (b3 + 1) fun v12 => rec4 m0 v11 v12
set_option maxRecDepth 100000 in
set_option maxHeartbeats 4000000 in
theorem sX7_placeOf_b78 {l : Launch} {Γ : kG} (hL : k_Lay Γ 7) {p : Program} {e : Env} {R : Room} {s : State} {mid : MethodId} {args : Array Value} {below : List Frame} {meth : Method} {c : Code} (C : k_C Γ p R s mid args meth c cX7_placeOf 5 RX7 (k_R 3)) (hr : meth.sig.returnType = (some .int)) (a1 : Int32) (rec4 : kM1 → Int32 → Int32 → Option (Int32 × kM1)) (hrec4 : ∀ (m0 : kM1) (b2 : Int32) (b3 : Int32), Sm Γ (K3 Γ) p l e R s mid args below meth c 5 true m0 [(0, .ref (Γ.1 0 0)), (1, .int a1), (2, .int b2), (3, .int b3)] [] 4 (rec4 m0 b2 b3)) (m0 : kM1) (b3 : Int32) (t0 : Int32) (t1 : Int32)  : Sm Γ (K3 Γ) p l e R s mid args below meth c 5 true m0 [(0, .ref (Γ.1 0 0)), (1, .int a1), (3, .int b3)] [.int t0, .int t1] 78 (fX7_placeOf_b78 a1 rec4 m0 b3 t0 t1) := by
  unfold fX7_placeOf_b78
  refine k_iadd C dX7_placeOf_78 (pc' := 79) rfl ?_
  refine k_topi (fun v11 => ?_)
  refine k_istore_n C (lv' := [(2, .int v11), (0, .ref (Γ.1 0 0)), (1, .int a1), (3, .int b3)]) dX7_placeOf_79 rfl (by decide) rfl (pc' := 80) rfl ?_
  refine k_iinc (v := 1) (q := 3) (lv' := [(2, .int v11), (0, .ref (Γ.1 0 0)), (1, .int a1)]) C dX7_placeOf_80 rfl (by decide) (by decide) (pc' := 83) rfl (fun _ => rfl) (fun v12 => ?_)
  refine k_goto C (pc' := 4) dX7_placeOf_83 (by decide) ?_
  refine k_sub [2, 3, 1, 0] rfl ?_
  exact hrec4 m0 v11 v12
def fX7_placeOf_b77 (a1 : Int32) (rec4 : kM1 → Int32 → Int32 → Option (Int32 × kM1)) (m0 : kM1) (b3 : Int32) (t0 : Int32) : Option (Int32 × kM1) :=
  fX7_placeOf_b78 a1 rec4 m0 b3 0 t0
set_option maxRecDepth 100000 in
set_option maxHeartbeats 4000000 in
theorem sX7_placeOf_b77 {l : Launch} {Γ : kG} (hL : k_Lay Γ 7) {p : Program} {e : Env} {R : Room} {s : State} {mid : MethodId} {args : Array Value} {below : List Frame} {meth : Method} {c : Code} (C : k_C Γ p R s mid args meth c cX7_placeOf 5 RX7 (k_R 3)) (hr : meth.sig.returnType = (some .int)) (a1 : Int32) (rec4 : kM1 → Int32 → Int32 → Option (Int32 × kM1)) (hrec4 : ∀ (m0 : kM1) (b2 : Int32) (b3 : Int32), Sm Γ (K3 Γ) p l e R s mid args below meth c 5 true m0 [(0, .ref (Γ.1 0 0)), (1, .int a1), (2, .int b2), (3, .int b3)] [] 4 (rec4 m0 b2 b3)) (m0 : kM1) (b3 : Int32) (t0 : Int32)  : Sm Γ (K3 Γ) p l e R s mid args below meth c 5 true m0 [(0, .ref (Γ.1 0 0)), (1, .int a1), (3, .int b3)] [.int t0] 77 (fX7_placeOf_b77 a1 rec4 m0 b3 t0) := by
  unfold fX7_placeOf_b77
  refine k_iconst C (v := 0) dX7_placeOf_77 (by decide) (pc' := 78) rfl ?_
  exact sX7_placeOf_b78 hL C hr a1 rec4 hrec4 m0 b3 0 t0
def fX7_placeOf_b51 (a1 : Int32) (rec4 : kM1 → Int32 → Int32 → Option (Int32 × kM1)) (m0 : kM1) (b2 : Int32) (b3 : Int32) (t0 : Int32) : Option (Int32 × kM1) :=
  bd (fX7_of m0 b3 3) fun r8 m9 => if r8 = 0 then if b3 = a1 then fX7_placeOf_b77 a1 rec4 m9 b3 b2 else if t0 = 0 then fX7_placeOf_b77 a1 rec4 m9 b3 b2 else fX7_placeOf_b78 a1 rec4 m9 b3 1 b2 else fX7_placeOf_b77 a1 rec4 m9 b3 b2
set_option maxRecDepth 100000 in
set_option maxHeartbeats 4000000 in
theorem sX7_placeOf_b51 {l : Launch} {Γ : kG} (hL : k_Lay Γ 7) {p : Program} {e : Env} {R : Room} {s : State} {mid : MethodId} {args : Array Value} {below : List Frame} {meth : Method} {c : Code} (C : k_C Γ p R s mid args meth c cX7_placeOf 5 RX7 (k_R 3)) (hr : meth.sig.returnType = (some .int)) (a1 : Int32) (rec4 : kM1 → Int32 → Int32 → Option (Int32 × kM1)) (hrec4 : ∀ (m0 : kM1) (b2 : Int32) (b3 : Int32), Sm Γ (K3 Γ) p l e R s mid args below meth c 5 true m0 [(0, .ref (Γ.1 0 0)), (1, .int a1), (2, .int b2), (3, .int b3)] [] 4 (rec4 m0 b2 b3)) (m0 : kM1) (b2 : Int32) (b3 : Int32) (t0 : Int32)  : Sm Γ (K3 Γ) p l e R s mid args below meth c 5 true m0 [(0, .ref (Γ.1 0 0)), (1, .int a1), (2, .int b2), (3, .int b3)] [.int t0] 51 (fX7_placeOf_b51 a1 rec4 m0 b2 b3 t0) := by
  unfold fX7_placeOf_b51
  refine k_istore C (lv' := [(4, .int t0), (0, .ref (Γ.1 0 0)), (1, .int a1), (2, .int b2), (3, .int b3)]) dX7_placeOf_51 (by decide) rfl (pc' := 53) rfl ?_
  refine k_iload_n C 3 dX7_placeOf_53 rfl rfl (pc' := 54) rfl ?_
  refine k_aload_n C 1 dX7_placeOf_54 rfl rfl (pc' := 55) rfl ?_
  refine k_iload_n C 4 dX7_placeOf_55 rfl rfl (pc' := 56) rfl ?_
  refine k_iconst C (v := 3) dX7_placeOf_56 (by decide) (pc' := 57) rfl ?_
  refine k_callVi C (rest := [.int b2]) (qX7_of l Γ hL m0 b3 3) mwX7_of iwX7_of mlX7_38 (k_rm_of (by decide) (by decide)) (c3 Γ m0 0 (e_model Γ (m0 0))) (v_0 (by decide)) rfl rfl rfl (Nat.le_of_ble_eq_true rfl) dX7_placeOf_57 (pc' := 60) rfl (fun r8 m9 => ?_)
  refine k_if_ne C (tgt := 77) dX7_placeOf_60 (by decide) (pc' := 63) rfl (fun h10 => ?_) (fun h10 => ?_)
  · refine k_sub [1, 2, 4] rfl ?_
    exact sX7_placeOf_b77 hL C hr a1 rec4 hrec4 m9 b3 b2
  · refine k_iload_n C 4 dX7_placeOf_63 rfl rfl (pc' := 64) rfl ?_
    refine k_iload_n C 2 dX7_placeOf_64 rfl rfl (pc' := 65) rfl ?_
    refine k_ic_eq C (tgt := 77) dX7_placeOf_65 (by decide) (pc' := 68) rfl (fun h13 => ?_) (fun h13 => ?_)
    · refine k_sub [1, 2, 4] rfl ?_
      exact sX7_placeOf_b77 hL C hr a1 rec4 hrec4 m9 b3 b2
    · refine k_iload C 0 dX7_placeOf_68 rfl (pc' := 70) rfl ?_
      refine k_if_eq C (tgt := 77) dX7_placeOf_70 (by decide) (pc' := 73) rfl (fun h14 => ?_) (fun h14 => ?_)
      · refine k_sub [1, 2, 4] rfl ?_
        exact sX7_placeOf_b77 hL C hr a1 rec4 hrec4 m9 b3 b2
      · refine k_iconst C (v := 1) dX7_placeOf_73 (by decide) (pc' := 74) rfl ?_
        refine k_goto C (pc' := 78) dX7_placeOf_74 (by decide) ?_
        refine k_sub [1, 2, 4] rfl ?_
        exact sX7_placeOf_b78 hL C hr a1 rec4 hrec4 m9 b3 1 b2
def fX7_placeOf_b46 (a1 : Int32) (rec4 : kM1 → Int32 → Int32 → Option (Int32 × kM1)) (m0 : kM1) (b2 : Int32) (b3 : Int32) : Option (Int32 × kM1) :=
  fX7_placeOf_b51 a1 rec4 m0 b2 b3 1
set_option maxRecDepth 100000 in
set_option maxHeartbeats 4000000 in
theorem sX7_placeOf_b46 {l : Launch} {Γ : kG} (hL : k_Lay Γ 7) {p : Program} {e : Env} {R : Room} {s : State} {mid : MethodId} {args : Array Value} {below : List Frame} {meth : Method} {c : Code} (C : k_C Γ p R s mid args meth c cX7_placeOf 5 RX7 (k_R 3)) (hr : meth.sig.returnType = (some .int)) (a1 : Int32) (rec4 : kM1 → Int32 → Int32 → Option (Int32 × kM1)) (hrec4 : ∀ (m0 : kM1) (b2 : Int32) (b3 : Int32), Sm Γ (K3 Γ) p l e R s mid args below meth c 5 true m0 [(0, .ref (Γ.1 0 0)), (1, .int a1), (2, .int b2), (3, .int b3)] [] 4 (rec4 m0 b2 b3)) (m0 : kM1) (b2 : Int32) (b3 : Int32)  : Sm Γ (K3 Γ) p l e R s mid args below meth c 5 true m0 [(0, .ref (Γ.1 0 0)), (1, .int a1), (2, .int b2), (3, .int b3)] [] 46 (fX7_placeOf_b46 a1 rec4 m0 b2 b3) := by
  unfold fX7_placeOf_b46
  refine k_iconst C (v := 1) dX7_placeOf_46 (by decide) (pc' := 47) rfl ?_
  refine k_goto C (pc' := 51) dX7_placeOf_47 (by decide) ?_
  exact sX7_placeOf_b51 hL C hr a1 rec4 hrec4 m0 b2 b3 1
def fX7_placeOf_b50 (a1 : Int32) (rec4 : kM1 → Int32 → Int32 → Option (Int32 × kM1)) (m0 : kM1) (b2 : Int32) (b3 : Int32) : Option (Int32 × kM1) :=
  fX7_placeOf_b51 a1 rec4 m0 b2 b3 0
set_option maxRecDepth 100000 in
set_option maxHeartbeats 4000000 in
theorem sX7_placeOf_b50 {l : Launch} {Γ : kG} (hL : k_Lay Γ 7) {p : Program} {e : Env} {R : Room} {s : State} {mid : MethodId} {args : Array Value} {below : List Frame} {meth : Method} {c : Code} (C : k_C Γ p R s mid args meth c cX7_placeOf 5 RX7 (k_R 3)) (hr : meth.sig.returnType = (some .int)) (a1 : Int32) (rec4 : kM1 → Int32 → Int32 → Option (Int32 × kM1)) (hrec4 : ∀ (m0 : kM1) (b2 : Int32) (b3 : Int32), Sm Γ (K3 Γ) p l e R s mid args below meth c 5 true m0 [(0, .ref (Γ.1 0 0)), (1, .int a1), (2, .int b2), (3, .int b3)] [] 4 (rec4 m0 b2 b3)) (m0 : kM1) (b2 : Int32) (b3 : Int32)  : Sm Γ (K3 Γ) p l e R s mid args below meth c 5 true m0 [(0, .ref (Γ.1 0 0)), (1, .int a1), (2, .int b2), (3, .int b3)] [] 50 (fX7_placeOf_b50 a1 rec4 m0 b2 b3) := by
  unfold fX7_placeOf_b50
  refine k_iconst C (v := 0) dX7_placeOf_50 (by decide) (pc' := 51) rfl ?_
  exact sX7_placeOf_b51 hL C hr a1 rec4 hrec4 m0 b2 b3 0
def fX7_placeOf_b4 (a1 : Int32) : Nat → kM1 → Int32 → Int32 → Option (Int32 × kM1)
  | 0, _, _, _ => none
  | n + 1, m0, b2, b3 =>
  if (m0 1 29) ≤ b3 then some (b2, m0) else bd (fX7_weight m0 b3) fun r3 m4 => bd (fX7_weight m4 a1) fun r5 m6 => if r3 < r5 then fX7_placeOf_b46 a1 (fX7_placeOf_b4 a1 n) m6 b2 b3 else bd (fX7_weight m6 b3) fun r15 m16 => bd (fX7_weight m16 a1) fun r17 m18 => if r15 = r17 then if a1 ≤ b3 then fX7_placeOf_b50 a1 (fX7_placeOf_b4 a1 n) m18 b2 b3 else fX7_placeOf_b46 a1 (fX7_placeOf_b4 a1 n) m18 b2 b3 else fX7_placeOf_b50 a1 (fX7_placeOf_b4 a1 n) m18 b2 b3
set_option maxRecDepth 100000 in
set_option maxHeartbeats 4000000 in
theorem sX7_placeOf_b4 {l : Launch} {Γ : kG} (hL : k_Lay Γ 7) {p : Program} {e : Env} {R : Room} {s : State} {mid : MethodId} {args : Array Value} {below : List Frame} {meth : Method} {c : Code} (C : k_C Γ p R s mid args meth c cX7_placeOf 5 RX7 (k_R 3)) (hr : meth.sig.returnType = (some .int)) (a1 : Int32)  (n : Nat) : ∀ (m0 : kM1) (b2 : Int32) (b3 : Int32), Sm Γ (K3 Γ) p l e R s mid args below meth c 5 true m0 [(0, .ref (Γ.1 0 0)), (1, .int a1), (2, .int b2), (3, .int b3)] [] 4 (fX7_placeOf_b4 a1 n m0 b2 b3) := by
  induction n with
  | zero => intros; exact k_none
  | succ n ih =>
    intro m0 b2 b3
    unfold fX7_placeOf_b4
    refine k_iload_n C 3 dX7_placeOf_4 rfl rfl (pc' := 5) rfl ?_
    refine k_aload_n C 0 dX7_placeOf_5 rfl rfl (pc' := 6) rfl ?_
    refine k_getf C 0 (c3 Γ m0 0 (e_model Γ (m0 0))) (v_0 (by decide)) flX7_7 (v := .ref (Γ.1 0 1)) rfl dX7_placeOf_6 (pc' := 9) rfl ?_
    refine k_bipush C (v := 29) dX7_placeOf_9 (by decide) (pc' := 11) rfl ?_
    refine k_ialdK C (n0 := 29) (c3 Γ m0 1 (e_d Γ (m0 1))) (v_0 (by decide)) (by decide) (by decide) dX7_placeOf_11 (pc' := 12) rfl ?_
    refine k_ic_ge C (tgt := 86) dX7_placeOf_12 (by decide) (pc' := 15) rfl (fun h2 => ?_) (fun h2 => ?_)
    · refine k_iload_n C 2 dX7_placeOf_86 rfl rfl (pc' := 87) rfl ?_
      exact k_reti C rfl hr dX7_placeOf_87
    · refine k_aload_n C 0 dX7_placeOf_15 rfl rfl (pc' := 16) rfl ?_
      refine k_iload_n C 3 dX7_placeOf_16 rfl rfl (pc' := 17) rfl ?_
      refine k_callVi C (rest := []) (qX7_weight l Γ hL m0 b3) mwX7_weight iwX7_weight mlX7_55 (k_rm_of (by decide) (by decide)) (c3 Γ m0 0 (e_model Γ (m0 0))) (v_0 (by decide)) rfl rfl rfl (Nat.le_of_ble_eq_true rfl) dX7_placeOf_17 (pc' := 20) rfl (fun r3 m4 => ?_)
      refine k_aload_n C 0 dX7_placeOf_20 rfl rfl (pc' := 21) rfl ?_
      refine k_iload_n C 1 dX7_placeOf_21 rfl rfl (pc' := 22) rfl ?_
      refine k_callVi C (rest := [.int r3]) (qX7_weight l Γ hL m4 a1) mwX7_weight iwX7_weight mlX7_55 (k_rm_of (by decide) (by decide)) (c3 Γ m4 0 (e_model Γ (m4 0))) (v_0 (by decide)) rfl rfl rfl (Nat.le_of_ble_eq_true rfl) dX7_placeOf_22 (pc' := 25) rfl (fun r5 m6 => ?_)
      refine k_ic_lt C (tgt := 46) dX7_placeOf_25 (by decide) (pc' := 28) rfl (fun h7 => ?_) (fun h7 => ?_)
      · exact sX7_placeOf_b46 hL C hr a1 (fX7_placeOf_b4 a1 n) ih m6 b2 b3
      · refine k_aload_n C 0 dX7_placeOf_28 rfl rfl (pc' := 29) rfl ?_
        refine k_iload_n C 3 dX7_placeOf_29 rfl rfl (pc' := 30) rfl ?_
        refine k_callVi C (rest := []) (qX7_weight l Γ hL m6 b3) mwX7_weight iwX7_weight mlX7_55 (k_rm_of (by decide) (by decide)) (c3 Γ m6 0 (e_model Γ (m6 0))) (v_0 (by decide)) rfl rfl rfl (Nat.le_of_ble_eq_true rfl) dX7_placeOf_30 (pc' := 33) rfl (fun r15 m16 => ?_)
        refine k_aload_n C 0 dX7_placeOf_33 rfl rfl (pc' := 34) rfl ?_
        refine k_iload_n C 1 dX7_placeOf_34 rfl rfl (pc' := 35) rfl ?_
        refine k_callVi C (rest := [.int r15]) (qX7_weight l Γ hL m16 a1) mwX7_weight iwX7_weight mlX7_55 (k_rm_of (by decide) (by decide)) (c3 Γ m16 0 (e_model Γ (m16 0))) (v_0 (by decide)) rfl rfl rfl (Nat.le_of_ble_eq_true rfl) dX7_placeOf_35 (pc' := 38) rfl (fun r17 m18 => ?_)
        refine k_ic_ne C (tgt := 50) dX7_placeOf_38 (by decide) (pc' := 41) rfl (fun h19 => ?_) (fun h19 => ?_)
        · exact sX7_placeOf_b50 hL C hr a1 (fX7_placeOf_b4 a1 n) ih m18 b2 b3
        · refine k_iload_n C 3 dX7_placeOf_41 rfl rfl (pc' := 42) rfl ?_
          refine k_iload_n C 1 dX7_placeOf_42 rfl rfl (pc' := 43) rfl ?_
          refine k_ic_ge C (tgt := 50) dX7_placeOf_43 (by decide) (pc' := 46) rfl (fun h20 => ?_) (fun h20 => ?_)
          · exact sX7_placeOf_b50 hL C hr a1 (fX7_placeOf_b4 a1 n) ih m18 b2 b3
          · exact sX7_placeOf_b46 hL C hr a1 (fX7_placeOf_b4 a1 n) ih m18 b2 b3
def fX7_placeOf (m0 : kM1) (a1 : Int32) : Option (Int32 × kM1) :=
  fX7_placeOf_b4 a1 kFu m0 0 0
set_option maxRecDepth 100000 in
set_option maxHeartbeats 4000000 in
theorem qX7_placeOf (l : Launch) (Γ : kG) (hL : k_Lay Γ 7) (m0 : kM1) (a1 : Int32) : CT l Γ (K3 Γ) yX7_placeOf cX7_placeOf 5 (some .int) (k_R 3) [.ref (Γ.1 0 0), .int a1] m0 (fX7_placeOf m0 a1) := by
  refine k_meth (own := RX7) (by decide) rfl (Nat.le_of_ble_eq_true rfl) (fun p e R s mid args below meth c C hr => ?_)
  show Sm Γ (K3 Γ) p l e R s mid args below meth c 5 true m0 [(0, .ref (Γ.1 0 0)), (1, .int a1)] [] 0 (fX7_placeOf m0 a1)
  unfold fX7_placeOf
  refine k_iconst C (v := 0) dX7_placeOf_0 (by decide) (pc' := 1) rfl ?_
  refine k_istore_n C (lv' := [(2, .int 0), (0, .ref (Γ.1 0 0)), (1, .int a1)]) dX7_placeOf_1 rfl (by decide) rfl (pc' := 2) rfl ?_
  refine k_iconst C (v := 0) dX7_placeOf_2 (by decide) (pc' := 3) rfl ?_
  refine k_istore_n C (lv' := [(3, .int 0), (2, .int 0), (0, .ref (Γ.1 0 0)), (1, .int a1)]) dX7_placeOf_3 rfl (by decide) rfl (pc' := 4) rfl ?_
  refine k_sub [2, 3, 1, 0] rfl ?_
  exact sX7_placeOf_b4 hL C hr a1 kFu m0 0 0
def fX7_waitingAt_b33 (a1 : Int32) (rec2 : kM1 → Int32 → Option (Int32 × kM1)) (m0 : kM1) (b2 : Int32) : Option (Int32 × kM1) :=
  k_let (b2 + 1) fun v6 => rec2 m0 v6
set_option maxRecDepth 100000 in
set_option maxHeartbeats 4000000 in
theorem sX7_waitingAt_b33 {l : Launch} {Γ : kG} (hL : k_Lay Γ 7) {p : Program} {e : Env} {R : Room} {s : State} {mid : MethodId} {args : Array Value} {below : List Frame} {meth : Method} {c : Code} (C : k_C Γ p R s mid args meth c cX7_waitingAt 3 RX7 (k_R 4)) (hr : meth.sig.returnType = (some .int)) (a1 : Int32) (rec2 : kM1 → Int32 → Option (Int32 × kM1)) (hrec2 : ∀ (m0 : kM1) (b2 : Int32), Sm Γ (K3 Γ) p l e R s mid args below meth c 3 true m0 [(0, .ref (Γ.1 0 0)), (1, .int a1), (2, .int b2)] [] 2 (rec2 m0 b2)) (m0 : kM1) (b2 : Int32)  : Sm Γ (K3 Γ) p l e R s mid args below meth c 3 true m0 [(0, .ref (Γ.1 0 0)), (1, .int a1), (2, .int b2)] [] 33 (fX7_waitingAt_b33 a1 rec2 m0 b2) := by
  unfold fX7_waitingAt_b33
  refine k_iinc (v := 1) (q := 2) (lv' := [(0, .ref (Γ.1 0 0)), (1, .int a1)]) C dX7_waitingAt_33 rfl (by decide) (by decide) (pc' := 36) rfl (fun _ => rfl) (fun v6 => ?_)
  refine k_goto C (pc' := 2) dX7_waitingAt_36 (by decide) ?_
  refine k_sub [1, 2, 0] rfl ?_
  exact hrec2 m0 v6
def fX7_waitingAt_b2 (a1 : Int32) : Nat → kM1 → Int32 → Option (Int32 × kM1)
  | 0, _, _ => none
  | n + 1, m0, b2 =>
  if (m0 1 29) ≤ b2 then some ((-1), m0) else bd (fX7_of m0 b2 3) fun r3 m4 => if r3 = 0 then bd (fX7_placeOf m4 b2) fun r7 m8 => if r7 = a1 then some (b2, m8) else fX7_waitingAt_b33 a1 (fX7_waitingAt_b2 a1 n) m8 b2 else fX7_waitingAt_b33 a1 (fX7_waitingAt_b2 a1 n) m4 b2
set_option maxRecDepth 100000 in
set_option maxHeartbeats 4000000 in
theorem sX7_waitingAt_b2 {l : Launch} {Γ : kG} (hL : k_Lay Γ 7) {p : Program} {e : Env} {R : Room} {s : State} {mid : MethodId} {args : Array Value} {below : List Frame} {meth : Method} {c : Code} (C : k_C Γ p R s mid args meth c cX7_waitingAt 3 RX7 (k_R 4)) (hr : meth.sig.returnType = (some .int)) (a1 : Int32)  (n : Nat) : ∀ (m0 : kM1) (b2 : Int32), Sm Γ (K3 Γ) p l e R s mid args below meth c 3 true m0 [(0, .ref (Γ.1 0 0)), (1, .int a1), (2, .int b2)] [] 2 (fX7_waitingAt_b2 a1 n m0 b2) := by
  induction n with
  | zero => intros; exact k_none
  | succ n ih =>
    intro m0 b2
    unfold fX7_waitingAt_b2
    refine k_iload_n C 2 dX7_waitingAt_2 rfl rfl (pc' := 3) rfl ?_
    refine k_aload_n C 0 dX7_waitingAt_3 rfl rfl (pc' := 4) rfl ?_
    refine k_getf C 0 (c3 Γ m0 0 (e_model Γ (m0 0))) (v_0 (by decide)) flX7_7 (v := .ref (Γ.1 0 1)) rfl dX7_waitingAt_4 (pc' := 7) rfl ?_
    refine k_bipush C (v := 29) dX7_waitingAt_7 (by decide) (pc' := 9) rfl ?_
    refine k_ialdK C (n0 := 29) (c3 Γ m0 1 (e_d Γ (m0 1))) (v_0 (by decide)) (by decide) (by decide) dX7_waitingAt_9 (pc' := 10) rfl ?_
    refine k_ic_ge C (tgt := 39) dX7_waitingAt_10 (by decide) (pc' := 13) rfl (fun h2 => ?_) (fun h2 => ?_)
    · refine k_iconst C (v := (-1)) dX7_waitingAt_39 (by decide) (pc' := 40) rfl ?_
      exact k_reti C rfl hr dX7_waitingAt_40
    · refine k_aload_n C 0 dX7_waitingAt_13 rfl rfl (pc' := 14) rfl ?_
      refine k_iload_n C 2 dX7_waitingAt_14 rfl rfl (pc' := 15) rfl ?_
      refine k_iconst C (v := 3) dX7_waitingAt_15 (by decide) (pc' := 16) rfl ?_
      refine k_callVi C (rest := []) (qX7_of l Γ hL m0 b2 3) mwX7_of iwX7_of mlX7_38 (k_rm_of (by decide) (by decide)) (c3 Γ m0 0 (e_model Γ (m0 0))) (v_0 (by decide)) rfl rfl rfl (Nat.le_of_ble_eq_true rfl) dX7_waitingAt_16 (pc' := 19) rfl (fun r3 m4 => ?_)
      refine k_if_ne C (tgt := 33) dX7_waitingAt_19 (by decide) (pc' := 22) rfl (fun h5 => ?_) (fun h5 => ?_)
      · exact sX7_waitingAt_b33 hL C hr a1 (fX7_waitingAt_b2 a1 n) ih m4 b2
      · refine k_aload_n C 0 dX7_waitingAt_22 rfl rfl (pc' := 23) rfl ?_
        refine k_iload_n C 2 dX7_waitingAt_23 rfl rfl (pc' := 24) rfl ?_
        refine k_callVi C (rest := []) (qX7_placeOf l Γ hL m4 b2) mwX7_placeOf iwX7_placeOf mlX7_58 (k_rm_of (by decide) (by decide)) (c3 Γ m4 0 (e_model Γ (m4 0))) (v_0 (by decide)) rfl rfl rfl (Nat.le_of_ble_eq_true rfl) dX7_waitingAt_24 (pc' := 27) rfl (fun r7 m8 => ?_)
        refine k_iload_n C 1 dX7_waitingAt_27 rfl rfl (pc' := 28) rfl ?_
        refine k_ic_ne C (tgt := 33) dX7_waitingAt_28 (by decide) (pc' := 31) rfl (fun h9 => ?_) (fun h9 => ?_)
        · exact sX7_waitingAt_b33 hL C hr a1 (fX7_waitingAt_b2 a1 n) ih m8 b2
        · refine k_iload_n C 2 dX7_waitingAt_31 rfl rfl (pc' := 32) rfl ?_
          exact k_reti C rfl hr dX7_waitingAt_32
def fX7_waitingAt (m0 : kM1) (a1 : Int32) : Option (Int32 × kM1) :=
  fX7_waitingAt_b2 a1 kFu m0 0
set_option maxRecDepth 100000 in
set_option maxHeartbeats 4000000 in
theorem qX7_waitingAt (l : Launch) (Γ : kG) (hL : k_Lay Γ 7) (m0 : kM1) (a1 : Int32) : CT l Γ (K3 Γ) yX7_waitingAt cX7_waitingAt 3 (some .int) (k_R 4) [.ref (Γ.1 0 0), .int a1] m0 (fX7_waitingAt m0 a1) := by
  refine k_meth (own := RX7) (by decide) rfl (Nat.le_of_ble_eq_true rfl) (fun p e R s mid args below meth c C hr => ?_)
  show Sm Γ (K3 Γ) p l e R s mid args below meth c 3 true m0 [(0, .ref (Γ.1 0 0)), (1, .int a1)] [] 0 (fX7_waitingAt m0 a1)
  unfold fX7_waitingAt
  refine k_iconst C (v := 0) dX7_waitingAt_0 (by decide) (pc' := 1) rfl ?_
  refine k_istore_n C (lv' := [(2, .int 0), (0, .ref (Γ.1 0 0)), (1, .int a1)]) dX7_waitingAt_1 rfl (by decide) rfl (pc' := 2) rfl ?_
  refine k_sub [1, 2, 0] rfl ?_
  exact sX7_waitingAt_b2 hL C hr a1 kFu m0 0
def fX7_sacksIn_b31 (a1 : Int32) (rec4 : kM1 → Int32 → Int32 → Option (Int32 × kM1)) (m0 : kM1) (b3 : Int32) (t0 : Int32) (t1 : Int32) : Option (Int32 × kM1) :=
  k_let (t1 + t0) fun v6 => k_let (b3 + 1) fun v7 => rec4 m0 v6 v7
set_option maxRecDepth 100000 in
set_option maxHeartbeats 4000000 in
theorem sX7_sacksIn_b31 {l : Launch} {Γ : kG} (hL : k_Lay Γ 7) {p : Program} {e : Env} {R : Room} {s : State} {mid : MethodId} {args : Array Value} {below : List Frame} {meth : Method} {c : Code} (C : k_C Γ p R s mid args meth c cX7_sacksIn 4 RX7 (k_R 1)) (hr : meth.sig.returnType = (some .int)) (a1 : Int32) (rec4 : kM1 → Int32 → Int32 → Option (Int32 × kM1)) (hrec4 : ∀ (m0 : kM1) (b2 : Int32) (b3 : Int32), Sm Γ (K3 Γ) p l e R s mid args below meth c 4 true m0 [(0, .ref (Γ.1 0 0)), (1, .int a1), (2, .int b2), (3, .int b3)] [] 4 (rec4 m0 b2 b3)) (m0 : kM1) (b3 : Int32) (t0 : Int32) (t1 : Int32)  : Sm Γ (K3 Γ) p l e R s mid args below meth c 4 true m0 [(0, .ref (Γ.1 0 0)), (1, .int a1), (3, .int b3)] [.int t0, .int t1] 31 (fX7_sacksIn_b31 a1 rec4 m0 b3 t0 t1) := by
  unfold fX7_sacksIn_b31
  refine k_iadd C dX7_sacksIn_31 (pc' := 32) rfl ?_
  refine k_topi (fun v6 => ?_)
  refine k_istore_n C (lv' := [(2, .int v6), (0, .ref (Γ.1 0 0)), (1, .int a1), (3, .int b3)]) dX7_sacksIn_32 rfl (by decide) rfl (pc' := 33) rfl ?_
  refine k_iinc (v := 1) (q := 3) (lv' := [(2, .int v6), (0, .ref (Γ.1 0 0)), (1, .int a1)]) C dX7_sacksIn_33 rfl (by decide) (by decide) (pc' := 36) rfl (fun _ => rfl) (fun v7 => ?_)
  refine k_goto C (pc' := 4) dX7_sacksIn_36 (by decide) ?_
  refine k_sub [2, 3, 1, 0] rfl ?_
  exact hrec4 m0 v6 v7
def fX7_sacksIn_b4 (a1 : Int32) : Nat → kM1 → Int32 → Int32 → Option (Int32 × kM1)
  | 0, _, _, _ => none
  | n + 1, m0, b2, b3 =>
  if (m0 1 29) ≤ b3 then some (b2, m0) else bd (fX7_of m0 b3 3) fun r3 m4 => if r3 = a1 then fX7_sacksIn_b31 a1 (fX7_sacksIn_b4 a1 n) m4 b3 1 b2 else fX7_sacksIn_b31 a1 (fX7_sacksIn_b4 a1 n) m4 b3 0 b2
set_option maxRecDepth 100000 in
set_option maxHeartbeats 4000000 in
theorem sX7_sacksIn_b4 {l : Launch} {Γ : kG} (hL : k_Lay Γ 7) {p : Program} {e : Env} {R : Room} {s : State} {mid : MethodId} {args : Array Value} {below : List Frame} {meth : Method} {c : Code} (C : k_C Γ p R s mid args meth c cX7_sacksIn 4 RX7 (k_R 1)) (hr : meth.sig.returnType = (some .int)) (a1 : Int32)  (n : Nat) : ∀ (m0 : kM1) (b2 : Int32) (b3 : Int32), Sm Γ (K3 Γ) p l e R s mid args below meth c 4 true m0 [(0, .ref (Γ.1 0 0)), (1, .int a1), (2, .int b2), (3, .int b3)] [] 4 (fX7_sacksIn_b4 a1 n m0 b2 b3) := by
  induction n with
  | zero => intros; exact k_none
  | succ n ih =>
    intro m0 b2 b3
    unfold fX7_sacksIn_b4
    refine k_iload_n C 3 dX7_sacksIn_4 rfl rfl (pc' := 5) rfl ?_
    refine k_aload_n C 0 dX7_sacksIn_5 rfl rfl (pc' := 6) rfl ?_
    refine k_getf C 0 (c3 Γ m0 0 (e_model Γ (m0 0))) (v_0 (by decide)) flX7_7 (v := .ref (Γ.1 0 1)) rfl dX7_sacksIn_6 (pc' := 9) rfl ?_
    refine k_bipush C (v := 29) dX7_sacksIn_9 (by decide) (pc' := 11) rfl ?_
    refine k_ialdK C (n0 := 29) (c3 Γ m0 1 (e_d Γ (m0 1))) (v_0 (by decide)) (by decide) (by decide) dX7_sacksIn_11 (pc' := 12) rfl ?_
    refine k_ic_ge C (tgt := 39) dX7_sacksIn_12 (by decide) (pc' := 15) rfl (fun h2 => ?_) (fun h2 => ?_)
    · refine k_iload_n C 2 dX7_sacksIn_39 rfl rfl (pc' := 40) rfl ?_
      exact k_reti C rfl hr dX7_sacksIn_40
    · refine k_iload_n C 2 dX7_sacksIn_15 rfl rfl (pc' := 16) rfl ?_
      refine k_aload_n C 0 dX7_sacksIn_16 rfl rfl (pc' := 17) rfl ?_
      refine k_iload_n C 3 dX7_sacksIn_17 rfl rfl (pc' := 18) rfl ?_
      refine k_iconst C (v := 3) dX7_sacksIn_18 (by decide) (pc' := 19) rfl ?_
      refine k_callVi C (rest := [.int b2]) (qX7_of l Γ hL m0 b3 3) mwX7_of iwX7_of mlX7_38 (k_rm_of (by decide) (by decide)) (c3 Γ m0 0 (e_model Γ (m0 0))) (v_0 (by decide)) rfl rfl rfl (Nat.le_of_ble_eq_true rfl) dX7_sacksIn_19 (pc' := 22) rfl (fun r3 m4 => ?_)
      refine k_iload_n C 1 dX7_sacksIn_22 rfl rfl (pc' := 23) rfl ?_
      refine k_ic_ne C (tgt := 30) dX7_sacksIn_23 (by decide) (pc' := 26) rfl (fun h5 => ?_) (fun h5 => ?_)
      · refine k_iconst C (v := 0) dX7_sacksIn_30 (by decide) (pc' := 31) rfl ?_
        refine k_sub [0, 1, 3] rfl ?_
        exact sX7_sacksIn_b31 hL C hr a1 (fX7_sacksIn_b4 a1 n) ih m4 b3 0 b2
      · refine k_iconst C (v := 1) dX7_sacksIn_26 (by decide) (pc' := 27) rfl ?_
        refine k_goto C (pc' := 31) dX7_sacksIn_27 (by decide) ?_
        refine k_sub [0, 1, 3] rfl ?_
        exact sX7_sacksIn_b31 hL C hr a1 (fX7_sacksIn_b4 a1 n) ih m4 b3 1 b2
def fX7_sacksIn (m0 : kM1) (a1 : Int32) : Option (Int32 × kM1) :=
  fX7_sacksIn_b4 a1 kFu m0 0 0
set_option maxRecDepth 100000 in
set_option maxHeartbeats 4000000 in
theorem qX7_sacksIn (l : Launch) (Γ : kG) (hL : k_Lay Γ 7) (m0 : kM1) (a1 : Int32) : CT l Γ (K3 Γ) yX7_sacksIn cX7_sacksIn 4 (some .int) (k_R 1) [.ref (Γ.1 0 0), .int a1] m0 (fX7_sacksIn m0 a1) := by
  refine k_meth (own := RX7) (by decide) rfl (Nat.le_of_ble_eq_true rfl) (fun p e R s mid args below meth c C hr => ?_)
  show Sm Γ (K3 Γ) p l e R s mid args below meth c 4 true m0 [(0, .ref (Γ.1 0 0)), (1, .int a1)] [] 0 (fX7_sacksIn m0 a1)
  unfold fX7_sacksIn
  refine k_iconst C (v := 0) dX7_sacksIn_0 (by decide) (pc' := 1) rfl ?_
  refine k_istore_n C (lv' := [(2, .int 0), (0, .ref (Γ.1 0 0)), (1, .int a1)]) dX7_sacksIn_1 rfl (by decide) rfl (pc' := 2) rfl ?_
  refine k_iconst C (v := 0) dX7_sacksIn_2 (by decide) (pc' := 3) rfl ?_
  refine k_istore_n C (lv' := [(3, .int 0), (2, .int 0), (0, .ref (Γ.1 0 0)), (1, .int a1)]) dX7_sacksIn_3 rfl (by decide) rfl (pc' := 4) rfl ?_
  refine k_sub [2, 3, 1, 0] rfl ?_
  exact sX7_sacksIn_b4 hL C hr a1 kFu m0 0 0
def fX7_sea_b112 (a1 : Int32)  (m0 : kM1) (t0 : Int32) (t1 : Int32) : Option (Int32 × kM1) :=
  some (t1 + t0, m0)
set_option maxRecDepth 100000 in
set_option maxHeartbeats 4000000 in
theorem sX7_sea_b112 {l : Launch} {Γ : kG} (hL : k_Lay Γ 7) {p : Program} {e : Env} {R : Room} {s : State} {mid : MethodId} {args : Array Value} {below : List Frame} {meth : Method} {c : Code} (C : k_C Γ p R s mid args meth c cX7_sea 7 RX7 (k_R 0)) (hr : meth.sig.returnType = (some .int)) (a1 : Int32)  (m0 : kM1) (t0 : Int32) (t1 : Int32)  : Sm Γ (K3 Γ) p l e R s mid args below meth c 7 true m0 [] [.int t0, .int t1] 112 (fX7_sea_b112 a1 m0 t0 t1) := by
  unfold fX7_sea_b112
  refine k_iadd C dX7_sea_112 (pc' := 113) rfl ?_
  exact k_reti C rfl hr dX7_sea_113
def fX7_sea_b62 (a1 : Int32)  (m0 : kM1) (b3 : Int32) (b4 : Int32) (t0 : Int32) (t1 : Int32) (t2 : Int32) : Option (Int32 × kM1) :=
  k_let (t2 + ((t1 * t0) / 7)) fun v11 => if b4 < b3 then if ¬ ((m0 1 4) - b4) = 0 then fX7_sea_b112 a1 m0 ((v11 * ((m0 1 4) - b3)) / ((m0 1 4) - b4)) (m0 1 1) else none else if ¬ b4 = 0 then fX7_sea_b112 a1 m0 ((v11 * b3) / b4) (m0 1 1) else none
set_option maxRecDepth 100000 in
set_option maxHeartbeats 4000000 in
theorem sX7_sea_b62 {l : Launch} {Γ : kG} (hL : k_Lay Γ 7) {p : Program} {e : Env} {R : Room} {s : State} {mid : MethodId} {args : Array Value} {below : List Frame} {meth : Method} {c : Code} (C : k_C Γ p R s mid args meth c cX7_sea 7 RX7 (k_R 0)) (hr : meth.sig.returnType = (some .int)) (a1 : Int32)  (m0 : kM1) (b3 : Int32) (b4 : Int32) (t0 : Int32) (t1 : Int32) (t2 : Int32)  : Sm Γ (K3 Γ) p l e R s mid args below meth c 7 true m0 [(0, .ref (Γ.1 0 0)), (3, .int b3), (4, .int b4)] [.int t0, .int t1, .int t2] 62 (fX7_sea_b62 a1 m0 b3 b4 t0 t1 t2) := by
  unfold fX7_sea_b62
  refine k_imul C dX7_sea_62 (pc' := 63) rfl ?_
  refine k_bipush C (v := 7) dX7_sea_63 (by decide) (pc' := 65) rfl ?_
  refine k_idivK C dX7_sea_65 (by decide) (pc' := 66) rfl ?_
  refine k_iadd C dX7_sea_66 (pc' := 67) rfl ?_
  refine k_topi (fun v11 => ?_)
  refine k_istore C (lv' := [(6, .int v11), (0, .ref (Γ.1 0 0)), (3, .int b3), (4, .int b4)]) dX7_sea_67 (by decide) rfl (pc' := 69) rfl ?_
  refine k_aload_n C 1 dX7_sea_69 rfl rfl (pc' := 70) rfl ?_
  refine k_getf C 0 (c3 Γ m0 0 (e_model Γ (m0 0))) (v_0 (by decide)) flX7_7 (v := .ref (Γ.1 0 1)) rfl dX7_sea_70 (pc' := 73) rfl ?_
  refine k_iconst C (v := 1) dX7_sea_73 (by decide) (pc' := 74) rfl ?_
  refine k_ialdK C (n0 := 1) (c3 Γ m0 1 (e_d Γ (m0 1))) (v_0 (by decide)) (by decide) (by decide) dX7_sea_74 (pc' := 75) rfl ?_
  refine k_iload_n C 2 dX7_sea_75 rfl rfl (pc' := 76) rfl ?_
  refine k_iload C 3 dX7_sea_76 rfl (pc' := 78) rfl ?_
  refine k_ic_gt C (tgt := 91) dX7_sea_78 (by decide) (pc' := 81) rfl (fun h13 => ?_) (fun h13 => ?_)
  · refine k_iload C 0 dX7_sea_91 rfl (pc' := 93) rfl ?_
    refine k_aload_n C 1 dX7_sea_93 rfl rfl (pc' := 94) rfl ?_
    refine k_getf C 0 (c3 Γ m0 0 (e_model Γ (m0 0))) (v_0 (by decide)) flX7_7 (v := .ref (Γ.1 0 1)) rfl dX7_sea_94 (pc' := 97) rfl ?_
    refine k_iconst C (v := 4) dX7_sea_97 (by decide) (pc' := 98) rfl ?_
    refine k_ialdK C (n0 := 4) (c3 Γ m0 1 (e_d Γ (m0 1))) (v_0 (by decide)) (by decide) (by decide) dX7_sea_98 (pc' := 99) rfl ?_
    refine k_iload_n C 2 dX7_sea_99 rfl rfl (pc' := 100) rfl ?_
    refine k_isub C dX7_sea_100 (pc' := 101) rfl ?_
    refine k_imul C dX7_sea_101 (pc' := 102) rfl ?_
    refine k_aload_n C 1 dX7_sea_102 rfl rfl (pc' := 103) rfl ?_
    refine k_getf C 0 (c3 Γ m0 0 (e_model Γ (m0 0))) (v_0 (by decide)) flX7_7 (v := .ref (Γ.1 0 1)) rfl dX7_sea_103 (pc' := 106) rfl ?_
    refine k_iconst C (v := 4) dX7_sea_106 (by decide) (pc' := 107) rfl ?_
    refine k_ialdK C (n0 := 4) (c3 Γ m0 1 (e_d Γ (m0 1))) (v_0 (by decide)) (by decide) (by decide) dX7_sea_107 (pc' := 108) rfl ?_
    refine k_iload C 3 dX7_sea_108 rfl (pc' := 110) rfl ?_
    refine k_isub C dX7_sea_110 (pc' := 111) rfl ?_
    refine k_idiv C dX7_sea_111 (pc' := 112) rfl ?_
    refine k_sub [] rfl ?_
    exact sX7_sea_b112 hL C hr a1 m0 ((v11 * ((m0 1 4) - b3)) / ((m0 1 4) - b4)) (m0 1 1)
  · refine k_iload C 0 dX7_sea_81 rfl (pc' := 83) rfl ?_
    refine k_iload_n C 2 dX7_sea_83 rfl rfl (pc' := 84) rfl ?_
    refine k_imul C dX7_sea_84 (pc' := 85) rfl ?_
    refine k_iload C 3 dX7_sea_85 rfl (pc' := 87) rfl ?_
    refine k_idiv C dX7_sea_87 (pc' := 88) rfl ?_
    refine k_goto C (pc' := 112) dX7_sea_88 (by decide) ?_
    refine k_sub [] rfl ?_
    exact sX7_sea_b112 hL C hr a1 m0 ((v11 * b3) / b4) (m0 1 1)
def fX7_sea (m0 : kM1) (a1 : Int32) : Option (Int32 × kM1) :=
  if ¬ (m0 1 4) = 0 then k_let (a1 / (m0 1 4)) fun v2 => if ¬ (m0 1 4) = 0 then k_let (a1 - a1 / (m0 1 4) * (m0 1 4)) fun v4 => k_let ((m0 1 4) / 2) fun v6 => k_let ((v2 - v2 / 14 * 14) - 7) fun v7 => if 0 ≤ v7 then fX7_sea_b62 a1 m0 v4 v6 v7 (m0 1 3) (m0 1 2) else fX7_sea_b62 a1 m0 v4 v6 (-v7) (m0 1 3) (m0 1 2) else none else none
set_option maxRecDepth 100000 in
set_option maxHeartbeats 4000000 in
theorem qX7_sea (l : Launch) (Γ : kG) (hL : k_Lay Γ 7) (m0 : kM1) (a1 : Int32) : CT l Γ (K3 Γ) yX7_sea cX7_sea 7 (some .int) (k_R 0) [.ref (Γ.1 0 0), .int a1] m0 (fX7_sea m0 a1) := by
  refine k_meth (own := RX7) (by decide) rfl (Nat.le_of_ble_eq_true rfl) (fun p e R s mid args below meth c C hr => ?_)
  show Sm Γ (K3 Γ) p l e R s mid args below meth c 7 true m0 [(0, .ref (Γ.1 0 0)), (1, .int a1)] [] 0 (fX7_sea m0 a1)
  unfold fX7_sea
  refine k_iload_n C 1 dX7_sea_0 rfl rfl (pc' := 1) rfl ?_
  refine k_aload_n C 0 dX7_sea_1 rfl rfl (pc' := 2) rfl ?_
  refine k_getf C 0 (c3 Γ m0 0 (e_model Γ (m0 0))) (v_0 (by decide)) flX7_7 (v := .ref (Γ.1 0 1)) rfl dX7_sea_2 (pc' := 5) rfl ?_
  refine k_iconst C (v := 4) dX7_sea_5 (by decide) (pc' := 6) rfl ?_
  refine k_ialdK C (n0 := 4) (c3 Γ m0 1 (e_d Γ (m0 1))) (v_0 (by decide)) (by decide) (by decide) dX7_sea_6 (pc' := 7) rfl ?_
  refine k_idiv C dX7_sea_7 (pc' := 8) rfl ?_
  refine k_topi (fun v2 => ?_)
  refine k_istore_n C (lv' := [(2, .int v2), (0, .ref (Γ.1 0 0)), (1, .int a1)]) dX7_sea_8 rfl (by decide) rfl (pc' := 9) rfl ?_
  refine k_iload_n C 2 dX7_sea_9 rfl rfl (pc' := 10) rfl ?_
  refine k_aload_n C 1 dX7_sea_10 rfl rfl (pc' := 11) rfl ?_
  refine k_getf C 0 (c3 Γ m0 0 (e_model Γ (m0 0))) (v_0 (by decide)) flX7_7 (v := .ref (Γ.1 0 1)) rfl dX7_sea_11 (pc' := 14) rfl ?_
  refine k_iconst C (v := 4) dX7_sea_14 (by decide) (pc' := 15) rfl ?_
  refine k_ialdK C (n0 := 4) (c3 Γ m0 1 (e_d Γ (m0 1))) (v_0 (by decide)) (by decide) (by decide) dX7_sea_15 (pc' := 16) rfl ?_
  refine k_irem C dX7_sea_16 (pc' := 17) rfl ?_
  refine k_topi (fun v4 => ?_)
  refine k_istore_n C (lv' := [(3, .int v4), (2, .int v2), (0, .ref (Γ.1 0 0)), (1, .int a1)]) dX7_sea_17 rfl (by decide) rfl (pc' := 18) rfl ?_
  refine k_aload_n C 2 dX7_sea_18 rfl rfl (pc' := 19) rfl ?_
  refine k_getf C 0 (c3 Γ m0 0 (e_model Γ (m0 0))) (v_0 (by decide)) flX7_7 (v := .ref (Γ.1 0 1)) rfl dX7_sea_19 (pc' := 22) rfl ?_
  refine k_iconst C (v := 4) dX7_sea_22 (by decide) (pc' := 23) rfl ?_
  refine k_ialdK C (n0 := 4) (c3 Γ m0 1 (e_d Γ (m0 1))) (v_0 (by decide)) (by decide) (by decide) dX7_sea_23 (pc' := 24) rfl ?_
  refine k_iconst C (v := 2) dX7_sea_24 (by decide) (pc' := 25) rfl ?_
  refine k_idivK C dX7_sea_25 (by decide) (pc' := 26) rfl ?_
  refine k_topi (fun v6 => ?_)
  refine k_istore C (lv' := [(4, .int v6), (3, .int v4), (2, .int v2), (0, .ref (Γ.1 0 0)), (1, .int a1)]) dX7_sea_26 (by decide) rfl (pc' := 28) rfl ?_
  refine k_iload_n C 2 dX7_sea_28 rfl rfl (pc' := 29) rfl ?_
  refine k_bipush C (v := 14) dX7_sea_29 (by decide) (pc' := 31) rfl ?_
  refine k_iremK C dX7_sea_31 (by decide) (pc' := 32) rfl ?_
  refine k_bipush C (v := 7) dX7_sea_32 (by decide) (pc' := 34) rfl ?_
  refine k_isub C dX7_sea_34 (pc' := 35) rfl ?_
  refine k_topi (fun v7 => ?_)
  refine k_istore C (lv' := [(5, .int v7), (4, .int v6), (3, .int v4), (2, .int v2), (0, .ref (Γ.1 0 0)), (1, .int a1)]) dX7_sea_35 (by decide) rfl (pc' := 37) rfl ?_
  refine k_aload_n C 4 dX7_sea_37 rfl rfl (pc' := 38) rfl ?_
  refine k_getf C 0 (c3 Γ m0 0 (e_model Γ (m0 0))) (v_0 (by decide)) flX7_7 (v := .ref (Γ.1 0 1)) rfl dX7_sea_38 (pc' := 41) rfl ?_
  refine k_iconst C (v := 2) dX7_sea_41 (by decide) (pc' := 42) rfl ?_
  refine k_ialdK C (n0 := 2) (c3 Γ m0 1 (e_d Γ (m0 1))) (v_0 (by decide)) (by decide) (by decide) dX7_sea_42 (pc' := 43) rfl ?_
  refine k_aload_n C 4 dX7_sea_43 rfl rfl (pc' := 44) rfl ?_
  refine k_getf C 0 (c3 Γ m0 0 (e_model Γ (m0 0))) (v_0 (by decide)) flX7_7 (v := .ref (Γ.1 0 1)) rfl dX7_sea_44 (pc' := 47) rfl ?_
  refine k_iconst C (v := 3) dX7_sea_47 (by decide) (pc' := 48) rfl ?_
  refine k_ialdK C (n0 := 3) (c3 Γ m0 1 (e_d Γ (m0 1))) (v_0 (by decide)) (by decide) (by decide) dX7_sea_48 (pc' := 49) rfl ?_
  refine k_iload C 0 dX7_sea_49 rfl (pc' := 51) rfl ?_
  refine k_if_ge C (tgt := 60) dX7_sea_51 (by decide) (pc' := 54) rfl (fun h10 => ?_) (fun h10 => ?_)
  · refine k_iload C 0 dX7_sea_60 rfl (pc' := 62) rfl ?_
    refine k_sub [4, 2, 1] rfl ?_
    exact sX7_sea_b62 hL C hr a1 m0 v4 v6 v7 (m0 1 3) (m0 1 2)
  · refine k_iload C 0 dX7_sea_54 rfl (pc' := 56) rfl ?_
    refine k_ineg C dX7_sea_56 (pc' := 57) rfl ?_
    refine k_goto C (pc' := 62) dX7_sea_57 (by decide) ?_
    refine k_sub [4, 2, 1] rfl ?_
    exact sX7_sea_b62 hL C hr a1 m0 v4 v6 (-v7) (m0 1 3) (m0 1 2)
def fX7_head (m0 : kM1) : Option (Int32 × kM1) :=
  if ¬ (m0 1 0) = 0 then bd (fX7_sea m0 (m0 1 26)) fun r4 m5 => some (((m0 1 19) / (m0 1 0)) - r4, m5) else none
set_option maxRecDepth 100000 in
set_option maxHeartbeats 4000000 in
theorem qX7_head (l : Launch) (Γ : kG) (hL : k_Lay Γ 7) (m0 : kM1) : CT l Γ (K3 Γ) yX7_head cX7_head 1 (some .int) (k_R 1) [.ref (Γ.1 0 0)] m0 (fX7_head m0 ) := by
  refine k_meth (own := RX7) (by decide) rfl (Nat.le_of_ble_eq_true rfl) (fun p e R s mid args below meth c C hr => ?_)
  show Sm Γ (K3 Γ) p l e R s mid args below meth c 1 true m0 [(0, .ref (Γ.1 0 0))] [] 0 (fX7_head m0 )
  unfold fX7_head
  refine k_aload_n C 0 dX7_head_0 rfl rfl (pc' := 1) rfl ?_
  refine k_getf C 0 (c3 Γ m0 0 (e_model Γ (m0 0))) (v_0 (by decide)) flX7_7 (v := .ref (Γ.1 0 1)) rfl dX7_head_1 (pc' := 4) rfl ?_
  refine k_bipush C (v := 19) dX7_head_4 (by decide) (pc' := 6) rfl ?_
  refine k_ialdK C (n0 := 19) (c3 Γ m0 1 (e_d Γ (m0 1))) (v_0 (by decide)) (by decide) (by decide) dX7_head_6 (pc' := 7) rfl ?_
  refine k_aload_n C 0 dX7_head_7 rfl rfl (pc' := 8) rfl ?_
  refine k_getf C 0 (c3 Γ m0 0 (e_model Γ (m0 0))) (v_0 (by decide)) flX7_7 (v := .ref (Γ.1 0 1)) rfl dX7_head_8 (pc' := 11) rfl ?_
  refine k_iconst C (v := 0) dX7_head_11 (by decide) (pc' := 12) rfl ?_
  refine k_ialdK C (n0 := 0) (c3 Γ m0 1 (e_d Γ (m0 1))) (v_0 (by decide)) (by decide) (by decide) dX7_head_12 (pc' := 13) rfl ?_
  refine k_idiv C dX7_head_13 (pc' := 14) rfl ?_
  refine k_aload_n C 0 dX7_head_14 rfl rfl (pc' := 15) rfl ?_
  refine k_aload_n C 0 dX7_head_15 rfl rfl (pc' := 16) rfl ?_
  refine k_getf C 0 (c3 Γ m0 0 (e_model Γ (m0 0))) (v_0 (by decide)) flX7_7 (v := .ref (Γ.1 0 1)) rfl dX7_head_16 (pc' := 19) rfl ?_
  refine k_bipush C (v := 26) dX7_head_19 (by decide) (pc' := 21) rfl ?_
  refine k_ialdK C (n0 := 26) (c3 Γ m0 1 (e_d Γ (m0 1))) (v_0 (by decide)) (by decide) (by decide) dX7_head_21 (pc' := 22) rfl ?_
  refine k_callVi C (rest := [.int ((m0 1 19) / (m0 1 0))]) (qX7_sea l Γ hL m0 (m0 1 26)) mwX7_sea iwX7_sea mlX7_61 (k_rm_of (by decide) (by decide)) (c3 Γ m0 0 (e_model Γ (m0 0))) (v_0 (by decide)) rfl rfl rfl (Nat.le_of_ble_eq_true rfl) dX7_head_22 (pc' := 25) rfl (fun r4 m5 => ?_)
  refine k_isub C dX7_head_25 (pc' := 26) rfl ?_
  exact k_reti C rfl hr dX7_head_26
def fX7_falls_b73  (rec2 : kM1 → Int32 → Option (Int32 × kM1)) (m0 : kM1) (b1 : Int32) : Option (Int32 × kM1) :=
  k_let (b1 + 1) fun v6 => rec2 m0 v6
set_option maxRecDepth 100000 in
set_option maxHeartbeats 4000000 in
theorem sX7_falls_b73 {l : Launch} {Γ : kG} (hL : k_Lay Γ 7) {p : Program} {e : Env} {R : Room} {s : State} {mid : MethodId} {args : Array Value} {below : List Frame} {meth : Method} {c : Code} (C : k_C Γ p R s mid args meth c cX7_falls 2 RX7 (k_R 1)) (hr : meth.sig.returnType = none) (rec2 : kM1 → Int32 → Option (Int32 × kM1)) (hrec2 : ∀ (m0 : kM1) (b1 : Int32), Sm Γ (K3 Γ) p l e R s mid args below meth c 2 false m0 [(0, .ref (Γ.1 0 0)), (1, .int b1)] [] 2 (rec2 m0 b1)) (m0 : kM1) (b1 : Int32)  : Sm Γ (K3 Γ) p l e R s mid args below meth c 2 false m0 [(0, .ref (Γ.1 0 0)), (1, .int b1)] [] 73 (fX7_falls_b73 rec2 m0 b1) := by
  unfold fX7_falls_b73
  refine k_iinc (v := 1) (q := 1) (lv' := [(0, .ref (Γ.1 0 0))]) C dX7_falls_73 rfl (by decide) (by decide) (pc' := 76) rfl (fun _ => rfl) (fun v6 => ?_)
  refine k_goto C (pc' := 2) dX7_falls_76 (by decide) ?_
  refine k_sub [1, 0] rfl ?_
  exact hrec2 m0 v6
def fX7_falls_b2 : Nat → kM1 → Int32 → Option (Int32 × kM1)
  | 0, _, _ => none
  | n + 1, m0, b1 =>
  if (m0 1 29) ≤ b1 then some (0, m0) else bd (fX7_of m0 b1 6) fun r3 m4 => if r3 ≤ 0 then fX7_falls_b73 (fX7_falls_b2 n) m4 b1 else bd (fX7_of m4 b1 9) fun r7 m8 => if ((m8 1 26) / 96) ≤ r7 then fX7_falls_b73 (fX7_falls_b2 n) m8 b1 else bd (fX7_of m8 b1 10) fun r11 m12 => bd (fX7_of m12 b1 6) fun r13 m14 => bd (fX7_put m14 b1 10 (r11 + r13)) fun r15 m16 => bd (fX7_put m16 b1 6 0) fun r17 m18 => fX7_falls_b73 (fX7_falls_b2 n) m18 b1
set_option maxRecDepth 100000 in
set_option maxHeartbeats 4000000 in
theorem sX7_falls_b2 {l : Launch} {Γ : kG} (hL : k_Lay Γ 7) {p : Program} {e : Env} {R : Room} {s : State} {mid : MethodId} {args : Array Value} {below : List Frame} {meth : Method} {c : Code} (C : k_C Γ p R s mid args meth c cX7_falls 2 RX7 (k_R 1)) (hr : meth.sig.returnType = none)  (n : Nat) : ∀ (m0 : kM1) (b1 : Int32), Sm Γ (K3 Γ) p l e R s mid args below meth c 2 false m0 [(0, .ref (Γ.1 0 0)), (1, .int b1)] [] 2 (fX7_falls_b2 n m0 b1) := by
  induction n with
  | zero => intros; exact k_none
  | succ n ih =>
    intro m0 b1
    unfold fX7_falls_b2
    refine k_iload_n C 1 dX7_falls_2 rfl rfl (pc' := 3) rfl ?_
    refine k_aload_n C 0 dX7_falls_3 rfl rfl (pc' := 4) rfl ?_
    refine k_getf C 0 (c3 Γ m0 0 (e_model Γ (m0 0))) (v_0 (by decide)) flX7_7 (v := .ref (Γ.1 0 1)) rfl dX7_falls_4 (pc' := 7) rfl ?_
    refine k_bipush C (v := 29) dX7_falls_7 (by decide) (pc' := 9) rfl ?_
    refine k_ialdK C (n0 := 29) (c3 Γ m0 1 (e_d Γ (m0 1))) (v_0 (by decide)) (by decide) (by decide) dX7_falls_9 (pc' := 10) rfl ?_
    refine k_ic_ge C (tgt := 79) dX7_falls_10 (by decide) (pc' := 13) rfl (fun h2 => ?_) (fun h2 => ?_)
    · exact k_retv C rfl hr dX7_falls_79
    · refine k_aload_n C 0 dX7_falls_13 rfl rfl (pc' := 14) rfl ?_
      refine k_iload_n C 1 dX7_falls_14 rfl rfl (pc' := 15) rfl ?_
      refine k_bipush C (v := 6) dX7_falls_15 (by decide) (pc' := 17) rfl ?_
      refine k_callVi C (rest := []) (qX7_of l Γ hL m0 b1 6) mwX7_of iwX7_of mlX7_38 (k_rm_of (by decide) (by decide)) (c3 Γ m0 0 (e_model Γ (m0 0))) (v_0 (by decide)) rfl rfl rfl (Nat.le_of_ble_eq_true rfl) dX7_falls_17 (pc' := 20) rfl (fun r3 m4 => ?_)
      refine k_if_le C (tgt := 73) dX7_falls_20 (by decide) (pc' := 23) rfl (fun h5 => ?_) (fun h5 => ?_)
      · exact sX7_falls_b73 hL C hr (fX7_falls_b2 n) ih m4 b1
      · refine k_aload_n C 0 dX7_falls_23 rfl rfl (pc' := 24) rfl ?_
        refine k_iload_n C 1 dX7_falls_24 rfl rfl (pc' := 25) rfl ?_
        refine k_bipush C (v := 9) dX7_falls_25 (by decide) (pc' := 27) rfl ?_
        refine k_callVi C (rest := []) (qX7_of l Γ hL m4 b1 9) mwX7_of iwX7_of mlX7_38 (k_rm_of (by decide) (by decide)) (c3 Γ m4 0 (e_model Γ (m4 0))) (v_0 (by decide)) rfl rfl rfl (Nat.le_of_ble_eq_true rfl) dX7_falls_27 (pc' := 30) rfl (fun r7 m8 => ?_)
        refine k_aload_n C 0 dX7_falls_30 rfl rfl (pc' := 31) rfl ?_
        refine k_getf C 0 (c3 Γ m8 0 (e_model Γ (m8 0))) (v_0 (by decide)) flX7_7 (v := .ref (Γ.1 0 1)) rfl dX7_falls_31 (pc' := 34) rfl ?_
        refine k_bipush C (v := 26) dX7_falls_34 (by decide) (pc' := 36) rfl ?_
        refine k_ialdK C (n0 := 26) (c3 Γ m8 1 (e_d Γ (m8 1))) (v_0 (by decide)) (by decide) (by decide) dX7_falls_36 (pc' := 37) rfl ?_
        refine k_bipush C (v := 96) dX7_falls_37 (by decide) (pc' := 39) rfl ?_
        refine k_idivK C dX7_falls_39 (by decide) (pc' := 40) rfl ?_
        refine k_ic_ge C (tgt := 73) dX7_falls_40 (by decide) (pc' := 43) rfl (fun h10 => ?_) (fun h10 => ?_)
        · exact sX7_falls_b73 hL C hr (fX7_falls_b2 n) ih m8 b1
        · refine k_aload_n C 0 dX7_falls_43 rfl rfl (pc' := 44) rfl ?_
          refine k_iload_n C 1 dX7_falls_44 rfl rfl (pc' := 45) rfl ?_
          refine k_bipush C (v := 10) dX7_falls_45 (by decide) (pc' := 47) rfl ?_
          refine k_aload_n C 0 dX7_falls_47 rfl rfl (pc' := 48) rfl ?_
          refine k_iload_n C 1 dX7_falls_48 rfl rfl (pc' := 49) rfl ?_
          refine k_bipush C (v := 10) dX7_falls_49 (by decide) (pc' := 51) rfl ?_
          refine k_callVi C (rest := [.int 10, .int b1, .ref (Γ.1 0 0)]) (qX7_of l Γ hL m8 b1 10) mwX7_of iwX7_of mlX7_38 (k_rm_of (by decide) (by decide)) (c3 Γ m8 0 (e_model Γ (m8 0))) (v_0 (by decide)) rfl rfl rfl (Nat.le_of_ble_eq_true rfl) dX7_falls_51 (pc' := 54) rfl (fun r11 m12 => ?_)
          refine k_aload_n C 0 dX7_falls_54 rfl rfl (pc' := 55) rfl ?_
          refine k_iload_n C 1 dX7_falls_55 rfl rfl (pc' := 56) rfl ?_
          refine k_bipush C (v := 6) dX7_falls_56 (by decide) (pc' := 58) rfl ?_
          refine k_callVi C (rest := [.int r11, .int 10, .int b1, .ref (Γ.1 0 0)]) (qX7_of l Γ hL m12 b1 6) mwX7_of iwX7_of mlX7_38 (k_rm_of (by decide) (by decide)) (c3 Γ m12 0 (e_model Γ (m12 0))) (v_0 (by decide)) rfl rfl rfl (Nat.le_of_ble_eq_true rfl) dX7_falls_58 (pc' := 61) rfl (fun r13 m14 => ?_)
          refine k_iadd C dX7_falls_61 (pc' := 62) rfl ?_
          refine k_callVv C (rest := []) (qX7_put l Γ hL m14 b1 10 (r11 + r13)) mwX7_put iwX7_put mlX7_64 (k_rm_of (by decide) (by decide)) (c3 Γ m14 0 (e_model Γ (m14 0))) (v_0 (by decide)) rfl rfl rfl (Nat.le_of_ble_eq_true rfl) dX7_falls_62 (pc' := 65) rfl (fun r15 m16 => ?_)
          refine k_aload_n C 0 dX7_falls_65 rfl rfl (pc' := 66) rfl ?_
          refine k_iload_n C 1 dX7_falls_66 rfl rfl (pc' := 67) rfl ?_
          refine k_bipush C (v := 6) dX7_falls_67 (by decide) (pc' := 69) rfl ?_
          refine k_iconst C (v := 0) dX7_falls_69 (by decide) (pc' := 70) rfl ?_
          refine k_callVv C (rest := []) (qX7_put l Γ hL m16 b1 6 0) mwX7_put iwX7_put mlX7_64 (k_rm_of (by decide) (by decide)) (c3 Γ m16 0 (e_model Γ (m16 0))) (v_0 (by decide)) rfl rfl rfl (Nat.le_of_ble_eq_true rfl) dX7_falls_70 (pc' := 73) rfl (fun r17 m18 => ?_)
          exact sX7_falls_b73 hL C hr (fX7_falls_b2 n) ih m18 b1
def fX7_falls (m0 : kM1) : Option (Int32 × kM1) :=
  fX7_falls_b2 kFu m0 0
set_option maxRecDepth 100000 in
set_option maxHeartbeats 4000000 in
theorem qX7_falls (l : Launch) (Γ : kG) (hL : k_Lay Γ 7) (m0 : kM1) : CT l Γ (K3 Γ) yX7_falls cX7_falls 2 none (k_R 1) [.ref (Γ.1 0 0)] m0 (fX7_falls m0 ) := by
  refine k_meth (own := RX7) (by decide) rfl (Nat.le_of_ble_eq_true rfl) (fun p e R s mid args below meth c C hr => ?_)
  show Sm Γ (K3 Γ) p l e R s mid args below meth c 2 false m0 [(0, .ref (Γ.1 0 0))] [] 0 (fX7_falls m0 )
  unfold fX7_falls
  refine k_iconst C (v := 0) dX7_falls_0 (by decide) (pc' := 1) rfl ?_
  refine k_istore_n C (lv' := [(1, .int 0), (0, .ref (Γ.1 0 0))]) dX7_falls_1 rfl (by decide) rfl (pc' := 2) rfl ?_
  refine k_sub [1, 0] rfl ?_
  exact sX7_falls_b2 hL C hr kFu m0 0
def fX7_flows_b128  (rec82 : kM1 → Int32 → Int32 → Option (Int32 × kM1)) (m0 : kM1) (b2 : Int32) (b3 : Int32) (t0 : Int32) : Option (Int32 × kM1) :=
  k_let (mu m0 1 19 ((m0 1 19) - t0)) fun m16 => k_let (mu m16 1 21 ((m16 1 21) + t0)) fun m19 => k_let (b3 + 1) fun v20 => rec82 m19 b2 v20
set_option maxRecDepth 100000 in
set_option maxHeartbeats 4000000 in
theorem sX7_flows_b128 {l : Launch} {Γ : kG} (hL : k_Lay Γ 7) {p : Program} {e : Env} {R : Room} {s : State} {mid : MethodId} {args : Array Value} {below : List Frame} {meth : Method} {c : Code} (C : k_C Γ p R s mid args meth c cX7_flows 5 RX7 (k_R 2)) (hr : meth.sig.returnType = none) (rec82 : kM1 → Int32 → Int32 → Option (Int32 × kM1)) (hrec82 : ∀ (m0 : kM1) (b2 : Int32) (b3 : Int32), Sm Γ (K3 Γ) p l e R s mid args below meth c 5 false m0 [(0, .ref (Γ.1 0 0)), (2, .int b2), (3, .int b3)] [] 82 (rec82 m0 b2 b3)) (m0 : kM1) (b2 : Int32) (b3 : Int32) (t0 : Int32)  : Sm Γ (K3 Γ) p l e R s mid args below meth c 5 false m0 [(0, .ref (Γ.1 0 0)), (2, .int b2), (3, .int b3)] [.int t0] 128 (fX7_flows_b128 rec82 m0 b2 b3 t0) := by
  unfold fX7_flows_b128
  refine k_istore C (lv' := [(4, .int t0), (0, .ref (Γ.1 0 0)), (2, .int b2), (3, .int b3)]) dX7_flows_128 (by decide) rfl (pc' := 130) rfl ?_
  refine k_aload_n C 1 dX7_flows_130 rfl rfl (pc' := 131) rfl ?_
  refine k_getf C 0 (c3 Γ m0 0 (e_model Γ (m0 0))) (v_0 (by decide)) flX7_7 (v := .ref (Γ.1 0 1)) rfl dX7_flows_131 (pc' := 134) rfl ?_
  refine k_bipush C (v := 19) dX7_flows_134 (by decide) (pc' := 136) rfl ?_
  refine k_dup2 C dX7_flows_136 rfl rfl (pc' := 137) rfl ?_
  refine k_ialdK C (n0 := 19) (c3 Γ m0 1 (e_d Γ (m0 1))) (v_0 (by decide)) (by decide) (by decide) dX7_flows_137 (pc' := 138) rfl ?_
  refine k_iload C 0 dX7_flows_138 rfl (pc' := 140) rfl ?_
  refine k_isub C dX7_flows_140 (pc' := 141) rfl ?_
  refine k_iastK C (n0 := 19) hL.k3 (c3 Γ m0 1 (e_d Γ (m0 1))) (v_0 (by decide)) (by decide) (by decide) (s3 Γ m0 1 19 ((m0 1 19) - t0) (e_d Γ _)) dX7_flows_141 (pc' := 142) rfl (fun m16 => ?_)
  refine k_aload_n C 1 dX7_flows_142 rfl rfl (pc' := 143) rfl ?_
  refine k_getf C 0 (c3 Γ m16 0 (e_model Γ (m16 0))) (v_0 (by decide)) flX7_7 (v := .ref (Γ.1 0 1)) rfl dX7_flows_143 (pc' := 146) rfl ?_
  refine k_bipush C (v := 21) dX7_flows_146 (by decide) (pc' := 148) rfl ?_
  refine k_dup2 C dX7_flows_148 rfl rfl (pc' := 149) rfl ?_
  refine k_ialdK C (n0 := 21) (c3 Γ m16 1 (e_d Γ (m16 1))) (v_0 (by decide)) (by decide) (by decide) dX7_flows_149 (pc' := 150) rfl ?_
  refine k_iload C 0 dX7_flows_150 rfl (pc' := 152) rfl ?_
  refine k_iadd C dX7_flows_152 (pc' := 153) rfl ?_
  refine k_iastK C (n0 := 21) hL.k3 (c3 Γ m16 1 (e_d Γ (m16 1))) (v_0 (by decide)) (by decide) (by decide) (s3 Γ m16 1 21 ((m16 1 21) + t0) (e_d Γ _)) dX7_flows_153 (pc' := 154) rfl (fun m19 => ?_)
  refine k_iinc (v := 1) (q := 3) (lv' := [(4, .int t0), (0, .ref (Γ.1 0 0)), (2, .int b2)]) C dX7_flows_154 rfl (by decide) (by decide) (pc' := 157) rfl (fun _ => rfl) (fun v20 => ?_)
  refine k_goto C (pc' := 82) dX7_flows_157 (by decide) ?_
  refine k_sub [2, 3, 0] rfl ?_
  exact hrec82 m19 b2 v20
def fX7_flows_b82 : Nat → kM1 → Int32 → Int32 → Option (Int32 × kM1)
  | 0, _, _, _ => none
  | n + 1, m0, b2, b3 =>
  if 4 ≤ b3 then some (0, m0) else if b2 ≤ 0 then some (0, m0) else if ¬ (13 + b3) < 0 ∧ (13 + b3).toNatClampNeg < 368 then k_let ((m0 1 (13 + b3).toNatClampNeg) * b2) fun v11 => if v11 ≤ (m0 1 19) then fX7_flows_b128 (fX7_flows_b82 n) m0 b2 b3 v11 else fX7_flows_b128 (fX7_flows_b82 n) m0 b2 b3 (m0 1 19) else none
set_option maxRecDepth 100000 in
set_option maxHeartbeats 4000000 in
theorem sX7_flows_b82 {l : Launch} {Γ : kG} (hL : k_Lay Γ 7) {p : Program} {e : Env} {R : Room} {s : State} {mid : MethodId} {args : Array Value} {below : List Frame} {meth : Method} {c : Code} (C : k_C Γ p R s mid args meth c cX7_flows 5 RX7 (k_R 2)) (hr : meth.sig.returnType = none)  (n : Nat) : ∀ (m0 : kM1) (b2 : Int32) (b3 : Int32), Sm Γ (K3 Γ) p l e R s mid args below meth c 5 false m0 [(0, .ref (Γ.1 0 0)), (2, .int b2), (3, .int b3)] [] 82 (fX7_flows_b82 n m0 b2 b3) := by
  induction n with
  | zero => intros; exact k_none
  | succ n ih =>
    intro m0 b2 b3
    unfold fX7_flows_b82
    refine k_iload_n C 2 dX7_flows_82 rfl rfl (pc' := 83) rfl ?_
    refine k_iconst C (v := 4) dX7_flows_83 (by decide) (pc' := 84) rfl ?_
    refine k_ic_ge C (tgt := 160) dX7_flows_84 (by decide) (pc' := 87) rfl (fun h8 => ?_) (fun h8 => ?_)
    · exact k_retv C rfl hr dX7_flows_160
    · refine k_iload_n C 1 dX7_flows_87 rfl rfl (pc' := 88) rfl ?_
      refine k_if_le C (tgt := 160) dX7_flows_88 (by decide) (pc' := 91) rfl (fun h9 => ?_) (fun h9 => ?_)
      · exact k_retv C rfl hr dX7_flows_160
      · refine k_aload_n C 0 dX7_flows_91 rfl rfl (pc' := 92) rfl ?_
        refine k_getf C 0 (c3 Γ m0 0 (e_model Γ (m0 0))) (v_0 (by decide)) flX7_7 (v := .ref (Γ.1 0 1)) rfl dX7_flows_92 (pc' := 95) rfl ?_
        refine k_bipush C (v := 13) dX7_flows_95 (by decide) (pc' := 97) rfl ?_
        refine k_iload_n C 2 dX7_flows_97 rfl rfl (pc' := 98) rfl ?_
        refine k_iadd C dX7_flows_98 (pc' := 99) rfl ?_
        refine k_iald C (c3 Γ m0 1 (e_d Γ (m0 1))) (v_0 (by decide)) dX7_flows_99 (pc' := 100) rfl (fun h10 => ?_)
        refine k_iload_n C 1 dX7_flows_100 rfl rfl (pc' := 101) rfl ?_
        refine k_imul C dX7_flows_101 (pc' := 102) rfl ?_
        refine k_topi (fun v11 => ?_)
        refine k_istore C (lv' := [(4, .int v11), (0, .ref (Γ.1 0 0)), (2, .int b2), (3, .int b3)]) dX7_flows_102 (by decide) rfl (pc' := 104) rfl ?_
        refine k_iload C 0 dX7_flows_104 rfl (pc' := 106) rfl ?_
        refine k_aload_n C 1 dX7_flows_106 rfl rfl (pc' := 107) rfl ?_
        refine k_getf C 0 (c3 Γ m0 0 (e_model Γ (m0 0))) (v_0 (by decide)) flX7_7 (v := .ref (Γ.1 0 1)) rfl dX7_flows_107 (pc' := 110) rfl ?_
        refine k_bipush C (v := 19) dX7_flows_110 (by decide) (pc' := 112) rfl ?_
        refine k_ialdK C (n0 := 19) (c3 Γ m0 1 (e_d Γ (m0 1))) (v_0 (by decide)) (by decide) (by decide) dX7_flows_112 (pc' := 113) rfl ?_
        refine k_ic_le C (tgt := 126) dX7_flows_113 (by decide) (pc' := 116) rfl (fun h13 => ?_) (fun h13 => ?_)
        · refine k_iload C 0 dX7_flows_126 rfl (pc' := 128) rfl ?_
          refine k_sub [1, 2, 3] rfl ?_
          exact sX7_flows_b128 hL C hr (fX7_flows_b82 n) ih m0 b2 b3 v11
        · refine k_aload_n C 1 dX7_flows_116 rfl rfl (pc' := 117) rfl ?_
          refine k_getf C 0 (c3 Γ m0 0 (e_model Γ (m0 0))) (v_0 (by decide)) flX7_7 (v := .ref (Γ.1 0 1)) rfl dX7_flows_117 (pc' := 120) rfl ?_
          refine k_bipush C (v := 19) dX7_flows_120 (by decide) (pc' := 122) rfl ?_
          refine k_ialdK C (n0 := 19) (c3 Γ m0 1 (e_d Γ (m0 1))) (v_0 (by decide)) (by decide) (by decide) dX7_flows_122 (pc' := 123) rfl ?_
          refine k_goto C (pc' := 128) dX7_flows_123 (by decide) ?_
          refine k_sub [1, 2, 3] rfl ?_
          exact sX7_flows_b128 hL C hr (fX7_flows_b82 n) ih m0 b2 b3 (m0 1 19)
def fX7_flows_b75   (m0 : kM1) : Option (Int32 × kM1) :=
  bd (fX7_head m0) fun r6 m7 => fX7_flows_b82 kFu m7 r6 0
set_option maxRecDepth 100000 in
set_option maxHeartbeats 4000000 in
theorem sX7_flows_b75 {l : Launch} {Γ : kG} (hL : k_Lay Γ 7) {p : Program} {e : Env} {R : Room} {s : State} {mid : MethodId} {args : Array Value} {below : List Frame} {meth : Method} {c : Code} (C : k_C Γ p R s mid args meth c cX7_flows 5 RX7 (k_R 2)) (hr : meth.sig.returnType = none)  (m0 : kM1)   : Sm Γ (K3 Γ) p l e R s mid args below meth c 5 false m0 [(0, .ref (Γ.1 0 0))] [] 75 (fX7_flows_b75 m0) := by
  unfold fX7_flows_b75
  refine k_aload_n C 0 dX7_flows_75 rfl rfl (pc' := 76) rfl ?_
  refine k_callVi C (rest := []) (qX7_head l Γ hL m0) mwX7_head iwX7_head mlX7_68 (k_rm_of (by decide) (by decide)) (c3 Γ m0 0 (e_model Γ (m0 0))) (v_0 (by decide)) rfl rfl rfl (Nat.le_of_ble_eq_true rfl) dX7_flows_76 (pc' := 79) rfl (fun r6 m7 => ?_)
  refine k_istore_n C (lv' := [(2, .int r6), (0, .ref (Γ.1 0 0))]) dX7_flows_79 rfl (by decide) rfl (pc' := 80) rfl ?_
  refine k_iconst C (v := 0) dX7_flows_80 (by decide) (pc' := 81) rfl ?_
  refine k_istore_n C (lv' := [(3, .int 0), (2, .int r6), (0, .ref (Γ.1 0 0))]) dX7_flows_81 rfl (by decide) rfl (pc' := 82) rfl ?_
  refine k_sub [2, 1, 0] rfl ?_
  exact sX7_flows_b82 hL C hr kFu m7 r6 0
def fX7_flows_b50   (m0 : kM1) (b1 : Int32) (t0 : Int32) : Option (Int32 × kM1) :=
  k_let (t0 * b1) fun v27 => k_let (mu m0 1 19 ((m0 1 19) + v27)) fun m30 => k_let (mu m30 1 20 ((m30 1 20) + v27)) fun m33 => fX7_flows_b75 m33
set_option maxRecDepth 100000 in
set_option maxHeartbeats 4000000 in
theorem sX7_flows_b50 {l : Launch} {Γ : kG} (hL : k_Lay Γ 7) {p : Program} {e : Env} {R : Room} {s : State} {mid : MethodId} {args : Array Value} {below : List Frame} {meth : Method} {c : Code} (C : k_C Γ p R s mid args meth c cX7_flows 5 RX7 (k_R 2)) (hr : meth.sig.returnType = none)  (m0 : kM1) (b1 : Int32) (t0 : Int32)  : Sm Γ (K3 Γ) p l e R s mid args below meth c 5 false m0 [(0, .ref (Γ.1 0 0)), (1, .int b1)] [.int t0] 50 (fX7_flows_b50 m0 b1 t0) := by
  unfold fX7_flows_b50
  refine k_iload_n C 1 dX7_flows_50 rfl rfl (pc' := 51) rfl ?_
  refine k_imul C dX7_flows_51 (pc' := 52) rfl ?_
  refine k_topi (fun v27 => ?_)
  refine k_istore_n C (lv' := [(2, .int v27), (0, .ref (Γ.1 0 0)), (1, .int b1)]) dX7_flows_52 rfl (by decide) rfl (pc' := 53) rfl ?_
  refine k_aload_n C 1 dX7_flows_53 rfl rfl (pc' := 54) rfl ?_
  refine k_getf C 0 (c3 Γ m0 0 (e_model Γ (m0 0))) (v_0 (by decide)) flX7_7 (v := .ref (Γ.1 0 1)) rfl dX7_flows_54 (pc' := 57) rfl ?_
  refine k_bipush C (v := 19) dX7_flows_57 (by decide) (pc' := 59) rfl ?_
  refine k_dup2 C dX7_flows_59 rfl rfl (pc' := 60) rfl ?_
  refine k_ialdK C (n0 := 19) (c3 Γ m0 1 (e_d Γ (m0 1))) (v_0 (by decide)) (by decide) (by decide) dX7_flows_60 (pc' := 61) rfl ?_
  refine k_iload_n C 0 dX7_flows_61 rfl rfl (pc' := 62) rfl ?_
  refine k_iadd C dX7_flows_62 (pc' := 63) rfl ?_
  refine k_iastK C (n0 := 19) hL.k3 (c3 Γ m0 1 (e_d Γ (m0 1))) (v_0 (by decide)) (by decide) (by decide) (s3 Γ m0 1 19 ((m0 1 19) + v27) (e_d Γ _)) dX7_flows_63 (pc' := 64) rfl (fun m30 => ?_)
  refine k_aload_n C 1 dX7_flows_64 rfl rfl (pc' := 65) rfl ?_
  refine k_getf C 0 (c3 Γ m30 0 (e_model Γ (m30 0))) (v_0 (by decide)) flX7_7 (v := .ref (Γ.1 0 1)) rfl dX7_flows_65 (pc' := 68) rfl ?_
  refine k_bipush C (v := 20) dX7_flows_68 (by decide) (pc' := 70) rfl ?_
  refine k_dup2 C dX7_flows_70 rfl rfl (pc' := 71) rfl ?_
  refine k_ialdK C (n0 := 20) (c3 Γ m30 1 (e_d Γ (m30 1))) (v_0 (by decide)) (by decide) (by decide) dX7_flows_71 (pc' := 72) rfl ?_
  refine k_iload_n C 0 dX7_flows_72 rfl rfl (pc' := 73) rfl ?_
  refine k_iadd C dX7_flows_73 (pc' := 74) rfl ?_
  refine k_iastK C (n0 := 20) hL.k3 (c3 Γ m30 1 (e_d Γ (m30 1))) (v_0 (by decide)) (by decide) (by decide) (s3 Γ m30 1 20 ((m30 1 20) + v27) (e_d Γ _)) dX7_flows_74 (pc' := 75) rfl (fun m33 => ?_)
  refine k_sub [1] rfl ?_
  exact sX7_flows_b75 hL C hr m33
def fX7_flows (m0 : kM1) : Option (Int32 × kM1) :=
  bd (fX7_head m0) fun r1 m2 => k_let (-r1) fun v3 => if (m2 1 17) = 0 then if v3 ≤ 0 then fX7_flows_b75 m2 else if (m2 1 0) ≤ (m2 1 5) then fX7_flows_b50 m2 v3 (m2 1 0) else fX7_flows_b50 m2 v3 (m2 1 5) else fX7_flows_b75 m2
set_option maxRecDepth 100000 in
set_option maxHeartbeats 4000000 in
theorem qX7_flows (l : Launch) (Γ : kG) (hL : k_Lay Γ 7) (m0 : kM1) : CT l Γ (K3 Γ) yX7_flows cX7_flows 5 none (k_R 2) [.ref (Γ.1 0 0)] m0 (fX7_flows m0 ) := by
  refine k_meth (own := RX7) (by decide) rfl (Nat.le_of_ble_eq_true rfl) (fun p e R s mid args below meth c C hr => ?_)
  show Sm Γ (K3 Γ) p l e R s mid args below meth c 5 false m0 [(0, .ref (Γ.1 0 0))] [] 0 (fX7_flows m0 )
  unfold fX7_flows
  refine k_aload_n C 0 dX7_flows_0 rfl rfl (pc' := 1) rfl ?_
  refine k_callVi C (rest := []) (qX7_head l Γ hL m0) mwX7_head iwX7_head mlX7_68 (k_rm_of (by decide) (by decide)) (c3 Γ m0 0 (e_model Γ (m0 0))) (v_0 (by decide)) rfl rfl rfl (Nat.le_of_ble_eq_true rfl) dX7_flows_1 (pc' := 4) rfl (fun r1 m2 => ?_)
  refine k_ineg C dX7_flows_4 (pc' := 5) rfl ?_
  refine k_topi (fun v3 => ?_)
  refine k_istore_n C (lv' := [(1, .int v3), (0, .ref (Γ.1 0 0))]) dX7_flows_5 rfl (by decide) rfl (pc' := 6) rfl ?_
  refine k_aload_n C 1 dX7_flows_6 rfl rfl (pc' := 7) rfl ?_
  refine k_getf C 0 (c3 Γ m2 0 (e_model Γ (m2 0))) (v_0 (by decide)) flX7_7 (v := .ref (Γ.1 0 1)) rfl dX7_flows_7 (pc' := 10) rfl ?_
  refine k_bipush C (v := 17) dX7_flows_10 (by decide) (pc' := 12) rfl ?_
  refine k_ialdK C (n0 := 17) (c3 Γ m2 1 (e_d Γ (m2 1))) (v_0 (by decide)) (by decide) (by decide) dX7_flows_12 (pc' := 13) rfl ?_
  refine k_if_ne C (tgt := 75) dX7_flows_13 (by decide) (pc' := 16) rfl (fun h5 => ?_) (fun h5 => ?_)
  · refine k_sub [1] rfl ?_
    exact sX7_flows_b75 hL C hr m2
  · refine k_iload_n C 0 dX7_flows_16 rfl rfl (pc' := 17) rfl ?_
    refine k_if_le C (tgt := 75) dX7_flows_17 (by decide) (pc' := 20) rfl (fun h22 => ?_) (fun h22 => ?_)
    · refine k_sub [1] rfl ?_
      exact sX7_flows_b75 hL C hr m2
    · refine k_aload_n C 1 dX7_flows_20 rfl rfl (pc' := 21) rfl ?_
      refine k_getf C 0 (c3 Γ m2 0 (e_model Γ (m2 0))) (v_0 (by decide)) flX7_7 (v := .ref (Γ.1 0 1)) rfl dX7_flows_21 (pc' := 24) rfl ?_
      refine k_iconst C (v := 5) dX7_flows_24 (by decide) (pc' := 25) rfl ?_
      refine k_ialdK C (n0 := 5) (c3 Γ m2 1 (e_d Γ (m2 1))) (v_0 (by decide)) (by decide) (by decide) dX7_flows_25 (pc' := 26) rfl ?_
      refine k_aload_n C 1 dX7_flows_26 rfl rfl (pc' := 27) rfl ?_
      refine k_getf C 0 (c3 Γ m2 0 (e_model Γ (m2 0))) (v_0 (by decide)) flX7_7 (v := .ref (Γ.1 0 1)) rfl dX7_flows_27 (pc' := 30) rfl ?_
      refine k_iconst C (v := 0) dX7_flows_30 (by decide) (pc' := 31) rfl ?_
      refine k_ialdK C (n0 := 0) (c3 Γ m2 1 (e_d Γ (m2 1))) (v_0 (by decide)) (by decide) (by decide) dX7_flows_31 (pc' := 32) rfl ?_
      refine k_ic_ge C (tgt := 44) dX7_flows_32 (by decide) (pc' := 35) rfl (fun h25 => ?_) (fun h25 => ?_)
      · refine k_aload_n C 1 dX7_flows_44 rfl rfl (pc' := 45) rfl ?_
        refine k_getf C 0 (c3 Γ m2 0 (e_model Γ (m2 0))) (v_0 (by decide)) flX7_7 (v := .ref (Γ.1 0 1)) rfl dX7_flows_45 (pc' := 48) rfl ?_
        refine k_iconst C (v := 0) dX7_flows_48 (by decide) (pc' := 49) rfl ?_
        refine k_ialdK C (n0 := 0) (c3 Γ m2 1 (e_d Γ (m2 1))) (v_0 (by decide)) (by decide) (by decide) dX7_flows_49 (pc' := 50) rfl ?_
        refine k_sub [1, 0] rfl ?_
        exact sX7_flows_b50 hL C hr m2 v3 (m2 1 0)
      · refine k_aload_n C 1 dX7_flows_35 rfl rfl (pc' := 36) rfl ?_
        refine k_getf C 0 (c3 Γ m2 0 (e_model Γ (m2 0))) (v_0 (by decide)) flX7_7 (v := .ref (Γ.1 0 1)) rfl dX7_flows_36 (pc' := 39) rfl ?_
        refine k_iconst C (v := 5) dX7_flows_39 (by decide) (pc' := 40) rfl ?_
        refine k_ialdK C (n0 := 5) (c3 Γ m2 1 (e_d Γ (m2 1))) (v_0 (by decide)) (by decide) (by decide) dX7_flows_40 (pc' := 41) rfl ?_
        refine k_goto C (pc' := 50) dX7_flows_41 (by decide) ?_
        refine k_sub [1, 0] rfl ?_
        exact sX7_flows_b50 hL C hr m2 v3 (m2 1 5)
def fX7_comes (m0 : kM1) (a1 : Int32) : Option (Int32 × kM1) :=
  k_let (mu m0 1 24 a1) fun m2 => bd (fX7_of m2 a1 1) fun r3 m4 => k_let (mu m4 1 25 r3) fun m6 => bd (fX7_put m6 a1 3 1) fun r7 m8 => bd (fX7_put m8 a1 12 1) fun r9 m10 => bd (fX7_put m10 a1 5 (m10 1 8)) fun r12 m13 => some (0, m13)
set_option maxRecDepth 100000 in
set_option maxHeartbeats 4000000 in
theorem qX7_comes (l : Launch) (Γ : kG) (hL : k_Lay Γ 7) (m0 : kM1) (a1 : Int32) : CT l Γ (K3 Γ) yX7_comes cX7_comes 2 none (k_R 1) [.ref (Γ.1 0 0), .int a1] m0 (fX7_comes m0 a1) := by
  refine k_meth (own := RX7) (by decide) rfl (Nat.le_of_ble_eq_true rfl) (fun p e R s mid args below meth c C hr => ?_)
  show Sm Γ (K3 Γ) p l e R s mid args below meth c 2 false m0 [(0, .ref (Γ.1 0 0)), (1, .int a1)] [] 0 (fX7_comes m0 a1)
  unfold fX7_comes
  refine k_aload_n C 0 dX7_comes_0 rfl rfl (pc' := 1) rfl ?_
  refine k_getf C 0 (c3 Γ m0 0 (e_model Γ (m0 0))) (v_0 (by decide)) flX7_7 (v := .ref (Γ.1 0 1)) rfl dX7_comes_1 (pc' := 4) rfl ?_
  refine k_bipush C (v := 24) dX7_comes_4 (by decide) (pc' := 6) rfl ?_
  refine k_iload_n C 1 dX7_comes_6 rfl rfl (pc' := 7) rfl ?_
  refine k_iastK C (n0 := 24) hL.k3 (c3 Γ m0 1 (e_d Γ (m0 1))) (v_0 (by decide)) (by decide) (by decide) (s3 Γ m0 1 24 a1 (e_d Γ _)) dX7_comes_7 (pc' := 8) rfl (fun m2 => ?_)
  refine k_aload_n C 0 dX7_comes_8 rfl rfl (pc' := 9) rfl ?_
  refine k_getf C 0 (c3 Γ m2 0 (e_model Γ (m2 0))) (v_0 (by decide)) flX7_7 (v := .ref (Γ.1 0 1)) rfl dX7_comes_9 (pc' := 12) rfl ?_
  refine k_bipush C (v := 25) dX7_comes_12 (by decide) (pc' := 14) rfl ?_
  refine k_aload_n C 0 dX7_comes_14 rfl rfl (pc' := 15) rfl ?_
  refine k_iload_n C 1 dX7_comes_15 rfl rfl (pc' := 16) rfl ?_
  refine k_iconst C (v := 1) dX7_comes_16 (by decide) (pc' := 17) rfl ?_
  refine k_callVi C (rest := [.int 25, .ref (Γ.1 0 1)]) (qX7_of l Γ hL m2 a1 1) mwX7_of iwX7_of mlX7_38 (k_rm_of (by decide) (by decide)) (c3 Γ m2 0 (e_model Γ (m2 0))) (v_0 (by decide)) rfl rfl rfl (Nat.le_of_ble_eq_true rfl) dX7_comes_17 (pc' := 20) rfl (fun r3 m4 => ?_)
  refine k_iastK C (n0 := 25) hL.k3 (c3 Γ m4 1 (e_d Γ (m4 1))) (v_0 (by decide)) (by decide) (by decide) (s3 Γ m4 1 25 r3 (e_d Γ _)) dX7_comes_20 (pc' := 21) rfl (fun m6 => ?_)
  refine k_aload_n C 0 dX7_comes_21 rfl rfl (pc' := 22) rfl ?_
  refine k_iload_n C 1 dX7_comes_22 rfl rfl (pc' := 23) rfl ?_
  refine k_iconst C (v := 3) dX7_comes_23 (by decide) (pc' := 24) rfl ?_
  refine k_iconst C (v := 1) dX7_comes_24 (by decide) (pc' := 25) rfl ?_
  refine k_callVv C (rest := []) (qX7_put l Γ hL m6 a1 3 1) mwX7_put iwX7_put mlX7_64 (k_rm_of (by decide) (by decide)) (c3 Γ m6 0 (e_model Γ (m6 0))) (v_0 (by decide)) rfl rfl rfl (Nat.le_of_ble_eq_true rfl) dX7_comes_25 (pc' := 28) rfl (fun r7 m8 => ?_)
  refine k_aload_n C 0 dX7_comes_28 rfl rfl (pc' := 29) rfl ?_
  refine k_iload_n C 1 dX7_comes_29 rfl rfl (pc' := 30) rfl ?_
  refine k_bipush C (v := 12) dX7_comes_30 (by decide) (pc' := 32) rfl ?_
  refine k_iconst C (v := 1) dX7_comes_32 (by decide) (pc' := 33) rfl ?_
  refine k_callVv C (rest := []) (qX7_put l Γ hL m8 a1 12 1) mwX7_put iwX7_put mlX7_64 (k_rm_of (by decide) (by decide)) (c3 Γ m8 0 (e_model Γ (m8 0))) (v_0 (by decide)) rfl rfl rfl (Nat.le_of_ble_eq_true rfl) dX7_comes_33 (pc' := 36) rfl (fun r9 m10 => ?_)
  refine k_aload_n C 0 dX7_comes_36 rfl rfl (pc' := 37) rfl ?_
  refine k_iload_n C 1 dX7_comes_37 rfl rfl (pc' := 38) rfl ?_
  refine k_iconst C (v := 5) dX7_comes_38 (by decide) (pc' := 39) rfl ?_
  refine k_aload_n C 0 dX7_comes_39 rfl rfl (pc' := 40) rfl ?_
  refine k_getf C 0 (c3 Γ m10 0 (e_model Γ (m10 0))) (v_0 (by decide)) flX7_7 (v := .ref (Γ.1 0 1)) rfl dX7_comes_40 (pc' := 43) rfl ?_
  refine k_bipush C (v := 8) dX7_comes_43 (by decide) (pc' := 45) rfl ?_
  refine k_ialdK C (n0 := 8) (c3 Γ m10 1 (e_d Γ (m10 1))) (v_0 (by decide)) (by decide) (by decide) dX7_comes_45 (pc' := 46) rfl ?_
  refine k_callVv C (rest := []) (qX7_put l Γ hL m10 a1 5 (m10 1 8)) mwX7_put iwX7_put mlX7_64 (k_rm_of (by decide) (by decide)) (c3 Γ m10 0 (e_model Γ (m10 0))) (v_0 (by decide)) rfl rfl rfl (Nat.le_of_ble_eq_true rfl) dX7_comes_46 (pc' := 49) rfl (fun r12 m13 => ?_)
  exact k_retv C rfl hr dX7_comes_49
