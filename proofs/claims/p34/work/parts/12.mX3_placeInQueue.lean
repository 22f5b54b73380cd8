def fX3_placeInQueue_b51 (a1 : Int32) (rec19 : kM1 → Int32 → Int32 → Option (Int32 × kM1)) (m0 : kM1) (b2 : Int32) (b3 : Int32) : Option (Int32 × kM1) :=
  k_let (b3 + 1) fun v6 => rec19 m0 b2 v6
set_option maxRecDepth 100000 in
set_option maxHeartbeats 4000000 in
theorem sX3_placeInQueue_b51 {l : Launch} {Γ : kG} (hL : k_Lay Γ 314) {M : kM2} {i : Nat} (hi : i < 7) {p : Program} {e : Env} {R : Room} {s : State} {mid : MethodId} {args : Array Value} {below : List Frame} {meth : Method} {c : Code} (C : k_C Γ p R s mid args meth c cX3_placeInQueue 4 RX3 (k_R 3)) (hr : meth.sig.returnType = (some .int)) (a1 : Int32) (rec19 : kM1 → Int32 → Int32 → Option (Int32 × kM1)) (hrec19 : ∀ (m0 : kM1) (b2 : Int32) (b3 : Int32), Sm Γ (K1 Γ M i) p l e R s mid args below meth c 4 (jM true Γ (K1 Γ M i) below args s) m0 [(0, .ref (Γ.1 i 0)), (1, .int a1), (2, .int b2), (3, .int b3)] [] 19 (rec19 m0 b2 b3)) (m0 : kM1) (b2 : Int32) (b3 : Int32)  : Sm Γ (K1 Γ M i) p l e R s mid args below meth c 4 (jM true Γ (K1 Γ M i) below args s) m0 [(0, .ref (Γ.1 i 0)), (1, .int a1), (2, .int b2), (3, .int b3)] [] 51 (fX3_placeInQueue_b51 a1 rec19 m0 b2 b3) := by
  unfold fX3_placeInQueue_b51
  refine k_iinc (v := 1) (q := 3) (lv' := [(0, .ref (Γ.1 i 0)), (1, .int a1), (2, .int b2)]) C dX3_placeInQueue_51 rfl (by decide) (by decide) (pc' := 54) rfl (fun _ => rfl) (fun v6 => ?_)
  refine k_goto C (pc' := 19) dX3_placeInQueue_54 (by decide) ?_
  refine k_sub [1, 2, 3, 0] rfl ?_
  exact hrec19 m0 b2 v6
def fX3_placeInQueue_b19 (a1 : Int32) : Nat → kM1 → Int32 → Int32 → Option (Int32 × kM1)
  | 0, _, _, _ => none
  | n + 1, m0, b2, b3 =>
  if (m0 0 7) ≤ b3 then some (b2, m0) else if ¬ b3 < 0 ∧ b3.toNatClampNeg < 24 then if (m0 (20 + b3.toNatClampNeg) 6) = 0 then bd (fX3_waitsAheadOf m0 b3 a1) fun r7 m8 => if r7 = 0 then fX3_placeInQueue_b51 a1 (fX3_placeInQueue_b19 a1 n) m8 b2 b3 else k_let (b2 + 1) fun v10 => fX3_placeInQueue_b51 a1 (fX3_placeInQueue_b19 a1 n) m8 v10 b3 else fX3_placeInQueue_b51 a1 (fX3_placeInQueue_b19 a1 n) m0 b2 b3 else none
set_option maxRecDepth 100000 in
set_option maxHeartbeats 4000000 in
theorem sX3_placeInQueue_b19 {l : Launch} {Γ : kG} (hL : k_Lay Γ 314) {M : kM2} {i : Nat} (hi : i < 7) {p : Program} {e : Env} {R : Room} {s : State} {mid : MethodId} {args : Array Value} {below : List Frame} {meth : Method} {c : Code} (C : k_C Γ p R s mid args meth c cX3_placeInQueue 4 RX3 (k_R 3)) (hr : meth.sig.returnType = (some .int)) (a1 : Int32)  (n : Nat) : ∀ (m0 : kM1) (b2 : Int32) (b3 : Int32), Sm Γ (K1 Γ M i) p l e R s mid args below meth c 4 (jM true Γ (K1 Γ M i) below args s) m0 [(0, .ref (Γ.1 i 0)), (1, .int a1), (2, .int b2), (3, .int b3)] [] 19 (fX3_placeInQueue_b19 a1 n m0 b2 b3) := by
  induction n with
  | zero => intros; exact k_none
  | succ n ih =>
    intro m0 b2 b3
    unfold fX3_placeInQueue_b19
    refine k_iload_n C 3 dX3_placeInQueue_19 rfl rfl (pc' := 20) rfl ?_
    refine k_aload_n C 0 dX3_placeInQueue_20 rfl rfl (pc' := 21) rfl ?_
    refine k_getf C 7 (c1 Γ M i m0 0 (e_mill Γ hi (m0 0))) (v_i hi (by decide)) flX3_97 (v := .int (m0 0 7)) rfl dX3_placeInQueue_21 (pc' := 24) rfl ?_
    refine k_ic_ge C (tgt := 57) dX3_placeInQueue_24 (by decide) (pc' := 27) rfl (fun h3 => ?_) (fun h3 => ?_)
    · refine k_iload_n C 2 dX3_placeInQueue_57 rfl rfl (pc' := 58) rfl ?_
      exact k_reti C rfl hr dX3_placeInQueue_58
    · refine k_aload_n C 0 dX3_placeInQueue_27 rfl rfl (pc' := 28) rfl ?_
      refine k_getf C 4 (c1 Γ M i m0 0 (e_mill Γ hi (m0 0))) (v_i hi (by decide)) flX3_43 (v := .ref (Γ.1 i 5)) rfl dX3_placeInQueue_28 (pc' := 31) rfl ?_
      refine k_iload_n C 3 dX3_placeInQueue_31 rfl rfl (pc' := 32) rfl ?_
      refine k_aald C 4 (c1 Γ M i m0 5 (e_sacks Γ hi (m0 5))) (v_i hi (by decide)) rfl (b := Γ.1 i (20 + b3.toNatClampNeg)) rfl dX3_placeInQueue_32 (pc' := 33) rfl (fun h4 => ?_)
      refine k_getf C 6 (c1 Γ M i m0 (20 + b3.toNatClampNeg) (e_sack Γ hi (j_sack h4) (m0 (20 + b3.toNatClampNeg)))) (v_i hi (h_sack (j_sack h4))) flX3_152 (v := .int (m0 (20 + b3.toNatClampNeg) 6)) rfl dX3_placeInQueue_33 (pc' := 36) rfl ?_
      refine k_if_ne C (tgt := 51) dX3_placeInQueue_36 (by decide) (pc' := 39) rfl (fun h5 => ?_) (fun h5 => ?_)
      · exact sX3_placeInQueue_b51 hL hi C hr a1 (fX3_placeInQueue_b19 a1 n) ih m0 b2 b3
      · refine k_aload_n C 0 dX3_placeInQueue_39 rfl rfl (pc' := 40) rfl ?_
        refine k_iload_n C 3 dX3_placeInQueue_40 rfl rfl (pc' := 41) rfl ?_
        refine k_iload_n C 1 dX3_placeInQueue_41 rfl rfl (pc' := 42) rfl ?_
        refine k_callVi C (rest := []) (qX3_waitsAheadOf l Γ hL M i hi m0 b3 a1) mwX3_waitsAheadOf iwX3_waitsAheadOf mlX3_190 (k_rm_of (by decide) (by decide)) (c1 Γ M i m0 0 (e_mill Γ hi (m0 0))) (v_i hi (by decide)) rfl rfl rfl (Nat.le_of_ble_eq_true rfl) dX3_placeInQueue_42 (pc' := 45) rfl (fun r7 m8 => ?_)
        refine k_if_eq C (tgt := 51) dX3_placeInQueue_45 (by decide) (pc' := 48) rfl (fun h9 => ?_) (fun h9 => ?_)
        · exact sX3_placeInQueue_b51 hL hi C hr a1 (fX3_placeInQueue_b19 a1 n) ih m8 b2 b3
        · refine k_iinc (v := 1) (q := 2) (lv' := [(0, .ref (Γ.1 i 0)), (1, .int a1), (3, .int b3)]) C dX3_placeInQueue_48 rfl (by decide) (by decide) (pc' := 51) rfl (fun _ => rfl) (fun v10 => ?_)
          refine k_sub [1, 2, 0, 3] rfl ?_
          exact sX3_placeInQueue_b51 hL hi C hr a1 (fX3_placeInQueue_b19 a1 n) ih m8 v10 b3
def fX3_placeInQueue (m0 : kM1) (a1 : Int32) : Option (Int32 × kM1) :=
  if ¬ a1 < 0 ∧ a1.toNatClampNeg < 24 then if (m0 (20 + a1.toNatClampNeg) 6) = 0 then fX3_placeInQueue_b19 a1 kFu m0 0 0 else some ((-1000004), m0) else none
set_option maxRecDepth 100000 in
set_option maxHeartbeats 4000000 in
theorem qX3_placeInQueue (l : Launch) (Γ : kG) (hL : k_Lay Γ 314) (M : kM2) (i : Nat) (hi : i < 7) (m0 : kM1) (a1 : Int32) : CT l Γ (K1 Γ M i) yX3_placeInQueue cX3_placeInQueue 4 (some .int) (k_R 3) [.ref (Γ.1 i 0), .int a1] m0 (fX3_placeInQueue m0 a1) := by
  refine k_meth (own := RX3) (by decide) rfl (Nat.le_of_ble_eq_true rfl) (fun p e R s mid args below meth c C hr => ?_)
  show Sm Γ (K1 Γ M i) p l e R s mid args below meth c 4 (jM true Γ (K1 Γ M i) below args s) m0 [(0, .ref (Γ.1 i 0)), (1, .int a1)] [] 0 (fX3_placeInQueue m0 a1)
  unfold fX3_placeInQueue
  refine k_aload_n C 0 dX3_placeInQueue_0 rfl rfl (pc' := 1) rfl ?_
  refine k_getf C 4 (c1 Γ M i m0 0 (e_mill Γ hi (m0 0))) (v_i hi (by decide)) flX3_43 (v := .ref (Γ.1 i 5)) rfl dX3_placeInQueue_1 (pc' := 4) rfl ?_
  refine k_iload_n C 1 dX3_placeInQueue_4 rfl rfl (pc' := 5) rfl ?_
  refine k_aald C 4 (c1 Γ M i m0 5 (e_sacks Γ hi (m0 5))) (v_i hi (by decide)) rfl (b := Γ.1 i (20 + a1.toNatClampNeg)) rfl dX3_placeInQueue_5 (pc' := 6) rfl (fun h1 => ?_)
  refine k_getf C 6 (c1 Γ M i m0 (20 + a1.toNatClampNeg) (e_sack Γ hi (j_sack h1) (m0 (20 + a1.toNatClampNeg)))) (v_i hi (h_sack (j_sack h1))) flX3_152 (v := .int (m0 (20 + a1.toNatClampNeg) 6)) rfl dX3_placeInQueue_6 (pc' := 9) rfl ?_
  refine k_if_eq C (tgt := 15) dX3_placeInQueue_9 (by decide) (pc' := 12) rfl (fun h2 => ?_) (fun h2 => ?_)
  · refine k_iconst C (v := 0) dX3_placeInQueue_15 (by decide) (pc' := 16) rfl ?_
    refine k_istore_n C (lv' := [(2, .int 0), (0, .ref (Γ.1 i 0)), (1, .int a1)]) dX3_placeInQueue_16 rfl (by decide) rfl (pc' := 17) rfl ?_
    refine k_iconst C (v := 0) dX3_placeInQueue_17 (by decide) (pc' := 18) rfl ?_
    refine k_istore_n C (lv' := [(3, .int 0), (2, .int 0), (0, .ref (Γ.1 i 0)), (1, .int a1)]) dX3_placeInQueue_18 rfl (by decide) rfl (pc' := 19) rfl ?_
    refine k_sub [2, 3, 1, 0] rfl ?_
    exact sX3_placeInQueue_b19 hL hi C hr a1 kFu m0 0 0
  · refine k_ldc C (v := (-1000004)) dX3_placeInQueue_12 cnX3_189 (pc' := 14) rfl ?_
    exact k_reti C rfl hr dX3_placeInQueue_14
def fX3_sackAtPlace_b2 (a1 : Int32) : Nat → kM1 → Int32 → Option (Int32 × kM1)
  | 0, _, _ => none
  | n + 1, m0, b2 =>
  if (m0 0 7) ≤ b2 then some ((-1000004), m0) else bd (fX3_placeInQueue m0 b2) fun r2 m3 => if r2 = a1 then some (b2, m3) else k_let (b2 + 1) fun v5 => fX3_sackAtPlace_b2 a1 n m3 v5
set_option maxRecDepth 100000 in
set_option maxHeartbeats 4000000 in
theorem sX3_sackAtPlace_b2 {l : Launch} {Γ : kG} (hL : k_Lay Γ 314) {M : kM2} {i : Nat} (hi : i < 7) {p : Program} {e : Env} {R : Room} {s : State} {mid : MethodId} {args : Array Value} {below : List Frame} {meth : Method} {c : Code} (C : k_C Γ p R s mid args meth c cX3_sackAtPlace 3 RX3 (k_R 4)) (hr : meth.sig.returnType = (some .int)) (a1 : Int32)  (n : Nat) : ∀ (m0 : kM1) (b2 : Int32), Sm Γ (K1 Γ M i) p l e R s mid args below meth c 3 (jM true Γ (K1 Γ M i) below args s) m0 [(0, .ref (Γ.1 i 0)), (1, .int a1), (2, .int b2)] [] 2 (fX3_sackAtPlace_b2 a1 n m0 b2) := by
  induction n with
  | zero => intros; exact k_none
  | succ n ih =>
    intro m0 b2
    unfold fX3_sackAtPlace_b2
    refine k_iload_n C 2 dX3_sackAtPlace_2 rfl rfl (pc' := 3) rfl ?_
    refine k_aload_n C 0 dX3_sackAtPlace_3 rfl rfl (pc' := 4) rfl ?_
    refine k_getf C 7 (c1 Γ M i m0 0 (e_mill Γ hi (m0 0))) (v_i hi (by decide)) flX3_97 (v := .int (m0 0 7)) rfl dX3_sackAtPlace_4 (pc' := 7) rfl ?_
    refine k_ic_ge C (tgt := 27) dX3_sackAtPlace_7 (by decide) (pc' := 10) rfl (fun h1 => ?_) (fun h1 => ?_)
    · refine k_ldc C (v := (-1000004)) dX3_sackAtPlace_27 cnX3_189 (pc' := 29) rfl ?_
      exact k_reti C rfl hr dX3_sackAtPlace_29
    · refine k_aload_n C 0 dX3_sackAtPlace_10 rfl rfl (pc' := 11) rfl ?_
      refine k_iload_n C 2 dX3_sackAtPlace_11 rfl rfl (pc' := 12) rfl ?_
      refine k_callVi C (rest := []) (qX3_placeInQueue l Γ hL M i hi m0 b2) mwX3_placeInQueue iwX3_placeInQueue mlX3_193 (k_rm_of (by decide) (by decide)) (c1 Γ M i m0 0 (e_mill Γ hi (m0 0))) (v_i hi (by decide)) rfl rfl rfl (Nat.le_of_ble_eq_true rfl) dX3_sackAtPlace_12 (pc' := 15) rfl (fun r2 m3 => ?_)
      refine k_iload_n C 1 dX3_sackAtPlace_15 rfl rfl (pc' := 16) rfl ?_
      refine k_ic_ne C (tgt := 21) dX3_sackAtPlace_16 (by decide) (pc' := 19) rfl (fun h4 => ?_) (fun h4 => ?_)
      · refine k_iinc (v := 1) (q := 2) (lv' := [(0, .ref (Γ.1 i 0)), (1, .int a1)]) C dX3_sackAtPlace_21 rfl (by decide) (by decide) (pc' := 24) rfl (fun _ => rfl) (fun v5 => ?_)
        refine k_goto C (pc' := 2) dX3_sackAtPlace_24 (by decide) ?_
        refine k_sub [1, 2, 0] rfl ?_
        exact ih m3 v5
      · refine k_iload_n C 2 dX3_sackAtPlace_19 rfl rfl (pc' := 20) rfl ?_
        exact k_reti C rfl hr dX3_sackAtPlace_20
def fX3_sackAtPlace (m0 : kM1) (a1 : Int32) : Option (Int32 × kM1) :=
  fX3_sackAtPlace_b2 a1 kFu m0 0
set_option maxRecDepth 100000 in
set_option maxHeartbeats 4000000 in
theorem qX3_sackAtPlace (l : Launch) (Γ : kG) (hL : k_Lay Γ 314) (M : kM2) (i : Nat) (hi : i < 7) (m0 : kM1) (a1 : Int32) : CT l Γ (K1 Γ M i) yX3_sackAtPlace cX3_sackAtPlace 3 (some .int) (k_R 4) [.ref (Γ.1 i 0), .int a1] m0 (fX3_sackAtPlace m0 a1) := by
  refine k_meth (own := RX3) (by decide) rfl (Nat.le_of_ble_eq_true rfl) (fun p e R s mid args below meth c C hr => ?_)
  show Sm Γ (K1 Γ M i) p l e R s mid args below meth c 3 (jM true Γ (K1 Γ M i) below args s) m0 [(0, .ref (Γ.1 i 0)), (1, .int a1)] [] 0 (fX3_sackAtPlace m0 a1)
  unfold fX3_sackAtPlace
  refine k_iconst C (v := 0) dX3_sackAtPlace_0 (by decide) (pc' := 1) rfl ?_
  refine k_istore_n C (lv' := [(2, .int 0), (0, .ref (Γ.1 i 0)), (1, .int a1)]) dX3_sackAtPlace_1 rfl (by decide) rfl (pc' := 2) rfl ?_
  refine k_sub [1, 2, 0] rfl ?_
  exact sX3_sackAtPlace_b2 hL hi C hr a1 kFu m0 0
def fX3_firstOfQueue_b54  (rec6 : kM1 → Int32 → Int32 → Int32 → Option (Int32 × kM1)) (m0 : kM1) (b1 : Int32) (b2 : Int32) (b3 : Int32) : Option (Int32 × kM1) :=
  k_let (b3 + 1) fun v4 => rec6 m0 b1 b2 v4
set_option maxRecDepth 100000 in
set_option maxHeartbeats 4000000 in
theorem sX3_firstOfQueue_b54 {l : Launch} {Γ : kG} (hL : k_Lay Γ 314) {M : kM2} {i : Nat} (hi : i < 7) {p : Program} {e : Env} {R : Room} {s : State} {mid : MethodId} {args : Array Value} {below : List Frame} {meth : Method} {c : Code} (C : k_C Γ p R s mid args meth c cX3_firstOfQueue 5 RX3 (k_R 2)) (hr : meth.sig.returnType = (some .int)) (rec6 : kM1 → Int32 → Int32 → Int32 → Option (Int32 × kM1)) (hrec6 : ∀ (m0 : kM1) (b1 : Int32) (b2 : Int32) (b3 : Int32), Sm Γ (K1 Γ M i) p l e R s mid args below meth c 5 (jM true Γ (K1 Γ M i) below args s) m0 [(0, .ref (Γ.1 i 0)), (1, .int b1), (2, .int b2), (3, .int b3)] [] 6 (rec6 m0 b1 b2 b3)) (m0 : kM1) (b1 : Int32) (b2 : Int32) (b3 : Int32)  : Sm Γ (K1 Γ M i) p l e R s mid args below meth c 5 (jM true Γ (K1 Γ M i) below args s) m0 [(0, .ref (Γ.1 i 0)), (1, .int b1), (2, .int b2), (3, .int b3)] [] 54 (fX3_firstOfQueue_b54 rec6 m0 b1 b2 b3) := by
  unfold fX3_firstOfQueue_b54
  refine k_iinc (v := 1) (q := 3) (lv' := [(0, .ref (Γ.1 i 0)), (1, .int b1), (2, .int b2)]) C dX3_firstOfQueue_54 rfl (by decide) (by decide) (pc' := 57) rfl (fun _ => rfl) (fun v4 => ?_)
  refine k_goto C (pc' := 6) dX3_firstOfQueue_57 (by decide) ?_
  refine k_sub [1, 2, 3, 0] rfl ?_
  exact hrec6 m0 b1 b2 v4
def fX3_firstOfQueue_b49  (rec6 : kM1 → Int32 → Int32 → Int32 → Option (Int32 × kM1)) (m0 : kM1) (b3 : Int32) (b4 : Int32) : Option (Int32 × kM1) :=
  fX3_firstOfQueue_b54 rec6 m0 b3 b4 b3
set_option maxRecDepth 100000 in
set_option maxHeartbeats 4000000 in
theorem sX3_firstOfQueue_b49 {l : Launch} {Γ : kG} (hL : k_Lay Γ 314) {M : kM2} {i : Nat} (hi : i < 7) {p : Program} {e : Env} {R : Room} {s : State} {mid : MethodId} {args : Array Value} {below : List Frame} {meth : Method} {c : Code} (C : k_C Γ p R s mid args meth c cX3_firstOfQueue 5 RX3 (k_R 2)) (hr : meth.sig.returnType = (some .int)) (rec6 : kM1 → Int32 → Int32 → Int32 → Option (Int32 × kM1)) (hrec6 : ∀ (m0 : kM1) (b1 : Int32) (b2 : Int32) (b3 : Int32), Sm Γ (K1 Γ M i) p l e R s mid args below meth c 5 (jM true Γ (K1 Γ M i) below args s) m0 [(0, .ref (Γ.1 i 0)), (1, .int b1), (2, .int b2), (3, .int b3)] [] 6 (rec6 m0 b1 b2 b3)) (m0 : kM1) (b3 : Int32) (b4 : Int32)  : Sm Γ (K1 Γ M i) p l e R s mid args below meth c 5 (jM true Γ (K1 Γ M i) below args s) m0 [(0, .ref (Γ.1 i 0)), (3, .int b3), (4, .int b4)] [] 49 (fX3_firstOfQueue_b49 rec6 m0 b3 b4) := by
  unfold fX3_firstOfQueue_b49
  refine k_iload_n C 1 dX3_firstOfQueue_49 rfl rfl (pc' := 50) rfl ?_
  refine k_istore_n C (lv' := [(1, .int b3), (0, .ref (Γ.1 i 0)), (3, .int b3), (4, .int b4)]) dX3_firstOfQueue_50 rfl (by decide) rfl (pc' := 51) rfl ?_
  refine k_iload C 3 dX3_firstOfQueue_51 rfl (pc' := 53) rfl ?_
  refine k_istore_n C (lv' := [(2, .int b4), (1, .int b3), (0, .ref (Γ.1 i 0)), (3, .int b3), (4, .int b4)]) dX3_firstOfQueue_53 rfl (by decide) rfl (pc' := 54) rfl ?_
  refine k_sub [2, 1, 0, 3] rfl ?_
  exact sX3_firstOfQueue_b54 hL hi C hr rec6 hrec6 m0 b3 b4 b3
def fX3_firstOfQueue_b6 : Nat → kM1 → Int32 → Int32 → Int32 → Option (Int32 × kM1)
  | 0, _, _, _, _ => none
  | n + 1, m0, b1, b2, b3 =>
  if (m0 0 7) ≤ b3 then some (b1, m0) else if ¬ b3 < 0 ∧ b3.toNatClampNeg < 24 then if (m0 (20 + b3.toNatClampNeg) 6) = 0 then if ¬ b3 < 0 ∧ b3.toNatClampNeg < 24 then bd (fX3_rankInQueue m0 ((20 + b3.toNatClampNeg))) fun r6 m7 => if b1 = (-1) then fX3_firstOfQueue_b49 (fX3_firstOfQueue_b6 n) m7 b3 r6 else if b2 ≤ r6 then fX3_firstOfQueue_b54 (fX3_firstOfQueue_b6 n) m7 b1 b2 b3 else fX3_firstOfQueue_b49 (fX3_firstOfQueue_b6 n) m7 b3 r6 else none else fX3_firstOfQueue_b54 (fX3_firstOfQueue_b6 n) m0 b1 b2 b3 else none
set_option maxRecDepth 100000 in
set_option maxHeartbeats 4000000 in
theorem sX3_firstOfQueue_b6 {l : Launch} {Γ : kG} (hL : k_Lay Γ 314) {M : kM2} {i : Nat} (hi : i < 7) {p : Program} {e : Env} {R : Room} {s : State} {mid : MethodId} {args : Array Value} {below : List Frame} {meth : Method} {c : Code} (C : k_C Γ p R s mid args meth c cX3_firstOfQueue 5 RX3 (k_R 2)) (hr : meth.sig.returnType = (some .int))  (n : Nat) : ∀ (m0 : kM1) (b1 : Int32) (b2 : Int32) (b3 : Int32), Sm Γ (K1 Γ M i) p l e R s mid args below meth c 5 (jM true Γ (K1 Γ M i) below args s) m0 [(0, .ref (Γ.1 i 0)), (1, .int b1), (2, .int b2), (3, .int b3)] [] 6 (fX3_firstOfQueue_b6 n m0 b1 b2 b3) := by
  induction n with
  | zero => intros; exact k_none
  | succ n ih =>
    intro m0 b1 b2 b3
    unfold fX3_firstOfQueue_b6
    refine k_iload_n C 3 dX3_firstOfQueue_6 rfl rfl (pc' := 7) rfl ?_
    refine k_aload_n C 0 dX3_firstOfQueue_7 rfl rfl (pc' := 8) rfl ?_
    refine k_getf C 7 (c1 Γ M i m0 0 (e_mill Γ hi (m0 0))) (v_i hi (by decide)) flX3_97 (v := .int (m0 0 7)) rfl dX3_firstOfQueue_8 (pc' := 11) rfl ?_
    refine k_ic_ge C (tgt := 60) dX3_firstOfQueue_11 (by decide) (pc' := 14) rfl (fun h1 => ?_) (fun h1 => ?_)
    · refine k_iload_n C 1 dX3_firstOfQueue_60 rfl rfl (pc' := 61) rfl ?_
      exact k_reti C rfl hr dX3_firstOfQueue_61
    · refine k_aload_n C 0 dX3_firstOfQueue_14 rfl rfl (pc' := 15) rfl ?_
      refine k_getf C 4 (c1 Γ M i m0 0 (e_mill Γ hi (m0 0))) (v_i hi (by decide)) flX3_43 (v := .ref (Γ.1 i 5)) rfl dX3_firstOfQueue_15 (pc' := 18) rfl ?_
      refine k_iload_n C 3 dX3_firstOfQueue_18 rfl rfl (pc' := 19) rfl ?_
      refine k_aald C 4 (c1 Γ M i m0 5 (e_sacks Γ hi (m0 5))) (v_i hi (by decide)) rfl (b := Γ.1 i (20 + b3.toNatClampNeg)) rfl dX3_firstOfQueue_19 (pc' := 20) rfl (fun h2 => ?_)
      refine k_getf C 6 (c1 Γ M i m0 (20 + b3.toNatClampNeg) (e_sack Γ hi (j_sack h2) (m0 (20 + b3.toNatClampNeg)))) (v_i hi (h_sack (j_sack h2))) flX3_152 (v := .int (m0 (20 + b3.toNatClampNeg) 6)) rfl dX3_firstOfQueue_20 (pc' := 23) rfl ?_
      refine k_if_ne C (tgt := 54) dX3_firstOfQueue_23 (by decide) (pc' := 26) rfl (fun h3 => ?_) (fun h3 => ?_)
      · exact sX3_firstOfQueue_b54 hL hi C hr (fX3_firstOfQueue_b6 n) ih m0 b1 b2 b3
      · refine k_aload_n C 0 dX3_firstOfQueue_26 rfl rfl (pc' := 27) rfl ?_
        refine k_aload_n C 0 dX3_firstOfQueue_27 rfl rfl (pc' := 28) rfl ?_
        refine k_getf C 4 (c1 Γ M i m0 0 (e_mill Γ hi (m0 0))) (v_i hi (by decide)) flX3_43 (v := .ref (Γ.1 i 5)) rfl dX3_firstOfQueue_28 (pc' := 31) rfl ?_
        refine k_iload_n C 3 dX3_firstOfQueue_31 rfl rfl (pc' := 32) rfl ?_
        refine k_aald C 4 (c1 Γ M i m0 5 (e_sacks Γ hi (m0 5))) (v_i hi (by decide)) rfl (b := Γ.1 i (20 + b3.toNatClampNeg)) rfl dX3_firstOfQueue_32 (pc' := 33) rfl (fun h5 => ?_)
        refine k_callVi C (rest := []) (qX3_rankInQueue l Γ hL M i hi m0 ((20 + b3.toNatClampNeg)) (j_sack h5)) mwX3_rankInQueue iwX3_rankInQueue mlX3_196 (k_rm_of (by decide) (by decide)) (c1 Γ M i m0 0 (e_mill Γ hi (m0 0))) (v_i hi (by decide)) rfl rfl rfl (Nat.le_of_ble_eq_true rfl) dX3_firstOfQueue_33 (pc' := 36) rfl (fun r6 m7 => ?_)
        refine k_istore C (lv' := [(4, .int r6), (0, .ref (Γ.1 i 0)), (1, .int b1), (2, .int b2), (3, .int b3)]) dX3_firstOfQueue_36 (by decide) rfl (pc' := 38) rfl ?_
        refine k_iload_n C 2 dX3_firstOfQueue_38 rfl rfl (pc' := 39) rfl ?_
        refine k_iconst C (v := (-1)) dX3_firstOfQueue_39 (by decide) (pc' := 40) rfl ?_
        refine k_ic_eq C (tgt := 49) dX3_firstOfQueue_40 (by decide) (pc' := 43) rfl (fun h8 => ?_) (fun h8 => ?_)
        · refine k_sub [1, 4, 0] rfl ?_
          exact sX3_firstOfQueue_b49 hL hi C hr (fX3_firstOfQueue_b6 n) ih m7 b3 r6
        · refine k_iload C 0 dX3_firstOfQueue_43 rfl (pc' := 45) rfl ?_
          refine k_iload_n C 3 dX3_firstOfQueue_45 rfl rfl (pc' := 46) rfl ?_
          refine k_ic_ge C (tgt := 54) dX3_firstOfQueue_46 (by decide) (pc' := 49) rfl (fun h9 => ?_) (fun h9 => ?_)
          · refine k_sub [1, 2, 3, 4] rfl ?_
            exact sX3_firstOfQueue_b54 hL hi C hr (fX3_firstOfQueue_b6 n) ih m7 b1 b2 b3
          · refine k_sub [1, 4, 0] rfl ?_
            exact sX3_firstOfQueue_b49 hL hi C hr (fX3_firstOfQueue_b6 n) ih m7 b3 r6
def fX3_firstOfQueue (m0 : kM1) : Option (Int32 × kM1) :=
  fX3_firstOfQueue_b6 kFu m0 (-1) 0 0
set_option maxRecDepth 100000 in
set_option maxHeartbeats 4000000 in
theorem qX3_firstOfQueue (l : Launch) (Γ : kG) (hL : k_Lay Γ 314) (M : kM2) (i : Nat) (hi : i < 7) (m0 : kM1) : CT l Γ (K1 Γ M i) yX3_firstOfQueue cX3_firstOfQueue 5 (some .int) (k_R 2) [.ref (Γ.1 i 0)] m0 (fX3_firstOfQueue m0 ) := by
  refine k_meth (own := RX3) (by decide) rfl (Nat.le_of_ble_eq_true rfl) (fun p e R s mid args below meth c C hr => ?_)
  show Sm Γ (K1 Γ M i) p l e R s mid args below meth c 5 (jM true Γ (K1 Γ M i) below args s) m0 [(0, .ref (Γ.1 i 0))] [] 0 (fX3_firstOfQueue m0 )
  unfold fX3_firstOfQueue
  refine k_iconst C (v := (-1)) dX3_firstOfQueue_0 (by decide) (pc' := 1) rfl ?_
  refine k_istore_n C (lv' := [(1, .int (-1)), (0, .ref (Γ.1 i 0))]) dX3_firstOfQueue_1 rfl (by decide) rfl (pc' := 2) rfl ?_
  refine k_iconst C (v := 0) dX3_firstOfQueue_2 (by decide) (pc' := 3) rfl ?_
  refine k_istore_n C (lv' := [(2, .int 0), (1, .int (-1)), (0, .ref (Γ.1 i 0))]) dX3_firstOfQueue_3 rfl (by decide) rfl (pc' := 4) rfl ?_
  refine k_iconst C (v := 0) dX3_firstOfQueue_4 (by decide) (pc' := 5) rfl ?_
  refine k_istore_n C (lv' := [(3, .int 0), (2, .int 0), (1, .int (-1)), (0, .ref (Γ.1 i 0))]) dX3_firstOfQueue_5 rfl (by decide) rfl (pc' := 6) rfl ?_
  refine k_sub [3, 2, 1, 0] rfl ?_
  exact sX3_firstOfQueue_b6 hL hi C hr kFu m0 (-1) 0 0
def fX3_loanFor (m0 : kM1) (j1 : Nat) (a2 : Int32) : Option (Int32 × kM1) :=
  k_let ((a2.toInt64) * ((m0 j1 4).toInt64)) fun v1 => k_let (v1 * ((m0 1 11).toInt64)) fun v3 => if 0 < (lg_cmp v1 2147483647) then some ((-1), m0) else if (lg_cmp v3 2147483647) ≤ 0 then some ((v3 / 100).toInt32, m0) else some ((-1), m0)
set_option maxRecDepth 100000 in
set_option maxHeartbeats 4000000 in
theorem qX3_loanFor (l : Launch) (Γ : kG) (hL : k_Lay Γ 314) (M : kM2) (i : Nat) (hi : i < 7) (m0 : kM1) (j1 : Nat) (a2 : Int32) (hj1 : 20 ≤ j1 ∧ j1 < 44) : CT l Γ (K1 Γ M i) yX3_loanFor cX3_loanFor 7 (some .int) (k_R 0) [.ref (Γ.1 i 0), .ref (Γ.1 i j1), .int a2] m0 (fX3_loanFor m0 j1 a2) := by
  refine k_meth (own := RX3) (by decide) rfl (Nat.le_of_ble_eq_true rfl) (fun p e R s mid args below meth c C hr => ?_)
  show Sm Γ (K1 Γ M i) p l e R s mid args below meth c 7 (jM true Γ (K1 Γ M i) below args s) m0 [(0, .ref (Γ.1 i 0)), (1, .ref (Γ.1 i j1)), (2, .int a2)] [] 0 (fX3_loanFor m0 j1 a2)
  unfold fX3_loanFor
  refine k_iload_n C 2 dX3_loanFor_0 rfl rfl (pc' := 1) rfl ?_
  refine k_i2l C dX3_loanFor_1 (pc' := 2) rfl ?_
  refine k_aload_n C 1 dX3_loanFor_2 rfl rfl (pc' := 3) rfl ?_
  refine k_getf C 4 (c1 Γ M i m0 j1 (e_sack Γ hi hj1 (m0 j1))) (v_i hi (h_sack hj1)) flX3_232 (v := .int (m0 j1 4)) rfl dX3_loanFor_3 (pc' := 6) rfl ?_
  refine k_i2l C dX3_loanFor_6 (pc' := 7) rfl ?_
  refine k_lmul C dX3_loanFor_7 (pc' := 8) rfl ?_
  refine k_topl (fun v1 => ?_)
  refine k_lstore_n C (lv' := [(3, .long v1), (0, .ref (Γ.1 i 0)), (1, .ref (Γ.1 i j1)), (2, .int a2)]) dX3_loanFor_8 rfl (by decide) rfl (pc' := 9) rfl ?_
  refine k_lload_n C 0 dX3_loanFor_9 rfl rfl (pc' := 10) rfl ?_
  refine k_aload_n C 1 dX3_loanFor_10 rfl rfl (pc' := 11) rfl ?_
  refine k_getf C 0 (c1 Γ M i m0 0 (e_mill Γ hi (m0 0))) (v_i hi (by decide)) flX3_18 (v := .ref (Γ.1 i 1)) rfl dX3_loanFor_11 (pc' := 14) rfl ?_
  refine k_bipush C (v := 11) dX3_loanFor_14 (by decide) (pc' := 16) rfl ?_
  refine k_ialdK C (n0 := 11) (c1 Γ M i m0 1 (e_sets Γ hi (m0 1))) (v_i hi (by decide)) (by decide) (by decide) dX3_loanFor_16 (pc' := 17) rfl ?_
  refine k_i2l C dX3_loanFor_17 (pc' := 18) rfl ?_
  refine k_lmul C dX3_loanFor_18 (pc' := 19) rfl ?_
  refine k_topl (fun v3 => ?_)
  refine k_lstore C (lv' := [(5, .long v3), (3, .long v1), (0, .ref (Γ.1 i 0)), (1, .ref (Γ.1 i j1)), (2, .int a2)]) dX3_loanFor_19 (by decide) rfl (pc' := 21) rfl ?_
  refine k_lload_n C 1 dX3_loanFor_21 rfl rfl (pc' := 22) rfl ?_
  refine k_ldc2 C (v := 2147483647) dX3_loanFor_22 cnX3_211 (pc' := 25) rfl ?_
  refine k_lcmp C dX3_loanFor_25 (pc' := 26) rfl ?_
  refine k_if_gt C (tgt := 38) dX3_loanFor_26 (by decide) (pc' := 29) rfl (fun h4 => ?_) (fun h4 => ?_)
  · refine k_iconst C (v := (-1)) dX3_loanFor_38 (by decide) (pc' := 39) rfl ?_
    exact k_reti C rfl hr dX3_loanFor_39
  · refine k_lload C 0 dX3_loanFor_29 rfl (pc' := 31) rfl ?_
    refine k_ldc2 C (v := 2147483647) dX3_loanFor_31 cnX3_211 (pc' := 34) rfl ?_
    refine k_lcmp C dX3_loanFor_34 (pc' := 35) rfl ?_
    refine k_if_le C (tgt := 40) dX3_loanFor_35 (by decide) (pc' := 38) rfl (fun h5 => ?_) (fun h5 => ?_)
    · refine k_lload C 0 dX3_loanFor_40 rfl (pc' := 42) rfl ?_
      refine k_ldc2 C (v := 100) dX3_loanFor_42 cnX3_233 (pc' := 45) rfl ?_
      refine k_ldivK C dX3_loanFor_45 (by decide) (pc' := 46) rfl ?_
      refine k_l2i C dX3_loanFor_46 (pc' := 47) rfl ?_
      exact k_reti C rfl hr dX3_loanFor_47
    · refine k_iconst C (v := (-1)) dX3_loanFor_38 (by decide) (pc' := 39) rfl ?_
      exact k_reti C rfl hr dX3_loanFor_39
def fX3_today (m0 : kM1) : Option (Int32 × kM1) :=
  some ((m0 0 8) / 96, m0)
set_option maxRecDepth 100000 in
set_option maxHeartbeats 4000000 in
theorem qX3_today (l : Launch) (Γ : kG) (hL : k_Lay Γ 314) (M : kM2) (i : Nat) (hi : i < 7) (m0 : kM1) : CT l Γ (K1 Γ M i) yX3_today cX3_today 1 (some .int) (k_R 0) [.ref (Γ.1 i 0)] m0 (fX3_today m0 ) := by
  refine k_meth (own := RX3) (by decide) rfl (Nat.le_of_ble_eq_true rfl) (fun p e R s mid args below meth c C hr => ?_)
  show Sm Γ (K1 Γ M i) p l e R s mid args below meth c 1 (jM true Γ (K1 Γ M i) below args s) m0 [(0, .ref (Γ.1 i 0))] [] 0 (fX3_today m0 )
  unfold fX3_today
  refine k_aload_n C 0 dX3_today_0 rfl rfl (pc' := 1) rfl ?_
  refine k_getf C 8 (c1 Γ M i m0 0 (e_mill Γ hi (m0 0))) (v_i hi (by decide)) flX3_67 (v := .int (m0 0 8)) rfl dX3_today_1 (pc' := 4) rfl ?_
  refine k_bipush C (v := 96) dX3_today_4 (by decide) (pc' := 6) rfl ?_
  refine k_idivK C dX3_today_6 (by decide) (pc' := 7) rfl ?_
  exact k_reti C rfl hr dX3_today_7
def fX3_putInPledge (m0 : kM1) (a1 : Int32) (a2 : Int32) : Option (Int32 × kM1) :=
  bd (fX3_hasSack m0 a1) fun r1 m2 => if r1 = 0 then some ((-1000001), m2) else bd (fX6_within m2 a2 1 200) fun r4 m5 => if r4 = 0 then some ((-1000001), m5) else if ¬ a1 < 0 ∧ a1.toNatClampNeg < 24 then if (m5 (20 + a1.toNatClampNeg) 6) = 2 then bd (fX5_hasPledge m5 ((20 + a1.toNatClampNeg))) fun r9 m10 => if r9 = 0 then bd (fX5_flour m10 ((20 + a1.toNatClampNeg))) fun r12 m13 => if r12 < a2 then some ((-1000002), m13) else bd (fX3_hasFarmer m13 (m13 (20 + a1.toNatClampNeg) 0)) fun r15 m16 => if r15 = 0 then some ((-1000002), m16) else if ¬ (m16 (20 + a1.toNatClampNeg) 0) < 0 ∧ (m16 (20 + a1.toNatClampNeg) 0).toNatClampNeg < 8 then bd (fX3_loanFor m16 ((20 + a1.toNatClampNeg)) a2) fun r19 m20 => if r19 = (-1) then some ((-1000002), m20) else if (lg_cmp (((m20 (12 + (m16 (20 + a1.toNatClampNeg) 0).toNatClampNeg) 0).toInt64) + (r19.toInt64)) 2147483647) ≤ 0 then k_let (mu m20 (12 + (m16 (20 + a1.toNatClampNeg) 0).toNatClampNeg) 0 ((m20 (12 + (m16 (20 + a1.toNatClampNeg) 0).toNatClampNeg) 0) + r19)) fun m23 => k_let (mu m23 (20 + a1.toNatClampNeg) 11 a2) fun m24 => k_let (mu m24 (20 + a1.toNatClampNeg) 12 r19) fun m25 => bd (fX3_today m25) fun r26 m27 => k_let (mu m27 (20 + a1.toNatClampNeg) 13 r26) fun m28 => bd (fX3_today m28) fun r29 m30 => k_let (mu m30 (20 + a1.toNatClampNeg) 14 (r29 + (m30 1 10))) fun m32 => some (r19, m32) else some ((-1000002), m20) else none else some ((-1000002), m10) else some ((-1000002), m5) else none
set_option maxRecDepth 100000 in
set_option maxHeartbeats 4000000 in
theorem qX3_putInPledge (l : Launch) (Γ : kG) (hL : k_Lay Γ 314) (M : kM2) (i : Nat) (hi : i < 7) (m0 : kM1) (a1 : Int32) (a2 : Int32) : CT l Γ (K1 Γ M i) yX3_putInPledge cX3_putInPledge 6 (some .int) (k_R 1) [.ref (Γ.1 i 0), .int a1, .int a2] m0 (fX3_putInPledge m0 a1 a2) := by
  refine k_meth (own := RX3) (by decide) rfl (Nat.le_of_ble_eq_true rfl) (fun p e R s mid args below meth c C hr => ?_)
  show Sm Γ (K1 Γ M i) p l e R s mid args below meth c 6 (jM true Γ (K1 Γ M i) below args s) m0 [(0, .ref (Γ.1 i 0)), (1, .int a1), (2, .int a2)] [] 0 (fX3_putInPledge m0 a1 a2)
  unfold fX3_putInPledge
  refine k_aload_n C 0 dX3_putInPledge_0 rfl rfl (pc' := 1) rfl ?_
  refine k_iload_n C 1 dX3_putInPledge_1 rfl rfl (pc' := 2) rfl ?_
  refine k_callVi C (rest := []) (qX3_hasSack l Γ hL M i hi m0 a1) mwX3_hasSack iwX3_hasSack mlX3_149 (k_rm_of (by decide) (by decide)) (c1 Γ M i m0 0 (e_mill Γ hi (m0 0))) (v_i hi (by decide)) rfl rfl rfl (Nat.le_of_ble_eq_true rfl) dX3_putInPledge_2 (pc' := 5) rfl (fun r1 m2 => ?_)
  refine k_if_eq C (tgt := 19) dX3_putInPledge_5 (by decide) (pc' := 8) rfl (fun h3 => ?_) (fun h3 => ?_)
  · refine k_ldc C (v := (-1000001)) dX3_putInPledge_19 cnX3_120 (pc' := 21) rfl ?_
    exact k_reti C rfl hr dX3_putInPledge_21
  · refine k_iload_n C 2 dX3_putInPledge_8 rfl rfl (pc' := 9) rfl ?_
    refine k_iconst C (v := 1) dX3_putInPledge_9 (by decide) (pc' := 10) rfl ?_
    refine k_sipush C (v := 200) dX3_putInPledge_10 (by decide) (pc' := 13) rfl ?_
    refine k_callSNi C (rest := []) (qX6_within l Γ (K1 Γ M i) m2 a2 1 200) mwX6_within swX6_within (fun h => h.1) (k_rm_of (by decide) (by decide)) rfl rfl (Nat.le_of_ble_eq_true rfl) dX3_putInPledge_13 (pc' := 16) rfl (fun r4 m5 => ?_)
    refine k_if_ne C (tgt := 22) dX3_putInPledge_16 (by decide) (pc' := 19) rfl (fun h6 => ?_) (fun h6 => ?_)
    · refine k_aload_n C 0 dX3_putInPledge_22 rfl rfl (pc' := 23) rfl ?_
      refine k_getf C 4 (c1 Γ M i m5 0 (e_mill Γ hi (m5 0))) (v_i hi (by decide)) flX3_43 (v := .ref (Γ.1 i 5)) rfl dX3_putInPledge_23 (pc' := 26) rfl ?_
      refine k_iload_n C 1 dX3_putInPledge_26 rfl rfl (pc' := 27) rfl ?_
      refine k_aald C 4 (c1 Γ M i m5 5 (e_sacks Γ hi (m5 5))) (v_i hi (by decide)) rfl (b := Γ.1 i (20 + a1.toNatClampNeg)) rfl dX3_putInPledge_27 (pc' := 28) rfl (fun h7 => ?_)
      refine k_astore_n C (lv' := [(3, .ref (Γ.1 i (20 + a1.toNatClampNeg))), (0, .ref (Γ.1 i 0)), (1, .int a1), (2, .int a2)]) dX3_putInPledge_28 rfl (by decide) rfl (pc' := 29) rfl ?_
      refine k_aload_n C 0 dX3_putInPledge_29 rfl rfl (pc' := 30) rfl ?_
      refine k_getf C 6 (c1 Γ M i m5 (20 + a1.toNatClampNeg) (e_sack Γ hi (j_sack h7) (m5 (20 + a1.toNatClampNeg)))) (v_i hi (h_sack (j_sack h7))) flX3_152 (v := .int (m5 (20 + a1.toNatClampNeg) 6)) rfl dX3_putInPledge_30 (pc' := 33) rfl ?_
      refine k_iconst C (v := 2) dX3_putInPledge_33 (by decide) (pc' := 34) rfl ?_
      refine k_ic_ne C (tgt := 63) dX3_putInPledge_34 (by decide) (pc' := 37) rfl (fun h8 => ?_) (fun h8 => ?_)
      · refine k_ldc C (v := (-1000002)) dX3_putInPledge_63 cnX3_155 (pc' := 65) rfl ?_
        exact k_reti C rfl hr dX3_putInPledge_65
      · refine k_aload_n C 0 dX3_putInPledge_37 rfl rfl (pc' := 38) rfl ?_
        refine k_callVi C (rest := []) (qX5_hasPledge l Γ hL M i hi m5 ((20 + a1.toNatClampNeg)) (j_sack h7)) mwX5_hasPledge iwX5_hasPledge mlX3_163 (k_rm_of (by decide) (by decide)) (c1 Γ M i m5 (20 + a1.toNatClampNeg) (e_sack Γ hi (j_sack h7) (m5 (20 + a1.toNatClampNeg)))) (v_i hi (h_sack (j_sack h7))) rfl rfl rfl (Nat.le_of_ble_eq_true rfl) dX3_putInPledge_38 (pc' := 41) rfl (fun r9 m10 => ?_)
        refine k_if_ne C (tgt := 63) dX3_putInPledge_41 (by decide) (pc' := 44) rfl (fun h11 => ?_) (fun h11 => ?_)
        · refine k_ldc C (v := (-1000002)) dX3_putInPledge_63 cnX3_155 (pc' := 65) rfl ?_
          exact k_reti C rfl hr dX3_putInPledge_65
        · refine k_aload_n C 0 dX3_putInPledge_44 rfl rfl (pc' := 45) rfl ?_
          refine k_callVi C (rest := []) (qX5_flour l Γ hL M i hi m10 ((20 + a1.toNatClampNeg)) (j_sack h7)) mwX5_flour iwX5_flour mlX3_167 (k_rm_of (by decide) (by decide)) (c1 Γ M i m10 (20 + a1.toNatClampNeg) (e_sack Γ hi (j_sack h7) (m10 (20 + a1.toNatClampNeg)))) (v_i hi (h_sack (j_sack h7))) rfl rfl rfl (Nat.le_of_ble_eq_true rfl) dX3_putInPledge_45 (pc' := 48) rfl (fun r12 m13 => ?_)
          refine k_iload_n C 3 dX3_putInPledge_48 rfl rfl (pc' := 49) rfl ?_
          refine k_ic_lt C (tgt := 63) dX3_putInPledge_49 (by decide) (pc' := 52) rfl (fun h14 => ?_) (fun h14 => ?_)
          · refine k_ldc C (v := (-1000002)) dX3_putInPledge_63 cnX3_155 (pc' := 65) rfl ?_
            exact k_reti C rfl hr dX3_putInPledge_65
          · refine k_aload_n C 1 dX3_putInPledge_52 rfl rfl (pc' := 53) rfl ?_
            refine k_aload_n C 0 dX3_putInPledge_53 rfl rfl (pc' := 54) rfl ?_
            refine k_getf C 0 (c1 Γ M i m13 (20 + a1.toNatClampNeg) (e_sack Γ hi (j_sack h7) (m13 (20 + a1.toNatClampNeg)))) (v_i hi (h_sack (j_sack h7))) flX3_203 (v := .int (m13 (20 + a1.toNatClampNeg) 0)) rfl dX3_putInPledge_54 (pc' := 57) rfl ?_
            refine k_callVi C (rest := []) (qX3_hasFarmer l Γ hL M i hi m13 (m13 (20 + a1.toNatClampNeg) 0)) mwX3_hasFarmer iwX3_hasFarmer mlX3_138 (k_rm_of (by decide) (by decide)) (c1 Γ M i m13 0 (e_mill Γ hi (m13 0))) (v_i hi (by decide)) rfl rfl rfl (Nat.le_of_ble_eq_true rfl) dX3_putInPledge_57 (pc' := 60) rfl (fun r15 m16 => ?_)
            refine k_if_ne C (tgt := 66) dX3_putInPledge_60 (by decide) (pc' := 63) rfl (fun h17 => ?_) (fun h17 => ?_)
            · refine k_aload_n C 1 dX3_putInPledge_66 rfl rfl (pc' := 67) rfl ?_
              refine k_getf C 3 (c1 Γ M i m16 0 (e_mill Γ hi (m16 0))) (v_i hi (by decide)) flX3_37 (v := .ref (Γ.1 i 4)) rfl dX3_putInPledge_67 (pc' := 70) rfl ?_
              refine k_aload_n C 0 dX3_putInPledge_70 rfl rfl (pc' := 71) rfl ?_
              refine k_getf C 0 (c1 Γ M i m16 (20 + a1.toNatClampNeg) (e_sack Γ hi (j_sack h7) (m16 (20 + a1.toNatClampNeg)))) (v_i hi (h_sack (j_sack h7))) flX3_203 (v := .int (m16 (20 + a1.toNatClampNeg) 0)) rfl dX3_putInPledge_71 (pc' := 74) rfl ?_
              refine k_aald C 3 (c1 Γ M i m16 4 (e_farmers Γ hi (m16 4))) (v_i hi (by decide)) rfl (b := Γ.1 i (12 + (m16 (20 + a1.toNatClampNeg) 0).toNatClampNeg)) rfl dX3_putInPledge_74 (pc' := 75) rfl (fun h18 => ?_)
              refine k_astore C (lv' := [(4, .ref (Γ.1 i (12 + (m16 (20 + a1.toNatClampNeg) 0).toNatClampNeg))), (3, .ref (Γ.1 i (20 + a1.toNatClampNeg))), (0, .ref (Γ.1 i 0)), (1, .int a1), (2, .int a2)]) dX3_putInPledge_75 (by decide) rfl (pc' := 77) rfl ?_
              refine k_aload_n C 2 dX3_putInPledge_77 rfl rfl (pc' := 78) rfl ?_
              refine k_aload_n C 1 dX3_putInPledge_78 rfl rfl (pc' := 79) rfl ?_
              refine k_iload_n C 4 dX3_putInPledge_79 rfl rfl (pc' := 80) rfl ?_
              refine k_callVi C (rest := []) (qX3_loanFor l Γ hL M i hi m16 ((20 + a1.toNatClampNeg)) a2 (j_sack h7)) mwX3_loanFor iwX3_loanFor mlX3_213 (k_rm_of (by decide) (by decide)) (c1 Γ M i m16 0 (e_mill Γ hi (m16 0))) (v_i hi (by decide)) rfl rfl rfl (Nat.le_of_ble_eq_true rfl) dX3_putInPledge_80 (pc' := 83) rfl (fun r19 m20 => ?_)
              refine k_istore C (lv' := [(5, .int r19), (4, .ref (Γ.1 i (12 + (m16 (20 + a1.toNatClampNeg) 0).toNatClampNeg))), (3, .ref (Γ.1 i (20 + a1.toNatClampNeg))), (0, .ref (Γ.1 i 0)), (1, .int a1), (2, .int a2)]) dX3_putInPledge_83 (by decide) rfl (pc' := 85) rfl ?_
              refine k_iload C 0 dX3_putInPledge_85 rfl (pc' := 87) rfl ?_
              refine k_iconst C (v := (-1)) dX3_putInPledge_87 (by decide) (pc' := 88) rfl ?_
              refine k_ic_eq C (tgt := 108) dX3_putInPledge_88 (by decide) (pc' := 91) rfl (fun h21 => ?_) (fun h21 => ?_)
              · refine k_ldc C (v := (-1000002)) dX3_putInPledge_108 cnX3_155 (pc' := 110) rfl ?_
                exact k_reti C rfl hr dX3_putInPledge_110
              · refine k_aload C 1 dX3_putInPledge_91 rfl (pc' := 93) rfl ?_
                refine k_getf C 0 (c1 Γ M i m20 (12 + (m16 (20 + a1.toNatClampNeg) 0).toNatClampNeg) (e_farmer Γ hi (j_farmer h18) (m20 (12 + (m16 (20 + a1.toNatClampNeg) 0).toNatClampNeg)))) (v_i hi (h_farmer (j_farmer h18))) flX3_132 (v := .int (m20 (12 + (m16 (20 + a1.toNatClampNeg) 0).toNatClampNeg) 0)) rfl dX3_putInPledge_93 (pc' := 96) rfl ?_
                refine k_i2l C dX3_putInPledge_96 (pc' := 97) rfl ?_
                refine k_iload C 0 dX3_putInPledge_97 rfl (pc' := 99) rfl ?_
                refine k_i2l C dX3_putInPledge_99 (pc' := 100) rfl ?_
                refine k_ladd C dX3_putInPledge_100 (pc' := 101) rfl ?_
                refine k_ldc2 C (v := 2147483647) dX3_putInPledge_101 cnX3_211 (pc' := 104) rfl ?_
                refine k_lcmp C dX3_putInPledge_104 (pc' := 105) rfl ?_
                refine k_if_le C (tgt := 111) dX3_putInPledge_105 (by decide) (pc' := 108) rfl (fun h22 => ?_) (fun h22 => ?_)
                · refine k_aload C 1 dX3_putInPledge_111 rfl (pc' := 113) rfl ?_
                  refine k_dup C dX3_putInPledge_113 rfl (pc' := 114) rfl ?_
                  refine k_getf C 0 (c1 Γ M i m20 (12 + (m16 (20 + a1.toNatClampNeg) 0).toNatClampNeg) (e_farmer Γ hi (j_farmer h18) (m20 (12 + (m16 (20 + a1.toNatClampNeg) 0).toNatClampNeg)))) (v_i hi (h_farmer (j_farmer h18))) flX3_132 (v := .int (m20 (12 + (m16 (20 + a1.toNatClampNeg) 0).toNatClampNeg) 0)) rfl dX3_putInPledge_114 (pc' := 117) rfl ?_
                  refine k_iload C 0 dX3_putInPledge_117 rfl (pc' := 119) rfl ?_
                  refine k_iadd C dX3_putInPledge_119 (pc' := 120) rfl ?_
                  refine k_putf C (hL.k1 M i) 0 (c1 Γ M i m20 (12 + (m16 (20 + a1.toNatClampNeg) 0).toNatClampNeg) (e_farmer Γ hi (j_farmer h18) (m20 (12 + (m16 (20 + a1.toNatClampNeg) 0).toNatClampNeg)))) (v_i hi (h_farmer (j_farmer h18))) flX3_132 fpX0_0 (Nat.le_of_ble_eq_true rfl) (s1 Γ M i m20 (12 + (m16 (20 + a1.toNatClampNeg) 0).toNatClampNeg) 0 ((m20 (12 + (m16 (20 + a1.toNatClampNeg) 0).toNatClampNeg) 0) + r19) ((e_farmer Γ hi (j_farmer h18) _).trans (congrArg (fun z => Sum.inr (0, z)) (f_farmer (m20 (12 + (m16 (20 + a1.toNatClampNeg) 0).toNatClampNeg)) ((m20 (12 + (m16 (20 + a1.toNatClampNeg) 0).toNatClampNeg) 0) + r19) 0 (by decide))))) dX3_putInPledge_120 (pc' := 123) rfl (fun m23 => ?_)
                  refine k_aload_n C 2 dX3_putInPledge_123 rfl rfl (pc' := 124) rfl ?_
                  refine k_iload_n C 5 dX3_putInPledge_124 rfl rfl (pc' := 125) rfl ?_
                  refine k_putf C (hL.k1 M i) 11 (c1 Γ M i m23 (20 + a1.toNatClampNeg) (e_sack Γ hi (j_sack h7) (m23 (20 + a1.toNatClampNeg)))) (v_i hi (h_sack (j_sack h7))) flX3_217 fpX5_11 (Nat.le_of_ble_eq_true rfl) (s1 Γ M i m23 (20 + a1.toNatClampNeg) 11 a2 ((e_sack Γ hi (j_sack h7) _).trans (congrArg (fun z => Sum.inr (5, z)) (f_sack (m23 (20 + a1.toNatClampNeg)) a2 11 (by decide))))) dX3_putInPledge_125 (pc' := 128) rfl (fun m24 => ?_)
                  refine k_aload_n C 2 dX3_putInPledge_128 rfl rfl (pc' := 129) rfl ?_
                  refine k_iload C 0 dX3_putInPledge_129 rfl (pc' := 131) rfl ?_
                  refine k_putf C (hL.k1 M i) 12 (c1 Γ M i m24 (20 + a1.toNatClampNeg) (e_sack Γ hi (j_sack h7) (m24 (20 + a1.toNatClampNeg)))) (v_i hi (h_sack (j_sack h7))) flX3_220 fpX5_12 (Nat.le_of_ble_eq_true rfl) (s1 Γ M i m24 (20 + a1.toNatClampNeg) 12 r19 ((e_sack Γ hi (j_sack h7) _).trans (congrArg (fun z => Sum.inr (5, z)) (f_sack (m24 (20 + a1.toNatClampNeg)) r19 12 (by decide))))) dX3_putInPledge_131 (pc' := 134) rfl (fun m25 => ?_)
                  refine k_aload_n C 2 dX3_putInPledge_134 rfl rfl (pc' := 135) rfl ?_
                  refine k_aload_n C 3 dX3_putInPledge_135 rfl rfl (pc' := 136) rfl ?_
                  refine k_callVi C (rest := [.ref (Γ.1 i (20 + a1.toNatClampNeg))]) (qX3_today l Γ hL M i hi m25) mwX3_today iwX3_today mlX3_223 (k_rm_of (by decide) (by decide)) (c1 Γ M i m25 0 (e_mill Γ hi (m25 0))) (v_i hi (by decide)) rfl rfl rfl (Nat.le_of_ble_eq_true rfl) dX3_putInPledge_136 (pc' := 139) rfl (fun r26 m27 => ?_)
                  refine k_putf C (hL.k1 M i) 13 (c1 Γ M i m27 (20 + a1.toNatClampNeg) (e_sack Γ hi (j_sack h7) (m27 (20 + a1.toNatClampNeg)))) (v_i hi (h_sack (j_sack h7))) flX3_226 fpX5_13 (Nat.le_of_ble_eq_true rfl) (s1 Γ M i m27 (20 + a1.toNatClampNeg) 13 r26 ((e_sack Γ hi (j_sack h7) _).trans (congrArg (fun z => Sum.inr (5, z)) (f_sack (m27 (20 + a1.toNatClampNeg)) r26 13 (by decide))))) dX3_putInPledge_139 (pc' := 142) rfl (fun m28 => ?_)
                  refine k_aload_n C 2 dX3_putInPledge_142 rfl rfl (pc' := 143) rfl ?_
                  refine k_aload_n C 3 dX3_putInPledge_143 rfl rfl (pc' := 144) rfl ?_
                  refine k_callVi C (rest := [.ref (Γ.1 i (20 + a1.toNatClampNeg))]) (qX3_today l Γ hL M i hi m28) mwX3_today iwX3_today mlX3_223 (k_rm_of (by decide) (by decide)) (c1 Γ M i m28 0 (e_mill Γ hi (m28 0))) (v_i hi (by decide)) rfl rfl rfl (Nat.le_of_ble_eq_true rfl) dX3_putInPledge_144 (pc' := 147) rfl (fun r29 m30 => ?_)
                  refine k_aload_n C 3 dX3_putInPledge_147 rfl rfl (pc' := 148) rfl ?_
                  refine k_getf C 0 (c1 Γ M i m30 0 (e_mill Γ hi (m30 0))) (v_i hi (by decide)) flX3_18 (v := .ref (Γ.1 i 1)) rfl dX3_putInPledge_148 (pc' := 151) rfl ?_
                  refine k_bipush C (v := 10) dX3_putInPledge_151 (by decide) (pc' := 153) rfl ?_
                  refine k_ialdK C (n0 := 10) (c1 Γ M i m30 1 (e_sets Γ hi (m30 1))) (v_i hi (by decide)) (by decide) (by decide) dX3_putInPledge_153 (pc' := 154) rfl ?_
                  refine k_iadd C dX3_putInPledge_154 (pc' := 155) rfl ?_
                  refine k_putf C (hL.k1 M i) 14 (c1 Γ M i m30 (20 + a1.toNatClampNeg) (e_sack Γ hi (j_sack h7) (m30 (20 + a1.toNatClampNeg)))) (v_i hi (h_sack (j_sack h7))) flX3_229 fpX5_14 (Nat.le_of_ble_eq_true rfl) (s1 Γ M i m30 (20 + a1.toNatClampNeg) 14 (r29 + (m30 1 10)) ((e_sack Γ hi (j_sack h7) _).trans (congrArg (fun z => Sum.inr (5, z)) (f_sack (m30 (20 + a1.toNatClampNeg)) (r29 + (m30 1 10)) 14 (by decide))))) dX3_putInPledge_155 (pc' := 158) rfl (fun m32 => ?_)
                  refine k_iload C 0 dX3_putInPledge_158 rfl (pc' := 160) rfl ?_
                  exact k_reti C rfl hr dX3_putInPledge_160
                · refine k_ldc C (v := (-1000002)) dX3_putInPledge_108 cnX3_155 (pc' := 110) rfl ?_
                  exact k_reti C rfl hr dX3_putInPledge_110
            · refine k_ldc C (v := (-1000002)) dX3_putInPledge_63 cnX3_155 (pc' := 65) rfl ?_
              exact k_reti C rfl hr dX3_putInPledge_65
    · refine k_ldc C (v := (-1000001)) dX3_putInPledge_19 cnX3_120 (pc' := 21) rfl ?_
      exact k_reti C rfl hr dX3_putInPledge_21
def fX3_debtOf (m0 : kM1) (j1 : Nat) : Option (Int32 × kM1) :=
  k_let (((m0 j1 12).toInt64) * ((m0 1 9).toInt64)) fun v2 => bd (fX3_today m0) fun r3 m4 => k_let (v2 * ((r3 - (m4 j1 13)).toInt64)) fun v5 => if 0 < (lg_cmp v2 2147483647) then some (2147483647, m4) else if (lg_cmp v5 2147483647) ≤ 0 then k_let (((m4 j1 12).toInt64) + (v5 / 1000)) fun v8 => if (lg_cmp v8 2147483647) ≤ 0 then some (v8.toInt32, m4) else some (2147483647, m4) else some (2147483647, m4)
set_option maxRecDepth 100000 in
set_option maxHeartbeats 4000000 in
theorem qX3_debtOf (l : Launch) (Γ : kG) (hL : k_Lay Γ 314) (M : kM2) (i : Nat) (hi : i < 7) (m0 : kM1) (j1 : Nat) (hj1 : 20 ≤ j1 ∧ j1 < 44) : CT l Γ (K1 Γ M i) yX3_debtOf cX3_debtOf 8 (some .int) (k_R 1) [.ref (Γ.1 i 0), .ref (Γ.1 i j1)] m0 (fX3_debtOf m0 j1) := by
  refine k_meth (own := RX3) (by decide) rfl (Nat.le_of_ble_eq_true rfl) (fun p e R s mid args below meth c C hr => ?_)
  show Sm Γ (K1 Γ M i) p l e R s mid args below meth c 8 (jM true Γ (K1 Γ M i) below args s) m0 [(0, .ref (Γ.1 i 0)), (1, .ref (Γ.1 i j1))] [] 0 (fX3_debtOf m0 j1)
  unfold fX3_debtOf
  refine k_aload_n C 1 dX3_debtOf_0 rfl rfl (pc' := 1) rfl ?_
  refine k_getf C 12 (c1 Γ M i m0 j1 (e_sack Γ hi hj1 (m0 j1))) (v_i hi (h_sack hj1)) flX3_220 (v := .int (m0 j1 12)) rfl dX3_debtOf_1 (pc' := 4) rfl ?_
  refine k_i2l C dX3_debtOf_4 (pc' := 5) rfl ?_
  refine k_aload_n C 0 dX3_debtOf_5 rfl rfl (pc' := 6) rfl ?_
  refine k_getf C 0 (c1 Γ M i m0 0 (e_mill Γ hi (m0 0))) (v_i hi (by decide)) flX3_18 (v := .ref (Γ.1 i 1)) rfl dX3_debtOf_6 (pc' := 9) rfl ?_
  refine k_bipush C (v := 9) dX3_debtOf_9 (by decide) (pc' := 11) rfl ?_
  refine k_ialdK C (n0 := 9) (c1 Γ M i m0 1 (e_sets Γ hi (m0 1))) (v_i hi (by decide)) (by decide) (by decide) dX3_debtOf_11 (pc' := 12) rfl ?_
  refine k_i2l C dX3_debtOf_12 (pc' := 13) rfl ?_
  refine k_lmul C dX3_debtOf_13 (pc' := 14) rfl ?_
  refine k_topl (fun v2 => ?_)
  refine k_lstore_n C (lv' := [(2, .long v2), (0, .ref (Γ.1 i 0)), (1, .ref (Γ.1 i j1))]) dX3_debtOf_14 rfl (by decide) rfl (pc' := 15) rfl ?_
  refine k_lload_n C 0 dX3_debtOf_15 rfl rfl (pc' := 16) rfl ?_
  refine k_aload_n C 1 dX3_debtOf_16 rfl rfl (pc' := 17) rfl ?_
  refine k_callVi C (rest := [.long v2]) (qX3_today l Γ hL M i hi m0) mwX3_today iwX3_today mlX3_223 (k_rm_of (by decide) (by decide)) (c1 Γ M i m0 0 (e_mill Γ hi (m0 0))) (v_i hi (by decide)) rfl rfl rfl (Nat.le_of_ble_eq_true rfl) dX3_debtOf_17 (pc' := 20) rfl (fun r3 m4 => ?_)
  refine k_aload_n C 2 dX3_debtOf_20 rfl rfl (pc' := 21) rfl ?_
  refine k_getf C 13 (c1 Γ M i m4 j1 (e_sack Γ hi hj1 (m4 j1))) (v_i hi (h_sack hj1)) flX3_226 (v := .int (m4 j1 13)) rfl dX3_debtOf_21 (pc' := 24) rfl ?_
  refine k_isub C dX3_debtOf_24 (pc' := 25) rfl ?_
  refine k_i2l C dX3_debtOf_25 (pc' := 26) rfl ?_
  refine k_lmul C dX3_debtOf_26 (pc' := 27) rfl ?_
  refine k_topl (fun v5 => ?_)
  refine k_lstore C (lv' := [(4, .long v5), (2, .long v2), (0, .ref (Γ.1 i 0)), (1, .ref (Γ.1 i j1))]) dX3_debtOf_27 (by decide) rfl (pc' := 29) rfl ?_
  refine k_lload_n C 1 dX3_debtOf_29 rfl rfl (pc' := 30) rfl ?_
  refine k_ldc2 C (v := 2147483647) dX3_debtOf_30 cnX3_211 (pc' := 33) rfl ?_
  refine k_lcmp C dX3_debtOf_33 (pc' := 34) rfl ?_
  refine k_if_gt C (tgt := 46) dX3_debtOf_34 (by decide) (pc' := 37) rfl (fun h6 => ?_) (fun h6 => ?_)
  · refine k_ldc C (v := 2147483647) dX3_debtOf_46 cnX3_235 (pc' := 48) rfl ?_
    exact k_reti C rfl hr dX3_debtOf_48
  · refine k_lload C 0 dX3_debtOf_37 rfl (pc' := 39) rfl ?_
    refine k_ldc2 C (v := 2147483647) dX3_debtOf_39 cnX3_211 (pc' := 42) rfl ?_
    refine k_lcmp C dX3_debtOf_42 (pc' := 43) rfl ?_
    refine k_if_le C (tgt := 49) dX3_debtOf_43 (by decide) (pc' := 46) rfl (fun h7 => ?_) (fun h7 => ?_)
    · refine k_aload_n C 3 dX3_debtOf_49 rfl rfl (pc' := 50) rfl ?_
      refine k_getf C 12 (c1 Γ M i m4 j1 (e_sack Γ hi hj1 (m4 j1))) (v_i hi (h_sack hj1)) flX3_220 (v := .int (m4 j1 12)) rfl dX3_debtOf_50 (pc' := 53) rfl ?_
      refine k_i2l C dX3_debtOf_53 (pc' := 54) rfl ?_
      refine k_lload C 0 dX3_debtOf_54 rfl (pc' := 56) rfl ?_
      refine k_ldc2 C (v := 1000) dX3_debtOf_56 cnX3_236 (pc' := 59) rfl ?_
      refine k_ldivK C dX3_debtOf_59 (by decide) (pc' := 60) rfl ?_
      refine k_ladd C dX3_debtOf_60 (pc' := 61) rfl ?_
      refine k_topl (fun v8 => ?_)
      refine k_lstore C (lv' := [(6, .long v8), (4, .long v5), (2, .long v2), (0, .ref (Γ.1 i 0)), (1, .ref (Γ.1 i j1))]) dX3_debtOf_61 (by decide) rfl (pc' := 63) rfl ?_
      refine k_lload C 0 dX3_debtOf_63 rfl (pc' := 65) rfl ?_
      refine k_ldc2 C (v := 2147483647) dX3_debtOf_65 cnX3_211 (pc' := 68) rfl ?_
      refine k_lcmp C dX3_debtOf_68 (pc' := 69) rfl ?_
      refine k_if_le C (tgt := 77) dX3_debtOf_69 (by decide) (pc' := 72) rfl (fun h9 => ?_) (fun h9 => ?_)
      · refine k_lload C 0 dX3_debtOf_77 rfl (pc' := 79) rfl ?_
        refine k_l2i C dX3_debtOf_79 (pc' := 80) rfl ?_
        exact k_reti C rfl hr dX3_debtOf_80
      · refine k_ldc C (v := 2147483647) dX3_debtOf_72 cnX3_235 (pc' := 74) rfl ?_
        refine k_goto C (pc' := 80) dX3_debtOf_74 (by decide) ?_
        exact k_reti C rfl hr dX3_debtOf_80
    · refine k_ldc C (v := 2147483647) dX3_debtOf_46 cnX3_235 (pc' := 48) rfl ?_
      exact k_reti C rfl hr dX3_debtOf_48
def fX3_redeemPledge (m0 : kM1) (a1 : Int32) : Option (Int32 × kM1) :=
  bd (fX3_hasSack m0 a1) fun r1 m2 => if r1 = 0 then some ((-1000001), m2) else if ¬ a1 < 0 ∧ a1.toNatClampNeg < 24 then bd (fX5_hasPledge m2 ((20 + a1.toNatClampNeg))) fun r5 m6 => if r5 = 0 then some ((-1000002), m6) else bd (fX3_hasFarmer m6 (m6 (20 + a1.toNatClampNeg) 0)) fun r8 m9 => if r8 = 0 then some ((-1000002), m9) else if ¬ (m9 (20 + a1.toNatClampNeg) 0) < 0 ∧ (m9 (20 + a1.toNatClampNeg) 0).toNatClampNeg < 8 then bd (fX3_debtOf m9 ((20 + a1.toNatClampNeg))) fun r12 m13 => if r12 = 2147483647 then some ((-1000002), m13) else if r12 ≤ (m13 (12 + (m9 (20 + a1.toNatClampNeg) 0).toNatClampNeg) 0) then k_let (mu m13 (12 + (m9 (20 + a1.toNatClampNeg) 0).toNatClampNeg) 0 ((m13 (12 + (m9 (20 + a1.toNatClampNeg) 0).toNatClampNeg) 0) - r12)) fun m16 => bd (fX5_endPledge m16 ((20 + a1.toNatClampNeg))) fun r17 m18 => some (m18 (12 + (m9 (20 + a1.toNatClampNeg) 0).toNatClampNeg) 0, m18) else some ((-1000002), m13) else none else none
set_option maxRecDepth 100000 in
set_option maxHeartbeats 4000000 in
theorem qX3_redeemPledge (l : Launch) (Γ : kG) (hL : k_Lay Γ 314) (M : kM2) (i : Nat) (hi : i < 7) (m0 : kM1) (a1 : Int32) : CT l Γ (K1 Γ M i) yX3_redeemPledge cX3_redeemPledge 5 (some .int) (k_R 2) [.ref (Γ.1 i 0), .int a1] m0 (fX3_redeemPledge m0 a1) := by
  refine k_meth (own := RX3) (by decide) rfl (Nat.le_of_ble_eq_true rfl) (fun p e R s mid args below meth c C hr => ?_)
  show Sm Γ (K1 Γ M i) p l e R s mid args below meth c 5 (jM true Γ (K1 Γ M i) below args s) m0 [(0, .ref (Γ.1 i 0)), (1, .int a1)] [] 0 (fX3_redeemPledge m0 a1)
  unfold fX3_redeemPledge
  refine k_aload_n C 0 dX3_redeemPledge_0 rfl rfl (pc' := 1) rfl ?_
  refine k_iload_n C 1 dX3_redeemPledge_1 rfl rfl (pc' := 2) rfl ?_
  refine k_callVi C (rest := []) (qX3_hasSack l Γ hL M i hi m0 a1) mwX3_hasSack iwX3_hasSack mlX3_149 (k_rm_of (by decide) (by decide)) (c1 Γ M i m0 0 (e_mill Γ hi (m0 0))) (v_i hi (by decide)) rfl rfl rfl (Nat.le_of_ble_eq_true rfl) dX3_redeemPledge_2 (pc' := 5) rfl (fun r1 m2 => ?_)
  refine k_if_ne C (tgt := 11) dX3_redeemPledge_5 (by decide) (pc' := 8) rfl (fun h3 => ?_) (fun h3 => ?_)
  · refine k_aload_n C 0 dX3_redeemPledge_11 rfl rfl (pc' := 12) rfl ?_
    refine k_getf C 4 (c1 Γ M i m2 0 (e_mill Γ hi (m2 0))) (v_i hi (by decide)) flX3_43 (v := .ref (Γ.1 i 5)) rfl dX3_redeemPledge_12 (pc' := 15) rfl ?_
    refine k_iload_n C 1 dX3_redeemPledge_15 rfl rfl (pc' := 16) rfl ?_
    refine k_aald C 4 (c1 Γ M i m2 5 (e_sacks Γ hi (m2 5))) (v_i hi (by decide)) rfl (b := Γ.1 i (20 + a1.toNatClampNeg)) rfl dX3_redeemPledge_16 (pc' := 17) rfl (fun h4 => ?_)
    refine k_astore_n C (lv' := [(2, .ref (Γ.1 i (20 + a1.toNatClampNeg))), (0, .ref (Γ.1 i 0)), (1, .int a1)]) dX3_redeemPledge_17 rfl (by decide) rfl (pc' := 18) rfl ?_
    refine k_aload_n C 0 dX3_redeemPledge_18 rfl rfl (pc' := 19) rfl ?_
    refine k_callVi C (rest := []) (qX5_hasPledge l Γ hL M i hi m2 ((20 + a1.toNatClampNeg)) (j_sack h4)) mwX5_hasPledge iwX5_hasPledge mlX3_163 (k_rm_of (by decide) (by decide)) (c1 Γ M i m2 (20 + a1.toNatClampNeg) (e_sack Γ hi (j_sack h4) (m2 (20 + a1.toNatClampNeg)))) (v_i hi (h_sack (j_sack h4))) rfl rfl rfl (Nat.le_of_ble_eq_true rfl) dX3_redeemPledge_19 (pc' := 22) rfl (fun r5 m6 => ?_)
    refine k_if_eq C (tgt := 36) dX3_redeemPledge_22 (by decide) (pc' := 25) rfl (fun h7 => ?_) (fun h7 => ?_)
    · refine k_ldc C (v := (-1000002)) dX3_redeemPledge_36 cnX3_155 (pc' := 38) rfl ?_
      exact k_reti C rfl hr dX3_redeemPledge_38
    · refine k_aload_n C 1 dX3_redeemPledge_25 rfl rfl (pc' := 26) rfl ?_
      refine k_aload_n C 0 dX3_redeemPledge_26 rfl rfl (pc' := 27) rfl ?_
      refine k_getf C 0 (c1 Γ M i m6 (20 + a1.toNatClampNeg) (e_sack Γ hi (j_sack h4) (m6 (20 + a1.toNatClampNeg)))) (v_i hi (h_sack (j_sack h4))) flX3_203 (v := .int (m6 (20 + a1.toNatClampNeg) 0)) rfl dX3_redeemPledge_27 (pc' := 30) rfl ?_
      refine k_callVi C (rest := []) (qX3_hasFarmer l Γ hL M i hi m6 (m6 (20 + a1.toNatClampNeg) 0)) mwX3_hasFarmer iwX3_hasFarmer mlX3_138 (k_rm_of (by decide) (by decide)) (c1 Γ M i m6 0 (e_mill Γ hi (m6 0))) (v_i hi (by decide)) rfl rfl rfl (Nat.le_of_ble_eq_true rfl) dX3_redeemPledge_30 (pc' := 33) rfl (fun r8 m9 => ?_)
      refine k_if_ne C (tgt := 39) dX3_redeemPledge_33 (by decide) (pc' := 36) rfl (fun h10 => ?_) (fun h10 => ?_)
      · refine k_aload_n C 1 dX3_redeemPledge_39 rfl rfl (pc' := 40) rfl ?_
        refine k_getf C 3 (c1 Γ M i m9 0 (e_mill Γ hi (m9 0))) (v_i hi (by decide)) flX3_37 (v := .ref (Γ.1 i 4)) rfl dX3_redeemPledge_40 (pc' := 43) rfl ?_
        refine k_aload_n C 0 dX3_redeemPledge_43 rfl rfl (pc' := 44) rfl ?_
        refine k_getf C 0 (c1 Γ M i m9 (20 + a1.toNatClampNeg) (e_sack Γ hi (j_sack h4) (m9 (20 + a1.toNatClampNeg)))) (v_i hi (h_sack (j_sack h4))) flX3_203 (v := .int (m9 (20 + a1.toNatClampNeg) 0)) rfl dX3_redeemPledge_44 (pc' := 47) rfl ?_
        refine k_aald C 3 (c1 Γ M i m9 4 (e_farmers Γ hi (m9 4))) (v_i hi (by decide)) rfl (b := Γ.1 i (12 + (m9 (20 + a1.toNatClampNeg) 0).toNatClampNeg)) rfl dX3_redeemPledge_47 (pc' := 48) rfl (fun h11 => ?_)
        refine k_astore_n C (lv' := [(3, .ref (Γ.1 i (12 + (m9 (20 + a1.toNatClampNeg) 0).toNatClampNeg))), (2, .ref (Γ.1 i (20 + a1.toNatClampNeg))), (0, .ref (Γ.1 i 0)), (1, .int a1)]) dX3_redeemPledge_48 rfl (by decide) rfl (pc' := 49) rfl ?_
        refine k_aload_n C 2 dX3_redeemPledge_49 rfl rfl (pc' := 50) rfl ?_
        refine k_aload_n C 1 dX3_redeemPledge_50 rfl rfl (pc' := 51) rfl ?_
        refine k_callVi C (rest := []) (qX3_debtOf l Γ hL M i hi m9 ((20 + a1.toNatClampNeg)) (j_sack h4)) mwX3_debtOf iwX3_debtOf mlX3_238 (k_rm_of (by decide) (by decide)) (c1 Γ M i m9 0 (e_mill Γ hi (m9 0))) (v_i hi (by decide)) rfl rfl rfl (Nat.le_of_ble_eq_true rfl) dX3_redeemPledge_51 (pc' := 54) rfl (fun r12 m13 => ?_)
        refine k_istore C (lv' := [(4, .int r12), (3, .ref (Γ.1 i (12 + (m9 (20 + a1.toNatClampNeg) 0).toNatClampNeg))), (2, .ref (Γ.1 i (20 + a1.toNatClampNeg))), (0, .ref (Γ.1 i 0)), (1, .int a1)]) dX3_redeemPledge_54 (by decide) rfl (pc' := 56) rfl ?_
        refine k_iload C 0 dX3_redeemPledge_56 rfl (pc' := 58) rfl ?_
        refine k_ldc C (v := 2147483647) dX3_redeemPledge_58 cnX3_235 (pc' := 60) rfl ?_
        refine k_ic_eq C (tgt := 72) dX3_redeemPledge_60 (by decide) (pc' := 63) rfl (fun h14 => ?_) (fun h14 => ?_)
        · refine k_ldc C (v := (-1000002)) dX3_redeemPledge_72 cnX3_155 (pc' := 74) rfl ?_
          exact k_reti C rfl hr dX3_redeemPledge_74
        · refine k_aload_n C 1 dX3_redeemPledge_63 rfl rfl (pc' := 64) rfl ?_
          refine k_getf C 0 (c1 Γ M i m13 (12 + (m9 (20 + a1.toNatClampNeg) 0).toNatClampNeg) (e_farmer Γ hi (j_farmer h11) (m13 (12 + (m9 (20 + a1.toNatClampNeg) 0).toNatClampNeg)))) (v_i hi (h_farmer (j_farmer h11))) flX3_132 (v := .int (m13 (12 + (m9 (20 + a1.toNatClampNeg) 0).toNatClampNeg) 0)) rfl dX3_redeemPledge_64 (pc' := 67) rfl ?_
          refine k_iload C 0 dX3_redeemPledge_67 rfl (pc' := 69) rfl ?_
          refine k_ic_ge C (tgt := 75) dX3_redeemPledge_69 (by decide) (pc' := 72) rfl (fun h15 => ?_) (fun h15 => ?_)
          · refine k_aload_n C 1 dX3_redeemPledge_75 rfl rfl (pc' := 76) rfl ?_
            refine k_dup C dX3_redeemPledge_76 rfl (pc' := 77) rfl ?_
            refine k_getf C 0 (c1 Γ M i m13 (12 + (m9 (20 + a1.toNatClampNeg) 0).toNatClampNeg) (e_farmer Γ hi (j_farmer h11) (m13 (12 + (m9 (20 + a1.toNatClampNeg) 0).toNatClampNeg)))) (v_i hi (h_farmer (j_farmer h11))) flX3_132 (v := .int (m13 (12 + (m9 (20 + a1.toNatClampNeg) 0).toNatClampNeg) 0)) rfl dX3_redeemPledge_77 (pc' := 80) rfl ?_
            refine k_iload C 0 dX3_redeemPledge_80 rfl (pc' := 82) rfl ?_
            refine k_isub C dX3_redeemPledge_82 (pc' := 83) rfl ?_
            refine k_putf C (hL.k1 M i) 0 (c1 Γ M i m13 (12 + (m9 (20 + a1.toNatClampNeg) 0).toNatClampNeg) (e_farmer Γ hi (j_farmer h11) (m13 (12 + (m9 (20 + a1.toNatClampNeg) 0).toNatClampNeg)))) (v_i hi (h_farmer (j_farmer h11))) flX3_132 fpX0_0 (Nat.le_of_ble_eq_true rfl) (s1 Γ M i m13 (12 + (m9 (20 + a1.toNatClampNeg) 0).toNatClampNeg) 0 ((m13 (12 + (m9 (20 + a1.toNatClampNeg) 0).toNatClampNeg) 0) - r12) ((e_farmer Γ hi (j_farmer h11) _).trans (congrArg (fun z => Sum.inr (0, z)) (f_farmer (m13 (12 + (m9 (20 + a1.toNatClampNeg) 0).toNatClampNeg)) ((m13 (12 + (m9 (20 + a1.toNatClampNeg) 0).toNatClampNeg) 0) - r12) 0 (by decide))))) dX3_redeemPledge_83 (pc' := 86) rfl (fun m16 => ?_)
            refine k_aload_n C 2 dX3_redeemPledge_86 rfl rfl (pc' := 87) rfl ?_
            refine k_callVv C (rest := []) (qX5_endPledge l Γ hL M i hi m16 ((20 + a1.toNatClampNeg)) (j_sack h4)) mwX5_endPledge iwX5_endPledge mlX3_241 (k_rm_of (by decide) (by decide)) (c1 Γ M i m16 (20 + a1.toNatClampNeg) (e_sack Γ hi (j_sack h4) (m16 (20 + a1.toNatClampNeg)))) (v_i hi (h_sack (j_sack h4))) rfl rfl rfl (Nat.le_of_ble_eq_true rfl) dX3_redeemPledge_87 (pc' := 90) rfl (fun r17 m18 => ?_)
            refine k_aload_n C 1 dX3_redeemPledge_90 rfl rfl (pc' := 91) rfl ?_
            refine k_getf C 0 (c1 Γ M i m18 (12 + (m9 (20 + a1.toNatClampNeg) 0).toNatClampNeg) (e_farmer Γ hi (j_farmer h11) (m18 (12 + (m9 (20 + a1.toNatClampNeg) 0).toNatClampNeg)))) (v_i hi (h_farmer (j_farmer h11))) flX3_132 (v := .int (m18 (12 + (m9 (20 + a1.toNatClampNeg) 0).toNatClampNeg) 0)) rfl dX3_redeemPledge_91 (pc' := 94) rfl ?_
            exact k_reti C rfl hr dX3_redeemPledge_94
          · refine k_ldc C (v := (-1000002)) dX3_redeemPledge_72 cnX3_155 (pc' := 74) rfl ?_
            exact k_reti C rfl hr dX3_redeemPledge_74
      · refine k_ldc C (v := (-1000002)) dX3_redeemPledge_36 cnX3_155 (pc' := 38) rfl ?_
        exact k_reti C rfl hr dX3_redeemPledge_38
  · refine k_ldc C (v := (-1000001)) dX3_redeemPledge_8 cnX3_120 (pc' := 10) rfl ?_
    exact k_reti C rfl hr dX3_redeemPledge_10
def fX3_pledgesAheadOf_b86 (a1 : Int32) (rec15 : kM1 → Int32 → Int32 → Int32 → Option (Int32 × kM1)) (m0 : kM1) (b2 : Int32) (b3 : Int32) (b4 : Int32) : Option (Int32 × kM1) :=
  k_let (b4 + 1) fun v10 => rec15 m0 b2 b3 v10
set_option maxRecDepth 100000 in
set_option maxHeartbeats 4000000 in
theorem sX3_pledgesAheadOf_b86 {l : Launch} {Γ : kG} (hL : k_Lay Γ 314) {M : kM2} {i : Nat} (hi : i < 7) {p : Program} {e : Env} {R : Room} {s : State} {mid : MethodId} {args : Array Value} {below : List Frame} {meth : Method} {c : Code} (C : k_C Γ p R s mid args meth c cX3_pledgesAheadOf 6 RX3 (k_R 1)) (hr : meth.sig.returnType = (some .int)) (a1 : Int32) (rec15 : kM1 → Int32 → Int32 → Int32 → Option (Int32 × kM1)) (hrec15 : ∀ (m0 : kM1) (b2 : Int32) (b3 : Int32) (b4 : Int32), Sm Γ (K1 Γ M i) p l e R s mid args below meth c 6 (jM true Γ (K1 Γ M i) below args s) m0 [(0, .ref (Γ.1 i 0)), (1, .int a1), (2, .int b2), (3, .int b3), (4, .int b4)] [] 15 (rec15 m0 b2 b3 b4)) (m0 : kM1) (b2 : Int32) (b3 : Int32) (b4 : Int32)  : Sm Γ (K1 Γ M i) p l e R s mid args below meth c 6 (jM true Γ (K1 Γ M i) below args s) m0 [(0, .ref (Γ.1 i 0)), (1, .int a1), (2, .int b2), (3, .int b3), (4, .int b4)] [] 86 (fX3_pledgesAheadOf_b86 a1 rec15 m0 b2 b3 b4) := by
  unfold fX3_pledgesAheadOf_b86
  refine k_iinc (v := 1) (q := 4) (lv' := [(0, .ref (Γ.1 i 0)), (1, .int a1), (2, .int b2), (3, .int b3)]) C dX3_pledgesAheadOf_86 rfl (by decide) (by decide) (pc' := 89) rfl (fun _ => rfl) (fun v10 => ?_)
  refine k_goto C (pc' := 15) dX3_pledgesAheadOf_89 (by decide) ?_
  refine k_sub [1, 2, 3, 4, 0] rfl ?_
  exact hrec15 m0 b2 b3 v10
def fX3_pledgesAheadOf_b63 (a1 : Int32) (rec15 : kM1 → Int32 → Int32 → Int32 → Option (Int32 × kM1)) (m0 : kM1) (b2 : Int32) (b3 : Int32) (b4 : Int32) (t0 : Int32) : Option (Int32 × kM1) :=
  if ¬ b4 < 0 ∧ b4.toNatClampNeg < 24 then bd (fX5_hasPledge m0 ((20 + b4.toNatClampNeg))) fun r7 m8 => if r7 = 0 then fX3_pledgesAheadOf_b86 a1 rec15 m8 b2 b3 b4 else if t0 = 0 then fX3_pledgesAheadOf_b86 a1 rec15 m8 b2 b3 b4 else k_let (b3 + 1) fun v12 => fX3_pledgesAheadOf_b86 a1 rec15 m8 b2 v12 b4 else none
set_option maxRecDepth 100000 in
set_option maxHeartbeats 4000000 in
theorem sX3_pledgesAheadOf_b63 {l : Launch} {Γ : kG} (hL : k_Lay Γ 314) {M : kM2} {i : Nat} (hi : i < 7) {p : Program} {e : Env} {R : Room} {s : State} {mid : MethodId} {args : Array Value} {below : List Frame} {meth : Method} {c : Code} (C : k_C Γ p R s mid args meth c cX3_pledgesAheadOf 6 RX3 (k_R 1)) (hr : meth.sig.returnType = (some .int)) (a1 : Int32) (rec15 : kM1 → Int32 → Int32 → Int32 → Option (Int32 × kM1)) (hrec15 : ∀ (m0 : kM1) (b2 : Int32) (b3 : Int32) (b4 : Int32), Sm Γ (K1 Γ M i) p l e R s mid args below meth c 6 (jM true Γ (K1 Γ M i) below args s) m0 [(0, .ref (Γ.1 i 0)), (1, .int a1), (2, .int b2), (3, .int b3), (4, .int b4)] [] 15 (rec15 m0 b2 b3 b4)) (m0 : kM1) (b2 : Int32) (b3 : Int32) (b4 : Int32) (t0 : Int32)  : Sm Γ (K1 Γ M i) p l e R s mid args below meth c 6 (jM true Γ (K1 Γ M i) below args s) m0 [(0, .ref (Γ.1 i 0)), (1, .int a1), (2, .int b2), (3, .int b3), (4, .int b4)] [.int t0] 63 (fX3_pledgesAheadOf_b63 a1 rec15 m0 b2 b3 b4 t0) := by
  unfold fX3_pledgesAheadOf_b63
  refine k_istore C (lv' := [(5, .int t0), (0, .ref (Γ.1 i 0)), (1, .int a1), (2, .int b2), (3, .int b3), (4, .int b4)]) dX3_pledgesAheadOf_63 (by decide) rfl (pc' := 65) rfl ?_
  refine k_aload_n C 1 dX3_pledgesAheadOf_65 rfl rfl (pc' := 66) rfl ?_
  refine k_getf C 4 (c1 Γ M i m0 0 (e_mill Γ hi (m0 0))) (v_i hi (by decide)) flX3_43 (v := .ref (Γ.1 i 5)) rfl dX3_pledgesAheadOf_66 (pc' := 69) rfl ?_
  refine k_iload C 5 dX3_pledgesAheadOf_69 rfl (pc' := 71) rfl ?_
  refine k_aald C 4 (c1 Γ M i m0 5 (e_sacks Γ hi (m0 5))) (v_i hi (by decide)) rfl (b := Γ.1 i (20 + b4.toNatClampNeg)) rfl dX3_pledgesAheadOf_71 (pc' := 72) rfl (fun h6 => ?_)
  refine k_callVi C (rest := []) (qX5_hasPledge l Γ hL M i hi m0 ((20 + b4.toNatClampNeg)) (j_sack h6)) mwX5_hasPledge iwX5_hasPledge mlX3_163 (k_rm_of (by decide) (by decide)) (c1 Γ M i m0 (20 + b4.toNatClampNeg) (e_sack Γ hi (j_sack h6) (m0 (20 + b4.toNatClampNeg)))) (v_i hi (h_sack (j_sack h6))) rfl rfl rfl (Nat.le_of_ble_eq_true rfl) dX3_pledgesAheadOf_72 (pc' := 75) rfl (fun r7 m8 => ?_)
  refine k_if_eq C (tgt := 86) dX3_pledgesAheadOf_75 (by decide) (pc' := 78) rfl (fun h9 => ?_) (fun h9 => ?_)
  · refine k_sub [1, 2, 3, 4, 5] rfl ?_
    exact sX3_pledgesAheadOf_b86 hL hi C hr a1 rec15 hrec15 m8 b2 b3 b4
  · refine k_iload C 0 dX3_pledgesAheadOf_78 rfl (pc' := 80) rfl ?_
    refine k_if_eq C (tgt := 86) dX3_pledgesAheadOf_80 (by decide) (pc' := 83) rfl (fun h11 => ?_) (fun h11 => ?_)
    · refine k_sub [1, 2, 3, 4, 5] rfl ?_
      exact sX3_pledgesAheadOf_b86 hL hi C hr a1 rec15 hrec15 m8 b2 b3 b4
    · refine k_iinc (v := 1) (q := 4) (lv' := [(5, .int t0), (0, .ref (Γ.1 i 0)), (1, .int a1), (2, .int b2), (4, .int b4)]) C dX3_pledgesAheadOf_83 rfl (by decide) (by decide) (pc' := 86) rfl (fun _ => rfl) (fun v12 => ?_)
      refine k_sub [2, 3, 4, 0, 5] rfl ?_
      exact sX3_pledgesAheadOf_b86 hL hi C hr a1 rec15 hrec15 m8 b2 v12 b4
def fX3_pledgesAheadOf_b58 (a1 : Int32) (rec15 : kM1 → Int32 → Int32 → Int32 → Option (Int32 × kM1)) (m0 : kM1) (b2 : Int32) (b3 : Int32) (b4 : Int32) : Option (Int32 × kM1) :=
  fX3_pledgesAheadOf_b63 a1 rec15 m0 b2 b3 b4 1
set_option maxRecDepth 100000 in
set_option maxHeartbeats 4000000 in
theorem sX3_pledgesAheadOf_b58 {l : Launch} {Γ : kG} (hL : k_Lay Γ 314) {M : kM2} {i : Nat} (hi : i < 7) {p : Program} {e : Env} {R : Room} {s : State} {mid : MethodId} {args : Array Value} {below : List Frame} {meth : Method} {c : Code} (C : k_C Γ p R s mid args meth c cX3_pledgesAheadOf 6 RX3 (k_R 1)) (hr : meth.sig.returnType = (some .int)) (a1 : Int32) (rec15 : kM1 → Int32 → Int32 → Int32 → Option (Int32 × kM1)) (hrec15 : ∀ (m0 : kM1) (b2 : Int32) (b3 : Int32) (b4 : Int32), Sm Γ (K1 Γ M i) p l e R s mid args below meth c 6 (jM true Γ (K1 Γ M i) below args s) m0 [(0, .ref (Γ.1 i 0)), (1, .int a1), (2, .int b2), (3, .int b3), (4, .int b4)] [] 15 (rec15 m0 b2 b3 b4)) (m0 : kM1) (b2 : Int32) (b3 : Int32) (b4 : Int32)  : Sm Γ (K1 Γ M i) p l e R s mid args below meth c 6 (jM true Γ (K1 Γ M i) below args s) m0 [(0, .ref (Γ.1 i 0)), (1, .int a1), (2, .int b2), (3, .int b3), (4, .int b4)] [] 58 (fX3_pledgesAheadOf_b58 a1 rec15 m0 b2 b3 b4) := by
  unfold fX3_pledgesAheadOf_b58
  refine k_iconst C (v := 1) dX3_pledgesAheadOf_58 (by decide) (pc' := 59) rfl ?_
  refine k_goto C (pc' := 63) dX3_pledgesAheadOf_59 (by decide) ?_
  exact sX3_pledgesAheadOf_b63 hL hi C hr a1 rec15 hrec15 m0 b2 b3 b4 1
def fX3_pledgesAheadOf_b62 (a1 : Int32) (rec15 : kM1 → Int32 → Int32 → Int32 → Option (Int32 × kM1)) (m0 : kM1) (b2 : Int32) (b3 : Int32) (b4 : Int32) : Option (Int32 × kM1) :=
  fX3_pledgesAheadOf_b63 a1 rec15 m0 b2 b3 b4 0
set_option maxRecDepth 100000 in
set_option maxHeartbeats 4000000 in
theorem sX3_pledgesAheadOf_b62 {l : Launch} {Γ : kG} (hL : k_Lay Γ 314) {M : kM2} {i : Nat} (hi : i < 7) {p : Program} {e : Env} {R : Room} {s : State} {mid : MethodId} {args : Array Value} {below : List Frame} {meth : Method} {c : Code} (C : k_C Γ p R s mid args meth c cX3_pledgesAheadOf 6 RX3 (k_R 1)) (hr : meth.sig.returnType = (some .int)) (a1 : Int32) (rec15 : kM1 → Int32 → Int32 → Int32 → Option (Int32 × kM1)) (hrec15 : ∀ (m0 : kM1) (b2 : Int32) (b3 : Int32) (b4 : Int32), Sm Γ (K1 Γ M i) p l e R s mid args below meth c 6 (jM true Γ (K1 Γ M i) below args s) m0 [(0, .ref (Γ.1 i 0)), (1, .int a1), (2, .int b2), (3, .int b3), (4, .int b4)] [] 15 (rec15 m0 b2 b3 b4)) (m0 : kM1) (b2 : Int32) (b3 : Int32) (b4 : Int32)  : Sm Γ (K1 Γ M i) p l e R s mid args below meth c 6 (jM true Γ (K1 Γ M i) below args s) m0 [(0, .ref (Γ.1 i 0)), (1, .int a1), (2, .int b2), (3, .int b3), (4, .int b4)] [] 62 (fX3_pledgesAheadOf_b62 a1 rec15 m0 b2 b3 b4) := by
  unfold fX3_pledgesAheadOf_b62
  refine k_iconst C (v := 0) dX3_pledgesAheadOf_62 (by decide) (pc' := 63) rfl ?_
  exact sX3_pledgesAheadOf_b63 hL hi C hr a1 rec15 hrec15 m0 b2 b3 b4 0
def fX3_pledgesAheadOf_b15 (a1 : Int32) : Nat → kM1 → Int32 → Int32 → Int32 → Option (Int32 × kM1)
  | 0, _, _, _, _ => none
  | n + 1, m0, b2, b3, b4 =>
  if (m0 0 7) ≤ b4 then some (b3, m0) else if ¬ b4 < 0 ∧ b4.toNatClampNeg < 24 then if (m0 (20 + b4.toNatClampNeg) 14) < b2 then fX3_pledgesAheadOf_b58 a1 (fX3_pledgesAheadOf_b15 a1 n) m0 b2 b3 b4 else if ¬ b4 < 0 ∧ b4.toNatClampNeg < 24 then if (m0 (20 + b4.toNatClampNeg) 14) = b2 then if a1 ≤ b4 then fX3_pledgesAheadOf_b62 a1 (fX3_pledgesAheadOf_b15 a1 n) m0 b2 b3 b4 else fX3_pledgesAheadOf_b58 a1 (fX3_pledgesAheadOf_b15 a1 n) m0 b2 b3 b4 else fX3_pledgesAheadOf_b62 a1 (fX3_pledgesAheadOf_b15 a1 n) m0 b2 b3 b4 else none else none
set_option maxRecDepth 100000 in
set_option maxHeartbeats 4000000 in
theorem sX3_pledgesAheadOf_b15 {l : Launch} {Γ : kG} (hL : k_Lay Γ 314) {M : kM2} {i : Nat} (hi : i < 7) {p : Program} {e : Env} {R : Room} {s : State} {mid : MethodId} {args : Array Value} {below : List Frame} {meth : Method} {c : Code} (C : k_C Γ p R s mid args meth c cX3_pledgesAheadOf 6 RX3 (k_R 1)) (hr : meth.sig.returnType = (some .int)) (a1 : Int32)  (n : Nat) : ∀ (m0 : kM1) (b2 : Int32) (b3 : Int32) (b4 : Int32), Sm Γ (K1 Γ M i) p l e R s mid args below meth c 6 (jM true Γ (K1 Γ M i) below args s) m0 [(0, .ref (Γ.1 i 0)), (1, .int a1), (2, .int b2), (3, .int b3), (4, .int b4)] [] 15 (fX3_pledgesAheadOf_b15 a1 n m0 b2 b3 b4) := by
  induction n with
  | zero => intros; exact k_none
  | succ n ih =>
    intro m0 b2 b3 b4
    unfold fX3_pledgesAheadOf_b15
    refine k_iload C 4 dX3_pledgesAheadOf_15 rfl (pc' := 17) rfl ?_
    refine k_aload_n C 0 dX3_pledgesAheadOf_17 rfl rfl (pc' := 18) rfl ?_
    refine k_getf C 7 (c1 Γ M i m0 0 (e_mill Γ hi (m0 0))) (v_i hi (by decide)) flX3_97 (v := .int (m0 0 7)) rfl dX3_pledgesAheadOf_18 (pc' := 21) rfl ?_
    refine k_ic_ge C (tgt := 92) dX3_pledgesAheadOf_21 (by decide) (pc' := 24) rfl (fun h3 => ?_) (fun h3 => ?_)
    · refine k_iload_n C 3 dX3_pledgesAheadOf_92 rfl rfl (pc' := 93) rfl ?_
      exact k_reti C rfl hr dX3_pledgesAheadOf_93
    · refine k_aload_n C 0 dX3_pledgesAheadOf_24 rfl rfl (pc' := 25) rfl ?_
      refine k_getf C 4 (c1 Γ M i m0 0 (e_mill Γ hi (m0 0))) (v_i hi (by decide)) flX3_43 (v := .ref (Γ.1 i 5)) rfl dX3_pledgesAheadOf_25 (pc' := 28) rfl ?_
      refine k_iload C 4 dX3_pledgesAheadOf_28 rfl (pc' := 30) rfl ?_
      refine k_aald C 4 (c1 Γ M i m0 5 (e_sacks Γ hi (m0 5))) (v_i hi (by decide)) rfl (b := Γ.1 i (20 + b4.toNatClampNeg)) rfl dX3_pledgesAheadOf_30 (pc' := 31) rfl (fun h4 => ?_)
      refine k_getf C 14 (c1 Γ M i m0 (20 + b4.toNatClampNeg) (e_sack Γ hi (j_sack h4) (m0 (20 + b4.toNatClampNeg)))) (v_i hi (h_sack (j_sack h4))) flX3_229 (v := .int (m0 (20 + b4.toNatClampNeg) 14)) rfl dX3_pledgesAheadOf_31 (pc' := 34) rfl ?_
      refine k_iload_n C 2 dX3_pledgesAheadOf_34 rfl rfl (pc' := 35) rfl ?_
      refine k_ic_lt C (tgt := 58) dX3_pledgesAheadOf_35 (by decide) (pc' := 38) rfl (fun h5 => ?_) (fun h5 => ?_)
      · exact sX3_pledgesAheadOf_b58 hL hi C hr a1 (fX3_pledgesAheadOf_b15 a1 n) ih m0 b2 b3 b4
      · refine k_aload_n C 0 dX3_pledgesAheadOf_38 rfl rfl (pc' := 39) rfl ?_
        refine k_getf C 4 (c1 Γ M i m0 0 (e_mill Γ hi (m0 0))) (v_i hi (by decide)) flX3_43 (v := .ref (Γ.1 i 5)) rfl dX3_pledgesAheadOf_39 (pc' := 42) rfl ?_
        refine k_iload C 4 dX3_pledgesAheadOf_42 rfl (pc' := 44) rfl ?_
        refine k_aald C 4 (c1 Γ M i m0 5 (e_sacks Γ hi (m0 5))) (v_i hi (by decide)) rfl (b := Γ.1 i (20 + b4.toNatClampNeg)) rfl dX3_pledgesAheadOf_44 (pc' := 45) rfl (fun h13 => ?_)
        refine k_getf C 14 (c1 Γ M i m0 (20 + b4.toNatClampNeg) (e_sack Γ hi (j_sack h13) (m0 (20 + b4.toNatClampNeg)))) (v_i hi (h_sack (j_sack h13))) flX3_229 (v := .int (m0 (20 + b4.toNatClampNeg) 14)) rfl dX3_pledgesAheadOf_45 (pc' := 48) rfl ?_
        refine k_iload_n C 2 dX3_pledgesAheadOf_48 rfl rfl (pc' := 49) rfl ?_
        refine k_ic_ne C (tgt := 62) dX3_pledgesAheadOf_49 (by decide) (pc' := 52) rfl (fun h14 => ?_) (fun h14 => ?_)
        · exact sX3_pledgesAheadOf_b62 hL hi C hr a1 (fX3_pledgesAheadOf_b15 a1 n) ih m0 b2 b3 b4
        · refine k_iload C 4 dX3_pledgesAheadOf_52 rfl (pc' := 54) rfl ?_
          refine k_iload_n C 1 dX3_pledgesAheadOf_54 rfl rfl (pc' := 55) rfl ?_
          refine k_ic_ge C (tgt := 62) dX3_pledgesAheadOf_55 (by decide) (pc' := 58) rfl (fun h15 => ?_) (fun h15 => ?_)
          · exact sX3_pledgesAheadOf_b62 hL hi C hr a1 (fX3_pledgesAheadOf_b15 a1 n) ih m0 b2 b3 b4
          · exact sX3_pledgesAheadOf_b58 hL hi C hr a1 (fX3_pledgesAheadOf_b15 a1 n) ih m0 b2 b3 b4
def fX3_pledgesAheadOf (m0 : kM1) (a1 : Int32) : Option (Int32 × kM1) :=
  if ¬ a1 < 0 ∧ a1.toNatClampNeg < 24 then k_let (m0 (20 + a1.toNatClampNeg) 14) fun v2 => fX3_pledgesAheadOf_b15 a1 kFu m0 v2 0 0 else none
set_option maxRecDepth 100000 in
set_option maxHeartbeats 4000000 in
theorem qX3_pledgesAheadOf (l : Launch) (Γ : kG) (hL : k_Lay Γ 314) (M : kM2) (i : Nat) (hi : i < 7) (m0 : kM1) (a1 : Int32) : CT l Γ (K1 Γ M i) yX3_pledgesAheadOf cX3_pledgesAheadOf 6 (some .int) (k_R 1) [.ref (Γ.1 i 0), .int a1] m0 (fX3_pledgesAheadOf m0 a1) := by
  refine k_meth (own := RX3) (by decide) rfl (Nat.le_of_ble_eq_true rfl) (fun p e R s mid args below meth c C hr => ?_)
  show Sm Γ (K1 Γ M i) p l e R s mid args below meth c 6 (jM true Γ (K1 Γ M i) below args s) m0 [(0, .ref (Γ.1 i 0)), (1, .int a1)] [] 0 (fX3_pledgesAheadOf m0 a1)
  unfold fX3_pledgesAheadOf
  refine k_aload_n C 0 dX3_pledgesAheadOf_0 rfl rfl (pc' := 1) rfl ?_
  refine k_getf C 4 (c1 Γ M i m0 0 (e_mill Γ hi (m0 0))) (v_i hi (by decide)) flX3_43 (v := .ref (Γ.1 i 5)) rfl dX3_pledgesAheadOf_1 (pc' := 4) rfl ?_
  refine k_iload_n C 1 dX3_pledgesAheadOf_4 rfl rfl (pc' := 5) rfl ?_
  refine k_aald C 4 (c1 Γ M i m0 5 (e_sacks Γ hi (m0 5))) (v_i hi (by decide)) rfl (b := Γ.1 i (20 + a1.toNatClampNeg)) rfl dX3_pledgesAheadOf_5 (pc' := 6) rfl (fun h1 => ?_)
  refine k_getf C 14 (c1 Γ M i m0 (20 + a1.toNatClampNeg) (e_sack Γ hi (j_sack h1) (m0 (20 + a1.toNatClampNeg)))) (v_i hi (h_sack (j_sack h1))) flX3_229 (v := .int (m0 (20 + a1.toNatClampNeg) 14)) rfl dX3_pledgesAheadOf_6 (pc' := 9) rfl ?_
  refine k_topi (fun v2 => ?_)
  refine k_istore_n C (lv' := [(2, .int v2), (0, .ref (Γ.1 i 0)), (1, .int a1)]) dX3_pledgesAheadOf_9 rfl (by decide) rfl (pc' := 10) rfl ?_
  refine k_iconst C (v := 0) dX3_pledgesAheadOf_10 (by decide) (pc' := 11) rfl ?_
  refine k_istore_n C (lv' := [(3, .int 0), (2, .int v2), (0, .ref (Γ.1 i 0)), (1, .int a1)]) dX3_pledgesAheadOf_11 rfl (by decide) rfl (pc' := 12) rfl ?_
  refine k_iconst C (v := 0) dX3_pledgesAheadOf_12 (by decide) (pc' := 13) rfl ?_
  refine k_istore C (lv' := [(4, .int 0), (3, .int 0), (2, .int v2), (0, .ref (Γ.1 i 0)), (1, .int a1)]) dX3_pledgesAheadOf_13 (by decide) rfl (pc' := 15) rfl ?_
  refine k_sub [3, 4, 2, 1, 0] rfl ?_
  exact sX3_pledgesAheadOf_b15 hL hi C hr a1 kFu m0 v2 0 0
def fX3_sackOfPledge_b33 (a1 : Int32) (rec2 : kM1 → Int32 → Option (Int32 × kM1)) (m0 : kM1) (b2 : Int32) : Option (Int32 × kM1) :=
  k_let (b2 + 1) fun v6 => rec2 m0 v6
set_option maxRecDepth 100000 in
set_option maxHeartbeats 4000000 in
theorem sX3_sackOfPledge_b33 {l : Launch} {Γ : kG} (hL : k_Lay Γ 314) {M : kM2} {i : Nat} (hi : i < 7) {p : Program} {e : Env} {R : Room} {s : State} {mid : MethodId} {args : Array Value} {below : List Frame} {meth : Method} {c : Code} (C : k_C Γ p R s mid args meth c cX3_sackOfPledge 3 RX3 (k_R 2)) (hr : meth.sig.returnType = (some .int)) (a1 : Int32) (rec2 : kM1 → Int32 → Option (Int32 × kM1)) (hrec2 : ∀ (m0 : kM1) (b2 : Int32), Sm Γ (K1 Γ M i) p l e R s mid args below meth c 3 (jM true Γ (K1 Γ M i) below args s) m0 [(0, .ref (Γ.1 i 0)), (1, .int a1), (2, .int b2)] [] 2 (rec2 m0 b2)) (m0 : kM1) (b2 : Int32)  : Sm Γ (K1 Γ M i) p l e R s mid args below meth c 3 (jM true Γ (K1 Γ M i) below args s) m0 [(0, .ref (Γ.1 i 0)), (1, .int a1), (2, .int b2)] [] 33 (fX3_sackOfPledge_b33 a1 rec2 m0 b2) := by
  unfold fX3_sackOfPledge_b33
  refine k_iinc (v := 1) (q := 2) (lv' := [(0, .ref (Γ.1 i 0)), (1, .int a1)]) C dX3_sackOfPledge_33 rfl (by decide) (by decide) (pc' := 36) rfl (fun _ => rfl) (fun v6 => ?_)
  refine k_goto C (pc' := 2) dX3_sackOfPledge_36 (by decide) ?_
  refine k_sub [1, 2, 0] rfl ?_
  exact hrec2 m0 v6
def fX3_sackOfPledge_b2 (a1 : Int32) : Nat → kM1 → Int32 → Option (Int32 × kM1)
  | 0, _, _ => none
  | n + 1, m0, b2 =>
  if (m0 0 7) ≤ b2 then some ((-1), m0) else if ¬ b2 < 0 ∧ b2.toNatClampNeg < 24 then bd (fX5_hasPledge m0 ((20 + b2.toNatClampNeg))) fun r3 m4 => if r3 = 0 then fX3_sackOfPledge_b33 a1 (fX3_sackOfPledge_b2 a1 n) m4 b2 else bd (fX3_pledgesAheadOf m4 b2) fun r7 m8 => if r7 = a1 then some (b2, m8) else fX3_sackOfPledge_b33 a1 (fX3_sackOfPledge_b2 a1 n) m8 b2 else none
set_option maxRecDepth 100000 in
set_option maxHeartbeats 4000000 in
theorem sX3_sackOfPledge_b2 {l : Launch} {Γ : kG} (hL : k_Lay Γ 314) {M : kM2} {i : Nat} (hi : i < 7) {p : Program} {e : Env} {R : Room} {s : State} {mid : MethodId} {args : Array Value} {below : List Frame} {meth : Method} {c : Code} (C : k_C Γ p R s mid args meth c cX3_sackOfPledge 3 RX3 (k_R 2)) (hr : meth.sig.returnType = (some .int)) (a1 : Int32)  (n : Nat) : ∀ (m0 : kM1) (b2 : Int32), Sm Γ (K1 Γ M i) p l e R s mid args below meth c 3 (jM true Γ (K1 Γ M i) below args s) m0 [(0, .ref (Γ.1 i 0)), (1, .int a1), (2, .int b2)] [] 2 (fX3_sackOfPledge_b2 a1 n m0 b2) := by
  induction n with
  | zero => intros; exact k_none
  | succ n ih =>
    intro m0 b2
    unfold fX3_sackOfPledge_b2
    refine k_iload_n C 2 dX3_sackOfPledge_2 rfl rfl (pc' := 3) rfl ?_
    refine k_aload_n C 0 dX3_sackOfPledge_3 rfl rfl (pc' := 4) rfl ?_
    refine k_getf C 7 (c1 Γ M i m0 0 (e_mill Γ hi (m0 0))) (v_i hi (by decide)) flX3_97 (v := .int (m0 0 7)) rfl dX3_sackOfPledge_4 (pc' := 7) rfl ?_
    refine k_ic_ge C (tgt := 39) dX3_sackOfPledge_7 (by decide) (pc' := 10) rfl (fun h1 => ?_) (fun h1 => ?_)
    · refine k_iconst C (v := (-1)) dX3_sackOfPledge_39 (by decide) (pc' := 40) rfl ?_
      exact k_reti C rfl hr dX3_sackOfPledge_40
    · refine k_aload_n C 0 dX3_sackOfPledge_10 rfl rfl (pc' := 11) rfl ?_
      refine k_getf C 4 (c1 Γ M i m0 0 (e_mill Γ hi (m0 0))) (v_i hi (by decide)) flX3_43 (v := .ref (Γ.1 i 5)) rfl dX3_sackOfPledge_11 (pc' := 14) rfl ?_
      refine k_iload_n C 2 dX3_sackOfPledge_14 rfl rfl (pc' := 15) rfl ?_
      refine k_aald C 4 (c1 Γ M i m0 5 (e_sacks Γ hi (m0 5))) (v_i hi (by decide)) rfl (b := Γ.1 i (20 + b2.toNatClampNeg)) rfl dX3_sackOfPledge_15 (pc' := 16) rfl (fun h2 => ?_)
      refine k_callVi C (rest := []) (qX5_hasPledge l Γ hL M i hi m0 ((20 + b2.toNatClampNeg)) (j_sack h2)) mwX5_hasPledge iwX5_hasPledge mlX3_163 (k_rm_of (by decide) (by decide)) (c1 Γ M i m0 (20 + b2.toNatClampNeg) (e_sack Γ hi (j_sack h2) (m0 (20 + b2.toNatClampNeg)))) (v_i hi (h_sack (j_sack h2))) rfl rfl rfl (Nat.le_of_ble_eq_true rfl) dX3_sackOfPledge_16 (pc' := 19) rfl (fun r3 m4 => ?_)
      refine k_if_eq C (tgt := 33) dX3_sackOfPledge_19 (by decide) (pc' := 22) rfl (fun h5 => ?_) (fun h5 => ?_)
      · exact sX3_sackOfPledge_b33 hL hi C hr a1 (fX3_sackOfPledge_b2 a1 n) ih m4 b2
      · refine k_aload_n C 0 dX3_sackOfPledge_22 rfl rfl (pc' := 23) rfl ?_
        refine k_iload_n C 2 dX3_sackOfPledge_23 rfl rfl (pc' := 24) rfl ?_
        refine k_callVi C (rest := []) (qX3_pledgesAheadOf l Γ hL M i hi m4 b2) mwX3_pledgesAheadOf iwX3_pledgesAheadOf mlX3_244 (k_rm_of (by decide) (by decide)) (c1 Γ M i m4 0 (e_mill Γ hi (m4 0))) (v_i hi (by decide)) rfl rfl rfl (Nat.le_of_ble_eq_true rfl) dX3_sackOfPledge_24 (pc' := 27) rfl (fun r7 m8 => ?_)
        refine k_iload_n C 1 dX3_sackOfPledge_27 rfl rfl (pc' := 28) rfl ?_
        refine k_ic_ne C (tgt := 33) dX3_sackOfPledge_28 (by decide) (pc' := 31) rfl (fun h9 => ?_) (fun h9 => ?_)
        · exact sX3_sackOfPledge_b33 hL hi C hr a1 (fX3_sackOfPledge_b2 a1 n) ih m8 b2
        · refine k_iload_n C 2 dX3_sackOfPledge_31 rfl rfl (pc' := 32) rfl ?_
          exact k_reti C rfl hr dX3_sackOfPledge_32
def fX3_sackOfPledge (m0 : kM1) (a1 : Int32) : Option (Int32 × kM1) :=
  fX3_sackOfPledge_b2 a1 kFu m0 0
set_option maxRecDepth 100000 in
set_option maxHeartbeats 4000000 in
theorem qX3_sackOfPledge (l : Launch) (Γ : kG) (hL : k_Lay Γ 314) (M : kM2) (i : Nat) (hi : i < 7) (m0 : kM1) (a1 : Int32) : CT l Γ (K1 Γ M i) yX3_sackOfPledge cX3_sackOfPledge 3 (some .int) (k_R 2) [.ref (Γ.1 i 0), .int a1] m0 (fX3_sackOfPledge m0 a1) := by
  refine k_meth (own := RX3) (by decide) rfl (Nat.le_of_ble_eq_true rfl) (fun p e R s mid args below meth c C hr => ?_)
  show Sm Γ (K1 Γ M i) p l e R s mid args below meth c 3 (jM true Γ (K1 Γ M i) below args s) m0 [(0, .ref (Γ.1 i 0)), (1, .int a1)] [] 0 (fX3_sackOfPledge m0 a1)
  unfold fX3_sackOfPledge
  refine k_iconst C (v := 0) dX3_sackOfPledge_0 (by decide) (pc' := 1) rfl ?_
  refine k_istore_n C (lv' := [(2, .int 0), (0, .ref (Γ.1 i 0)), (1, .int a1)]) dX3_sackOfPledge_1 rfl (by decide) rfl (pc' := 2) rfl ?_
  refine k_sub [1, 2, 0] rfl ?_
  exact sX3_sackOfPledge_b2 hL hi C hr a1 kFu m0 0
def fX3_tellPledge (m0 : kM1) (a1 : Int32) (a2 : Int32) : Option (Int32 × kM1) :=
  if ¬ a1 < 0 ∧ a1.toNatClampNeg < 24 then if a2 = 0 then some (a1, m0) else if a2 = 1 then some (m0 (20 + a1.toNatClampNeg) 11, m0) else if a2 = 2 then some (m0 (20 + a1.toNatClampNeg) 12, m0) else if a2 = 3 then some (m0 (20 + a1.toNatClampNeg) 13, m0) else some (m0 (20 + a1.toNatClampNeg) 14, m0) else none
set_option maxRecDepth 100000 in
set_option maxHeartbeats 4000000 in
theorem qX3_tellPledge (l : Launch) (Γ : kG) (hL : k_Lay Γ 314) (M : kM2) (i : Nat) (hi : i < 7) (m0 : kM1) (a1 : Int32) (a2 : Int32) : CT l Γ (K1 Γ M i) yX3_tellPledge cX3_tellPledge 4 (some .int) (k_R 0) [.ref (Γ.1 i 0), .int a1, .int a2] m0 (fX3_tellPledge m0 a1 a2) := by
  refine k_meth (own := RX3) (by decide) rfl (Nat.le_of_ble_eq_true rfl) (fun p e R s mid args below meth c C hr => ?_)
  show Sm Γ (K1 Γ M i) p l e R s mid args below meth c 4 (jM true Γ (K1 Γ M i) below args s) m0 [(0, .ref (Γ.1 i 0)), (1, .int a1), (2, .int a2)] [] 0 (fX3_tellPledge m0 a1 a2)
  unfold fX3_tellPledge
  refine k_aload_n C 0 dX3_tellPledge_0 rfl rfl (pc' := 1) rfl ?_
  refine k_getf C 4 (c1 Γ M i m0 0 (e_mill Γ hi (m0 0))) (v_i hi (by decide)) flX3_43 (v := .ref (Γ.1 i 5)) rfl dX3_tellPledge_1 (pc' := 4) rfl ?_
  refine k_iload_n C 1 dX3_tellPledge_4 rfl rfl (pc' := 5) rfl ?_
  refine k_aald C 4 (c1 Γ M i m0 5 (e_sacks Γ hi (m0 5))) (v_i hi (by decide)) rfl (b := Γ.1 i (20 + a1.toNatClampNeg)) rfl dX3_tellPledge_5 (pc' := 6) rfl (fun h1 => ?_)
  refine k_astore_n C (lv' := [(3, .ref (Γ.1 i (20 + a1.toNatClampNeg))), (0, .ref (Γ.1 i 0)), (1, .int a1), (2, .int a2)]) dX3_tellPledge_6 rfl (by decide) rfl (pc' := 7) rfl ?_
  refine k_iload_n C 3 dX3_tellPledge_7 rfl rfl (pc' := 8) rfl ?_
  refine k_ite (fun h2 => ?_) (fun h2 => ?_)
  · refine k_tswIn C (32) dX3_tellPledge_8 h2 (by decide) (by decide) rfl (pc' := 40) (by decide) ?_
    refine k_iload_n C 2 dX3_tellPledge_40 rfl rfl (pc' := 41) rfl ?_
    exact k_reti C rfl hr dX3_tellPledge_41
  refine k_ite (fun h3 => ?_) (fun h3 => ?_)
  · refine k_tswIn C (34) dX3_tellPledge_8 h3 (by decide) (by decide) rfl (pc' := 42) (by decide) ?_
    refine k_aload_n C 0 dX3_tellPledge_42 rfl rfl (pc' := 43) rfl ?_
    refine k_getf C 11 (c1 Γ M i m0 (20 + a1.toNatClampNeg) (e_sack Γ hi (j_sack h1) (m0 (20 + a1.toNatClampNeg)))) (v_i hi (h_sack (j_sack h1))) flX3_217 (v := .int (m0 (20 + a1.toNatClampNeg) 11)) rfl dX3_tellPledge_43 (pc' := 46) rfl ?_
    exact k_reti C rfl hr dX3_tellPledge_46
  refine k_ite (fun h4 => ?_) (fun h4 => ?_)
  · refine k_tswIn C (39) dX3_tellPledge_8 h4 (by decide) (by decide) rfl (pc' := 47) (by decide) ?_
    refine k_aload_n C 0 dX3_tellPledge_47 rfl rfl (pc' := 48) rfl ?_
    refine k_getf C 12 (c1 Γ M i m0 (20 + a1.toNatClampNeg) (e_sack Γ hi (j_sack h1) (m0 (20 + a1.toNatClampNeg)))) (v_i hi (h_sack (j_sack h1))) flX3_220 (v := .int (m0 (20 + a1.toNatClampNeg) 12)) rfl dX3_tellPledge_48 (pc' := 51) rfl ?_
    exact k_reti C rfl hr dX3_tellPledge_51
  refine k_ite (fun h5 => ?_) (fun h5 => ?_)
  · refine k_tswIn C (44) dX3_tellPledge_8 h5 (by decide) (by decide) rfl (pc' := 52) (by decide) ?_
    refine k_aload_n C 0 dX3_tellPledge_52 rfl rfl (pc' := 53) rfl ?_
    refine k_getf C 13 (c1 Γ M i m0 (20 + a1.toNatClampNeg) (e_sack Γ hi (j_sack h1) (m0 (20 + a1.toNatClampNeg)))) (v_i hi (h_sack (j_sack h1))) flX3_226 (v := .int (m0 (20 + a1.toNatClampNeg) 13)) rfl dX3_tellPledge_53 (pc' := 56) rfl ?_
    exact k_reti C rfl hr dX3_tellPledge_56
  refine k_tswOut C dX3_tellPledge_8 (by have z0 := lv_neT h2 (show (0 : Int32).toInt = 0 by decide); have z1 := lv_neT h3 (show (1 : Int32).toInt = 1 by decide); have z2 := lv_neT h4 (show (2 : Int32).toInt = 2 by decide); have z3 := lv_neT h5 (show (3 : Int32).toInt = 3 by decide); omega) (pc' := 57) (by decide) ?_
  refine k_aload_n C 0 dX3_tellPledge_57 rfl rfl (pc' := 58) rfl ?_
  refine k_getf C 14 (c1 Γ M i m0 (20 + a1.toNatClampNeg) (e_sack Γ hi (j_sack h1) (m0 (20 + a1.toNatClampNeg)))) (v_i hi (h_sack (j_sack h1))) flX3_229 (v := .int (m0 (20 + a1.toNatClampNeg) 14)) rfl dX3_tellPledge_58 (pc' := 61) rfl ?_
  exact k_reti C rfl hr dX3_tellPledge_61
def fX3_dropOldPledges_b47  (rec2 : kM1 → Int32 → Option (Int32 × kM1)) (m0 : kM1) (b1 : Int32) : Option (Int32 × kM1) :=
  k_let (b1 + 1) fun v6 => rec2 m0 v6
set_option maxRecDepth 100000 in
set_option maxHeartbeats 4000000 in
theorem sX3_dropOldPledges_b47 {l : Launch} {Γ : kG} (hL : k_Lay Γ 314) {M : kM2} {i : Nat} (hi : i < 7) {p : Program} {e : Env} {R : Room} {s : State} {mid : MethodId} {args : Array Value} {below : List Frame} {meth : Method} {c : Code} (C : k_C Γ p R s mid args meth c cX3_dropOldPledges 2 RX3 (k_R 2)) (hr : meth.sig.returnType = none) (rec2 : kM1 → Int32 → Option (Int32 × kM1)) (hrec2 : ∀ (m0 : kM1) (b1 : Int32), Sm Γ (K1 Γ M i) p l e R s mid args below meth c 2 (jM false Γ (K1 Γ M i) below args s) m0 [(0, .ref (Γ.1 i 0)), (1, .int b1)] [] 2 (rec2 m0 b1)) (m0 : kM1) (b1 : Int32)  : Sm Γ (K1 Γ M i) p l e R s mid args below meth c 2 (jM false Γ (K1 Γ M i) below args s) m0 [(0, .ref (Γ.1 i 0)), (1, .int b1)] [] 47 (fX3_dropOldPledges_b47 rec2 m0 b1) := by
  unfold fX3_dropOldPledges_b47
  refine k_iinc (v := 1) (q := 1) (lv' := [(0, .ref (Γ.1 i 0))]) C dX3_dropOldPledges_47 rfl (by decide) (by decide) (pc' := 50) rfl (fun _ => rfl) (fun v6 => ?_)
  refine k_goto C (pc' := 2) dX3_dropOldPledges_50 (by decide) ?_
  refine k_sub [1, 0] rfl ?_
  exact hrec2 m0 v6
def fX3_dropOldPledges_b2 : Nat → kM1 → Int32 → Option (Int32 × kM1)
  | 0, _, _ => none
  | n + 1, m0, b1 =>
  if (m0 0 7) ≤ b1 then some (0, m0) else if ¬ b1 < 0 ∧ b1.toNatClampNeg < 24 then bd (fX5_hasPledge m0 ((20 + b1.toNatClampNeg))) fun r3 m4 => if r3 = 0 then fX3_dropOldPledges_b47 (fX3_dropOldPledges_b2 n) m4 b1 else if ¬ b1 < 0 ∧ b1.toNatClampNeg < 24 then bd (fX3_today m4) fun r8 m9 => if r8 ≤ (m4 (20 + b1.toNatClampNeg) 14) then fX3_dropOldPledges_b47 (fX3_dropOldPledges_b2 n) m9 b1 else if ¬ b1 < 0 ∧ b1.toNatClampNeg < 24 then bd (fX5_fall m9 ((20 + b1.toNatClampNeg))) fun r12 m13 => fX3_dropOldPledges_b47 (fX3_dropOldPledges_b2 n) m13 b1 else none else none else none
set_option maxRecDepth 100000 in
set_option maxHeartbeats 4000000 in
theorem sX3_dropOldPledges_b2 {l : Launch} {Γ : kG} (hL : k_Lay Γ 314) {M : kM2} {i : Nat} (hi : i < 7) {p : Program} {e : Env} {R : Room} {s : State} {mid : MethodId} {args : Array Value} {below : List Frame} {meth : Method} {c : Code} (C : k_C Γ p R s mid args meth c cX3_dropOldPledges 2 RX3 (k_R 2)) (hr : meth.sig.returnType = none)  (n : Nat) : ∀ (m0 : kM1) (b1 : Int32), Sm Γ (K1 Γ M i) p l e R s mid args below meth c 2 (jM false Γ (K1 Γ M i) below args s) m0 [(0, .ref (Γ.1 i 0)), (1, .int b1)] [] 2 (fX3_dropOldPledges_b2 n m0 b1) := by
  induction n with
  | zero => intros; exact k_none
  | succ n ih =>
    intro m0 b1
    unfold fX3_dropOldPledges_b2
    refine k_iload_n C 1 dX3_dropOldPledges_2 rfl rfl (pc' := 3) rfl ?_
    refine k_aload_n C 0 dX3_dropOldPledges_3 rfl rfl (pc' := 4) rfl ?_
    refine k_getf C 7 (c1 Γ M i m0 0 (e_mill Γ hi (m0 0))) (v_i hi (by decide)) flX3_97 (v := .int (m0 0 7)) rfl dX3_dropOldPledges_4 (pc' := 7) rfl ?_
    refine k_ic_ge C (tgt := 53) dX3_dropOldPledges_7 (by decide) (pc' := 10) rfl (fun h1 => ?_) (fun h1 => ?_)
    · exact k_retv C rfl hr dX3_dropOldPledges_53
    · refine k_aload_n C 0 dX3_dropOldPledges_10 rfl rfl (pc' := 11) rfl ?_
      refine k_getf C 4 (c1 Γ M i m0 0 (e_mill Γ hi (m0 0))) (v_i hi (by decide)) flX3_43 (v := .ref (Γ.1 i 5)) rfl dX3_dropOldPledges_11 (pc' := 14) rfl ?_
      refine k_iload_n C 1 dX3_dropOldPledges_14 rfl rfl (pc' := 15) rfl ?_
      refine k_aald C 4 (c1 Γ M i m0 5 (e_sacks Γ hi (m0 5))) (v_i hi (by decide)) rfl (b := Γ.1 i (20 + b1.toNatClampNeg)) rfl dX3_dropOldPledges_15 (pc' := 16) rfl (fun h2 => ?_)
      refine k_callVi C (rest := []) (qX5_hasPledge l Γ hL M i hi m0 ((20 + b1.toNatClampNeg)) (j_sack h2)) mwX5_hasPledge iwX5_hasPledge mlX3_163 (k_rm_of (by decide) (by decide)) (c1 Γ M i m0 (20 + b1.toNatClampNeg) (e_sack Γ hi (j_sack h2) (m0 (20 + b1.toNatClampNeg)))) (v_i hi (h_sack (j_sack h2))) rfl rfl rfl (Nat.le_of_ble_eq_true rfl) dX3_dropOldPledges_16 (pc' := 19) rfl (fun r3 m4 => ?_)
      refine k_if_eq C (tgt := 47) dX3_dropOldPledges_19 (by decide) (pc' := 22) rfl (fun h5 => ?_) (fun h5 => ?_)
      · exact sX3_dropOldPledges_b47 hL hi C hr (fX3_dropOldPledges_b2 n) ih m4 b1
      · refine k_aload_n C 0 dX3_dropOldPledges_22 rfl rfl (pc' := 23) rfl ?_
        refine k_getf C 4 (c1 Γ M i m4 0 (e_mill Γ hi (m4 0))) (v_i hi (by decide)) flX3_43 (v := .ref (Γ.1 i 5)) rfl dX3_dropOldPledges_23 (pc' := 26) rfl ?_
        refine k_iload_n C 1 dX3_dropOldPledges_26 rfl rfl (pc' := 27) rfl ?_
        refine k_aald C 4 (c1 Γ M i m4 5 (e_sacks Γ hi (m4 5))) (v_i hi (by decide)) rfl (b := Γ.1 i (20 + b1.toNatClampNeg)) rfl dX3_dropOldPledges_27 (pc' := 28) rfl (fun h7 => ?_)
        refine k_getf C 14 (c1 Γ M i m4 (20 + b1.toNatClampNeg) (e_sack Γ hi (j_sack h7) (m4 (20 + b1.toNatClampNeg)))) (v_i hi (h_sack (j_sack h7))) flX3_229 (v := .int (m4 (20 + b1.toNatClampNeg) 14)) rfl dX3_dropOldPledges_28 (pc' := 31) rfl ?_
        refine k_aload_n C 0 dX3_dropOldPledges_31 rfl rfl (pc' := 32) rfl ?_
        refine k_callVi C (rest := [.int (m4 (20 + b1.toNatClampNeg) 14)]) (qX3_today l Γ hL M i hi m4) mwX3_today iwX3_today mlX3_223 (k_rm_of (by decide) (by decide)) (c1 Γ M i m4 0 (e_mill Γ hi (m4 0))) (v_i hi (by decide)) rfl rfl rfl (Nat.le_of_ble_eq_true rfl) dX3_dropOldPledges_32 (pc' := 35) rfl (fun r8 m9 => ?_)
        refine k_ic_ge C (tgt := 47) dX3_dropOldPledges_35 (by decide) (pc' := 38) rfl (fun h10 => ?_) (fun h10 => ?_)
        · exact sX3_dropOldPledges_b47 hL hi C hr (fX3_dropOldPledges_b2 n) ih m9 b1
        · refine k_aload_n C 0 dX3_dropOldPledges_38 rfl rfl (pc' := 39) rfl ?_
          refine k_getf C 4 (c1 Γ M i m9 0 (e_mill Γ hi (m9 0))) (v_i hi (by decide)) flX3_43 (v := .ref (Γ.1 i 5)) rfl dX3_dropOldPledges_39 (pc' := 42) rfl ?_
          refine k_iload_n C 1 dX3_dropOldPledges_42 rfl rfl (pc' := 43) rfl ?_
          refine k_aald C 4 (c1 Γ M i m9 5 (e_sacks Γ hi (m9 5))) (v_i hi (by decide)) rfl (b := Γ.1 i (20 + b1.toNatClampNeg)) rfl dX3_dropOldPledges_43 (pc' := 44) rfl (fun h11 => ?_)
          refine k_callVv C (rest := []) (qX5_fall l Γ hL M i hi m9 ((20 + b1.toNatClampNeg)) (j_sack h11)) mwX5_fall iwX5_fall mlX3_247 (k_rm_of (by decide) (by decide)) (c1 Γ M i m9 (20 + b1.toNatClampNeg) (e_sack Γ hi (j_sack h11) (m9 (20 + b1.toNatClampNeg)))) (v_i hi (h_sack (j_sack h11))) rfl rfl rfl (Nat.le_of_ble_eq_true rfl) dX3_dropOldPledges_44 (pc' := 47) rfl (fun r12 m13 => ?_)
          exact sX3_dropOldPledges_b47 hL hi C hr (fX3_dropOldPledges_b2 n) ih m13 b1
def fX3_dropOldPledges (m0 : kM1) : Option (Int32 × kM1) :=
  fX3_dropOldPledges_b2 kFu m0 0
set_option maxRecDepth 100000 in
set_option maxHeartbeats 4000000 in
theorem qX3_dropOldPledges (l : Launch) (Γ : kG) (hL : k_Lay Γ 314) (M : kM2) (i : Nat) (hi : i < 7) (m0 : kM1) : CT l Γ (K1 Γ M i) yX3_dropOldPledges cX3_dropOldPledges 2 none (k_R 2) [.ref (Γ.1 i 0)] m0 (fX3_dropOldPledges m0 ) := by
  refine k_meth (own := RX3) (by decide) rfl (Nat.le_of_ble_eq_true rfl) (fun p e R s mid args below meth c C hr => ?_)
  show Sm Γ (K1 Γ M i) p l e R s mid args below meth c 2 (jM false Γ (K1 Γ M i) below args s) m0 [(0, .ref (Γ.1 i 0))] [] 0 (fX3_dropOldPledges m0 )
  unfold fX3_dropOldPledges
  refine k_iconst C (v := 0) dX3_dropOldPledges_0 (by decide) (pc' := 1) rfl ?_
  refine k_istore_n C (lv' := [(1, .int 0), (0, .ref (Γ.1 i 0))]) dX3_dropOldPledges_1 rfl (by decide) rfl (pc' := 2) rfl ?_
  refine k_sub [1, 0] rfl ?_
  exact sX3_dropOldPledges_b2 hL hi C hr kFu m0 0
