def fX7_pond (m0 : kM1) (a1 : Int32) : Option (Int32 × kM1) :=
  if a1 = 0 then some (m0 1 19, m0) else if a1 = 1 then if ¬ (m0 1 0) = 0 then some ((m0 1 19) / (m0 1 0), m0) else none else if a1 = 2 then bd (fX7_sea m0 (m0 1 26)) fun r8 m9 => some (r8, m9) else if a1 = 3 then bd (fX7_head m0) fun r11 m12 => some (r11, m12) else if a1 = 4 then some (m0 1 18, m0) else if a1 = 5 then some (m0 1 17, m0) else if a1 = 6 then if (m0 1 24) = (-1) then some ((-1000004), m0) else some (m0 1 24, m0) else if a1 = 7 then if ¬ ((20 + a1) - 7) < 0 ∧ ((20 + a1) - 7).toNatClampNeg < 368 then some (m0 1 ((20 + a1) - 7).toNatClampNeg, m0) else none else if a1 = 8 then if ¬ ((20 + a1) - 7) < 0 ∧ ((20 + a1) - 7).toNatClampNeg < 368 then some (m0 1 ((20 + a1) - 7).toNatClampNeg, m0) else none else if a1 = 9 then if ¬ ((20 + a1) - 7) < 0 ∧ ((20 + a1) - 7).toNatClampNeg < 368 then some (m0 1 ((20 + a1) - 7).toNatClampNeg, m0) else none else if a1 = 10 then if ¬ ((20 + a1) - 7) < 0 ∧ ((20 + a1) - 7).toNatClampNeg < 368 then some (m0 1 ((20 + a1) - 7).toNatClampNeg, m0) else none else bd (fX7_in m0 a1 11 14) fun r29 m30 => if r29 = 0 then some ((-1000001), m30) else if ¬ ((13 + a1) - 11) < 0 ∧ ((13 + a1) - 11).toNatClampNeg < 368 then some (m30 1 ((13 + a1) - 11).toNatClampNeg, m30) else none
set_option maxRecDepth 100000 in
set_option maxHeartbeats 4000000 in
theorem qX7_pond (l : Launch) (Γ : kG) (hL : k_Lay Γ 7) (m0 : kM1) (a1 : Int32) : CT l Γ (K3 Γ) yX7_pond cX7_pond 2 (some .int) (k_R 2) [.ref (Γ.1 0 0), .int a1] m0 (fX7_pond m0 a1) := by
  refine k_meth (own := RX7) (by decide) rfl (Nat.le_of_ble_eq_true rfl) (fun p e R s mid args below meth c C hr => ?_)
  show Sm Γ (K3 Γ) p l e R s mid args below meth c 2 true m0 [(0, .ref (Γ.1 0 0)), (1, .int a1)] [] 0 (fX7_pond m0 a1)
  unfold fX7_pond
  refine k_iload_n C 1 dX7_pond_0 rfl rfl (pc' := 1) rfl ?_
  refine k_ite (fun h1 => ?_) (fun h1 => ?_)
  · refine k_tswIn C (59) dX7_pond_1 h1 (by decide) (by decide) rfl (pc' := 60) (by decide) ?_
    refine k_aload_n C 0 dX7_pond_60 rfl rfl (pc' := 61) rfl ?_
    refine k_getf C 0 (c3 Γ m0 0 (e_model Γ (m0 0))) (v_0 (by decide)) flX7_7 (v := .ref (Γ.1 0 1)) rfl dX7_pond_61 (pc' := 64) rfl ?_
    refine k_bipush C (v := 19) dX7_pond_64 (by decide) (pc' := 66) rfl ?_
    refine k_ialdK C (n0 := 19) (c3 Γ m0 1 (e_d Γ (m0 1))) (v_0 (by decide)) (by decide) (by decide) dX7_pond_66 (pc' := 67) rfl ?_
    exact k_reti C rfl hr dX7_pond_67
  refine k_ite (fun h3 => ?_) (fun h3 => ?_)
  · refine k_tswIn C (67) dX7_pond_1 h3 (by decide) (by decide) rfl (pc' := 68) (by decide) ?_
    refine k_aload_n C 0 dX7_pond_68 rfl rfl (pc' := 69) rfl ?_
    refine k_getf C 0 (c3 Γ m0 0 (e_model Γ (m0 0))) (v_0 (by decide)) flX7_7 (v := .ref (Γ.1 0 1)) rfl dX7_pond_69 (pc' := 72) rfl ?_
    refine k_bipush C (v := 19) dX7_pond_72 (by decide) (pc' := 74) rfl ?_
    refine k_ialdK C (n0 := 19) (c3 Γ m0 1 (e_d Γ (m0 1))) (v_0 (by decide)) (by decide) (by decide) dX7_pond_74 (pc' := 75) rfl ?_
    refine k_aload_n C 0 dX7_pond_75 rfl rfl (pc' := 76) rfl ?_
    refine k_getf C 0 (c3 Γ m0 0 (e_model Γ (m0 0))) (v_0 (by decide)) flX7_7 (v := .ref (Γ.1 0 1)) rfl dX7_pond_76 (pc' := 79) rfl ?_
    refine k_iconst C (v := 0) dX7_pond_79 (by decide) (pc' := 80) rfl ?_
    refine k_ialdK C (n0 := 0) (c3 Γ m0 1 (e_d Γ (m0 1))) (v_0 (by decide)) (by decide) (by decide) dX7_pond_80 (pc' := 81) rfl ?_
    refine k_idiv C dX7_pond_81 (pc' := 82) rfl ?_
    exact k_reti C rfl hr dX7_pond_82
  refine k_ite (fun h6 => ?_) (fun h6 => ?_)
  · refine k_tswIn C (82) dX7_pond_1 h6 (by decide) (by decide) rfl (pc' := 83) (by decide) ?_
    refine k_aload_n C 0 dX7_pond_83 rfl rfl (pc' := 84) rfl ?_
    refine k_aload_n C 0 dX7_pond_84 rfl rfl (pc' := 85) rfl ?_
    refine k_getf C 0 (c3 Γ m0 0 (e_model Γ (m0 0))) (v_0 (by decide)) flX7_7 (v := .ref (Γ.1 0 1)) rfl dX7_pond_85 (pc' := 88) rfl ?_
    refine k_bipush C (v := 26) dX7_pond_88 (by decide) (pc' := 90) rfl ?_
    refine k_ialdK C (n0 := 26) (c3 Γ m0 1 (e_d Γ (m0 1))) (v_0 (by decide)) (by decide) (by decide) dX7_pond_90 (pc' := 91) rfl ?_
    refine k_callVi C (rest := []) (qX7_sea l Γ hL m0 (m0 1 26)) mwX7_sea iwX7_sea mlX7_61 (k_rm_of (by decide) (by decide)) (c3 Γ m0 0 (e_model Γ (m0 0))) (v_0 (by decide)) rfl rfl rfl (Nat.le_of_ble_eq_true rfl) dX7_pond_91 (pc' := 94) rfl (fun r8 m9 => ?_)
    exact k_reti C rfl hr dX7_pond_94
  refine k_ite (fun h10 => ?_) (fun h10 => ?_)
  · refine k_tswIn C (94) dX7_pond_1 h10 (by decide) (by decide) rfl (pc' := 95) (by decide) ?_
    refine k_aload_n C 0 dX7_pond_95 rfl rfl (pc' := 96) rfl ?_
    refine k_callVi C (rest := []) (qX7_head l Γ hL m0) mwX7_head iwX7_head mlX7_68 (k_rm_of (by decide) (by decide)) (c3 Γ m0 0 (e_model Γ (m0 0))) (v_0 (by decide)) rfl rfl rfl (Nat.le_of_ble_eq_true rfl) dX7_pond_96 (pc' := 99) rfl (fun r11 m12 => ?_)
    exact k_reti C rfl hr dX7_pond_99
  refine k_ite (fun h13 => ?_) (fun h13 => ?_)
  · refine k_tswIn C (99) dX7_pond_1 h13 (by decide) (by decide) rfl (pc' := 100) (by decide) ?_
    refine k_aload_n C 0 dX7_pond_100 rfl rfl (pc' := 101) rfl ?_
    refine k_getf C 0 (c3 Γ m0 0 (e_model Γ (m0 0))) (v_0 (by decide)) flX7_7 (v := .ref (Γ.1 0 1)) rfl dX7_pond_101 (pc' := 104) rfl ?_
    refine k_bipush C (v := 18) dX7_pond_104 (by decide) (pc' := 106) rfl ?_
    refine k_ialdK C (n0 := 18) (c3 Γ m0 1 (e_d Γ (m0 1))) (v_0 (by decide)) (by decide) (by decide) dX7_pond_106 (pc' := 107) rfl ?_
    exact k_reti C rfl hr dX7_pond_107
  refine k_ite (fun h15 => ?_) (fun h15 => ?_)
  · refine k_tswIn C (107) dX7_pond_1 h15 (by decide) (by decide) rfl (pc' := 108) (by decide) ?_
    refine k_aload_n C 0 dX7_pond_108 rfl rfl (pc' := 109) rfl ?_
    refine k_getf C 0 (c3 Γ m0 0 (e_model Γ (m0 0))) (v_0 (by decide)) flX7_7 (v := .ref (Γ.1 0 1)) rfl dX7_pond_109 (pc' := 112) rfl ?_
    refine k_bipush C (v := 17) dX7_pond_112 (by decide) (pc' := 114) rfl ?_
    refine k_ialdK C (n0 := 17) (c3 Γ m0 1 (e_d Γ (m0 1))) (v_0 (by decide)) (by decide) (by decide) dX7_pond_114 (pc' := 115) rfl ?_
    exact k_reti C rfl hr dX7_pond_115
  refine k_ite (fun h17 => ?_) (fun h17 => ?_)
  · refine k_tswIn C (115) dX7_pond_1 h17 (by decide) (by decide) rfl (pc' := 116) (by decide) ?_
    refine k_aload_n C 0 dX7_pond_116 rfl rfl (pc' := 117) rfl ?_
    refine k_getf C 0 (c3 Γ m0 0 (e_model Γ (m0 0))) (v_0 (by decide)) flX7_7 (v := .ref (Γ.1 0 1)) rfl dX7_pond_117 (pc' := 120) rfl ?_
    refine k_bipush C (v := 24) dX7_pond_120 (by decide) (pc' := 122) rfl ?_
    refine k_ialdK C (n0 := 24) (c3 Γ m0 1 (e_d Γ (m0 1))) (v_0 (by decide)) (by decide) (by decide) dX7_pond_122 (pc' := 123) rfl ?_
    refine k_iconst C (v := (-1)) dX7_pond_123 (by decide) (pc' := 124) rfl ?_
    refine k_ic_ne C (tgt := 132) dX7_pond_124 (by decide) (pc' := 127) rfl (fun h19 => ?_) (fun h19 => ?_)
    · refine k_aload_n C 0 dX7_pond_132 rfl rfl (pc' := 133) rfl ?_
      refine k_getf C 0 (c3 Γ m0 0 (e_model Γ (m0 0))) (v_0 (by decide)) flX7_7 (v := .ref (Γ.1 0 1)) rfl dX7_pond_133 (pc' := 136) rfl ?_
      refine k_bipush C (v := 24) dX7_pond_136 (by decide) (pc' := 138) rfl ?_
      refine k_ialdK C (n0 := 24) (c3 Γ m0 1 (e_d Γ (m0 1))) (v_0 (by decide)) (by decide) (by decide) dX7_pond_138 (pc' := 139) rfl ?_
      exact k_reti C rfl hr dX7_pond_139
    · refine k_ldc C (v := (-1000004)) dX7_pond_127 cnX7_151 (pc' := 129) rfl ?_
      refine k_goto C (pc' := 139) dX7_pond_129 (by decide) ?_
      exact k_reti C rfl hr dX7_pond_139
  refine k_ite (fun h21 => ?_) (fun h21 => ?_)
  · refine k_tswIn C (139) dX7_pond_1 h21 (by decide) (by decide) rfl (pc' := 140) (by decide) ?_
    refine k_aload_n C 0 dX7_pond_140 rfl rfl (pc' := 141) rfl ?_
    refine k_getf C 0 (c3 Γ m0 0 (e_model Γ (m0 0))) (v_0 (by decide)) flX7_7 (v := .ref (Γ.1 0 1)) rfl dX7_pond_141 (pc' := 144) rfl ?_
    refine k_bipush C (v := 20) dX7_pond_144 (by decide) (pc' := 146) rfl ?_
    refine k_iload_n C 1 dX7_pond_146 rfl rfl (pc' := 147) rfl ?_
    refine k_iadd C dX7_pond_147 (pc' := 148) rfl ?_
    refine k_bipush C (v := 7) dX7_pond_148 (by decide) (pc' := 150) rfl ?_
    refine k_isub C dX7_pond_150 (pc' := 151) rfl ?_
    refine k_iald C (c3 Γ m0 1 (e_d Γ (m0 1))) (v_0 (by decide)) dX7_pond_151 (pc' := 152) rfl (fun h22 => ?_)
    exact k_reti C rfl hr dX7_pond_152
  refine k_ite (fun h23 => ?_) (fun h23 => ?_)
  · refine k_tswIn C (139) dX7_pond_1 h23 (by decide) (by decide) rfl (pc' := 140) (by decide) ?_
    refine k_aload_n C 0 dX7_pond_140 rfl rfl (pc' := 141) rfl ?_
    refine k_getf C 0 (c3 Γ m0 0 (e_model Γ (m0 0))) (v_0 (by decide)) flX7_7 (v := .ref (Γ.1 0 1)) rfl dX7_pond_141 (pc' := 144) rfl ?_
    refine k_bipush C (v := 20) dX7_pond_144 (by decide) (pc' := 146) rfl ?_
    refine k_iload_n C 1 dX7_pond_146 rfl rfl (pc' := 147) rfl ?_
    refine k_iadd C dX7_pond_147 (pc' := 148) rfl ?_
    refine k_bipush C (v := 7) dX7_pond_148 (by decide) (pc' := 150) rfl ?_
    refine k_isub C dX7_pond_150 (pc' := 151) rfl ?_
    refine k_iald C (c3 Γ m0 1 (e_d Γ (m0 1))) (v_0 (by decide)) dX7_pond_151 (pc' := 152) rfl (fun h24 => ?_)
    exact k_reti C rfl hr dX7_pond_152
  refine k_ite (fun h25 => ?_) (fun h25 => ?_)
  · refine k_tswIn C (139) dX7_pond_1 h25 (by decide) (by decide) rfl (pc' := 140) (by decide) ?_
    refine k_aload_n C 0 dX7_pond_140 rfl rfl (pc' := 141) rfl ?_
    refine k_getf C 0 (c3 Γ m0 0 (e_model Γ (m0 0))) (v_0 (by decide)) flX7_7 (v := .ref (Γ.1 0 1)) rfl dX7_pond_141 (pc' := 144) rfl ?_
    refine k_bipush C (v := 20) dX7_pond_144 (by decide) (pc' := 146) rfl ?_
    refine k_iload_n C 1 dX7_pond_146 rfl rfl (pc' := 147) rfl ?_
    refine k_iadd C dX7_pond_147 (pc' := 148) rfl ?_
    refine k_bipush C (v := 7) dX7_pond_148 (by decide) (pc' := 150) rfl ?_
    refine k_isub C dX7_pond_150 (pc' := 151) rfl ?_
    refine k_iald C (c3 Γ m0 1 (e_d Γ (m0 1))) (v_0 (by decide)) dX7_pond_151 (pc' := 152) rfl (fun h26 => ?_)
    exact k_reti C rfl hr dX7_pond_152
  refine k_ite (fun h27 => ?_) (fun h27 => ?_)
  · refine k_tswIn C (139) dX7_pond_1 h27 (by decide) (by decide) rfl (pc' := 140) (by decide) ?_
    refine k_aload_n C 0 dX7_pond_140 rfl rfl (pc' := 141) rfl ?_
    refine k_getf C 0 (c3 Γ m0 0 (e_model Γ (m0 0))) (v_0 (by decide)) flX7_7 (v := .ref (Γ.1 0 1)) rfl dX7_pond_141 (pc' := 144) rfl ?_
    refine k_bipush C (v := 20) dX7_pond_144 (by decide) (pc' := 146) rfl ?_
    refine k_iload_n C 1 dX7_pond_146 rfl rfl (pc' := 147) rfl ?_
    refine k_iadd C dX7_pond_147 (pc' := 148) rfl ?_
    refine k_bipush C (v := 7) dX7_pond_148 (by decide) (pc' := 150) rfl ?_
    refine k_isub C dX7_pond_150 (pc' := 151) rfl ?_
    refine k_iald C (c3 Γ m0 1 (e_d Γ (m0 1))) (v_0 (by decide)) dX7_pond_151 (pc' := 152) rfl (fun h28 => ?_)
    exact k_reti C rfl hr dX7_pond_152
  refine k_tswOut C dX7_pond_1 (by have z0 := lv_neT h1 (show (0 : Int32).toInt = 0 by decide); have z1 := lv_neT h3 (show (1 : Int32).toInt = 1 by decide); have z2 := lv_neT h6 (show (2 : Int32).toInt = 2 by decide); have z3 := lv_neT h10 (show (3 : Int32).toInt = 3 by decide); have z4 := lv_neT h13 (show (4 : Int32).toInt = 4 by decide); have z5 := lv_neT h15 (show (5 : Int32).toInt = 5 by decide); have z6 := lv_neT h17 (show (6 : Int32).toInt = 6 by decide); have z7 := lv_neT h21 (show (7 : Int32).toInt = 7 by decide); have z8 := lv_neT h23 (show (8 : Int32).toInt = 8 by decide); have z9 := lv_neT h25 (show (9 : Int32).toInt = 9 by decide); have z10 := lv_neT h27 (show (10 : Int32).toInt = 10 by decide); omega) (pc' := 153) (by decide) ?_
  refine k_iload_n C 1 dX7_pond_153 rfl rfl (pc' := 154) rfl ?_
  refine k_bipush C (v := 11) dX7_pond_154 (by decide) (pc' := 156) rfl ?_
  refine k_bipush C (v := 14) dX7_pond_156 (by decide) (pc' := 158) rfl ?_
  refine k_callSi C (rest := []) (qX7_in l Γ (K3 Γ) m0 a1 11 14) mwX7_in swX7_in mlX7_29 (k_rm_of (by decide) (by decide)) rfl rfl (Nat.le_of_ble_eq_true rfl) dX7_pond_158 (pc' := 161) rfl (fun r29 m30 => ?_)
  refine k_if_eq C (tgt := 179) dX7_pond_161 (by decide) (pc' := 164) rfl (fun h31 => ?_) (fun h31 => ?_)
  · refine k_ldc C (v := (-1000001)) dX7_pond_179 cnX7_33 (pc' := 181) rfl ?_
    exact k_reti C rfl hr dX7_pond_181
  · refine k_aload_n C 0 dX7_pond_164 rfl rfl (pc' := 165) rfl ?_
    refine k_getf C 0 (c3 Γ m30 0 (e_model Γ (m30 0))) (v_0 (by decide)) flX7_7 (v := .ref (Γ.1 0 1)) rfl dX7_pond_165 (pc' := 168) rfl ?_
    refine k_bipush C (v := 13) dX7_pond_168 (by decide) (pc' := 170) rfl ?_
    refine k_iload_n C 1 dX7_pond_170 rfl rfl (pc' := 171) rfl ?_
    refine k_iadd C dX7_pond_171 (pc' := 172) rfl ?_
    refine k_bipush C (v := 11) dX7_pond_172 (by decide) (pc' := 174) rfl ?_
    refine k_isub C dX7_pond_174 (pc' := 175) rfl ?_
    refine k_iald C (c3 Γ m30 1 (e_d Γ (m30 1))) (v_0 (by decide)) dX7_pond_175 (pc' := 176) rfl (fun h32 => ?_)
    refine k_goto C (pc' := 181) dX7_pond_176 (by decide) ?_
    exact k_reti C rfl hr dX7_pond_181
def fX7_foresee_b73 (a1 : Int32)  (m0 : kM1) (t0 : Int32) : Option (Int32 × kM1) :=
  bd (fX7_restores m0) fun r13 m14 => some (t0, m14)
set_option maxRecDepth 100000 in
set_option maxHeartbeats 4000000 in
theorem sX7_foresee_b73 {l : Launch} {Γ : kG} (hL : k_Lay Γ 7) {p : Program} {e : Env} {R : Room} {s : State} {mid : MethodId} {args : Array Value} {below : List Frame} {meth : Method} {c : Code} (C : k_C Γ p R s mid args meth c cX7_foresee 4 RX7 (k_R 7)) (hr : meth.sig.returnType = (some .int)) (a1 : Int32)  (m0 : kM1) (t0 : Int32)  : Sm Γ (K3 Γ) p l e R s mid args below meth c 4 true m0 [(0, .ref (Γ.1 0 0))] [.int t0] 73 (fX7_foresee_b73 a1 m0 t0) := by
  unfold fX7_foresee_b73
  refine k_istore_n C (lv' := [(3, .int t0), (0, .ref (Γ.1 0 0))]) dX7_foresee_73 rfl (by decide) rfl (pc' := 74) rfl ?_
  refine k_aload_n C 1 dX7_foresee_74 rfl rfl (pc' := 75) rfl ?_
  refine k_callVv C (rest := []) (qX7_restores l Γ hL m0) mwX7_restores iwX7_restores mlX7_168 (k_rm_of (by decide) (by decide)) (c3 Γ m0 0 (e_model Γ (m0 0))) (v_0 (by decide)) rfl rfl rfl (Nat.le_of_ble_eq_true rfl) dX7_foresee_75 (pc' := 78) rfl (fun r13 m14 => ?_)
  refine k_iload_n C 0 dX7_foresee_78 rfl rfl (pc' := 79) rfl ?_
  exact k_reti C rfl hr dX7_foresee_79
def fX7_foresee_b57 (a1 : Int32)  (m0 : kM1) (b2 : Int32) : Option (Int32 × kM1) :=
  bd (fX7_of m0 a1 3) fun r10 m11 => if r10 = 2 then fX7_foresee_b73 a1 m11 b2 else fX7_foresee_b73 a1 m11 (-1000004)
set_option maxRecDepth 100000 in
set_option maxHeartbeats 4000000 in
theorem sX7_foresee_b57 {l : Launch} {Γ : kG} (hL : k_Lay Γ 7) {p : Program} {e : Env} {R : Room} {s : State} {mid : MethodId} {args : Array Value} {below : List Frame} {meth : Method} {c : Code} (C : k_C Γ p R s mid args meth c cX7_foresee 4 RX7 (k_R 7)) (hr : meth.sig.returnType = (some .int)) (a1 : Int32)  (m0 : kM1) (b2 : Int32)  : Sm Γ (K3 Γ) p l e R s mid args below meth c 4 true m0 [(0, .ref (Γ.1 0 0)), (1, .int a1), (2, .int b2)] [] 57 (fX7_foresee_b57 a1 m0 b2) := by
  unfold fX7_foresee_b57
  refine k_aload_n C 0 dX7_foresee_57 rfl rfl (pc' := 58) rfl ?_
  refine k_iload_n C 1 dX7_foresee_58 rfl rfl (pc' := 59) rfl ?_
  refine k_iconst C (v := 3) dX7_foresee_59 (by decide) (pc' := 60) rfl ?_
  refine k_callVi C (rest := []) (qX7_of l Γ hL m0 a1 3) mwX7_of iwX7_of mlX7_38 (k_rm_of (by decide) (by decide)) (c3 Γ m0 0 (e_model Γ (m0 0))) (v_0 (by decide)) rfl rfl rfl (Nat.le_of_ble_eq_true rfl) dX7_foresee_60 (pc' := 63) rfl (fun r10 m11 => ?_)
  refine k_iconst C (v := 2) dX7_foresee_63 (by decide) (pc' := 64) rfl ?_
  refine k_ic_ne C (tgt := 71) dX7_foresee_64 (by decide) (pc' := 67) rfl (fun h12 => ?_) (fun h12 => ?_)
  · refine k_ldc C (v := (-1000004)) dX7_foresee_71 cnX7_151 (pc' := 73) rfl ?_
    refine k_sub [0] rfl ?_
    exact sX7_foresee_b73 hL C hr a1 m11 (-1000004)
  · refine k_iload_n C 2 dX7_foresee_67 rfl rfl (pc' := 68) rfl ?_
    refine k_goto C (pc' := 73) dX7_foresee_68 (by decide) ?_
    refine k_sub [0] rfl ?_
    exact sX7_foresee_b73 hL C hr a1 m11 b2
def fX7_foresee_b30 (a1 : Int32) : Nat → kM1 → Int32 → Option (Int32 × kM1)
  | 0, _, _ => none
  | n + 1, m0, b2 =>
  if 1000 ≤ b2 then fX7_foresee_b57 a1 m0 b2 else bd (fX7_of m0 a1 3) fun r15 m16 => if 2 ≤ r15 then fX7_foresee_b57 a1 m16 b2 else bd (fX7_goes m16) fun r18 m19 => k_let (b2 + 1) fun v20 => fX7_foresee_b30 a1 n m19 v20
set_option maxRecDepth 100000 in
set_option maxHeartbeats 4000000 in
theorem sX7_foresee_b30 {l : Launch} {Γ : kG} (hL : k_Lay Γ 7) {p : Program} {e : Env} {R : Room} {s : State} {mid : MethodId} {args : Array Value} {below : List Frame} {meth : Method} {c : Code} (C : k_C Γ p R s mid args meth c cX7_foresee 4 RX7 (k_R 7)) (hr : meth.sig.returnType = (some .int)) (a1 : Int32)  (n : Nat) : ∀ (m0 : kM1) (b2 : Int32), Sm Γ (K3 Γ) p l e R s mid args below meth c 4 true m0 [(0, .ref (Γ.1 0 0)), (1, .int a1), (2, .int b2)] [] 30 (fX7_foresee_b30 a1 n m0 b2) := by
  induction n with
  | zero => intros; exact k_none
  | succ n ih =>
    intro m0 b2
    unfold fX7_foresee_b30
    refine k_iload_n C 2 dX7_foresee_30 rfl rfl (pc' := 31) rfl ?_
    refine k_sipush C (v := 1000) dX7_foresee_31 (by decide) (pc' := 34) rfl ?_
    refine k_ic_ge C (tgt := 57) dX7_foresee_34 (by decide) (pc' := 37) rfl (fun h9 => ?_) (fun h9 => ?_)
    · exact sX7_foresee_b57 hL C hr a1 m0 b2
    · refine k_aload_n C 0 dX7_foresee_37 rfl rfl (pc' := 38) rfl ?_
      refine k_iload_n C 1 dX7_foresee_38 rfl rfl (pc' := 39) rfl ?_
      refine k_iconst C (v := 3) dX7_foresee_39 (by decide) (pc' := 40) rfl ?_
      refine k_callVi C (rest := []) (qX7_of l Γ hL m0 a1 3) mwX7_of iwX7_of mlX7_38 (k_rm_of (by decide) (by decide)) (c3 Γ m0 0 (e_model Γ (m0 0))) (v_0 (by decide)) rfl rfl rfl (Nat.le_of_ble_eq_true rfl) dX7_foresee_40 (pc' := 43) rfl (fun r15 m16 => ?_)
      refine k_iconst C (v := 2) dX7_foresee_43 (by decide) (pc' := 44) rfl ?_
      refine k_ic_ge C (tgt := 57) dX7_foresee_44 (by decide) (pc' := 47) rfl (fun h17 => ?_) (fun h17 => ?_)
      · exact sX7_foresee_b57 hL C hr a1 m16 b2
      · refine k_aload_n C 0 dX7_foresee_47 rfl rfl (pc' := 48) rfl ?_
        refine k_callVv C (rest := []) (qX7_goes l Γ hL m16) mwX7_goes iwX7_goes mlX7_162 (k_rm_of (by decide) (by decide)) (c3 Γ m16 0 (e_model Γ (m16 0))) (v_0 (by decide)) rfl rfl rfl (Nat.le_of_ble_eq_true rfl) dX7_foresee_48 (pc' := 51) rfl (fun r18 m19 => ?_)
        refine k_iinc (v := 1) (q := 2) (lv' := [(0, .ref (Γ.1 0 0)), (1, .int a1)]) C dX7_foresee_51 rfl (by decide) (by decide) (pc' := 54) rfl (fun _ => rfl) (fun v20 => ?_)
        refine k_goto C (pc' := 30) dX7_foresee_54 (by decide) ?_
        refine k_sub [1, 2, 0] rfl ?_
        exact ih m19 v20
def fX7_foresee (m0 : kM1) (a1 : Int32) : Option (Int32 × kM1) :=
  bd (fX7_isSack m0 a1) fun r1 m2 => if r1 = 0 then some ((-1000001), m2) else bd (fX7_of m2 a1 3) fun r4 m5 => if r4 ≤ 1 then bd (fX7_lays m5) fun r7 m8 => fX7_foresee_b30 a1 kFu m8 0 else some ((-1000002), m5)
set_option maxRecDepth 100000 in
set_option maxHeartbeats 4000000 in
theorem qX7_foresee (l : Launch) (Γ : kG) (hL : k_Lay Γ 7) (m0 : kM1) (a1 : Int32) : CT l Γ (K3 Γ) yX7_foresee cX7_foresee 4 (some .int) (k_R 7) [.ref (Γ.1 0 0), .int a1] m0 (fX7_foresee m0 a1) := by
  refine k_meth (own := RX7) (by decide) rfl (Nat.le_of_ble_eq_true rfl) (fun p e R s mid args below meth c C hr => ?_)
  show Sm Γ (K3 Γ) p l e R s mid args below meth c 4 true m0 [(0, .ref (Γ.1 0 0)), (1, .int a1)] [] 0 (fX7_foresee m0 a1)
  unfold fX7_foresee
  refine k_aload_n C 0 dX7_foresee_0 rfl rfl (pc' := 1) rfl ?_
  refine k_iload_n C 1 dX7_foresee_1 rfl rfl (pc' := 2) rfl ?_
  refine k_callVi C (rest := []) (qX7_isSack l Γ hL m0 a1) mwX7_isSack iwX7_isSack mlX7_102 (k_rm_of (by decide) (by decide)) (c3 Γ m0 0 (e_model Γ (m0 0))) (v_0 (by decide)) rfl rfl rfl (Nat.le_of_ble_eq_true rfl) dX7_foresee_2 (pc' := 5) rfl (fun r1 m2 => ?_)
  refine k_if_ne C (tgt := 11) dX7_foresee_5 (by decide) (pc' := 8) rfl (fun h3 => ?_) (fun h3 => ?_)
  · refine k_aload_n C 0 dX7_foresee_11 rfl rfl (pc' := 12) rfl ?_
    refine k_iload_n C 1 dX7_foresee_12 rfl rfl (pc' := 13) rfl ?_
    refine k_iconst C (v := 3) dX7_foresee_13 (by decide) (pc' := 14) rfl ?_
    refine k_callVi C (rest := []) (qX7_of l Γ hL m2 a1 3) mwX7_of iwX7_of mlX7_38 (k_rm_of (by decide) (by decide)) (c3 Γ m2 0 (e_model Γ (m2 0))) (v_0 (by decide)) rfl rfl rfl (Nat.le_of_ble_eq_true rfl) dX7_foresee_14 (pc' := 17) rfl (fun r4 m5 => ?_)
    refine k_iconst C (v := 1) dX7_foresee_17 (by decide) (pc' := 18) rfl ?_
    refine k_ic_le C (tgt := 24) dX7_foresee_18 (by decide) (pc' := 21) rfl (fun h6 => ?_) (fun h6 => ?_)
    · refine k_aload_n C 0 dX7_foresee_24 rfl rfl (pc' := 25) rfl ?_
      refine k_callVv C (rest := []) (qX7_lays l Γ hL m5) mwX7_lays iwX7_lays mlX7_165 (k_rm_of (by decide) (by decide)) (c3 Γ m5 0 (e_model Γ (m5 0))) (v_0 (by decide)) rfl rfl rfl (Nat.le_of_ble_eq_true rfl) dX7_foresee_25 (pc' := 28) rfl (fun r7 m8 => ?_)
      refine k_iconst C (v := 0) dX7_foresee_28 (by decide) (pc' := 29) rfl ?_
      refine k_istore_n C (lv' := [(2, .int 0), (0, .ref (Γ.1 0 0)), (1, .int a1)]) dX7_foresee_29 rfl (by decide) rfl (pc' := 30) rfl ?_
      refine k_sub [1, 2, 0] rfl ?_
      exact sX7_foresee_b30 hL C hr a1 kFu m8 0
    · refine k_ldc C (v := (-1000002)) dX7_foresee_21 cnX7_105 (pc' := 23) rfl ?_
      exact k_reti C rfl hr dX7_foresee_23
  · refine k_ldc C (v := (-1000001)) dX7_foresee_8 cnX7_33 (pc' := 10) rfl ?_
    exact k_reti C rfl hr dX7_foresee_10
def fX7_bestGate_b103 (a1 : Int32) (rec25 : kM1 → Int32 → Int32 → Int32 → Option (Int32 × kM1)) (m0 : kM1) (b2 : Int32) (b4 : Int32) (t0 : Int32) : Option (Int32 × kM1) :=
  k_let (b4 + 1) fun v18 => rec25 m0 b2 t0 v18
set_option maxRecDepth 100000 in
set_option maxHeartbeats 4000000 in
theorem sX7_bestGate_b103 {l : Launch} {Γ : kG} (hL : k_Lay Γ 7) {p : Program} {e : Env} {R : Room} {s : State} {mid : MethodId} {args : Array Value} {below : List Frame} {meth : Method} {c : Code} (C : k_C Γ p R s mid args meth c cX7_bestGate 6 RX7 (k_R 7)) (hr : meth.sig.returnType = (some .int)) (a1 : Int32) (rec25 : kM1 → Int32 → Int32 → Int32 → Option (Int32 × kM1)) (hrec25 : ∀ (m0 : kM1) (b2 : Int32) (b3 : Int32) (b4 : Int32), Sm Γ (K3 Γ) p l e R s mid args below meth c 6 true m0 [(0, .ref (Γ.1 0 0)), (1, .int a1), (2, .int b2), (3, .int b3), (4, .int b4)] [] 25 (rec25 m0 b2 b3 b4)) (m0 : kM1) (b2 : Int32) (b4 : Int32) (t0 : Int32)  : Sm Γ (K3 Γ) p l e R s mid args below meth c 6 true m0 [(0, .ref (Γ.1 0 0)), (1, .int a1), (2, .int b2), (4, .int b4)] [.int t0] 103 (fX7_bestGate_b103 a1 rec25 m0 b2 b4 t0) := by
  unfold fX7_bestGate_b103
  refine k_istore_n C (lv' := [(3, .int t0), (0, .ref (Γ.1 0 0)), (1, .int a1), (2, .int b2), (4, .int b4)]) dX7_bestGate_103 rfl (by decide) rfl (pc' := 104) rfl ?_
  refine k_iinc (v := 1) (q := 4) (lv' := [(3, .int t0), (0, .ref (Γ.1 0 0)), (1, .int a1), (2, .int b2)]) C dX7_bestGate_104 rfl (by decide) (by decide) (pc' := 107) rfl (fun _ => rfl) (fun v18 => ?_)
  refine k_goto C (pc' := 25) dX7_bestGate_107 (by decide) ?_
  refine k_sub [2, 3, 4, 1, 0] rfl ?_
  exact hrec25 m0 b2 t0 v18
def fX7_bestGate_b80 (a1 : Int32) (rec25 : kM1 → Int32 → Int32 → Int32 → Option (Int32 × kM1)) (m0 : kM1) (b3 : Int32) (b4 : Int32) (t0 : Int32) : Option (Int32 × kM1) :=
  if (m0 1 23) ≤ b3 then fX7_bestGate_b103 a1 rec25 m0 t0 b4 b3 else fX7_bestGate_b103 a1 rec25 m0 t0 b4 (m0 1 23)
set_option maxRecDepth 100000 in
set_option maxHeartbeats 4000000 in
theorem sX7_bestGate_b80 {l : Launch} {Γ : kG} (hL : k_Lay Γ 7) {p : Program} {e : Env} {R : Room} {s : State} {mid : MethodId} {args : Array Value} {below : List Frame} {meth : Method} {c : Code} (C : k_C Γ p R s mid args meth c cX7_bestGate 6 RX7 (k_R 7)) (hr : meth.sig.returnType = (some .int)) (a1 : Int32) (rec25 : kM1 → Int32 → Int32 → Int32 → Option (Int32 × kM1)) (hrec25 : ∀ (m0 : kM1) (b2 : Int32) (b3 : Int32) (b4 : Int32), Sm Γ (K3 Γ) p l e R s mid args below meth c 6 true m0 [(0, .ref (Γ.1 0 0)), (1, .int a1), (2, .int b2), (3, .int b3), (4, .int b4)] [] 25 (rec25 m0 b2 b3 b4)) (m0 : kM1) (b3 : Int32) (b4 : Int32) (t0 : Int32)  : Sm Γ (K3 Γ) p l e R s mid args below meth c 6 true m0 [(0, .ref (Γ.1 0 0)), (1, .int a1), (3, .int b3), (4, .int b4)] [.int t0] 80 (fX7_bestGate_b80 a1 rec25 m0 b3 b4 t0) := by
  unfold fX7_bestGate_b80
  refine k_istore_n C (lv' := [(2, .int t0), (0, .ref (Γ.1 0 0)), (1, .int a1), (3, .int b3), (4, .int b4)]) dX7_bestGate_80 rfl (by decide) rfl (pc' := 81) rfl ?_
  refine k_aload_n C 1 dX7_bestGate_81 rfl rfl (pc' := 82) rfl ?_
  refine k_getf C 0 (c3 Γ m0 0 (e_model Γ (m0 0))) (v_0 (by decide)) flX7_7 (v := .ref (Γ.1 0 1)) rfl dX7_bestGate_82 (pc' := 85) rfl ?_
  refine k_bipush C (v := 23) dX7_bestGate_85 (by decide) (pc' := 87) rfl ?_
  refine k_ialdK C (n0 := 23) (c3 Γ m0 1 (e_d Γ (m0 1))) (v_0 (by decide)) (by decide) (by decide) dX7_bestGate_87 (pc' := 88) rfl ?_
  refine k_iload_n C 3 dX7_bestGate_88 rfl rfl (pc' := 89) rfl ?_
  refine k_ic_le C (tgt := 102) dX7_bestGate_89 (by decide) (pc' := 92) rfl (fun h17 => ?_) (fun h17 => ?_)
  · refine k_iload_n C 3 dX7_bestGate_102 rfl rfl (pc' := 103) rfl ?_
    refine k_sub [1, 2, 0, 4] rfl ?_
    exact sX7_bestGate_b103 hL C hr a1 rec25 hrec25 m0 t0 b4 b3
  · refine k_aload_n C 1 dX7_bestGate_92 rfl rfl (pc' := 93) rfl ?_
    refine k_getf C 0 (c3 Γ m0 0 (e_model Γ (m0 0))) (v_0 (by decide)) flX7_7 (v := .ref (Γ.1 0 1)) rfl dX7_bestGate_93 (pc' := 96) rfl ?_
    refine k_bipush C (v := 23) dX7_bestGate_96 (by decide) (pc' := 98) rfl ?_
    refine k_ialdK C (n0 := 23) (c3 Γ m0 1 (e_d Γ (m0 1))) (v_0 (by decide)) (by decide) (by decide) dX7_bestGate_98 (pc' := 99) rfl ?_
    refine k_goto C (pc' := 103) dX7_bestGate_99 (by decide) ?_
    refine k_sub [1, 2, 0, 4] rfl ?_
    exact sX7_bestGate_b103 hL C hr a1 rec25 hrec25 m0 t0 b4 (m0 1 23)
def fX7_bestGate_b47 (a1 : Int32) (rec25 : kM1 → Int32 → Int32 → Int32 → Option (Int32 × kM1)) : Nat → kM1 → Int32 → Int32 → Int32 → Int32 → Option (Int32 × kM1)
  | 0, _, _, _, _, _ => none
  | n + 1, m0, b2, b3, b4, b5 =>
  if a1 ≤ b5 then if (m0 1 23) ≤ b3 then fX7_bestGate_b80 a1 rec25 m0 b3 b4 b2 else fX7_bestGate_b80 a1 rec25 m0 b3 b4 b4 else bd (fX7_goes m0) fun r20 m21 => k_let (b5 + 1) fun v22 => fX7_bestGate_b47 a1 rec25 n m21 b2 b3 b4 v22
set_option maxRecDepth 100000 in
set_option maxHeartbeats 4000000 in
theorem sX7_bestGate_b47 {l : Launch} {Γ : kG} (hL : k_Lay Γ 7) {p : Program} {e : Env} {R : Room} {s : State} {mid : MethodId} {args : Array Value} {below : List Frame} {meth : Method} {c : Code} (C : k_C Γ p R s mid args meth c cX7_bestGate 6 RX7 (k_R 7)) (hr : meth.sig.returnType = (some .int)) (a1 : Int32) (rec25 : kM1 → Int32 → Int32 → Int32 → Option (Int32 × kM1)) (hrec25 : ∀ (m0 : kM1) (b2 : Int32) (b3 : Int32) (b4 : Int32), Sm Γ (K3 Γ) p l e R s mid args below meth c 6 true m0 [(0, .ref (Γ.1 0 0)), (1, .int a1), (2, .int b2), (3, .int b3), (4, .int b4)] [] 25 (rec25 m0 b2 b3 b4)) (n : Nat) : ∀ (m0 : kM1) (b2 : Int32) (b3 : Int32) (b4 : Int32) (b5 : Int32), Sm Γ (K3 Γ) p l e R s mid args below meth c 6 true m0 [(0, .ref (Γ.1 0 0)), (1, .int a1), (2, .int b2), (3, .int b3), (4, .int b4), (5, .int b5)] [] 47 (fX7_bestGate_b47 a1 rec25 n m0 b2 b3 b4 b5) := by
  induction n with
  | zero => intros; exact k_none
  | succ n ih =>
    intro m0 b2 b3 b4 b5
    unfold fX7_bestGate_b47
    refine k_iload C 5 dX7_bestGate_47 rfl (pc' := 49) rfl ?_
    refine k_iload_n C 1 dX7_bestGate_49 rfl rfl (pc' := 50) rfl ?_
    refine k_ic_ge C (tgt := 63) dX7_bestGate_50 (by decide) (pc' := 53) rfl (fun h13 => ?_) (fun h13 => ?_)
    · refine k_aload_n C 0 dX7_bestGate_63 rfl rfl (pc' := 64) rfl ?_
      refine k_getf C 0 (c3 Γ m0 0 (e_model Γ (m0 0))) (v_0 (by decide)) flX7_7 (v := .ref (Γ.1 0 1)) rfl dX7_bestGate_64 (pc' := 67) rfl ?_
      refine k_bipush C (v := 23) dX7_bestGate_67 (by decide) (pc' := 69) rfl ?_
      refine k_ialdK C (n0 := 23) (c3 Γ m0 1 (e_d Γ (m0 1))) (v_0 (by decide)) (by decide) (by decide) dX7_bestGate_69 (pc' := 70) rfl ?_
      refine k_iload_n C 3 dX7_bestGate_70 rfl rfl (pc' := 71) rfl ?_
      refine k_ic_le C (tgt := 79) dX7_bestGate_71 (by decide) (pc' := 74) rfl (fun h15 => ?_) (fun h15 => ?_)
      · refine k_iload_n C 2 dX7_bestGate_79 rfl rfl (pc' := 80) rfl ?_
        refine k_sub [0, 1, 3, 4] rfl ?_
        exact sX7_bestGate_b80 hL C hr a1 rec25 hrec25 m0 b3 b4 b2
      · refine k_iload C 4 dX7_bestGate_74 rfl (pc' := 76) rfl ?_
        refine k_goto C (pc' := 80) dX7_bestGate_76 (by decide) ?_
        refine k_sub [0, 1, 3, 4] rfl ?_
        exact sX7_bestGate_b80 hL C hr a1 rec25 hrec25 m0 b3 b4 b4
    · refine k_aload_n C 0 dX7_bestGate_53 rfl rfl (pc' := 54) rfl ?_
      refine k_callVv C (rest := []) (qX7_goes l Γ hL m0) mwX7_goes iwX7_goes mlX7_162 (k_rm_of (by decide) (by decide)) (c3 Γ m0 0 (e_model Γ (m0 0))) (v_0 (by decide)) rfl rfl rfl (Nat.le_of_ble_eq_true rfl) dX7_bestGate_54 (pc' := 57) rfl (fun r20 m21 => ?_)
      refine k_iinc (v := 1) (q := 5) (lv' := [(0, .ref (Γ.1 0 0)), (1, .int a1), (2, .int b2), (3, .int b3), (4, .int b4)]) C dX7_bestGate_57 rfl (by decide) (by decide) (pc' := 60) rfl (fun _ => rfl) (fun v22 => ?_)
      refine k_goto C (pc' := 47) dX7_bestGate_60 (by decide) ?_
      refine k_sub [1, 2, 3, 4, 5, 0] rfl ?_
      exact ih m21 b2 b3 b4 v22
def fX7_bestGate_b25 (a1 : Int32) : Nat → kM1 → Int32 → Int32 → Int32 → Option (Int32 × kM1)
  | 0, _, _, _, _ => none
  | n + 1, m0, b2, b3, b4 =>
  if 4 ≤ b4 then bd (fX7_restores m0) fun r7 m8 => some (b2, m8) else bd (fX7_restores m0) fun r9 m10 => k_let (mu m10 1 18 b4) fun m12 => fX7_bestGate_b47 a1 (fX7_bestGate_b25 a1 n) kFu m12 b2 b3 b4 0
set_option maxRecDepth 100000 in
set_option maxHeartbeats 4000000 in
theorem sX7_bestGate_b25 {l : Launch} {Γ : kG} (hL : k_Lay Γ 7) {p : Program} {e : Env} {R : Room} {s : State} {mid : MethodId} {args : Array Value} {below : List Frame} {meth : Method} {c : Code} (C : k_C Γ p R s mid args meth c cX7_bestGate 6 RX7 (k_R 7)) (hr : meth.sig.returnType = (some .int)) (a1 : Int32)  (n : Nat) : ∀ (m0 : kM1) (b2 : Int32) (b3 : Int32) (b4 : Int32), Sm Γ (K3 Γ) p l e R s mid args below meth c 6 true m0 [(0, .ref (Γ.1 0 0)), (1, .int a1), (2, .int b2), (3, .int b3), (4, .int b4)] [] 25 (fX7_bestGate_b25 a1 n m0 b2 b3 b4) := by
  induction n with
  | zero => intros; exact k_none
  | succ n ih =>
    intro m0 b2 b3 b4
    unfold fX7_bestGate_b25
    refine k_iload C 4 dX7_bestGate_25 rfl (pc' := 27) rfl ?_
    refine k_iconst C (v := 4) dX7_bestGate_27 (by decide) (pc' := 28) rfl ?_
    refine k_ic_ge C (tgt := 110) dX7_bestGate_28 (by decide) (pc' := 31) rfl (fun h6 => ?_) (fun h6 => ?_)
    · refine k_aload_n C 0 dX7_bestGate_110 rfl rfl (pc' := 111) rfl ?_
      refine k_callVv C (rest := []) (qX7_restores l Γ hL m0) mwX7_restores iwX7_restores mlX7_168 (k_rm_of (by decide) (by decide)) (c3 Γ m0 0 (e_model Γ (m0 0))) (v_0 (by decide)) rfl rfl rfl (Nat.le_of_ble_eq_true rfl) dX7_bestGate_111 (pc' := 114) rfl (fun r7 m8 => ?_)
      refine k_iload_n C 2 dX7_bestGate_114 rfl rfl (pc' := 115) rfl ?_
      exact k_reti C rfl hr dX7_bestGate_115
    · refine k_aload_n C 0 dX7_bestGate_31 rfl rfl (pc' := 32) rfl ?_
      refine k_callVv C (rest := []) (qX7_restores l Γ hL m0) mwX7_restores iwX7_restores mlX7_168 (k_rm_of (by decide) (by decide)) (c3 Γ m0 0 (e_model Γ (m0 0))) (v_0 (by decide)) rfl rfl rfl (Nat.le_of_ble_eq_true rfl) dX7_bestGate_32 (pc' := 35) rfl (fun r9 m10 => ?_)
      refine k_aload_n C 0 dX7_bestGate_35 rfl rfl (pc' := 36) rfl ?_
      refine k_getf C 0 (c3 Γ m10 0 (e_model Γ (m10 0))) (v_0 (by decide)) flX7_7 (v := .ref (Γ.1 0 1)) rfl dX7_bestGate_36 (pc' := 39) rfl ?_
      refine k_bipush C (v := 18) dX7_bestGate_39 (by decide) (pc' := 41) rfl ?_
      refine k_iload C 4 dX7_bestGate_41 rfl (pc' := 43) rfl ?_
      refine k_iastK C (n0 := 18) hL.k3 (c3 Γ m10 1 (e_d Γ (m10 1))) (v_0 (by decide)) (by decide) (by decide) (s3 Γ m10 1 18 b4 (e_d Γ _)) dX7_bestGate_43 (pc' := 44) rfl (fun m12 => ?_)
      refine k_iconst C (v := 0) dX7_bestGate_44 (by decide) (pc' := 45) rfl ?_
      refine k_istore C (lv' := [(5, .int 0), (0, .ref (Γ.1 0 0)), (1, .int a1), (2, .int b2), (3, .int b3), (4, .int b4)]) dX7_bestGate_45 (by decide) rfl (pc' := 47) rfl ?_
      refine k_sub [1, 2, 3, 4, 5, 0] rfl ?_
      exact sX7_bestGate_b47 hL C hr a1 (fX7_bestGate_b25 a1 n) ih kFu m12 b2 b3 b4 0
def fX7_bestGate (m0 : kM1) (a1 : Int32) : Option (Int32 × kM1) :=
  bd (fX7_in m0 a1 1 200) fun r1 m2 => if r1 = 0 then some ((-1000001), m2) else bd (fX7_lays m2) fun r4 m5 => fX7_bestGate_b25 a1 kFu m5 0 (-1) 0
set_option maxRecDepth 100000 in
set_option maxHeartbeats 4000000 in
theorem qX7_bestGate (l : Launch) (Γ : kG) (hL : k_Lay Γ 7) (m0 : kM1) (a1 : Int32) : CT l Γ (K3 Γ) yX7_bestGate cX7_bestGate 6 (some .int) (k_R 7) [.ref (Γ.1 0 0), .int a1] m0 (fX7_bestGate m0 a1) := by
  refine k_meth (own := RX7) (by decide) rfl (Nat.le_of_ble_eq_true rfl) (fun p e R s mid args below meth c C hr => ?_)
  show Sm Γ (K3 Γ) p l e R s mid args below meth c 6 true m0 [(0, .ref (Γ.1 0 0)), (1, .int a1)] [] 0 (fX7_bestGate m0 a1)
  unfold fX7_bestGate
  refine k_iload_n C 1 dX7_bestGate_0 rfl rfl (pc' := 1) rfl ?_
  refine k_iconst C (v := 1) dX7_bestGate_1 (by decide) (pc' := 2) rfl ?_
  refine k_sipush C (v := 200) dX7_bestGate_2 (by decide) (pc' := 5) rfl ?_
  refine k_callSi C (rest := []) (qX7_in l Γ (K3 Γ) m0 a1 1 200) mwX7_in swX7_in mlX7_29 (k_rm_of (by decide) (by decide)) rfl rfl (Nat.le_of_ble_eq_true rfl) dX7_bestGate_5 (pc' := 8) rfl (fun r1 m2 => ?_)
  refine k_if_ne C (tgt := 14) dX7_bestGate_8 (by decide) (pc' := 11) rfl (fun h3 => ?_) (fun h3 => ?_)
  · refine k_aload_n C 0 dX7_bestGate_14 rfl rfl (pc' := 15) rfl ?_
    refine k_callVv C (rest := []) (qX7_lays l Γ hL m2) mwX7_lays iwX7_lays mlX7_165 (k_rm_of (by decide) (by decide)) (c3 Γ m2 0 (e_model Γ (m2 0))) (v_0 (by decide)) rfl rfl rfl (Nat.le_of_ble_eq_true rfl) dX7_bestGate_15 (pc' := 18) rfl (fun r4 m5 => ?_)
    refine k_iconst C (v := 0) dX7_bestGate_18 (by decide) (pc' := 19) rfl ?_
    refine k_istore_n C (lv' := [(2, .int 0), (0, .ref (Γ.1 0 0)), (1, .int a1)]) dX7_bestGate_19 rfl (by decide) rfl (pc' := 20) rfl ?_
    refine k_iconst C (v := (-1)) dX7_bestGate_20 (by decide) (pc' := 21) rfl ?_
    refine k_istore_n C (lv' := [(3, .int (-1)), (2, .int 0), (0, .ref (Γ.1 0 0)), (1, .int a1)]) dX7_bestGate_21 rfl (by decide) rfl (pc' := 22) rfl ?_
    refine k_iconst C (v := 0) dX7_bestGate_22 (by decide) (pc' := 23) rfl ?_
    refine k_istore C (lv' := [(4, .int 0), (3, .int (-1)), (2, .int 0), (0, .ref (Γ.1 0 0)), (1, .int a1)]) dX7_bestGate_23 (by decide) rfl (pc' := 25) rfl ?_
    refine k_sub [3, 4, 2, 1, 0] rfl ?_
    exact sX7_bestGate_b25 hL C hr a1 kFu m5 0 (-1) 0
  · refine k_ldc C (v := (-1000001)) dX7_bestGate_11 cnX7_33 (pc' := 13) rfl ?_
    exact k_reti C rfl hr dX7_bestGate_13
def fX7_count (m0 : kM1) (a1 : Int32) : Option (Int32 × kM1) :=
  if a1 = 0 then if ¬ (27 + a1) < 0 ∧ (27 + a1).toNatClampNeg < 368 then some (m0 1 (27 + a1).toNatClampNeg, m0) else none else if a1 = 1 then if ¬ (27 + a1) < 0 ∧ (27 + a1).toNatClampNeg < 368 then some (m0 1 (27 + a1).toNatClampNeg, m0) else none else if a1 = 2 then if ¬ (27 + a1) < 0 ∧ (27 + a1).toNatClampNeg < 368 then some (m0 1 (27 + a1).toNatClampNeg, m0) else none else if a1 = 3 then bd (fX7_sacksIn m0 0) fun r8 m9 => some (r8, m9) else if a1 = 4 then bd (fX7_sacksIn m0 (a1 - 2)) fun r11 m12 => some (r11, m12) else if a1 = 5 then bd (fX7_sacksIn m0 (a1 - 2)) fun r14 m15 => some (r14, m15) else if a1 = 6 then bd (fX7_many m0 (-1) (-1) 1) fun r17 m18 => some (r17, m18) else if a1 = 7 then some (m0 1 26, m0) else if a1 = 8 then some ((m0 1 26) / 96, m0) else if a1 = 9 then some (m0 0 4, m0) else if a1 = 10 then some (m0 0 6, m0) else bd (fX7_in m0 a1 20 32) fun r25 m26 => if r25 = 0 then some ((-1000001), m26) else if ¬ (a1 - 20) < 0 ∧ (a1 - 20).toNatClampNeg < 368 then some (m26 1 (a1 - 20).toNatClampNeg, m26) else none
set_option maxRecDepth 100000 in
set_option maxHeartbeats 4000000 in
theorem qX7_count (l : Launch) (Γ : kG) (hL : k_Lay Γ 7) (m0 : kM1) (a1 : Int32) : CT l Γ (K3 Γ) yX7_count cX7_count 2 (some .int) (k_R 2) [.ref (Γ.1 0 0), .int a1] m0 (fX7_count m0 a1) := by
  refine k_meth (own := RX7) (by decide) rfl (Nat.le_of_ble_eq_true rfl) (fun p e R s mid args below meth c C hr => ?_)
  show Sm Γ (K3 Γ) p l e R s mid args below meth c 2 true m0 [(0, .ref (Γ.1 0 0)), (1, .int a1)] [] 0 (fX7_count m0 a1)
  unfold fX7_count
  refine k_iload_n C 1 dX7_count_0 rfl rfl (pc' := 1) rfl ?_
  refine k_ite (fun h1 => ?_) (fun h1 => ?_)
  · refine k_tswIn C (59) dX7_count_1 h1 (by decide) (by decide) rfl (pc' := 60) (by decide) ?_
    refine k_aload_n C 0 dX7_count_60 rfl rfl (pc' := 61) rfl ?_
    refine k_getf C 0 (c3 Γ m0 0 (e_model Γ (m0 0))) (v_0 (by decide)) flX7_7 (v := .ref (Γ.1 0 1)) rfl dX7_count_61 (pc' := 64) rfl ?_
    refine k_bipush C (v := 27) dX7_count_64 (by decide) (pc' := 66) rfl ?_
    refine k_iload_n C 1 dX7_count_66 rfl rfl (pc' := 67) rfl ?_
    refine k_iadd C dX7_count_67 (pc' := 68) rfl ?_
    refine k_iald C (c3 Γ m0 1 (e_d Γ (m0 1))) (v_0 (by decide)) dX7_count_68 (pc' := 69) rfl (fun h2 => ?_)
    exact k_reti C rfl hr dX7_count_69
  refine k_ite (fun h3 => ?_) (fun h3 => ?_)
  · refine k_tswIn C (59) dX7_count_1 h3 (by decide) (by decide) rfl (pc' := 60) (by decide) ?_
    refine k_aload_n C 0 dX7_count_60 rfl rfl (pc' := 61) rfl ?_
    refine k_getf C 0 (c3 Γ m0 0 (e_model Γ (m0 0))) (v_0 (by decide)) flX7_7 (v := .ref (Γ.1 0 1)) rfl dX7_count_61 (pc' := 64) rfl ?_
    refine k_bipush C (v := 27) dX7_count_64 (by decide) (pc' := 66) rfl ?_
    refine k_iload_n C 1 dX7_count_66 rfl rfl (pc' := 67) rfl ?_
    refine k_iadd C dX7_count_67 (pc' := 68) rfl ?_
    refine k_iald C (c3 Γ m0 1 (e_d Γ (m0 1))) (v_0 (by decide)) dX7_count_68 (pc' := 69) rfl (fun h4 => ?_)
    exact k_reti C rfl hr dX7_count_69
  refine k_ite (fun h5 => ?_) (fun h5 => ?_)
  · refine k_tswIn C (59) dX7_count_1 h5 (by decide) (by decide) rfl (pc' := 60) (by decide) ?_
    refine k_aload_n C 0 dX7_count_60 rfl rfl (pc' := 61) rfl ?_
    refine k_getf C 0 (c3 Γ m0 0 (e_model Γ (m0 0))) (v_0 (by decide)) flX7_7 (v := .ref (Γ.1 0 1)) rfl dX7_count_61 (pc' := 64) rfl ?_
    refine k_bipush C (v := 27) dX7_count_64 (by decide) (pc' := 66) rfl ?_
    refine k_iload_n C 1 dX7_count_66 rfl rfl (pc' := 67) rfl ?_
    refine k_iadd C dX7_count_67 (pc' := 68) rfl ?_
    refine k_iald C (c3 Γ m0 1 (e_d Γ (m0 1))) (v_0 (by decide)) dX7_count_68 (pc' := 69) rfl (fun h6 => ?_)
    exact k_reti C rfl hr dX7_count_69
  refine k_ite (fun h7 => ?_) (fun h7 => ?_)
  · refine k_tswIn C (69) dX7_count_1 h7 (by decide) (by decide) rfl (pc' := 70) (by decide) ?_
    refine k_aload_n C 0 dX7_count_70 rfl rfl (pc' := 71) rfl ?_
    refine k_iconst C (v := 0) dX7_count_71 (by decide) (pc' := 72) rfl ?_
    refine k_callVi C (rest := []) (qX7_sacksIn l Γ hL m0 0) mwX7_sacksIn iwX7_sacksIn mlX7_72 (k_rm_of (by decide) (by decide)) (c3 Γ m0 0 (e_model Γ (m0 0))) (v_0 (by decide)) rfl rfl rfl (Nat.le_of_ble_eq_true rfl) dX7_count_72 (pc' := 75) rfl (fun r8 m9 => ?_)
    exact k_reti C rfl hr dX7_count_75
  refine k_ite (fun h10 => ?_) (fun h10 => ?_)
  · refine k_tswIn C (75) dX7_count_1 h10 (by decide) (by decide) rfl (pc' := 76) (by decide) ?_
    refine k_aload_n C 0 dX7_count_76 rfl rfl (pc' := 77) rfl ?_
    refine k_iload_n C 1 dX7_count_77 rfl rfl (pc' := 78) rfl ?_
    refine k_iconst C (v := 2) dX7_count_78 (by decide) (pc' := 79) rfl ?_
    refine k_isub C dX7_count_79 (pc' := 80) rfl ?_
    refine k_callVi C (rest := []) (qX7_sacksIn l Γ hL m0 (a1 - 2)) mwX7_sacksIn iwX7_sacksIn mlX7_72 (k_rm_of (by decide) (by decide)) (c3 Γ m0 0 (e_model Γ (m0 0))) (v_0 (by decide)) rfl rfl rfl (Nat.le_of_ble_eq_true rfl) dX7_count_80 (pc' := 83) rfl (fun r11 m12 => ?_)
    exact k_reti C rfl hr dX7_count_83
  refine k_ite (fun h13 => ?_) (fun h13 => ?_)
  · refine k_tswIn C (75) dX7_count_1 h13 (by decide) (by decide) rfl (pc' := 76) (by decide) ?_
    refine k_aload_n C 0 dX7_count_76 rfl rfl (pc' := 77) rfl ?_
    refine k_iload_n C 1 dX7_count_77 rfl rfl (pc' := 78) rfl ?_
    refine k_iconst C (v := 2) dX7_count_78 (by decide) (pc' := 79) rfl ?_
    refine k_isub C dX7_count_79 (pc' := 80) rfl ?_
    refine k_callVi C (rest := []) (qX7_sacksIn l Γ hL m0 (a1 - 2)) mwX7_sacksIn iwX7_sacksIn mlX7_72 (k_rm_of (by decide) (by decide)) (c3 Γ m0 0 (e_model Γ (m0 0))) (v_0 (by decide)) rfl rfl rfl (Nat.le_of_ble_eq_true rfl) dX7_count_80 (pc' := 83) rfl (fun r14 m15 => ?_)
    exact k_reti C rfl hr dX7_count_83
  refine k_ite (fun h16 => ?_) (fun h16 => ?_)
  · refine k_tswIn C (83) dX7_count_1 h16 (by decide) (by decide) rfl (pc' := 84) (by decide) ?_
    refine k_aload_n C 0 dX7_count_84 rfl rfl (pc' := 85) rfl ?_
    refine k_iconst C (v := (-1)) dX7_count_85 (by decide) (pc' := 86) rfl ?_
    refine k_iconst C (v := (-1)) dX7_count_86 (by decide) (pc' := 87) rfl ?_
    refine k_iconst C (v := 1) dX7_count_87 (by decide) (pc' := 88) rfl ?_
    refine k_callVi C (rest := []) (qX7_many l Γ hL m0 (-1) (-1) 1) mwX7_many iwX7_many mlX7_144 (k_rm_of (by decide) (by decide)) (c3 Γ m0 0 (e_model Γ (m0 0))) (v_0 (by decide)) rfl rfl rfl (Nat.le_of_ble_eq_true rfl) dX7_count_88 (pc' := 91) rfl (fun r17 m18 => ?_)
    exact k_reti C rfl hr dX7_count_91
  refine k_ite (fun h19 => ?_) (fun h19 => ?_)
  · refine k_tswIn C (91) dX7_count_1 h19 (by decide) (by decide) rfl (pc' := 92) (by decide) ?_
    refine k_aload_n C 0 dX7_count_92 rfl rfl (pc' := 93) rfl ?_
    refine k_getf C 0 (c3 Γ m0 0 (e_model Γ (m0 0))) (v_0 (by decide)) flX7_7 (v := .ref (Γ.1 0 1)) rfl dX7_count_93 (pc' := 96) rfl ?_
    refine k_bipush C (v := 26) dX7_count_96 (by decide) (pc' := 98) rfl ?_
    refine k_ialdK C (n0 := 26) (c3 Γ m0 1 (e_d Γ (m0 1))) (v_0 (by decide)) (by decide) (by decide) dX7_count_98 (pc' := 99) rfl ?_
    exact k_reti C rfl hr dX7_count_99
  refine k_ite (fun h21 => ?_) (fun h21 => ?_)
  · refine k_tswIn C (99) dX7_count_1 h21 (by decide) (by decide) rfl (pc' := 100) (by decide) ?_
    refine k_aload_n C 0 dX7_count_100 rfl rfl (pc' := 101) rfl ?_
    refine k_getf C 0 (c3 Γ m0 0 (e_model Γ (m0 0))) (v_0 (by decide)) flX7_7 (v := .ref (Γ.1 0 1)) rfl dX7_count_101 (pc' := 104) rfl ?_
    refine k_bipush C (v := 26) dX7_count_104 (by decide) (pc' := 106) rfl ?_
    refine k_ialdK C (n0 := 26) (c3 Γ m0 1 (e_d Γ (m0 1))) (v_0 (by decide)) (by decide) (by decide) dX7_count_106 (pc' := 107) rfl ?_
    refine k_bipush C (v := 96) dX7_count_107 (by decide) (pc' := 109) rfl ?_
    refine k_idivK C dX7_count_109 (by decide) (pc' := 110) rfl ?_
    exact k_reti C rfl hr dX7_count_110
  refine k_ite (fun h23 => ?_) (fun h23 => ?_)
  · refine k_tswIn C (110) dX7_count_1 h23 (by decide) (by decide) rfl (pc' := 111) (by decide) ?_
    refine k_aload_n C 0 dX7_count_111 rfl rfl (pc' := 112) rfl ?_
    refine k_getf C 4 (c3 Γ m0 0 (e_model Γ (m0 0))) (v_0 (by decide)) flX7_34 (v := .int (m0 0 4)) rfl dX7_count_112 (pc' := 115) rfl ?_
    exact k_reti C rfl hr dX7_count_115
  refine k_ite (fun h24 => ?_) (fun h24 => ?_)
  · refine k_tswIn C (115) dX7_count_1 h24 (by decide) (by decide) rfl (pc' := 116) (by decide) ?_
    refine k_aload_n C 0 dX7_count_116 rfl rfl (pc' := 117) rfl ?_
    refine k_getf C 6 (c3 Γ m0 0 (e_model Γ (m0 0))) (v_0 (by decide)) flX7_171 (v := .int (m0 0 6)) rfl dX7_count_117 (pc' := 120) rfl ?_
    exact k_reti C rfl hr dX7_count_120
  refine k_tswOut C dX7_count_1 (by have z0 := lv_neT h1 (show (0 : Int32).toInt = 0 by decide); have z1 := lv_neT h3 (show (1 : Int32).toInt = 1 by decide); have z2 := lv_neT h5 (show (2 : Int32).toInt = 2 by decide); have z3 := lv_neT h7 (show (3 : Int32).toInt = 3 by decide); have z4 := lv_neT h10 (show (4 : Int32).toInt = 4 by decide); have z5 := lv_neT h13 (show (5 : Int32).toInt = 5 by decide); have z6 := lv_neT h16 (show (6 : Int32).toInt = 6 by decide); have z7 := lv_neT h19 (show (7 : Int32).toInt = 7 by decide); have z8 := lv_neT h21 (show (8 : Int32).toInt = 8 by decide); have z9 := lv_neT h23 (show (9 : Int32).toInt = 9 by decide); have z10 := lv_neT h24 (show (10 : Int32).toInt = 10 by decide); omega) (pc' := 121) (by decide) ?_
  refine k_iload_n C 1 dX7_count_121 rfl rfl (pc' := 122) rfl ?_
  refine k_bipush C (v := 20) dX7_count_122 (by decide) (pc' := 124) rfl ?_
  refine k_bipush C (v := 32) dX7_count_124 (by decide) (pc' := 126) rfl ?_
  refine k_callSi C (rest := []) (qX7_in l Γ (K3 Γ) m0 a1 20 32) mwX7_in swX7_in mlX7_29 (k_rm_of (by decide) (by decide)) rfl rfl (Nat.le_of_ble_eq_true rfl) dX7_count_126 (pc' := 129) rfl (fun r25 m26 => ?_)
  refine k_if_eq C (tgt := 144) dX7_count_129 (by decide) (pc' := 132) rfl (fun h27 => ?_) (fun h27 => ?_)
  · refine k_ldc C (v := (-1000001)) dX7_count_144 cnX7_33 (pc' := 146) rfl ?_
    exact k_reti C rfl hr dX7_count_146
  · refine k_aload_n C 0 dX7_count_132 rfl rfl (pc' := 133) rfl ?_
    refine k_getf C 0 (c3 Γ m26 0 (e_model Γ (m26 0))) (v_0 (by decide)) flX7_7 (v := .ref (Γ.1 0 1)) rfl dX7_count_133 (pc' := 136) rfl ?_
    refine k_iload_n C 1 dX7_count_136 rfl rfl (pc' := 137) rfl ?_
    refine k_bipush C (v := 20) dX7_count_137 (by decide) (pc' := 139) rfl ?_
    refine k_isub C dX7_count_139 (pc' := 140) rfl ?_
    refine k_iald C (c3 Γ m26 1 (e_d Γ (m26 1))) (v_0 (by decide)) dX7_count_140 (pc' := 141) rfl (fun h28 => ?_)
    refine k_goto C (pc' := 146) dX7_count_141 (by decide) ?_
    exact k_reti C rfl hr dX7_count_146
def fX7_undo_b22 : Nat → kM1 → Int32 → Option (Int32 × kM1)
  | 0, _, _ => none
  | n + 1, m0, b1 =>
  if 368 ≤ b1 then some (m0 0 4, m0) else if ¬ ((368 * (m0 0 4)) + b1) < 0 ∧ ((368 * (m0 0 4)) + b1).toNatClampNeg < 1472 then if ¬ b1 < 0 ∧ b1.toNatClampNeg < 368 then k_let (mu m0 1 b1.toNatClampNeg (m0 2 ((368 * (m0 0 4)) + b1).toNatClampNeg)) fun m6 => k_let (b1 + 1) fun v7 => fX7_undo_b22 n m6 v7 else none else none
set_option maxRecDepth 100000 in
set_option maxHeartbeats 4000000 in
theorem sX7_undo_b22 {l : Launch} {Γ : kG} (hL : k_Lay Γ 7) {p : Program} {e : Env} {R : Room} {s : State} {mid : MethodId} {args : Array Value} {below : List Frame} {meth : Method} {c : Code} (C : k_C Γ p R s mid args meth c cX7_undo 2 RX7 (k_R 0)) (hr : meth.sig.returnType = (some .int))  (n : Nat) : ∀ (m0 : kM1) (b1 : Int32), Sm Γ (K3 Γ) p l e R s mid args below meth c 2 true m0 [(0, .ref (Γ.1 0 0)), (1, .int b1)] [] 22 (fX7_undo_b22 n m0 b1) := by
  induction n with
  | zero => intros; exact k_none
  | succ n ih =>
    intro m0 b1
    unfold fX7_undo_b22
    refine k_iload_n C 1 dX7_undo_22 rfl rfl (pc' := 23) rfl ?_
    refine k_sipush C (v := 368) dX7_undo_23 (by decide) (pc' := 26) rfl ?_
    refine k_ic_ge C (tgt := 56) dX7_undo_26 (by decide) (pc' := 29) rfl (fun h3 => ?_) (fun h3 => ?_)
    · refine k_aload_n C 0 dX7_undo_56 rfl rfl (pc' := 57) rfl ?_
      refine k_getf C 4 (c3 Γ m0 0 (e_model Γ (m0 0))) (v_0 (by decide)) flX7_34 (v := .int (m0 0 4)) rfl dX7_undo_57 (pc' := 60) rfl ?_
      exact k_reti C rfl hr dX7_undo_60
    · refine k_aload_n C 0 dX7_undo_29 rfl rfl (pc' := 30) rfl ?_
      refine k_getf C 0 (c3 Γ m0 0 (e_model Γ (m0 0))) (v_0 (by decide)) flX7_7 (v := .ref (Γ.1 0 1)) rfl dX7_undo_30 (pc' := 33) rfl ?_
      refine k_iload_n C 1 dX7_undo_33 rfl rfl (pc' := 34) rfl ?_
      refine k_aload_n C 0 dX7_undo_34 rfl rfl (pc' := 35) rfl ?_
      refine k_getf C 1 (c3 Γ m0 0 (e_model Γ (m0 0))) (v_0 (by decide)) flX7_13 (v := .ref (Γ.1 0 2)) rfl dX7_undo_35 (pc' := 38) rfl ?_
      refine k_sipush C (v := 368) dX7_undo_38 (by decide) (pc' := 41) rfl ?_
      refine k_aload_n C 0 dX7_undo_41 rfl rfl (pc' := 42) rfl ?_
      refine k_getf C 4 (c3 Γ m0 0 (e_model Γ (m0 0))) (v_0 (by decide)) flX7_34 (v := .int (m0 0 4)) rfl dX7_undo_42 (pc' := 45) rfl ?_
      refine k_imul C dX7_undo_45 (pc' := 46) rfl ?_
      refine k_iload_n C 1 dX7_undo_46 rfl rfl (pc' := 47) rfl ?_
      refine k_iadd C dX7_undo_47 (pc' := 48) rfl ?_
      refine k_iald C (c3 Γ m0 2 (e_was Γ (m0 2))) (v_0 (by decide)) dX7_undo_48 (pc' := 49) rfl (fun h4 => ?_)
      refine k_iast C hL.k3 (c3 Γ m0 1 (e_d Γ (m0 1))) (v_0 (by decide)) (s3 Γ m0 1 b1.toNatClampNeg (m0 2 ((368 * (m0 0 4)) + b1).toNatClampNeg) (e_d Γ _)) dX7_undo_49 (pc' := 50) rfl (fun h5 m6 => ?_)
      refine k_iinc (v := 1) (q := 1) (lv' := [(0, .ref (Γ.1 0 0))]) C dX7_undo_50 rfl (by decide) (by decide) (pc' := 53) rfl (fun _ => rfl) (fun v7 => ?_)
      refine k_goto C (pc' := 22) dX7_undo_53 (by decide) ?_
      refine k_sub [1, 0] rfl ?_
      exact ih m6 v7
def fX7_undo (m0 : kM1) : Option (Int32 × kM1) :=
  if (m0 0 4) = 0 then some ((-1000002), m0) else k_let (mu m0 0 4 ((m0 0 4) - 1)) fun m2 => fX7_undo_b22 kFu m2 0
set_option maxRecDepth 100000 in
set_option maxHeartbeats 4000000 in
theorem qX7_undo (l : Launch) (Γ : kG) (hL : k_Lay Γ 7) (m0 : kM1) : CT l Γ (K3 Γ) yX7_undo cX7_undo 2 (some .int) (k_R 0) [.ref (Γ.1 0 0)] m0 (fX7_undo m0 ) := by
  refine k_meth (own := RX7) (by decide) rfl (Nat.le_of_ble_eq_true rfl) (fun p e R s mid args below meth c C hr => ?_)
  show Sm Γ (K3 Γ) p l e R s mid args below meth c 2 true m0 [(0, .ref (Γ.1 0 0))] [] 0 (fX7_undo m0 )
  unfold fX7_undo
  refine k_aload_n C 0 dX7_undo_0 rfl rfl (pc' := 1) rfl ?_
  refine k_getf C 4 (c3 Γ m0 0 (e_model Γ (m0 0))) (v_0 (by decide)) flX7_34 (v := .int (m0 0 4)) rfl dX7_undo_1 (pc' := 4) rfl ?_
  refine k_if_ne C (tgt := 10) dX7_undo_4 (by decide) (pc' := 7) rfl (fun h1 => ?_) (fun h1 => ?_)
  · refine k_aload_n C 0 dX7_undo_10 rfl rfl (pc' := 11) rfl ?_
    refine k_dup C dX7_undo_11 rfl (pc' := 12) rfl ?_
    refine k_getf C 4 (c3 Γ m0 0 (e_model Γ (m0 0))) (v_0 (by decide)) flX7_34 (v := .int (m0 0 4)) rfl dX7_undo_12 (pc' := 15) rfl ?_
    refine k_iconst C (v := 1) dX7_undo_15 (by decide) (pc' := 16) rfl ?_
    refine k_isub C dX7_undo_16 (pc' := 17) rfl ?_
    refine k_putf C hL.k3 4 (c3 Γ m0 0 (e_model Γ (m0 0))) (v_0 (by decide)) flX7_34 fpX7_4 (Nat.le_of_ble_eq_true rfl) (s3 Γ m0 0 4 ((m0 0 4) - 1) ((e_model Γ _).trans (congrArg (fun z => Sum.inr (7, z)) (f_model_4 Γ (m0 0) ((m0 0 4) - 1))))) dX7_undo_17 (pc' := 20) rfl (fun m2 => ?_)
    refine k_iconst C (v := 0) dX7_undo_20 (by decide) (pc' := 21) rfl ?_
    refine k_istore_n C (lv' := [(1, .int 0), (0, .ref (Γ.1 0 0))]) dX7_undo_21 rfl (by decide) rfl (pc' := 22) rfl ?_
    refine k_sub [1, 0] rfl ?_
    exact sX7_undo_b22 hL C hr kFu m2 0
  · refine k_ldc C (v := (-1000002)) dX7_undo_7 cnX7_105 (pc' := 9) rfl ?_
    exact k_reti C rfl hr dX7_undo_9
def fX7_type (m0 : kM1) (a1 : Int32) : Option (Int32 × kM1) :=
  bd (fX7_in m0 a1 32 126) fun r1 m2 => if r1 = 0 then some ((-1000001), m2) else if (m2 0 6) = 60 then some ((-1000003), m2) else if ¬ (m2 0 6) < 0 ∧ (m2 0 6).toNatClampNeg < 60 then k_let (mu m2 5 (m2 0 6).toNatClampNeg (vp_nar .char ((a1.toUInt32 % 65536).toInt32))) fun m6 => k_let (mu m6 0 6 ((m6 0 6) + 1)) fun m7 => some (m7 0 6, m7) else none
set_option maxRecDepth 100000 in
set_option maxHeartbeats 4000000 in
theorem qX7_type (l : Launch) (Γ : kG) (hL : k_Lay Γ 7) (m0 : kM1) (a1 : Int32) : CT l Γ (K3 Γ) yX7_type cX7_type 2 (some .int) (k_R 1) [.ref (Γ.1 0 0), .int a1] m0 (fX7_type m0 a1) := by
  refine k_meth (own := RX7) (by decide) rfl (Nat.le_of_ble_eq_true rfl) (fun p e R s mid args below meth c C hr => ?_)
  show Sm Γ (K3 Γ) p l e R s mid args below meth c 2 true m0 [(0, .ref (Γ.1 0 0)), (1, .int a1)] [] 0 (fX7_type m0 a1)
  unfold fX7_type
  refine k_iload_n C 1 dX7_type_0 rfl rfl (pc' := 1) rfl ?_
  refine k_bipush C (v := 32) dX7_type_1 (by decide) (pc' := 3) rfl ?_
  refine k_bipush C (v := 126) dX7_type_3 (by decide) (pc' := 5) rfl ?_
  refine k_callSi C (rest := []) (qX7_in l Γ (K3 Γ) m0 a1 32 126) mwX7_in swX7_in mlX7_29 (k_rm_of (by decide) (by decide)) rfl rfl (Nat.le_of_ble_eq_true rfl) dX7_type_5 (pc' := 8) rfl (fun r1 m2 => ?_)
  refine k_if_ne C (tgt := 14) dX7_type_8 (by decide) (pc' := 11) rfl (fun h3 => ?_) (fun h3 => ?_)
  · refine k_aload_n C 0 dX7_type_14 rfl rfl (pc' := 15) rfl ?_
    refine k_getf C 6 (c3 Γ m2 0 (e_model Γ (m2 0))) (v_0 (by decide)) flX7_171 (v := .int (m2 0 6)) rfl dX7_type_15 (pc' := 18) rfl ?_
    refine k_bipush C (v := 60) dX7_type_18 (by decide) (pc' := 20) rfl ?_
    refine k_ic_ne C (tgt := 26) dX7_type_20 (by decide) (pc' := 23) rfl (fun h4 => ?_) (fun h4 => ?_)
    · refine k_aload_n C 0 dX7_type_26 rfl rfl (pc' := 27) rfl ?_
      refine k_getf C 5 (c3 Γ m2 0 (e_model Γ (m2 0))) (v_0 (by decide)) flX7_22 (v := .ref (Γ.1 0 5)) rfl dX7_type_27 (pc' := 30) rfl ?_
      refine k_aload_n C 0 dX7_type_30 rfl rfl (pc' := 31) rfl ?_
      refine k_getf C 6 (c3 Γ m2 0 (e_model Γ (m2 0))) (v_0 (by decide)) flX7_171 (v := .int (m2 0 6)) rfl dX7_type_31 (pc' := 34) rfl ?_
      refine k_iload_n C 1 dX7_type_34 rfl rfl (pc' := 35) rfl ?_
      refine k_i2c C dX7_type_35 (pc' := 36) rfl ?_
      refine k_cast C hL.k3 (c3 Γ m2 5 (e_mtext Γ (m2 5))) (v_0 (by decide)) (s3 Γ m2 5 (m2 0 6).toNatClampNeg (vp_nar .char ((a1.toUInt32 % 65536).toInt32)) (e_mtext Γ _)) dX7_type_36 (pc' := 37) rfl (fun h5 m6 => ?_)
      refine k_aload_n C 0 dX7_type_37 rfl rfl (pc' := 38) rfl ?_
      refine k_dup C dX7_type_38 rfl (pc' := 39) rfl ?_
      refine k_getf C 6 (c3 Γ m6 0 (e_model Γ (m6 0))) (v_0 (by decide)) flX7_171 (v := .int (m6 0 6)) rfl dX7_type_39 (pc' := 42) rfl ?_
      refine k_iconst C (v := 1) dX7_type_42 (by decide) (pc' := 43) rfl ?_
      refine k_iadd C dX7_type_43 (pc' := 44) rfl ?_
      refine k_putf C hL.k3 6 (c3 Γ m6 0 (e_model Γ (m6 0))) (v_0 (by decide)) flX7_171 fpX7_6 (Nat.le_of_ble_eq_true rfl) (s3 Γ m6 0 6 ((m6 0 6) + 1) ((e_model Γ _).trans (congrArg (fun z => Sum.inr (7, z)) (f_model_6 Γ (m6 0) ((m6 0 6) + 1))))) dX7_type_44 (pc' := 47) rfl (fun m7 => ?_)
      refine k_aload_n C 0 dX7_type_47 rfl rfl (pc' := 48) rfl ?_
      refine k_getf C 6 (c3 Γ m7 0 (e_model Γ (m7 0))) (v_0 (by decide)) flX7_171 (v := .int (m7 0 6)) rfl dX7_type_48 (pc' := 51) rfl ?_
      exact k_reti C rfl hr dX7_type_51
    · refine k_ldc C (v := (-1000003)) dX7_type_23 cnX7_101 (pc' := 25) rfl ?_
      exact k_reti C rfl hr dX7_type_25
  · refine k_ldc C (v := (-1000001)) dX7_type_11 cnX7_33 (pc' := 13) rfl ?_
    exact k_reti C rfl hr dX7_type_13
def fX7_clearText (m0 : kM1) : Option (Int32 × kM1) :=
  k_let (m0 0 6) fun v1 => k_let (mu m0 0 6 0) fun m2 => some (v1, m2)
set_option maxRecDepth 100000 in
set_option maxHeartbeats 4000000 in
theorem qX7_clearText (l : Launch) (Γ : kG) (hL : k_Lay Γ 7) (m0 : kM1) : CT l Γ (K3 Γ) yX7_clearText cX7_clearText 2 (some .int) (k_R 0) [.ref (Γ.1 0 0)] m0 (fX7_clearText m0 ) := by
  refine k_meth (own := RX7) (by decide) rfl (Nat.le_of_ble_eq_true rfl) (fun p e R s mid args below meth c C hr => ?_)
  show Sm Γ (K3 Γ) p l e R s mid args below meth c 2 true m0 [(0, .ref (Γ.1 0 0))] [] 0 (fX7_clearText m0 )
  unfold fX7_clearText
  refine k_aload_n C 0 dX7_clearText_0 rfl rfl (pc' := 1) rfl ?_
  refine k_getf C 6 (c3 Γ m0 0 (e_model Γ (m0 0))) (v_0 (by decide)) flX7_171 (v := .int (m0 0 6)) rfl dX7_clearText_1 (pc' := 4) rfl ?_
  refine k_topi (fun v1 => ?_)
  refine k_istore_n C (lv' := [(1, .int v1), (0, .ref (Γ.1 0 0))]) dX7_clearText_4 rfl (by decide) rfl (pc' := 5) rfl ?_
  refine k_aload_n C 1 dX7_clearText_5 rfl rfl (pc' := 6) rfl ?_
  refine k_iconst C (v := 0) dX7_clearText_6 (by decide) (pc' := 7) rfl ?_
  refine k_putf C hL.k3 6 (c3 Γ m0 0 (e_model Γ (m0 0))) (v_0 (by decide)) flX7_171 fpX7_6 (Nat.le_of_ble_eq_true rfl) (s3 Γ m0 0 6 0 ((e_model Γ _).trans (congrArg (fun z => Sum.inr (7, z)) (f_model_6 Γ (m0 0) 0)))) dX7_clearText_7 (pc' := 10) rfl (fun m2 => ?_)
  refine k_iload_n C 0 dX7_clearText_10 rfl rfl (pc' := 11) rfl ?_
  exact k_reti C rfl hr dX7_clearText_11
def fX7_passes_b44 (a1 : Int32)  (m0 : kM1) (b2 : Int32) (t0 : Int32) (t1 : Int32) : Option (Int32 × kM1) :=
  k_let (mu m0 0 7 (t1 + t0)) fun m3 => if b2 = 0 ∨ b2 = 1 then some (b2, m3) else none
set_option maxRecDepth 100000 in
set_option maxHeartbeats 4000000 in
theorem sX7_passes_b44 {l : Launch} {Γ : kG} (hL : k_Lay Γ 7) {p : Program} {e : Env} {R : Room} {s : State} {mid : MethodId} {args : Array Value} {below : List Frame} {meth : Method} {c : Code} (C : k_C Γ p R s mid args meth c cX7_passes 3 RX7 (k_R 0)) (hr : meth.sig.returnType = (some .boolean)) (a1 : Int32)  (m0 : kM1) (b2 : Int32) (t0 : Int32) (t1 : Int32)  : Sm Γ (K3 Γ) p l e R s mid args below meth c 3 true m0 [(2, .int b2)] [.int t0, .int t1, .ref (Γ.1 0 0)] 44 (fX7_passes_b44 a1 m0 b2 t0 t1) := by
  unfold fX7_passes_b44
  refine k_iadd C dX7_passes_44 (pc' := 45) rfl ?_
  refine k_putf C hL.k3 7 (c3 Γ m0 0 (e_model Γ (m0 0))) (v_0 (by decide)) flX7_174 fpX7_7 (Nat.le_of_ble_eq_true rfl) (s3 Γ m0 0 7 (t1 + t0) ((e_model Γ _).trans (congrArg (fun z => Sum.inr (7, z)) (f_model_7 Γ (m0 0) (t1 + t0))))) dX7_passes_45 (pc' := 48) rfl (fun m3 => ?_)
  refine k_iload_n C 0 dX7_passes_48 rfl rfl (pc' := 49) rfl ?_
  exact k_gd (fun h => k_retz C rfl hr h dX7_passes_49)
def fX7_passes_b29 (a1 : Int32)  (m0 : kM1) (t0 : Int32) : Option (Int32 × kM1) :=
  if t0 = 0 then fX7_passes_b44 a1 m0 t0 0 (m0 0 7) else fX7_passes_b44 a1 m0 t0 1 (m0 0 7)
set_option maxRecDepth 100000 in
set_option maxHeartbeats 4000000 in
theorem sX7_passes_b29 {l : Launch} {Γ : kG} (hL : k_Lay Γ 7) {p : Program} {e : Env} {R : Room} {s : State} {mid : MethodId} {args : Array Value} {below : List Frame} {meth : Method} {c : Code} (C : k_C Γ p R s mid args meth c cX7_passes 3 RX7 (k_R 0)) (hr : meth.sig.returnType = (some .boolean)) (a1 : Int32)  (m0 : kM1) (t0 : Int32)  : Sm Γ (K3 Γ) p l e R s mid args below meth c 3 true m0 [(0, .ref (Γ.1 0 0))] [.int t0] 29 (fX7_passes_b29 a1 m0 t0) := by
  unfold fX7_passes_b29
  refine k_istore_n C (lv' := [(2, .int t0), (0, .ref (Γ.1 0 0))]) dX7_passes_29 rfl (by decide) rfl (pc' := 30) rfl ?_
  refine k_aload_n C 1 dX7_passes_30 rfl rfl (pc' := 31) rfl ?_
  refine k_dup C dX7_passes_31 rfl (pc' := 32) rfl ?_
  refine k_getf C 7 (c3 Γ m0 0 (e_model Γ (m0 0))) (v_0 (by decide)) flX7_174 (v := .int (m0 0 7)) rfl dX7_passes_32 (pc' := 35) rfl ?_
  refine k_iload_n C 0 dX7_passes_35 rfl rfl (pc' := 36) rfl ?_
  refine k_if_eq C (tgt := 43) dX7_passes_36 (by decide) (pc' := 39) rfl (fun h2 => ?_) (fun h2 => ?_)
  · refine k_iconst C (v := 0) dX7_passes_43 (by decide) (pc' := 44) rfl ?_
    refine k_sub [0] rfl ?_
    exact sX7_passes_b44 hL C hr a1 m0 t0 0 (m0 0 7)
  · refine k_iconst C (v := 1) dX7_passes_39 (by decide) (pc' := 40) rfl ?_
    refine k_goto C (pc' := 44) dX7_passes_40 (by decide) ?_
    refine k_sub [0] rfl ?_
    exact sX7_passes_b44 hL C hr a1 m0 t0 1 (m0 0 7)
def fX7_passes_b28 (a1 : Int32)  (m0 : kM1) : Option (Int32 × kM1) :=
  fX7_passes_b29 a1 m0 0
set_option maxRecDepth 100000 in
set_option maxHeartbeats 4000000 in
theorem sX7_passes_b28 {l : Launch} {Γ : kG} (hL : k_Lay Γ 7) {p : Program} {e : Env} {R : Room} {s : State} {mid : MethodId} {args : Array Value} {below : List Frame} {meth : Method} {c : Code} (C : k_C Γ p R s mid args meth c cX7_passes 3 RX7 (k_R 0)) (hr : meth.sig.returnType = (some .boolean)) (a1 : Int32)  (m0 : kM1)   : Sm Γ (K3 Γ) p l e R s mid args below meth c 3 true m0 [(0, .ref (Γ.1 0 0))] [] 28 (fX7_passes_b28 a1 m0) := by
  unfold fX7_passes_b28
  refine k_iconst C (v := 0) dX7_passes_28 (by decide) (pc' := 29) rfl ?_
  exact sX7_passes_b29 hL C hr a1 m0 0
def fX7_passes (m0 : kM1) (a1 : Int32) : Option (Int32 × kM1) :=
  if (m0 0 6) ≤ (m0 0 7) then fX7_passes_b28 a1 m0 else if ¬ (m0 0 7) < 0 ∧ (m0 0 7).toNatClampNeg < 60 then if (m0 5 (m0 0 7).toNatClampNeg) = a1 then fX7_passes_b29 a1 m0 1 else fX7_passes_b28 a1 m0 else none
set_option maxRecDepth 100000 in
set_option maxHeartbeats 4000000 in
theorem qX7_passes (l : Launch) (Γ : kG) (hL : k_Lay Γ 7) (m0 : kM1) (a1 : Int32) : CT l Γ (K3 Γ) yX7_passes cX7_passes 3 (some .boolean) (k_R 0) [.ref (Γ.1 0 0), .int a1] m0 (fX7_passes m0 a1) := by
  refine k_meth (own := RX7) (by decide) rfl (Nat.le_of_ble_eq_true rfl) (fun p e R s mid args below meth c C hr => ?_)
  show Sm Γ (K3 Γ) p l e R s mid args below meth c 3 true m0 [(0, .ref (Γ.1 0 0)), (1, .int a1)] [] 0 (fX7_passes m0 a1)
  unfold fX7_passes
  refine k_aload_n C 0 dX7_passes_0 rfl rfl (pc' := 1) rfl ?_
  refine k_getf C 7 (c3 Γ m0 0 (e_model Γ (m0 0))) (v_0 (by decide)) flX7_174 (v := .int (m0 0 7)) rfl dX7_passes_1 (pc' := 4) rfl ?_
  refine k_aload_n C 0 dX7_passes_4 rfl rfl (pc' := 5) rfl ?_
  refine k_getf C 6 (c3 Γ m0 0 (e_model Γ (m0 0))) (v_0 (by decide)) flX7_171 (v := .int (m0 0 6)) rfl dX7_passes_5 (pc' := 8) rfl ?_
  refine k_ic_ge C (tgt := 28) dX7_passes_8 (by decide) (pc' := 11) rfl (fun h1 => ?_) (fun h1 => ?_)
  · refine k_sub [0] rfl ?_
    exact sX7_passes_b28 hL C hr a1 m0
  · refine k_aload_n C 0 dX7_passes_11 rfl rfl (pc' := 12) rfl ?_
    refine k_getf C 5 (c3 Γ m0 0 (e_model Γ (m0 0))) (v_0 (by decide)) flX7_22 (v := .ref (Γ.1 0 5)) rfl dX7_passes_12 (pc' := 15) rfl ?_
    refine k_aload_n C 0 dX7_passes_15 rfl rfl (pc' := 16) rfl ?_
    refine k_getf C 7 (c3 Γ m0 0 (e_model Γ (m0 0))) (v_0 (by decide)) flX7_174 (v := .int (m0 0 7)) rfl dX7_passes_16 (pc' := 19) rfl ?_
    refine k_cald C (c3 Γ m0 5 (e_mtext Γ (m0 5))) (v_0 (by decide)) dX7_passes_19 (pc' := 20) rfl (fun h4 => ?_)
    refine k_iload_n C 1 dX7_passes_20 rfl rfl (pc' := 21) rfl ?_
    refine k_ic_ne C (tgt := 28) dX7_passes_21 (by decide) (pc' := 24) rfl (fun h5 => ?_) (fun h5 => ?_)
    · refine k_sub [0] rfl ?_
      exact sX7_passes_b28 hL C hr a1 m0
    · refine k_iconst C (v := 1) dX7_passes_24 (by decide) (pc' := 25) rfl ?_
      refine k_goto C (pc' := 29) dX7_passes_25 (by decide) ?_
      refine k_sub [0] rfl ?_
      exact sX7_passes_b29 hL C hr a1 m0 1
def fX7_takes_b93 (a1 : Int32)  (m0 : kM1) (b2 : Int32) : Option (Int32 × kM1) :=
  if (m0 0 7) ≤ b2 then some (0, m0) else some (1, m0)
set_option maxRecDepth 100000 in
set_option maxHeartbeats 4000000 in
theorem sX7_takes_b93 {l : Launch} {Γ : kG} (hL : k_Lay Γ 7) {p : Program} {e : Env} {R : Room} {s : State} {mid : MethodId} {args : Array Value} {below : List Frame} {meth : Method} {c : Code} (C : k_C Γ p R s mid args meth c cX7_takes 3 RX7 (k_R 1)) (hr : meth.sig.returnType = (some .boolean)) (a1 : Int32)  (m0 : kM1) (b2 : Int32)  : Sm Γ (K3 Γ) p l e R s mid args below meth c 3 true m0 [(0, .ref (Γ.1 0 0)), (2, .int b2)] [] 93 (fX7_takes_b93 a1 m0 b2) := by
  unfold fX7_takes_b93
  refine k_aload_n C 0 dX7_takes_93 rfl rfl (pc' := 94) rfl ?_
  refine k_getf C 7 (c3 Γ m0 0 (e_model Γ (m0 0))) (v_0 (by decide)) flX7_174 (v := .int (m0 0 7)) rfl dX7_takes_94 (pc' := 97) rfl ?_
  refine k_iload_n C 1 dX7_takes_97 rfl rfl (pc' := 98) rfl ?_
  refine k_ic_le C (tgt := 105) dX7_takes_98 (by decide) (pc' := 101) rfl (fun h5 => ?_) (fun h5 => ?_)
  · refine k_iconst C (v := 0) dX7_takes_105 (by decide) (pc' := 106) rfl ?_
    exact k_retz C rfl hr (Or.inl rfl) dX7_takes_106
  · refine k_iconst C (v := 1) dX7_takes_101 (by decide) (pc' := 102) rfl ?_
    refine k_goto C (pc' := 106) dX7_takes_102 (by decide) ?_
    exact k_retz C rfl hr (Or.inr rfl) dX7_takes_106
def fX7_takes_b12 (a1 : Int32) : Nat → kM1 → Int32 → Option (Int32 × kM1)
  | 0, _, _ => none
  | n + 1, m0, b2 =>
  if (m0 0 6) ≤ (m0 0 7) then fX7_takes_b93 a1 m0 b2 else if (b2 + 3) ≤ (m0 0 7) then fX7_takes_b93 a1 m0 b2 else if ¬ (m0 0 7) < 0 ∧ (m0 0 7).toNatClampNeg < 60 then bd (fX7_in m0 (m0 5 (m0 0 7).toNatClampNeg) 48 57) fun r8 m9 => if r8 = 0 then fX7_takes_b93 a1 m9 b2 else if ¬ a1 < 0 ∧ a1.toNatClampNeg < 3 then if ¬ (m9 0 7) < 0 ∧ (m9 0 7).toNatClampNeg < 60 then if ¬ a1 < 0 ∧ a1.toNatClampNeg < 3 then k_let (mu m9 6 a1.toNatClampNeg (((10 * (m9 6 a1.toNatClampNeg)) + (m9 5 (m9 0 7).toNatClampNeg)) - 48)) fun m14 => k_let (mu m14 0 7 ((m14 0 7) + 1)) fun m15 => fX7_takes_b12 a1 n m15 b2 else none else none else none else none
set_option maxRecDepth 100000 in
set_option maxHeartbeats 4000000 in
theorem sX7_takes_b12 {l : Launch} {Γ : kG} (hL : k_Lay Γ 7) {p : Program} {e : Env} {R : Room} {s : State} {mid : MethodId} {args : Array Value} {below : List Frame} {meth : Method} {c : Code} (C : k_C Γ p R s mid args meth c cX7_takes 3 RX7 (k_R 1)) (hr : meth.sig.returnType = (some .boolean)) (a1 : Int32)  (n : Nat) : ∀ (m0 : kM1) (b2 : Int32), Sm Γ (K3 Γ) p l e R s mid args below meth c 3 true m0 [(0, .ref (Γ.1 0 0)), (1, .int a1), (2, .int b2)] [] 12 (fX7_takes_b12 a1 n m0 b2) := by
  induction n with
  | zero => intros; exact k_none
  | succ n ih =>
    intro m0 b2
    unfold fX7_takes_b12
    refine k_aload_n C 0 dX7_takes_12 rfl rfl (pc' := 13) rfl ?_
    refine k_getf C 7 (c3 Γ m0 0 (e_model Γ (m0 0))) (v_0 (by decide)) flX7_174 (v := .int (m0 0 7)) rfl dX7_takes_13 (pc' := 16) rfl ?_
    refine k_aload_n C 0 dX7_takes_16 rfl rfl (pc' := 17) rfl ?_
    refine k_getf C 6 (c3 Γ m0 0 (e_model Γ (m0 0))) (v_0 (by decide)) flX7_171 (v := .int (m0 0 6)) rfl dX7_takes_17 (pc' := 20) rfl ?_
    refine k_ic_ge C (tgt := 93) dX7_takes_20 (by decide) (pc' := 23) rfl (fun h4 => ?_) (fun h4 => ?_)
    · refine k_sub [0, 2] rfl ?_
      exact sX7_takes_b93 hL C hr a1 m0 b2
    · refine k_aload_n C 0 dX7_takes_23 rfl rfl (pc' := 24) rfl ?_
      refine k_getf C 7 (c3 Γ m0 0 (e_model Γ (m0 0))) (v_0 (by decide)) flX7_174 (v := .int (m0 0 7)) rfl dX7_takes_24 (pc' := 27) rfl ?_
      refine k_iload_n C 2 dX7_takes_27 rfl rfl (pc' := 28) rfl ?_
      refine k_iconst C (v := 3) dX7_takes_28 (by decide) (pc' := 29) rfl ?_
      refine k_iadd C dX7_takes_29 (pc' := 30) rfl ?_
      refine k_ic_ge C (tgt := 93) dX7_takes_30 (by decide) (pc' := 33) rfl (fun h6 => ?_) (fun h6 => ?_)
      · refine k_sub [0, 2] rfl ?_
        exact sX7_takes_b93 hL C hr a1 m0 b2
      · refine k_aload_n C 0 dX7_takes_33 rfl rfl (pc' := 34) rfl ?_
        refine k_getf C 5 (c3 Γ m0 0 (e_model Γ (m0 0))) (v_0 (by decide)) flX7_22 (v := .ref (Γ.1 0 5)) rfl dX7_takes_34 (pc' := 37) rfl ?_
        refine k_aload_n C 0 dX7_takes_37 rfl rfl (pc' := 38) rfl ?_
        refine k_getf C 7 (c3 Γ m0 0 (e_model Γ (m0 0))) (v_0 (by decide)) flX7_174 (v := .int (m0 0 7)) rfl dX7_takes_38 (pc' := 41) rfl ?_
        refine k_cald C (c3 Γ m0 5 (e_mtext Γ (m0 5))) (v_0 (by decide)) dX7_takes_41 (pc' := 42) rfl (fun h7 => ?_)
        refine k_bipush C (v := 48) dX7_takes_42 (by decide) (pc' := 44) rfl ?_
        refine k_bipush C (v := 57) dX7_takes_44 (by decide) (pc' := 46) rfl ?_
        refine k_callSi C (rest := []) (qX7_in l Γ (K3 Γ) m0 (m0 5 (m0 0 7).toNatClampNeg) 48 57) mwX7_in swX7_in mlX7_29 (k_rm_of (by decide) (by decide)) rfl rfl (Nat.le_of_ble_eq_true rfl) dX7_takes_46 (pc' := 49) rfl (fun r8 m9 => ?_)
        refine k_if_eq C (tgt := 93) dX7_takes_49 (by decide) (pc' := 52) rfl (fun h10 => ?_) (fun h10 => ?_)
        · refine k_sub [0, 2] rfl ?_
          exact sX7_takes_b93 hL C hr a1 m9 b2
        · refine k_aload_n C 0 dX7_takes_52 rfl rfl (pc' := 53) rfl ?_
          refine k_getf C 9 (c3 Γ m9 0 (e_model Γ (m9 0))) (v_0 (by decide)) flX7_26 (v := .ref (Γ.1 0 6)) rfl dX7_takes_53 (pc' := 56) rfl ?_
          refine k_iload_n C 1 dX7_takes_56 rfl rfl (pc' := 57) rfl ?_
          refine k_bipush C (v := 10) dX7_takes_57 (by decide) (pc' := 59) rfl ?_
          refine k_aload_n C 0 dX7_takes_59 rfl rfl (pc' := 60) rfl ?_
          refine k_getf C 9 (c3 Γ m9 0 (e_model Γ (m9 0))) (v_0 (by decide)) flX7_26 (v := .ref (Γ.1 0 6)) rfl dX7_takes_60 (pc' := 63) rfl ?_
          refine k_iload_n C 1 dX7_takes_63 rfl rfl (pc' := 64) rfl ?_
          refine k_iald C (c3 Γ m9 6 (e_got Γ (m9 6))) (v_0 (by decide)) dX7_takes_64 (pc' := 65) rfl (fun h11 => ?_)
          refine k_imul C dX7_takes_65 (pc' := 66) rfl ?_
          refine k_aload_n C 0 dX7_takes_66 rfl rfl (pc' := 67) rfl ?_
          refine k_getf C 5 (c3 Γ m9 0 (e_model Γ (m9 0))) (v_0 (by decide)) flX7_22 (v := .ref (Γ.1 0 5)) rfl dX7_takes_67 (pc' := 70) rfl ?_
          refine k_aload_n C 0 dX7_takes_70 rfl rfl (pc' := 71) rfl ?_
          refine k_getf C 7 (c3 Γ m9 0 (e_model Γ (m9 0))) (v_0 (by decide)) flX7_174 (v := .int (m9 0 7)) rfl dX7_takes_71 (pc' := 74) rfl ?_
          refine k_cald C (c3 Γ m9 5 (e_mtext Γ (m9 5))) (v_0 (by decide)) dX7_takes_74 (pc' := 75) rfl (fun h12 => ?_)
          refine k_iadd C dX7_takes_75 (pc' := 76) rfl ?_
          refine k_bipush C (v := 48) dX7_takes_76 (by decide) (pc' := 78) rfl ?_
          refine k_isub C dX7_takes_78 (pc' := 79) rfl ?_
          refine k_iast C hL.k3 (c3 Γ m9 6 (e_got Γ (m9 6))) (v_0 (by decide)) (s3 Γ m9 6 a1.toNatClampNeg (((10 * (m9 6 a1.toNatClampNeg)) + (m9 5 (m9 0 7).toNatClampNeg)) - 48) (e_got Γ _)) dX7_takes_79 (pc' := 80) rfl (fun h13 m14 => ?_)
          refine k_aload_n C 0 dX7_takes_80 rfl rfl (pc' := 81) rfl ?_
          refine k_dup C dX7_takes_81 rfl (pc' := 82) rfl ?_
          refine k_getf C 7 (c3 Γ m14 0 (e_model Γ (m14 0))) (v_0 (by decide)) flX7_174 (v := .int (m14 0 7)) rfl dX7_takes_82 (pc' := 85) rfl ?_
          refine k_iconst C (v := 1) dX7_takes_85 (by decide) (pc' := 86) rfl ?_
          refine k_iadd C dX7_takes_86 (pc' := 87) rfl ?_
          refine k_putf C hL.k3 7 (c3 Γ m14 0 (e_model Γ (m14 0))) (v_0 (by decide)) flX7_174 fpX7_7 (Nat.le_of_ble_eq_true rfl) (s3 Γ m14 0 7 ((m14 0 7) + 1) ((e_model Γ _).trans (congrArg (fun z => Sum.inr (7, z)) (f_model_7 Γ (m14 0) ((m14 0 7) + 1))))) dX7_takes_87 (pc' := 90) rfl (fun m15 => ?_)
          refine k_goto C (pc' := 12) dX7_takes_90 (by decide) ?_
          exact ih m15 b2
def fX7_takes (m0 : kM1) (a1 : Int32) : Option (Int32 × kM1) :=
  k_let (m0 0 7) fun v1 => if ¬ a1 < 0 ∧ a1.toNatClampNeg < 3 then k_let (mu m0 6 a1.toNatClampNeg 0) fun m3 => fX7_takes_b12 a1 kFu m3 v1 else none
set_option maxRecDepth 100000 in
set_option maxHeartbeats 4000000 in
theorem qX7_takes (l : Launch) (Γ : kG) (hL : k_Lay Γ 7) (m0 : kM1) (a1 : Int32) : CT l Γ (K3 Γ) yX7_takes cX7_takes 3 (some .boolean) (k_R 1) [.ref (Γ.1 0 0), .int a1] m0 (fX7_takes m0 a1) := by
  refine k_meth (own := RX7) (by decide) rfl (Nat.le_of_ble_eq_true rfl) (fun p e R s mid args below meth c C hr => ?_)
  show Sm Γ (K3 Γ) p l e R s mid args below meth c 3 true m0 [(0, .ref (Γ.1 0 0)), (1, .int a1)] [] 0 (fX7_takes m0 a1)
  unfold fX7_takes
  refine k_aload_n C 0 dX7_takes_0 rfl rfl (pc' := 1) rfl ?_
  refine k_getf C 7 (c3 Γ m0 0 (e_model Γ (m0 0))) (v_0 (by decide)) flX7_174 (v := .int (m0 0 7)) rfl dX7_takes_1 (pc' := 4) rfl ?_
  refine k_topi (fun v1 => ?_)
  refine k_istore_n C (lv' := [(2, .int v1), (0, .ref (Γ.1 0 0)), (1, .int a1)]) dX7_takes_4 rfl (by decide) rfl (pc' := 5) rfl ?_
  refine k_aload_n C 1 dX7_takes_5 rfl rfl (pc' := 6) rfl ?_
  refine k_getf C 9 (c3 Γ m0 0 (e_model Γ (m0 0))) (v_0 (by decide)) flX7_26 (v := .ref (Γ.1 0 6)) rfl dX7_takes_6 (pc' := 9) rfl ?_
  refine k_iload_n C 2 dX7_takes_9 rfl rfl (pc' := 10) rfl ?_
  refine k_iconst C (v := 0) dX7_takes_10 (by decide) (pc' := 11) rfl ?_
  refine k_iast C hL.k3 (c3 Γ m0 6 (e_got Γ (m0 6))) (v_0 (by decide)) (s3 Γ m0 6 a1.toNatClampNeg 0 (e_got Γ _)) dX7_takes_11 (pc' := 12) rfl (fun h2 m3 => ?_)
  refine k_sub [1, 2, 0] rfl ?_
  exact sX7_takes_b12 hL C hr a1 kFu m3 v1
def fX7_readsForm_b54 (a1 : Int32)  (m0 : kM1) (b2 : Int32) : Option (Int32 × kM1) :=
  if b2 = 0 then some (0, m0) else bd (fX7_passes m0 59) fun r4 m5 => if r4 = 0 then some (0, m5) else some (1, m5)
set_option maxRecDepth 100000 in
set_option maxHeartbeats 4000000 in
theorem sX7_readsForm_b54 {l : Launch} {Γ : kG} (hL : k_Lay Γ 7) {p : Program} {e : Env} {R : Room} {s : State} {mid : MethodId} {args : Array Value} {below : List Frame} {meth : Method} {c : Code} (C : k_C Γ p R s mid args meth c cX7_readsForm 4 RX7 (k_R 2)) (hr : meth.sig.returnType = (some .boolean)) (a1 : Int32)  (m0 : kM1) (b2 : Int32)  : Sm Γ (K3 Γ) p l e R s mid args below meth c 4 true m0 [(0, .ref (Γ.1 0 0)), (2, .int b2)] [] 54 (fX7_readsForm_b54 a1 m0 b2) := by
  unfold fX7_readsForm_b54
  refine k_iload_n C 1 dX7_readsForm_54 rfl rfl (pc' := 55) rfl ?_
  refine k_if_eq C (tgt := 71) dX7_readsForm_55 (by decide) (pc' := 58) rfl (fun h3 => ?_) (fun h3 => ?_)
  · refine k_iconst C (v := 0) dX7_readsForm_71 (by decide) (pc' := 72) rfl ?_
    exact k_retz C rfl hr (Or.inl rfl) dX7_readsForm_72
  · refine k_aload_n C 0 dX7_readsForm_58 rfl rfl (pc' := 59) rfl ?_
    refine k_bipush C (v := 59) dX7_readsForm_59 (by decide) (pc' := 61) rfl ?_
    refine k_callVi C (rest := []) (qX7_passes l Γ hL m0 59) mwX7_passes iwX7_passes mlX7_177 (k_rm_of (by decide) (by decide)) (c3 Γ m0 0 (e_model Γ (m0 0))) (v_0 (by decide)) rfl rfl rfl (Nat.le_of_ble_eq_true rfl) dX7_readsForm_61 (pc' := 64) rfl (fun r4 m5 => ?_)
    refine k_if_eq C (tgt := 71) dX7_readsForm_64 (by decide) (pc' := 67) rfl (fun h6 => ?_) (fun h6 => ?_)
    · refine k_iconst C (v := 0) dX7_readsForm_71 (by decide) (pc' := 72) rfl ?_
      exact k_retz C rfl hr (Or.inl rfl) dX7_readsForm_72
    · refine k_iconst C (v := 1) dX7_readsForm_67 (by decide) (pc' := 68) rfl ?_
      refine k_goto C (pc' := 72) dX7_readsForm_68 (by decide) ?_
      exact k_retz C rfl hr (Or.inr rfl) dX7_readsForm_72
def fX7_readsForm_b47 (a1 : Int32) (rec12 : kM1 → Int32 → Int32 → Option (Int32 × kM1)) (m0 : kM1) (b3 : Int32) (t0 : Int32) : Option (Int32 × kM1) :=
  k_let (b3 + 1) fun v12 => rec12 m0 t0 v12
set_option maxRecDepth 100000 in
set_option maxHeartbeats 4000000 in
theorem sX7_readsForm_b47 {l : Launch} {Γ : kG} (hL : k_Lay Γ 7) {p : Program} {e : Env} {R : Room} {s : State} {mid : MethodId} {args : Array Value} {below : List Frame} {meth : Method} {c : Code} (C : k_C Γ p R s mid args meth c cX7_readsForm 4 RX7 (k_R 2)) (hr : meth.sig.returnType = (some .boolean)) (a1 : Int32) (rec12 : kM1 → Int32 → Int32 → Option (Int32 × kM1)) (hrec12 : ∀ (m0 : kM1) (b2 : Int32) (b3 : Int32), Sm Γ (K3 Γ) p l e R s mid args below meth c 4 true m0 [(0, .ref (Γ.1 0 0)), (1, .int a1), (2, .int b2), (3, .int b3)] [] 12 (rec12 m0 b2 b3)) (m0 : kM1) (b3 : Int32) (t0 : Int32)  : Sm Γ (K3 Γ) p l e R s mid args below meth c 4 true m0 [(0, .ref (Γ.1 0 0)), (1, .int a1), (3, .int b3)] [.int t0] 47 (fX7_readsForm_b47 a1 rec12 m0 b3 t0) := by
  unfold fX7_readsForm_b47
  refine k_istore_n C (lv' := [(2, .int t0), (0, .ref (Γ.1 0 0)), (1, .int a1), (3, .int b3)]) dX7_readsForm_47 rfl (by decide) rfl (pc' := 48) rfl ?_
  refine k_iinc (v := 1) (q := 3) (lv' := [(2, .int t0), (0, .ref (Γ.1 0 0)), (1, .int a1)]) C dX7_readsForm_48 rfl (by decide) (by decide) (pc' := 51) rfl (fun _ => rfl) (fun v12 => ?_)
  refine k_goto C (pc' := 12) dX7_readsForm_51 (by decide) ?_
  refine k_sub [2, 3, 1, 0] rfl ?_
  exact hrec12 m0 t0 v12
def fX7_readsForm_b46 (a1 : Int32) (rec12 : kM1 → Int32 → Int32 → Option (Int32 × kM1)) (m0 : kM1) (b3 : Int32) : Option (Int32 × kM1) :=
  fX7_readsForm_b47 a1 rec12 m0 b3 0
set_option maxRecDepth 100000 in
set_option maxHeartbeats 4000000 in
theorem sX7_readsForm_b46 {l : Launch} {Γ : kG} (hL : k_Lay Γ 7) {p : Program} {e : Env} {R : Room} {s : State} {mid : MethodId} {args : Array Value} {below : List Frame} {meth : Method} {c : Code} (C : k_C Γ p R s mid args meth c cX7_readsForm 4 RX7 (k_R 2)) (hr : meth.sig.returnType = (some .boolean)) (a1 : Int32) (rec12 : kM1 → Int32 → Int32 → Option (Int32 × kM1)) (hrec12 : ∀ (m0 : kM1) (b2 : Int32) (b3 : Int32), Sm Γ (K3 Γ) p l e R s mid args below meth c 4 true m0 [(0, .ref (Γ.1 0 0)), (1, .int a1), (2, .int b2), (3, .int b3)] [] 12 (rec12 m0 b2 b3)) (m0 : kM1) (b3 : Int32)  : Sm Γ (K3 Γ) p l e R s mid args below meth c 4 true m0 [(0, .ref (Γ.1 0 0)), (1, .int a1), (3, .int b3)] [] 46 (fX7_readsForm_b46 a1 rec12 m0 b3) := by
  unfold fX7_readsForm_b46
  refine k_iconst C (v := 0) dX7_readsForm_46 (by decide) (pc' := 47) rfl ?_
  exact sX7_readsForm_b47 hL C hr a1 rec12 hrec12 m0 b3 0
def fX7_readsForm_b34 (a1 : Int32) (rec12 : kM1 → Int32 → Int32 → Option (Int32 × kM1)) (m0 : kM1) (b3 : Int32) : Option (Int32 × kM1) :=
  bd (fX7_takes m0 b3) fun r9 m10 => if r9 = 0 then fX7_readsForm_b46 a1 rec12 m10 b3 else fX7_readsForm_b47 a1 rec12 m10 b3 1
set_option maxRecDepth 100000 in
set_option maxHeartbeats 4000000 in
theorem sX7_readsForm_b34 {l : Launch} {Γ : kG} (hL : k_Lay Γ 7) {p : Program} {e : Env} {R : Room} {s : State} {mid : MethodId} {args : Array Value} {below : List Frame} {meth : Method} {c : Code} (C : k_C Γ p R s mid args meth c cX7_readsForm 4 RX7 (k_R 2)) (hr : meth.sig.returnType = (some .boolean)) (a1 : Int32) (rec12 : kM1 → Int32 → Int32 → Option (Int32 × kM1)) (hrec12 : ∀ (m0 : kM1) (b2 : Int32) (b3 : Int32), Sm Γ (K3 Γ) p l e R s mid args below meth c 4 true m0 [(0, .ref (Γ.1 0 0)), (1, .int a1), (2, .int b2), (3, .int b3)] [] 12 (rec12 m0 b2 b3)) (m0 : kM1) (b3 : Int32)  : Sm Γ (K3 Γ) p l e R s mid args below meth c 4 true m0 [(0, .ref (Γ.1 0 0)), (1, .int a1), (3, .int b3)] [] 34 (fX7_readsForm_b34 a1 rec12 m0 b3) := by
  unfold fX7_readsForm_b34
  refine k_aload_n C 0 dX7_readsForm_34 rfl rfl (pc' := 35) rfl ?_
  refine k_iload_n C 2 dX7_readsForm_35 rfl rfl (pc' := 36) rfl ?_
  refine k_callVi C (rest := []) (qX7_takes l Γ hL m0 b3) mwX7_takes iwX7_takes mlX7_181 (k_rm_of (by decide) (by decide)) (c3 Γ m0 0 (e_model Γ (m0 0))) (v_0 (by decide)) rfl rfl rfl (Nat.le_of_ble_eq_true rfl) dX7_readsForm_36 (pc' := 39) rfl (fun r9 m10 => ?_)
  refine k_if_eq C (tgt := 46) dX7_readsForm_39 (by decide) (pc' := 42) rfl (fun h11 => ?_) (fun h11 => ?_)
  · exact sX7_readsForm_b46 hL C hr a1 rec12 hrec12 m10 b3
  · refine k_iconst C (v := 1) dX7_readsForm_42 (by decide) (pc' := 43) rfl ?_
    refine k_goto C (pc' := 47) dX7_readsForm_43 (by decide) ?_
    exact sX7_readsForm_b47 hL C hr a1 rec12 hrec12 m10 b3 1
def fX7_readsForm_b12 (a1 : Int32) : Nat → kM1 → Int32 → Int32 → Option (Int32 × kM1)
  | 0, _, _, _ => none
  | n + 1, m0, b2, b3 =>
  if a1 ≤ b3 then fX7_readsForm_b54 a1 m0 b2 else if b2 = 0 then fX7_readsForm_b54 a1 m0 b2 else if b3 = 0 then fX7_readsForm_b34 a1 (fX7_readsForm_b12 a1 n) m0 b3 else bd (fX7_passes m0 44) fun r13 m14 => if r13 = 0 then fX7_readsForm_b46 a1 (fX7_readsForm_b12 a1 n) m14 b3 else fX7_readsForm_b34 a1 (fX7_readsForm_b12 a1 n) m14 b3
set_option maxRecDepth 100000 in
set_option maxHeartbeats 4000000 in
theorem sX7_readsForm_b12 {l : Launch} {Γ : kG} (hL : k_Lay Γ 7) {p : Program} {e : Env} {R : Room} {s : State} {mid : MethodId} {args : Array Value} {below : List Frame} {meth : Method} {c : Code} (C : k_C Γ p R s mid args meth c cX7_readsForm 4 RX7 (k_R 2)) (hr : meth.sig.returnType = (some .boolean)) (a1 : Int32)  (n : Nat) : ∀ (m0 : kM1) (b2 : Int32) (b3 : Int32), Sm Γ (K3 Γ) p l e R s mid args below meth c 4 true m0 [(0, .ref (Γ.1 0 0)), (1, .int a1), (2, .int b2), (3, .int b3)] [] 12 (fX7_readsForm_b12 a1 n m0 b2 b3) := by
  induction n with
  | zero => intros; exact k_none
  | succ n ih =>
    intro m0 b2 b3
    unfold fX7_readsForm_b12
    refine k_iload_n C 3 dX7_readsForm_12 rfl rfl (pc' := 13) rfl ?_
    refine k_iload_n C 1 dX7_readsForm_13 rfl rfl (pc' := 14) rfl ?_
    refine k_ic_ge C (tgt := 54) dX7_readsForm_14 (by decide) (pc' := 17) rfl (fun h2 => ?_) (fun h2 => ?_)
    · refine k_sub [0, 2] rfl ?_
      exact sX7_readsForm_b54 hL C hr a1 m0 b2
    · refine k_iload_n C 2 dX7_readsForm_17 rfl rfl (pc' := 18) rfl ?_
      refine k_if_eq C (tgt := 54) dX7_readsForm_18 (by decide) (pc' := 21) rfl (fun h7 => ?_) (fun h7 => ?_)
      · refine k_sub [0, 2] rfl ?_
        exact sX7_readsForm_b54 hL C hr a1 m0 b2
      · refine k_iload_n C 3 dX7_readsForm_21 rfl rfl (pc' := 22) rfl ?_
        refine k_if_eq C (tgt := 34) dX7_readsForm_22 (by decide) (pc' := 25) rfl (fun h8 => ?_) (fun h8 => ?_)
        · refine k_sub [0, 1, 3] rfl ?_
          exact sX7_readsForm_b34 hL C hr a1 (fX7_readsForm_b12 a1 n) ih m0 b3
        · refine k_aload_n C 0 dX7_readsForm_25 rfl rfl (pc' := 26) rfl ?_
          refine k_bipush C (v := 44) dX7_readsForm_26 (by decide) (pc' := 28) rfl ?_
          refine k_callVi C (rest := []) (qX7_passes l Γ hL m0 44) mwX7_passes iwX7_passes mlX7_177 (k_rm_of (by decide) (by decide)) (c3 Γ m0 0 (e_model Γ (m0 0))) (v_0 (by decide)) rfl rfl rfl (Nat.le_of_ble_eq_true rfl) dX7_readsForm_28 (pc' := 31) rfl (fun r13 m14 => ?_)
          refine k_if_eq C (tgt := 46) dX7_readsForm_31 (by decide) (pc' := 34) rfl (fun h15 => ?_) (fun h15 => ?_)
          · refine k_sub [0, 1, 3] rfl ?_
            exact sX7_readsForm_b46 hL C hr a1 (fX7_readsForm_b12 a1 n) ih m14 b3
          · refine k_sub [0, 1, 3] rfl ?_
            exact sX7_readsForm_b34 hL C hr a1 (fX7_readsForm_b12 a1 n) ih m14 b3
def fX7_readsForm_b9 (a1 : Int32)  (m0 : kM1) (t0 : Int32) : Option (Int32 × kM1) :=
  fX7_readsForm_b12 a1 kFu m0 t0 0
set_option maxRecDepth 100000 in
set_option maxHeartbeats 4000000 in
theorem sX7_readsForm_b9 {l : Launch} {Γ : kG} (hL : k_Lay Γ 7) {p : Program} {e : Env} {R : Room} {s : State} {mid : MethodId} {args : Array Value} {below : List Frame} {meth : Method} {c : Code} (C : k_C Γ p R s mid args meth c cX7_readsForm 4 RX7 (k_R 2)) (hr : meth.sig.returnType = (some .boolean)) (a1 : Int32)  (m0 : kM1) (t0 : Int32)  : Sm Γ (K3 Γ) p l e R s mid args below meth c 4 true m0 [(0, .ref (Γ.1 0 0)), (1, .int a1)] [.int t0] 9 (fX7_readsForm_b9 a1 m0 t0) := by
  unfold fX7_readsForm_b9
  refine k_istore_n C (lv' := [(2, .int t0), (0, .ref (Γ.1 0 0)), (1, .int a1)]) dX7_readsForm_9 rfl (by decide) rfl (pc' := 10) rfl ?_
  refine k_iconst C (v := 0) dX7_readsForm_10 (by decide) (pc' := 11) rfl ?_
  refine k_istore_n C (lv' := [(3, .int 0), (2, .int t0), (0, .ref (Γ.1 0 0)), (1, .int a1)]) dX7_readsForm_11 rfl (by decide) rfl (pc' := 12) rfl ?_
  refine k_sub [2, 3, 1, 0] rfl ?_
  exact sX7_readsForm_b12 hL C hr a1 kFu m0 t0 0
def fX7_readsForm (m0 : kM1) (a1 : Int32) : Option (Int32 × kM1) :=
  if a1 ≤ 0 then fX7_readsForm_b9 a1 m0 0 else fX7_readsForm_b9 a1 m0 1
set_option maxRecDepth 100000 in
set_option maxHeartbeats 4000000 in
theorem qX7_readsForm (l : Launch) (Γ : kG) (hL : k_Lay Γ 7) (m0 : kM1) (a1 : Int32) : CT l Γ (K3 Γ) yX7_readsForm cX7_readsForm 4 (some .boolean) (k_R 2) [.ref (Γ.1 0 0), .int a1] m0 (fX7_readsForm m0 a1) := by
  refine k_meth (own := RX7) (by decide) rfl (Nat.le_of_ble_eq_true rfl) (fun p e R s mid args below meth c C hr => ?_)
  show Sm Γ (K3 Γ) p l e R s mid args below meth c 4 true m0 [(0, .ref (Γ.1 0 0)), (1, .int a1)] [] 0 (fX7_readsForm m0 a1)
  unfold fX7_readsForm
  refine k_iload_n C 1 dX7_readsForm_0 rfl rfl (pc' := 1) rfl ?_
  refine k_if_le C (tgt := 8) dX7_readsForm_1 (by decide) (pc' := 4) rfl (fun h1 => ?_) (fun h1 => ?_)
  · refine k_iconst C (v := 0) dX7_readsForm_8 (by decide) (pc' := 9) rfl ?_
    exact sX7_readsForm_b9 hL C hr a1 m0 0
  · refine k_iconst C (v := 1) dX7_readsForm_4 (by decide) (pc' := 5) rfl ?_
    refine k_goto C (pc' := 9) dX7_readsForm_5 (by decide) ?_
    exact sX7_readsForm_b9 hL C hr a1 m0 1
def fX7_does (m0 : kM1) (a1 : Int32) : Option (Int32 × kM1) :=
  if a1 = 98 then bd (fX7_brings m0 (m0 6 0) (m0 6 1) (m0 6 2)) fun r5 m6 => some (r5, m6) else if a1 = 102 then bd (fX7_fetches m0 (m0 6 0)) fun r9 m10 => some (r9, m10) else if a1 = 112 then bd (fX7_pledges m0 (m0 6 0) (m0 6 1)) fun r14 m15 => some (r14, m15) else if a1 = 114 then bd (fX7_redeems m0 (m0 6 0)) fun r18 m19 => some (r18, m19) else bd (fX7_gates m0 (m0 6 0)) fun r21 m22 => some (r21, m22)
set_option maxRecDepth 100000 in
set_option maxHeartbeats 4000000 in
theorem qX7_does (l : Launch) (Γ : kG) (hL : k_Lay Γ 7) (m0 : kM1) (a1 : Int32) : CT l Γ (K3 Γ) yX7_does cX7_does 2 (some .int) (k_R 5) [.ref (Γ.1 0 0), .int a1] m0 (fX7_does m0 a1) := by
  refine k_meth (own := RX7) (by decide) rfl (Nat.le_of_ble_eq_true rfl) (fun p e R s mid args below meth c C hr => ?_)
  show Sm Γ (K3 Γ) p l e R s mid args below meth c 2 true m0 [(0, .ref (Γ.1 0 0)), (1, .int a1)] [] 0 (fX7_does m0 a1)
  unfold fX7_does
  refine k_iload_n C 1 dX7_does_0 rfl rfl (pc' := 1) rfl ?_
  refine k_ite (fun h1 => ?_) (fun h1 => ?_)
  · refine k_lsw C (off := 43) dX7_does_1 (by decide) (by rw [h1]; rfl) (pc' := 44) (by decide) ?_
    refine k_aload_n C 0 dX7_does_44 rfl rfl (pc' := 45) rfl ?_
    refine k_aload_n C 0 dX7_does_45 rfl rfl (pc' := 46) rfl ?_
    refine k_getf C 9 (c3 Γ m0 0 (e_model Γ (m0 0))) (v_0 (by decide)) flX7_26 (v := .ref (Γ.1 0 6)) rfl dX7_does_46 (pc' := 49) rfl ?_
    refine k_iconst C (v := 0) dX7_does_49 (by decide) (pc' := 50) rfl ?_
    refine k_ialdK C (n0 := 0) (c3 Γ m0 6 (e_got Γ (m0 6))) (v_0 (by decide)) (by decide) (by decide) dX7_does_50 (pc' := 51) rfl ?_
    refine k_aload_n C 0 dX7_does_51 rfl rfl (pc' := 52) rfl ?_
    refine k_getf C 9 (c3 Γ m0 0 (e_model Γ (m0 0))) (v_0 (by decide)) flX7_26 (v := .ref (Γ.1 0 6)) rfl dX7_does_52 (pc' := 55) rfl ?_
    refine k_iconst C (v := 1) dX7_does_55 (by decide) (pc' := 56) rfl ?_
    refine k_ialdK C (n0 := 1) (c3 Γ m0 6 (e_got Γ (m0 6))) (v_0 (by decide)) (by decide) (by decide) dX7_does_56 (pc' := 57) rfl ?_
    refine k_aload_n C 0 dX7_does_57 rfl rfl (pc' := 58) rfl ?_
    refine k_getf C 9 (c3 Γ m0 0 (e_model Γ (m0 0))) (v_0 (by decide)) flX7_26 (v := .ref (Γ.1 0 6)) rfl dX7_does_58 (pc' := 61) rfl ?_
    refine k_iconst C (v := 2) dX7_does_61 (by decide) (pc' := 62) rfl ?_
    refine k_ialdK C (n0 := 2) (c3 Γ m0 6 (e_got Γ (m0 6))) (v_0 (by decide)) (by decide) (by decide) dX7_does_62 (pc' := 63) rfl ?_
    refine k_callVi C (rest := []) (qX7_brings l Γ hL m0 (m0 6 0) (m0 6 1) (m0 6 2)) mwX7_brings iwX7_brings mlX7_134 (k_rm_of (by decide) (by decide)) (c3 Γ m0 0 (e_model Γ (m0 0))) (v_0 (by decide)) rfl rfl rfl (Nat.le_of_ble_eq_true rfl) dX7_does_63 (pc' := 66) rfl (fun r5 m6 => ?_)
    exact k_reti C rfl hr dX7_does_66
  refine k_ite (fun h7 => ?_) (fun h7 => ?_)
  · refine k_lsw C (off := 66) dX7_does_1 (by decide) (by rw [h7]; rfl) (pc' := 67) (by decide) ?_
    refine k_aload_n C 0 dX7_does_67 rfl rfl (pc' := 68) rfl ?_
    refine k_aload_n C 0 dX7_does_68 rfl rfl (pc' := 69) rfl ?_
    refine k_getf C 9 (c3 Γ m0 0 (e_model Γ (m0 0))) (v_0 (by decide)) flX7_26 (v := .ref (Γ.1 0 6)) rfl dX7_does_69 (pc' := 72) rfl ?_
    refine k_iconst C (v := 0) dX7_does_72 (by decide) (pc' := 73) rfl ?_
    refine k_ialdK C (n0 := 0) (c3 Γ m0 6 (e_got Γ (m0 6))) (v_0 (by decide)) (by decide) (by decide) dX7_does_73 (pc' := 74) rfl ?_
    refine k_callVi C (rest := []) (qX7_fetches l Γ hL m0 (m0 6 0)) mwX7_fetches iwX7_fetches mlX7_138 (k_rm_of (by decide) (by decide)) (c3 Γ m0 0 (e_model Γ (m0 0))) (v_0 (by decide)) rfl rfl rfl (Nat.le_of_ble_eq_true rfl) dX7_does_74 (pc' := 77) rfl (fun r9 m10 => ?_)
    exact k_reti C rfl hr dX7_does_77
  refine k_ite (fun h11 => ?_) (fun h11 => ?_)
  · refine k_lsw C (off := 77) dX7_does_1 (by decide) (by rw [h11]; rfl) (pc' := 78) (by decide) ?_
    refine k_aload_n C 0 dX7_does_78 rfl rfl (pc' := 79) rfl ?_
    refine k_aload_n C 0 dX7_does_79 rfl rfl (pc' := 80) rfl ?_
    refine k_getf C 9 (c3 Γ m0 0 (e_model Γ (m0 0))) (v_0 (by decide)) flX7_26 (v := .ref (Γ.1 0 6)) rfl dX7_does_80 (pc' := 83) rfl ?_
    refine k_iconst C (v := 0) dX7_does_83 (by decide) (pc' := 84) rfl ?_
    refine k_ialdK C (n0 := 0) (c3 Γ m0 6 (e_got Γ (m0 6))) (v_0 (by decide)) (by decide) (by decide) dX7_does_84 (pc' := 85) rfl ?_
    refine k_aload_n C 0 dX7_does_85 rfl rfl (pc' := 86) rfl ?_
    refine k_getf C 9 (c3 Γ m0 0 (e_model Γ (m0 0))) (v_0 (by decide)) flX7_26 (v := .ref (Γ.1 0 6)) rfl dX7_does_86 (pc' := 89) rfl ?_
    refine k_iconst C (v := 1) dX7_does_89 (by decide) (pc' := 90) rfl ?_
    refine k_ialdK C (n0 := 1) (c3 Γ m0 6 (e_got Γ (m0 6))) (v_0 (by decide)) (by decide) (by decide) dX7_does_90 (pc' := 91) rfl ?_
    refine k_callVi C (rest := []) (qX7_pledges l Γ hL m0 (m0 6 0) (m0 6 1)) mwX7_pledges iwX7_pledges mlX7_153 (k_rm_of (by decide) (by decide)) (c3 Γ m0 0 (e_model Γ (m0 0))) (v_0 (by decide)) rfl rfl rfl (Nat.le_of_ble_eq_true rfl) dX7_does_91 (pc' := 94) rfl (fun r14 m15 => ?_)
    exact k_reti C rfl hr dX7_does_94
  refine k_ite (fun h16 => ?_) (fun h16 => ?_)
  · refine k_lsw C (off := 94) dX7_does_1 (by decide) (by rw [h16]; rfl) (pc' := 95) (by decide) ?_
    refine k_aload_n C 0 dX7_does_95 rfl rfl (pc' := 96) rfl ?_
    refine k_aload_n C 0 dX7_does_96 rfl rfl (pc' := 97) rfl ?_
    refine k_getf C 9 (c3 Γ m0 0 (e_model Γ (m0 0))) (v_0 (by decide)) flX7_26 (v := .ref (Γ.1 0 6)) rfl dX7_does_97 (pc' := 100) rfl ?_
    refine k_iconst C (v := 0) dX7_does_100 (by decide) (pc' := 101) rfl ?_
    refine k_ialdK C (n0 := 0) (c3 Γ m0 6 (e_got Γ (m0 6))) (v_0 (by decide)) (by decide) (by decide) dX7_does_101 (pc' := 102) rfl ?_
    refine k_callVi C (rest := []) (qX7_redeems l Γ hL m0 (m0 6 0)) mwX7_redeems iwX7_redeems mlX7_156 (k_rm_of (by decide) (by decide)) (c3 Γ m0 0 (e_model Γ (m0 0))) (v_0 (by decide)) rfl rfl rfl (Nat.le_of_ble_eq_true rfl) dX7_does_102 (pc' := 105) rfl (fun r18 m19 => ?_)
    exact k_reti C rfl hr dX7_does_105
  refine k_lsw C (off := 105) dX7_does_1 (by decide) ((lv_osw h1 (by decide)).trans ((lv_osw h7 (by decide)).trans ((lv_osw h11 (by decide)).trans ((lv_osw h16 (by decide)).trans rfl)))) (pc' := 106) (by decide) ?_
  refine k_aload_n C 0 dX7_does_106 rfl rfl (pc' := 107) rfl ?_
  refine k_aload_n C 0 dX7_does_107 rfl rfl (pc' := 108) rfl ?_
  refine k_getf C 9 (c3 Γ m0 0 (e_model Γ (m0 0))) (v_0 (by decide)) flX7_26 (v := .ref (Γ.1 0 6)) rfl dX7_does_108 (pc' := 111) rfl ?_
  refine k_iconst C (v := 0) dX7_does_111 (by decide) (pc' := 112) rfl ?_
  refine k_ialdK C (n0 := 0) (c3 Γ m0 6 (e_got Γ (m0 6))) (v_0 (by decide)) (by decide) (by decide) dX7_does_112 (pc' := 113) rfl ?_
  refine k_callVi C (rest := []) (qX7_gates l Γ hL m0 (m0 6 0)) mwX7_gates iwX7_gates mlX7_130 (k_rm_of (by decide) (by decide)) (c3 Γ m0 0 (e_model Γ (m0 0))) (v_0 (by decide)) rfl rfl rfl (Nat.le_of_ble_eq_true rfl) dX7_does_113 (pc' := 116) rfl (fun r21 m22 => ?_)
  exact k_reti C rfl hr dX7_does_116
def fX7_doesNext_b92   (m0 : kM1) (b1 : Int32) (t0 : Int32) : Option (Int32 × kM1) :=
  if t0 = 0 then some (2, m0) else bd (fX7_does m0 b1) fun r11 m12 => if (-1000001) < r11 then some (0, m12) else some (3, m12)
set_option maxRecDepth 100000 in
set_option maxHeartbeats 4000000 in
theorem sX7_doesNext_b92 {l : Launch} {Γ : kG} (hL : k_Lay Γ 7) {p : Program} {e : Env} {R : Room} {s : State} {mid : MethodId} {args : Array Value} {below : List Frame} {meth : Method} {c : Code} (C : k_C Γ p R s mid args meth c cX7_doesNext 3 RX7 (k_R 6)) (hr : meth.sig.returnType = (some .int))  (m0 : kM1) (b1 : Int32) (t0 : Int32)  : Sm Γ (K3 Γ) p l e R s mid args below meth c 3 true m0 [(0, .ref (Γ.1 0 0)), (1, .int b1)] [.int t0] 92 (fX7_doesNext_b92 m0 b1 t0) := by
  unfold fX7_doesNext_b92
  refine k_istore_n C (lv' := [(2, .int t0), (0, .ref (Γ.1 0 0)), (1, .int b1)]) dX7_doesNext_92 rfl (by decide) rfl (pc' := 93) rfl ?_
  refine k_iload_n C 0 dX7_doesNext_93 rfl rfl (pc' := 94) rfl ?_
  refine k_if_ne C (tgt := 101) dX7_doesNext_94 (by decide) (pc' := 97) rfl (fun h10 => ?_) (fun h10 => ?_)
  · refine k_aload_n C 1 dX7_doesNext_101 rfl rfl (pc' := 102) rfl ?_
    refine k_iload_n C 2 dX7_doesNext_102 rfl rfl (pc' := 103) rfl ?_
    refine k_callVi C (rest := []) (qX7_does l Γ hL m0 b1) mwX7_does iwX7_does mlX7_191 (k_rm_of (by decide) (by decide)) (c3 Γ m0 0 (e_model Γ (m0 0))) (v_0 (by decide)) rfl rfl rfl (Nat.le_of_ble_eq_true rfl) dX7_doesNext_103 (pc' := 106) rfl (fun r11 m12 => ?_)
    refine k_ldc C (v := (-1000001)) dX7_doesNext_106 cnX7_33 (pc' := 108) rfl ?_
    refine k_ic_gt C (tgt := 115) dX7_doesNext_108 (by decide) (pc' := 111) rfl (fun h13 => ?_) (fun h13 => ?_)
    · refine k_iconst C (v := 0) dX7_doesNext_115 (by decide) (pc' := 116) rfl ?_
      exact k_reti C rfl hr dX7_doesNext_116
    · refine k_iconst C (v := 3) dX7_doesNext_111 (by decide) (pc' := 112) rfl ?_
      refine k_goto C (pc' := 116) dX7_doesNext_112 (by decide) ?_
      exact k_reti C rfl hr dX7_doesNext_116
  · refine k_iconst C (v := 2) dX7_doesNext_97 (by decide) (pc' := 98) rfl ?_
    refine k_goto C (pc' := 116) dX7_doesNext_98 (by decide) ?_
    exact k_reti C rfl hr dX7_doesNext_116
def fX7_doesNext_b87   (m0 : kM1) (b1 : Int32) : Option (Int32 × kM1) :=
  fX7_doesNext_b92 m0 b1 1
set_option maxRecDepth 100000 in
set_option maxHeartbeats 4000000 in
theorem sX7_doesNext_b87 {l : Launch} {Γ : kG} (hL : k_Lay Γ 7) {p : Program} {e : Env} {R : Room} {s : State} {mid : MethodId} {args : Array Value} {below : List Frame} {meth : Method} {c : Code} (C : k_C Γ p R s mid args meth c cX7_doesNext 3 RX7 (k_R 6)) (hr : meth.sig.returnType = (some .int))  (m0 : kM1) (b1 : Int32)  : Sm Γ (K3 Γ) p l e R s mid args below meth c 3 true m0 [(0, .ref (Γ.1 0 0)), (1, .int b1)] [] 87 (fX7_doesNext_b87 m0 b1) := by
  unfold fX7_doesNext_b87
  refine k_iconst C (v := 1) dX7_doesNext_87 (by decide) (pc' := 88) rfl ?_
  refine k_goto C (pc' := 92) dX7_doesNext_88 (by decide) ?_
  exact sX7_doesNext_b92 hL C hr m0 b1 1
def fX7_doesNext_b91   (m0 : kM1) (b1 : Int32) : Option (Int32 × kM1) :=
  fX7_doesNext_b92 m0 b1 0
set_option maxRecDepth 100000 in
set_option maxHeartbeats 4000000 in
theorem sX7_doesNext_b91 {l : Launch} {Γ : kG} (hL : k_Lay Γ 7) {p : Program} {e : Env} {R : Room} {s : State} {mid : MethodId} {args : Array Value} {below : List Frame} {meth : Method} {c : Code} (C : k_C Γ p R s mid args meth c cX7_doesNext 3 RX7 (k_R 6)) (hr : meth.sig.returnType = (some .int))  (m0 : kM1) (b1 : Int32)  : Sm Γ (K3 Γ) p l e R s mid args below meth c 3 true m0 [(0, .ref (Γ.1 0 0)), (1, .int b1)] [] 91 (fX7_doesNext_b91 m0 b1) := by
  unfold fX7_doesNext_b91
  refine k_iconst C (v := 0) dX7_doesNext_91 (by decide) (pc' := 92) rfl ?_
  exact sX7_doesNext_b92 hL C hr m0 b1 0
def fX7_doesNext (m0 : kM1) : Option (Int32 × kM1) :=
  if ¬ (m0 0 7) < 0 ∧ (m0 0 7).toNatClampNeg < 60 then k_let (m0 5 (m0 0 7).toNatClampNeg) fun v2 => k_let (mu m0 0 7 ((m0 0 7) + 1)) fun m3 => bd (fX7_numbers m3 v2) fun r4 m5 => bd (fX7_readsForm m5 r4) fun r6 m7 => if r6 = 0 then some (1, m7) else if v2 = 103 then fX7_doesNext_b87 m7 v2 else if v2 = 98 then bd (fX7_isFarmer m7 (m7 6 0)) fun r20 m21 => if r20 = 0 then fX7_doesNext_b91 m21 v2 else bd (fX7_isKind m21 (m21 6 1)) fun r24 m25 => if r24 = 0 then fX7_doesNext_b91 m25 v2 else fX7_doesNext_b87 m25 v2 else bd (fX7_isSack m7 (m7 6 0)) fun r16 m17 => if r16 = 0 then fX7_doesNext_b91 m17 v2 else fX7_doesNext_b87 m17 v2 else none
set_option maxRecDepth 100000 in
set_option maxHeartbeats 4000000 in
theorem qX7_doesNext (l : Launch) (Γ : kG) (hL : k_Lay Γ 7) (m0 : kM1) : CT l Γ (K3 Γ) yX7_doesNext cX7_doesNext 3 (some .int) (k_R 6) [.ref (Γ.1 0 0)] m0 (fX7_doesNext m0 ) := by
  refine k_meth (own := RX7) (by decide) rfl (Nat.le_of_ble_eq_true rfl) (fun p e R s mid args below meth c C hr => ?_)
  show Sm Γ (K3 Γ) p l e R s mid args below meth c 3 true m0 [(0, .ref (Γ.1 0 0))] [] 0 (fX7_doesNext m0 )
  unfold fX7_doesNext
  refine k_aload_n C 0 dX7_doesNext_0 rfl rfl (pc' := 1) rfl ?_
  refine k_getf C 5 (c3 Γ m0 0 (e_model Γ (m0 0))) (v_0 (by decide)) flX7_22 (v := .ref (Γ.1 0 5)) rfl dX7_doesNext_1 (pc' := 4) rfl ?_
  refine k_aload_n C 0 dX7_doesNext_4 rfl rfl (pc' := 5) rfl ?_
  refine k_getf C 7 (c3 Γ m0 0 (e_model Γ (m0 0))) (v_0 (by decide)) flX7_174 (v := .int (m0 0 7)) rfl dX7_doesNext_5 (pc' := 8) rfl ?_
  refine k_cald C (c3 Γ m0 5 (e_mtext Γ (m0 5))) (v_0 (by decide)) dX7_doesNext_8 (pc' := 9) rfl (fun h1 => ?_)
  refine k_topi (fun v2 => ?_)
  refine k_istore_n C (lv' := [(1, .int v2), (0, .ref (Γ.1 0 0))]) dX7_doesNext_9 rfl (by decide) rfl (pc' := 10) rfl ?_
  refine k_aload_n C 1 dX7_doesNext_10 rfl rfl (pc' := 11) rfl ?_
  refine k_dup C dX7_doesNext_11 rfl (pc' := 12) rfl ?_
  refine k_getf C 7 (c3 Γ m0 0 (e_model Γ (m0 0))) (v_0 (by decide)) flX7_174 (v := .int (m0 0 7)) rfl dX7_doesNext_12 (pc' := 15) rfl ?_
  refine k_iconst C (v := 1) dX7_doesNext_15 (by decide) (pc' := 16) rfl ?_
  refine k_iadd C dX7_doesNext_16 (pc' := 17) rfl ?_
  refine k_putf C hL.k3 7 (c3 Γ m0 0 (e_model Γ (m0 0))) (v_0 (by decide)) flX7_174 fpX7_7 (Nat.le_of_ble_eq_true rfl) (s3 Γ m0 0 7 ((m0 0 7) + 1) ((e_model Γ _).trans (congrArg (fun z => Sum.inr (7, z)) (f_model_7 Γ (m0 0) ((m0 0 7) + 1))))) dX7_doesNext_17 (pc' := 20) rfl (fun m3 => ?_)
  refine k_aload_n C 1 dX7_doesNext_20 rfl rfl (pc' := 21) rfl ?_
  refine k_iload_n C 0 dX7_doesNext_21 rfl rfl (pc' := 22) rfl ?_
  refine k_callSi C (rest := [.ref (Γ.1 0 0)]) (qX7_numbers l Γ (K3 Γ) m3 v2) mwX7_numbers swX7_numbers mlX7_184 (k_rm_of (by decide) (by decide)) rfl rfl (Nat.le_of_ble_eq_true rfl) dX7_doesNext_22 (pc' := 25) rfl (fun r4 m5 => ?_)
  refine k_callVi C (rest := []) (qX7_readsForm l Γ hL m5 r4) mwX7_readsForm iwX7_readsForm mlX7_188 (k_rm_of (by decide) (by decide)) (c3 Γ m5 0 (e_model Γ (m5 0))) (v_0 (by decide)) rfl rfl rfl (Nat.le_of_ble_eq_true rfl) dX7_doesNext_25 (pc' := 28) rfl (fun r6 m7 => ?_)
  refine k_if_ne C (tgt := 33) dX7_doesNext_28 (by decide) (pc' := 31) rfl (fun h8 => ?_) (fun h8 => ?_)
  · refine k_iload_n C 0 dX7_doesNext_33 rfl rfl (pc' := 34) rfl ?_
    refine k_bipush C (v := 103) dX7_doesNext_34 (by decide) (pc' := 36) rfl ?_
    refine k_ic_eq C (tgt := 87) dX7_doesNext_36 (by decide) (pc' := 39) rfl (fun h9 => ?_) (fun h9 => ?_)
    · refine k_sub [1, 0] rfl ?_
      exact sX7_doesNext_b87 hL C hr m7 v2
    · refine k_iload_n C 0 dX7_doesNext_39 rfl rfl (pc' := 40) rfl ?_
      refine k_bipush C (v := 98) dX7_doesNext_40 (by decide) (pc' := 42) rfl ?_
      refine k_ic_ne C (tgt := 74) dX7_doesNext_42 (by decide) (pc' := 45) rfl (fun h14 => ?_) (fun h14 => ?_)
      · refine k_aload_n C 1 dX7_doesNext_74 rfl rfl (pc' := 75) rfl ?_
        refine k_aload_n C 1 dX7_doesNext_75 rfl rfl (pc' := 76) rfl ?_
        refine k_getf C 9 (c3 Γ m7 0 (e_model Γ (m7 0))) (v_0 (by decide)) flX7_26 (v := .ref (Γ.1 0 6)) rfl dX7_doesNext_76 (pc' := 79) rfl ?_
        refine k_iconst C (v := 0) dX7_doesNext_79 (by decide) (pc' := 80) rfl ?_
        refine k_ialdK C (n0 := 0) (c3 Γ m7 6 (e_got Γ (m7 6))) (v_0 (by decide)) (by decide) (by decide) dX7_doesNext_80 (pc' := 81) rfl ?_
        refine k_callVi C (rest := []) (qX7_isSack l Γ hL m7 (m7 6 0)) mwX7_isSack iwX7_isSack mlX7_102 (k_rm_of (by decide) (by decide)) (c3 Γ m7 0 (e_model Γ (m7 0))) (v_0 (by decide)) rfl rfl rfl (Nat.le_of_ble_eq_true rfl) dX7_doesNext_81 (pc' := 84) rfl (fun r16 m17 => ?_)
        refine k_if_eq C (tgt := 91) dX7_doesNext_84 (by decide) (pc' := 87) rfl (fun h18 => ?_) (fun h18 => ?_)
        · refine k_sub [1, 0] rfl ?_
          exact sX7_doesNext_b91 hL C hr m17 v2
        · refine k_sub [1, 0] rfl ?_
          exact sX7_doesNext_b87 hL C hr m17 v2
      · refine k_aload_n C 1 dX7_doesNext_45 rfl rfl (pc' := 46) rfl ?_
        refine k_aload_n C 1 dX7_doesNext_46 rfl rfl (pc' := 47) rfl ?_
        refine k_getf C 9 (c3 Γ m7 0 (e_model Γ (m7 0))) (v_0 (by decide)) flX7_26 (v := .ref (Γ.1 0 6)) rfl dX7_doesNext_47 (pc' := 50) rfl ?_
        refine k_iconst C (v := 0) dX7_doesNext_50 (by decide) (pc' := 51) rfl ?_
        refine k_ialdK C (n0 := 0) (c3 Γ m7 6 (e_got Γ (m7 6))) (v_0 (by decide)) (by decide) (by decide) dX7_doesNext_51 (pc' := 52) rfl ?_
        refine k_callVi C (rest := []) (qX7_isFarmer l Γ hL m7 (m7 6 0)) mwX7_isFarmer iwX7_isFarmer mlX7_94 (k_rm_of (by decide) (by decide)) (c3 Γ m7 0 (e_model Γ (m7 0))) (v_0 (by decide)) rfl rfl rfl (Nat.le_of_ble_eq_true rfl) dX7_doesNext_52 (pc' := 55) rfl (fun r20 m21 => ?_)
        refine k_if_eq C (tgt := 91) dX7_doesNext_55 (by decide) (pc' := 58) rfl (fun h22 => ?_) (fun h22 => ?_)
        · refine k_sub [1, 0] rfl ?_
          exact sX7_doesNext_b91 hL C hr m21 v2
        · refine k_aload_n C 1 dX7_doesNext_58 rfl rfl (pc' := 59) rfl ?_
          refine k_aload_n C 1 dX7_doesNext_59 rfl rfl (pc' := 60) rfl ?_
          refine k_getf C 9 (c3 Γ m21 0 (e_model Γ (m21 0))) (v_0 (by decide)) flX7_26 (v := .ref (Γ.1 0 6)) rfl dX7_doesNext_60 (pc' := 63) rfl ?_
          refine k_iconst C (v := 1) dX7_doesNext_63 (by decide) (pc' := 64) rfl ?_
          refine k_ialdK C (n0 := 1) (c3 Γ m21 6 (e_got Γ (m21 6))) (v_0 (by decide)) (by decide) (by decide) dX7_doesNext_64 (pc' := 65) rfl ?_
          refine k_callVi C (rest := []) (qX7_isKind l Γ hL m21 (m21 6 1)) mwX7_isKind iwX7_isKind mlX7_98 (k_rm_of (by decide) (by decide)) (c3 Γ m21 0 (e_model Γ (m21 0))) (v_0 (by decide)) rfl rfl rfl (Nat.le_of_ble_eq_true rfl) dX7_doesNext_65 (pc' := 68) rfl (fun r24 m25 => ?_)
          refine k_if_eq C (tgt := 91) dX7_doesNext_68 (by decide) (pc' := 71) rfl (fun h26 => ?_) (fun h26 => ?_)
          · refine k_sub [1, 0] rfl ?_
            exact sX7_doesNext_b91 hL C hr m25 v2
          · refine k_goto C (pc' := 87) dX7_doesNext_71 (by decide) ?_
            refine k_sub [1, 0] rfl ?_
            exact sX7_doesNext_b87 hL C hr m25 v2
  · refine k_iconst C (v := 1) dX7_doesNext_31 (by decide) (pc' := 32) rfl ?_
    exact k_reti C rfl hr dX7_doesNext_32
def fX7_faulty_b58   (m0 : kM1) (b1 : Int32) : Option (Int32 × kM1) :=
  bd (fX7_restores m0) fun r5 m6 => some (b1, m6)
set_option maxRecDepth 100000 in
set_option maxHeartbeats 4000000 in
theorem sX7_faulty_b58 {l : Launch} {Γ : kG} (hL : k_Lay Γ 7) {p : Program} {e : Env} {R : Room} {s : State} {mid : MethodId} {args : Array Value} {below : List Frame} {meth : Method} {c : Code} (C : k_C Γ p R s mid args meth c cX7_faulty 3 RX7 (k_R 7)) (hr : meth.sig.returnType = (some .int))  (m0 : kM1) (b1 : Int32)  : Sm Γ (K3 Γ) p l e R s mid args below meth c 3 true m0 [(0, .ref (Γ.1 0 0)), (1, .int b1)] [] 58 (fX7_faulty_b58 m0 b1) := by
  unfold fX7_faulty_b58
  refine k_aload_n C 0 dX7_faulty_58 rfl rfl (pc' := 59) rfl ?_
  refine k_callVv C (rest := []) (qX7_restores l Γ hL m0) mwX7_restores iwX7_restores mlX7_168 (k_rm_of (by decide) (by decide)) (c3 Γ m0 0 (e_model Γ (m0 0))) (v_0 (by decide)) rfl rfl rfl (Nat.le_of_ble_eq_true rfl) dX7_faulty_59 (pc' := 62) rfl (fun r5 m6 => ?_)
  refine k_iload_n C 1 dX7_faulty_62 rfl rfl (pc' := 63) rfl ?_
  exact k_reti C rfl hr dX7_faulty_63
def fX7_faulty_b54  (rec12 : kM1 → Int32 → Option (Int32 × kM1)) (m0 : kM1) (t0 : Int32) : Option (Int32 × kM1) :=
  rec12 m0 t0
set_option maxRecDepth 100000 in
set_option maxHeartbeats 4000000 in
theorem sX7_faulty_b54 {l : Launch} {Γ : kG} (hL : k_Lay Γ 7) {p : Program} {e : Env} {R : Room} {s : State} {mid : MethodId} {args : Array Value} {below : List Frame} {meth : Method} {c : Code} (C : k_C Γ p R s mid args meth c cX7_faulty 3 RX7 (k_R 7)) (hr : meth.sig.returnType = (some .int)) (rec12 : kM1 → Int32 → Option (Int32 × kM1)) (hrec12 : ∀ (m0 : kM1) (b1 : Int32), Sm Γ (K3 Γ) p l e R s mid args below meth c 3 true m0 [(0, .ref (Γ.1 0 0)), (1, .int b1)] [] 12 (rec12 m0 b1)) (m0 : kM1) (t0 : Int32)  : Sm Γ (K3 Γ) p l e R s mid args below meth c 3 true m0 [(0, .ref (Γ.1 0 0))] [.int t0] 54 (fX7_faulty_b54 rec12 m0 t0) := by
  unfold fX7_faulty_b54
  refine k_istore_n C (lv' := [(1, .int t0), (0, .ref (Γ.1 0 0))]) dX7_faulty_54 rfl (by decide) rfl (pc' := 55) rfl ?_
  refine k_goto C (pc' := 12) dX7_faulty_55 (by decide) ?_
  refine k_sub [1, 0] rfl ?_
  exact hrec12 m0 t0
def fX7_faulty_b12 : Nat → kM1 → Int32 → Option (Int32 × kM1)
  | 0, _, _ => none
  | n + 1, m0, b1 =>
  if (m0 0 6) ≤ (m0 0 7) then fX7_faulty_b58 m0 b1 else if b1 = (-1000004) then k_let (m0 0 7) fun v8 => bd (fX7_doesNext m0) fun r9 m10 => k_let (mu m10 0 8 r9) fun m11 => if (m11 0 8) ≤ 0 then fX7_faulty_b54 (fX7_faulty_b12 n) m11 b1 else fX7_faulty_b54 (fX7_faulty_b12 n) m11 v8 else fX7_faulty_b58 m0 b1
set_option maxRecDepth 100000 in
set_option maxHeartbeats 4000000 in
theorem sX7_faulty_b12 {l : Launch} {Γ : kG} (hL : k_Lay Γ 7) {p : Program} {e : Env} {R : Room} {s : State} {mid : MethodId} {args : Array Value} {below : List Frame} {meth : Method} {c : Code} (C : k_C Γ p R s mid args meth c cX7_faulty 3 RX7 (k_R 7)) (hr : meth.sig.returnType = (some .int))  (n : Nat) : ∀ (m0 : kM1) (b1 : Int32), Sm Γ (K3 Γ) p l e R s mid args below meth c 3 true m0 [(0, .ref (Γ.1 0 0)), (1, .int b1)] [] 12 (fX7_faulty_b12 n m0 b1) := by
  induction n with
  | zero => intros; exact k_none
  | succ n ih =>
    intro m0 b1
    unfold fX7_faulty_b12
    refine k_aload_n C 0 dX7_faulty_12 rfl rfl (pc' := 13) rfl ?_
    refine k_getf C 7 (c3 Γ m0 0 (e_model Γ (m0 0))) (v_0 (by decide)) flX7_174 (v := .int (m0 0 7)) rfl dX7_faulty_13 (pc' := 16) rfl ?_
    refine k_aload_n C 0 dX7_faulty_16 rfl rfl (pc' := 17) rfl ?_
    refine k_getf C 6 (c3 Γ m0 0 (e_model Γ (m0 0))) (v_0 (by decide)) flX7_171 (v := .int (m0 0 6)) rfl dX7_faulty_17 (pc' := 20) rfl ?_
    refine k_ic_ge C (tgt := 58) dX7_faulty_20 (by decide) (pc' := 23) rfl (fun h4 => ?_) (fun h4 => ?_)
    · exact sX7_faulty_b58 hL C hr m0 b1
    · refine k_iload_n C 1 dX7_faulty_23 rfl rfl (pc' := 24) rfl ?_
      refine k_ldc C (v := (-1000004)) dX7_faulty_24 cnX7_151 (pc' := 26) rfl ?_
      refine k_ic_ne C (tgt := 58) dX7_faulty_26 (by decide) (pc' := 29) rfl (fun h7 => ?_) (fun h7 => ?_)
      · exact sX7_faulty_b58 hL C hr m0 b1
      · refine k_aload_n C 0 dX7_faulty_29 rfl rfl (pc' := 30) rfl ?_
        refine k_getf C 7 (c3 Γ m0 0 (e_model Γ (m0 0))) (v_0 (by decide)) flX7_174 (v := .int (m0 0 7)) rfl dX7_faulty_30 (pc' := 33) rfl ?_
        refine k_topi (fun v8 => ?_)
        refine k_istore_n C (lv' := [(2, .int v8), (0, .ref (Γ.1 0 0)), (1, .int b1)]) dX7_faulty_33 rfl (by decide) rfl (pc' := 34) rfl ?_
        refine k_aload_n C 1 dX7_faulty_34 rfl rfl (pc' := 35) rfl ?_
        refine k_aload_n C 1 dX7_faulty_35 rfl rfl (pc' := 36) rfl ?_
        refine k_callVi C (rest := [.ref (Γ.1 0 0)]) (qX7_doesNext l Γ hL m0) mwX7_doesNext iwX7_doesNext mlX7_194 (k_rm_of (by decide) (by decide)) (c3 Γ m0 0 (e_model Γ (m0 0))) (v_0 (by decide)) rfl rfl rfl (Nat.le_of_ble_eq_true rfl) dX7_faulty_36 (pc' := 39) rfl (fun r9 m10 => ?_)
        refine k_putf C hL.k3 8 (c3 Γ m10 0 (e_model Γ (m10 0))) (v_0 (by decide)) flX7_197 fpX7_8 (Nat.le_of_ble_eq_true rfl) (s3 Γ m10 0 8 r9 ((e_model Γ _).trans (congrArg (fun z => Sum.inr (7, z)) (f_model_8 Γ (m10 0) r9)))) dX7_faulty_39 (pc' := 42) rfl (fun m11 => ?_)
        refine k_aload_n C 1 dX7_faulty_42 rfl rfl (pc' := 43) rfl ?_
        refine k_getf C 8 (c3 Γ m11 0 (e_model Γ (m11 0))) (v_0 (by decide)) flX7_197 (v := .int (m11 0 8)) rfl dX7_faulty_43 (pc' := 46) rfl ?_
        refine k_if_le C (tgt := 53) dX7_faulty_46 (by decide) (pc' := 49) rfl (fun h12 => ?_) (fun h12 => ?_)
        · refine k_iload_n C 2 dX7_faulty_53 rfl rfl (pc' := 54) rfl ?_
          refine k_sub [1] rfl ?_
          exact sX7_faulty_b54 hL C hr (fX7_faulty_b12 n) ih m11 b1
        · refine k_iload_n C 0 dX7_faulty_49 rfl rfl (pc' := 50) rfl ?_
          refine k_goto C (pc' := 54) dX7_faulty_50 (by decide) ?_
          refine k_sub [1] rfl ?_
          exact sX7_faulty_b54 hL C hr (fX7_faulty_b12 n) ih m11 v8
def fX7_faulty (m0 : kM1) : Option (Int32 × kM1) :=
  bd (fX7_lays m0) fun r1 m2 => k_let (mu m2 0 7 0) fun m3 => fX7_faulty_b12 kFu m3 (-1000004)
set_option maxRecDepth 100000 in
set_option maxHeartbeats 4000000 in
theorem qX7_faulty (l : Launch) (Γ : kG) (hL : k_Lay Γ 7) (m0 : kM1) : CT l Γ (K3 Γ) yX7_faulty cX7_faulty 3 (some .int) (k_R 7) [.ref (Γ.1 0 0)] m0 (fX7_faulty m0 ) := by
  refine k_meth (own := RX7) (by decide) rfl (Nat.le_of_ble_eq_true rfl) (fun p e R s mid args below meth c C hr => ?_)
  show Sm Γ (K3 Γ) p l e R s mid args below meth c 3 true m0 [(0, .ref (Γ.1 0 0))] [] 0 (fX7_faulty m0 )
  unfold fX7_faulty
  refine k_aload_n C 0 dX7_faulty_0 rfl rfl (pc' := 1) rfl ?_
  refine k_callVv C (rest := []) (qX7_lays l Γ hL m0) mwX7_lays iwX7_lays mlX7_165 (k_rm_of (by decide) (by decide)) (c3 Γ m0 0 (e_model Γ (m0 0))) (v_0 (by decide)) rfl rfl rfl (Nat.le_of_ble_eq_true rfl) dX7_faulty_1 (pc' := 4) rfl (fun r1 m2 => ?_)
  refine k_ldc C (v := (-1000004)) dX7_faulty_4 cnX7_151 (pc' := 6) rfl ?_
  refine k_istore_n C (lv' := [(1, .int (-1000004)), (0, .ref (Γ.1 0 0))]) dX7_faulty_6 rfl (by decide) rfl (pc' := 7) rfl ?_
  refine k_aload_n C 1 dX7_faulty_7 rfl rfl (pc' := 8) rfl ?_
  refine k_iconst C (v := 0) dX7_faulty_8 (by decide) (pc' := 9) rfl ?_
  refine k_putf C hL.k3 7 (c3 Γ m2 0 (e_model Γ (m2 0))) (v_0 (by decide)) flX7_174 fpX7_7 (Nat.le_of_ble_eq_true rfl) (s3 Γ m2 0 7 0 ((e_model Γ _).trans (congrArg (fun z => Sum.inr (7, z)) (f_model_7 Γ (m2 0) 0)))) dX7_faulty_9 (pc' := 12) rfl (fun m3 => ?_)
  refine k_sub [1, 0] rfl ?_
  exact sX7_faulty_b12 hL C hr kFu m3 (-1000004)
