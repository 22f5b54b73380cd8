def fX7_grinds_b183   (m0 : kM1) (b3 : Int32) (t0 : Int32) : Option (Int32 × kM1) :=
  bd (fX7_of m0 b3 4) fun r35 m36 => bd (fX7_put m36 b3 4 (r35 + t0)) fun r37 m38 => k_let (mu m38 1 23 ((m38 1 23) + t0)) fun m41 => bd (fX7_grain m41 b3) fun r42 m43 => if r42 = 0 then bd (fX7_put m43 b3 3 2) fun r45 m46 => k_let (mu m46 1 24 (-1)) fun m48 => some (0, m48) else some (0, m43)
set_option maxRecDepth 100000 in
set_option maxHeartbeats 4000000 in
theorem sX7_grinds_b183 {l : Launch} {Γ : kG} (hL : k_Lay Γ 7) {p : Program} {e : Env} {R : Room} {s : State} {mid : MethodId} {args : Array Value} {below : List Frame} {meth : Method} {c : Code} (C : k_C Γ p R s mid args meth c cX7_grinds 5 RX7 (k_R 5)) (hr : meth.sig.returnType = none)  (m0 : kM1) (b3 : Int32) (t0 : Int32)  : Sm Γ (K3 Γ) p l e R s mid args below meth c 5 false m0 [(0, .ref (Γ.1 0 0)), (3, .int b3)] [.int t0] 183 (fX7_grinds_b183 m0 b3 t0) := by
  unfold fX7_grinds_b183
  refine k_istore C (lv' := [(4, .int t0), (0, .ref (Γ.1 0 0)), (3, .int b3)]) dX7_grinds_183 (by decide) rfl (pc' := 185) rfl ?_
  refine k_aload_n C 1 dX7_grinds_185 rfl rfl (pc' := 186) rfl ?_
  refine k_iload_n C 2 dX7_grinds_186 rfl rfl (pc' := 187) rfl ?_
  refine k_iconst C (v := 4) dX7_grinds_187 (by decide) (pc' := 188) rfl ?_
  refine k_aload_n C 1 dX7_grinds_188 rfl rfl (pc' := 189) rfl ?_
  refine k_iload_n C 2 dX7_grinds_189 rfl rfl (pc' := 190) rfl ?_
  refine k_iconst C (v := 4) dX7_grinds_190 (by decide) (pc' := 191) rfl ?_
  refine k_callVi C (rest := [.int 4, .int b3, .ref (Γ.1 0 0)]) (qX7_of l Γ hL m0 b3 4) mwX7_of iwX7_of mlX7_38 (k_rm_of (by decide) (by decide)) (c3 Γ m0 0 (e_model Γ (m0 0))) (v_0 (by decide)) rfl rfl rfl (Nat.le_of_ble_eq_true rfl) dX7_grinds_191 (pc' := 194) rfl (fun r35 m36 => ?_)
  refine k_iload C 0 dX7_grinds_194 rfl (pc' := 196) rfl ?_
  refine k_iadd C dX7_grinds_196 (pc' := 197) rfl ?_
  refine k_callVv C (rest := []) (qX7_put l Γ hL m36 b3 4 (r35 + t0)) mwX7_put iwX7_put mlX7_64 (k_rm_of (by decide) (by decide)) (c3 Γ m36 0 (e_model Γ (m36 0))) (v_0 (by decide)) rfl rfl rfl (Nat.le_of_ble_eq_true rfl) dX7_grinds_197 (pc' := 200) rfl (fun r37 m38 => ?_)
  refine k_aload_n C 1 dX7_grinds_200 rfl rfl (pc' := 201) rfl ?_
  refine k_getf C 0 (c3 Γ m38 0 (e_model Γ (m38 0))) (v_0 (by decide)) flX7_7 (v := .ref (Γ.1 0 1)) rfl dX7_grinds_201 (pc' := 204) rfl ?_
  refine k_bipush C (v := 23) dX7_grinds_204 (by decide) (pc' := 206) rfl ?_
  refine k_dup2 C dX7_grinds_206 rfl rfl (pc' := 207) rfl ?_
  refine k_ialdK C (n0 := 23) (c3 Γ m38 1 (e_d Γ (m38 1))) (v_0 (by decide)) (by decide) (by decide) dX7_grinds_207 (pc' := 208) rfl ?_
  refine k_iload C 0 dX7_grinds_208 rfl (pc' := 210) rfl ?_
  refine k_iadd C dX7_grinds_210 (pc' := 211) rfl ?_
  refine k_iastK C (n0 := 23) hL.k3 (c3 Γ m38 1 (e_d Γ (m38 1))) (v_0 (by decide)) (by decide) (by decide) (s3 Γ m38 1 23 ((m38 1 23) + t0) (e_d Γ _)) dX7_grinds_211 (pc' := 212) rfl (fun m41 => ?_)
  refine k_aload_n C 1 dX7_grinds_212 rfl rfl (pc' := 213) rfl ?_
  refine k_iload_n C 2 dX7_grinds_213 rfl rfl (pc' := 214) rfl ?_
  refine k_callVi C (rest := []) (qX7_grain l Γ hL m41 b3) mwX7_grain iwX7_grain mlX7_82 (k_rm_of (by decide) (by decide)) (c3 Γ m41 0 (e_model Γ (m41 0))) (v_0 (by decide)) rfl rfl rfl (Nat.le_of_ble_eq_true rfl) dX7_grinds_214 (pc' := 217) rfl (fun r42 m43 => ?_)
  refine k_if_ne C (tgt := 235) dX7_grinds_217 (by decide) (pc' := 220) rfl (fun h44 => ?_) (fun h44 => ?_)
  · exact k_retv C rfl hr dX7_grinds_235
  · refine k_aload_n C 1 dX7_grinds_220 rfl rfl (pc' := 221) rfl ?_
    refine k_iload_n C 2 dX7_grinds_221 rfl rfl (pc' := 222) rfl ?_
    refine k_iconst C (v := 3) dX7_grinds_222 (by decide) (pc' := 223) rfl ?_
    refine k_iconst C (v := 2) dX7_grinds_223 (by decide) (pc' := 224) rfl ?_
    refine k_callVv C (rest := []) (qX7_put l Γ hL m43 b3 3 2) mwX7_put iwX7_put mlX7_64 (k_rm_of (by decide) (by decide)) (c3 Γ m43 0 (e_model Γ (m43 0))) (v_0 (by decide)) rfl rfl rfl (Nat.le_of_ble_eq_true rfl) dX7_grinds_224 (pc' := 227) rfl (fun r45 m46 => ?_)
    refine k_aload_n C 1 dX7_grinds_227 rfl rfl (pc' := 228) rfl ?_
    refine k_getf C 0 (c3 Γ m46 0 (e_model Γ (m46 0))) (v_0 (by decide)) flX7_7 (v := .ref (Γ.1 0 1)) rfl dX7_grinds_228 (pc' := 231) rfl ?_
    refine k_bipush C (v := 24) dX7_grinds_231 (by decide) (pc' := 233) rfl ?_
    refine k_iconst C (v := (-1)) dX7_grinds_233 (by decide) (pc' := 234) rfl ?_
    refine k_iastK C (n0 := 24) hL.k3 (c3 Γ m46 1 (e_d Γ (m46 1))) (v_0 (by decide)) (by decide) (by decide) (s3 Γ m46 1 24 (-1) (e_d Γ _)) dX7_grinds_234 (pc' := 235) rfl (fun m48 => ?_)
    exact k_retv C rfl hr dX7_grinds_235
def fX7_grinds_b161   (m0 : kM1) (b3 : Int32) (t0 : Int32) : Option (Int32 × kM1) :=
  bd (fX7_grain m0 b3) fun r32 m33 => if t0 ≤ r32 then fX7_grinds_b183 m33 b3 t0 else bd (fX7_grain m33 b3) fun r49 m50 => fX7_grinds_b183 m50 b3 r49
set_option maxRecDepth 100000 in
set_option maxHeartbeats 4000000 in
theorem sX7_grinds_b161 {l : Launch} {Γ : kG} (hL : k_Lay Γ 7) {p : Program} {e : Env} {R : Room} {s : State} {mid : MethodId} {args : Array Value} {below : List Frame} {meth : Method} {c : Code} (C : k_C Γ p R s mid args meth c cX7_grinds 5 RX7 (k_R 5)) (hr : meth.sig.returnType = none)  (m0 : kM1) (b3 : Int32) (t0 : Int32)  : Sm Γ (K3 Γ) p l e R s mid args below meth c 5 false m0 [(0, .ref (Γ.1 0 0)), (3, .int b3)] [.int t0] 161 (fX7_grinds_b161 m0 b3 t0) := by
  unfold fX7_grinds_b161
  refine k_istore C (lv' := [(4, .int t0), (0, .ref (Γ.1 0 0)), (3, .int b3)]) dX7_grinds_161 (by decide) rfl (pc' := 163) rfl ?_
  refine k_iload C 0 dX7_grinds_163 rfl (pc' := 165) rfl ?_
  refine k_aload_n C 1 dX7_grinds_165 rfl rfl (pc' := 166) rfl ?_
  refine k_iload_n C 2 dX7_grinds_166 rfl rfl (pc' := 167) rfl ?_
  refine k_callVi C (rest := [.int t0]) (qX7_grain l Γ hL m0 b3) mwX7_grain iwX7_grain mlX7_82 (k_rm_of (by decide) (by decide)) (c3 Γ m0 0 (e_model Γ (m0 0))) (v_0 (by decide)) rfl rfl rfl (Nat.le_of_ble_eq_true rfl) dX7_grinds_167 (pc' := 170) rfl (fun r32 m33 => ?_)
  refine k_ic_le C (tgt := 181) dX7_grinds_170 (by decide) (pc' := 173) rfl (fun h34 => ?_) (fun h34 => ?_)
  · refine k_iload C 0 dX7_grinds_181 rfl (pc' := 183) rfl ?_
    refine k_sub [1, 2] rfl ?_
    exact sX7_grinds_b183 hL C hr m33 b3 t0
  · refine k_aload_n C 1 dX7_grinds_173 rfl rfl (pc' := 174) rfl ?_
    refine k_iload_n C 2 dX7_grinds_174 rfl rfl (pc' := 175) rfl ?_
    refine k_callVi C (rest := []) (qX7_grain l Γ hL m33 b3) mwX7_grain iwX7_grain mlX7_82 (k_rm_of (by decide) (by decide)) (c3 Γ m33 0 (e_model Γ (m33 0))) (v_0 (by decide)) rfl rfl rfl (Nat.le_of_ble_eq_true rfl) dX7_grinds_175 (pc' := 178) rfl (fun r49 m50 => ?_)
    refine k_goto C (pc' := 183) dX7_grinds_178 (by decide) ?_
    refine k_sub [1, 2] rfl ?_
    exact sX7_grinds_b183 hL C hr m50 b3 r49
def fX7_grinds_b97   (m0 : kM1) (b1 : Int32) (b2 : Int32) : Option (Int32 × kM1) :=
  k_let (m0 1 24) fun v18 => k_let (mu m0 1 19 ((m0 1 19) - b2)) fun m21 => k_let (mu m21 1 22 ((m21 1 22) + b2)) fun m24 => bd (fX7_of m24 v18 1) fun r26 m27 => bd (fX7_hardness m27 r26) fun r28 m29 => if ¬ r28 = 0 then k_let (((m24 1 18) * b1) / r28) fun v30 => if 1 ≤ v30 then fX7_grinds_b161 m29 v18 v30 else fX7_grinds_b161 m29 v18 1 else none
set_option maxRecDepth 100000 in
set_option maxHeartbeats 4000000 in
theorem sX7_grinds_b97 {l : Launch} {Γ : kG} (hL : k_Lay Γ 7) {p : Program} {e : Env} {R : Room} {s : State} {mid : MethodId} {args : Array Value} {below : List Frame} {meth : Method} {c : Code} (C : k_C Γ p R s mid args meth c cX7_grinds 5 RX7 (k_R 5)) (hr : meth.sig.returnType = none)  (m0 : kM1) (b1 : Int32) (b2 : Int32)  : Sm Γ (K3 Γ) p l e R s mid args below meth c 5 false m0 [(0, .ref (Γ.1 0 0)), (1, .int b1), (2, .int b2)] [] 97 (fX7_grinds_b97 m0 b1 b2) := by
  unfold fX7_grinds_b97
  refine k_aload_n C 0 dX7_grinds_97 rfl rfl (pc' := 98) rfl ?_
  refine k_getf C 0 (c3 Γ m0 0 (e_model Γ (m0 0))) (v_0 (by decide)) flX7_7 (v := .ref (Γ.1 0 1)) rfl dX7_grinds_98 (pc' := 101) rfl ?_
  refine k_bipush C (v := 24) dX7_grinds_101 (by decide) (pc' := 103) rfl ?_
  refine k_ialdK C (n0 := 24) (c3 Γ m0 1 (e_d Γ (m0 1))) (v_0 (by decide)) (by decide) (by decide) dX7_grinds_103 (pc' := 104) rfl ?_
  refine k_topi (fun v18 => ?_)
  refine k_istore_n C (lv' := [(3, .int v18), (0, .ref (Γ.1 0 0)), (1, .int b1), (2, .int b2)]) dX7_grinds_104 rfl (by decide) rfl (pc' := 105) rfl ?_
  refine k_aload_n C 1 dX7_grinds_105 rfl rfl (pc' := 106) rfl ?_
  refine k_getf C 0 (c3 Γ m0 0 (e_model Γ (m0 0))) (v_0 (by decide)) flX7_7 (v := .ref (Γ.1 0 1)) rfl dX7_grinds_106 (pc' := 109) rfl ?_
  refine k_bipush C (v := 19) dX7_grinds_109 (by decide) (pc' := 111) rfl ?_
  refine k_dup2 C dX7_grinds_111 rfl rfl (pc' := 112) rfl ?_
  refine k_ialdK C (n0 := 19) (c3 Γ m0 1 (e_d Γ (m0 1))) (v_0 (by decide)) (by decide) (by decide) dX7_grinds_112 (pc' := 113) rfl ?_
  refine k_iload_n C 3 dX7_grinds_113 rfl rfl (pc' := 114) rfl ?_
  refine k_isub C dX7_grinds_114 (pc' := 115) rfl ?_
  refine k_iastK C (n0 := 19) hL.k3 (c3 Γ m0 1 (e_d Γ (m0 1))) (v_0 (by decide)) (by decide) (by decide) (s3 Γ m0 1 19 ((m0 1 19) - b2) (e_d Γ _)) dX7_grinds_115 (pc' := 116) rfl (fun m21 => ?_)
  refine k_aload_n C 1 dX7_grinds_116 rfl rfl (pc' := 117) rfl ?_
  refine k_getf C 0 (c3 Γ m21 0 (e_model Γ (m21 0))) (v_0 (by decide)) flX7_7 (v := .ref (Γ.1 0 1)) rfl dX7_grinds_117 (pc' := 120) rfl ?_
  refine k_bipush C (v := 22) dX7_grinds_120 (by decide) (pc' := 122) rfl ?_
  refine k_dup2 C dX7_grinds_122 rfl rfl (pc' := 123) rfl ?_
  refine k_ialdK C (n0 := 22) (c3 Γ m21 1 (e_d Γ (m21 1))) (v_0 (by decide)) (by decide) (by decide) dX7_grinds_123 (pc' := 124) rfl ?_
  refine k_iload_n C 3 dX7_grinds_124 rfl rfl (pc' := 125) rfl ?_
  refine k_iadd C dX7_grinds_125 (pc' := 126) rfl ?_
  refine k_iastK C (n0 := 22) hL.k3 (c3 Γ m21 1 (e_d Γ (m21 1))) (v_0 (by decide)) (by decide) (by decide) (s3 Γ m21 1 22 ((m21 1 22) + b2) (e_d Γ _)) dX7_grinds_126 (pc' := 127) rfl (fun m24 => ?_)
  refine k_aload_n C 1 dX7_grinds_127 rfl rfl (pc' := 128) rfl ?_
  refine k_getf C 0 (c3 Γ m24 0 (e_model Γ (m24 0))) (v_0 (by decide)) flX7_7 (v := .ref (Γ.1 0 1)) rfl dX7_grinds_128 (pc' := 131) rfl ?_
  refine k_bipush C (v := 18) dX7_grinds_131 (by decide) (pc' := 133) rfl ?_
  refine k_ialdK C (n0 := 18) (c3 Γ m24 1 (e_d Γ (m24 1))) (v_0 (by decide)) (by decide) (by decide) dX7_grinds_133 (pc' := 134) rfl ?_
  refine k_iload_n C 2 dX7_grinds_134 rfl rfl (pc' := 135) rfl ?_
  refine k_imul C dX7_grinds_135 (pc' := 136) rfl ?_
  refine k_aload_n C 1 dX7_grinds_136 rfl rfl (pc' := 137) rfl ?_
  refine k_aload_n C 1 dX7_grinds_137 rfl rfl (pc' := 138) rfl ?_
  refine k_iload_n C 0 dX7_grinds_138 rfl rfl (pc' := 139) rfl ?_
  refine k_iconst C (v := 1) dX7_grinds_139 (by decide) (pc' := 140) rfl ?_
  refine k_callVi C (rest := [.ref (Γ.1 0 0), .int ((m24 1 18) * b1)]) (qX7_of l Γ hL m24 v18 1) mwX7_of iwX7_of mlX7_38 (k_rm_of (by decide) (by decide)) (c3 Γ m24 0 (e_model Γ (m24 0))) (v_0 (by decide)) rfl rfl rfl (Nat.le_of_ble_eq_true rfl) dX7_grinds_140 (pc' := 143) rfl (fun r26 m27 => ?_)
  refine k_callVi C (rest := [.int ((m24 1 18) * b1)]) (qX7_hardness l Γ hL m27 r26) mwX7_hardness iwX7_hardness mlX7_52 (k_rm_of (by decide) (by decide)) (c3 Γ m27 0 (e_model Γ (m27 0))) (v_0 (by decide)) rfl rfl rfl (Nat.le_of_ble_eq_true rfl) dX7_grinds_143 (pc' := 146) rfl (fun r28 m29 => ?_)
  refine k_idiv C dX7_grinds_146 (pc' := 147) rfl ?_
  refine k_topi (fun v30 => ?_)
  refine k_istore C (lv' := [(4, .int v30), (3, .int v18), (0, .ref (Γ.1 0 0)), (1, .int b1), (2, .int b2)]) dX7_grinds_147 (by decide) rfl (pc' := 149) rfl ?_
  refine k_iload C 0 dX7_grinds_149 rfl (pc' := 151) rfl ?_
  refine k_iconst C (v := 1) dX7_grinds_151 (by decide) (pc' := 152) rfl ?_
  refine k_ic_ge C (tgt := 159) dX7_grinds_152 (by decide) (pc' := 155) rfl (fun h31 => ?_) (fun h31 => ?_)
  · refine k_iload C 0 dX7_grinds_159 rfl (pc' := 161) rfl ?_
    refine k_sub [2, 1] rfl ?_
    exact sX7_grinds_b161 hL C hr m29 v18 v30
  · refine k_iconst C (v := 1) dX7_grinds_155 (by decide) (pc' := 156) rfl ?_
    refine k_goto C (pc' := 161) dX7_grinds_156 (by decide) ?_
    refine k_sub [2, 1] rfl ?_
    exact sX7_grinds_b161 hL C hr m29 v18 1
def fX7_grinds_b77   (m0 : kM1) (b1 : Int32) (b2 : Int32) : Option (Int32 × kM1) :=
  if (m0 1 24) = (-1) then bd (fX7_waitingAt m0 0) fun r51 m52 => bd (fX7_comes m52 r51) fun r53 m54 => fX7_grinds_b97 m54 b1 b2 else fX7_grinds_b97 m0 b1 b2
set_option maxRecDepth 100000 in
set_option maxHeartbeats 4000000 in
theorem sX7_grinds_b77 {l : Launch} {Γ : kG} (hL : k_Lay Γ 7) {p : Program} {e : Env} {R : Room} {s : State} {mid : MethodId} {args : Array Value} {below : List Frame} {meth : Method} {c : Code} (C : k_C Γ p R s mid args meth c cX7_grinds 5 RX7 (k_R 5)) (hr : meth.sig.returnType = none)  (m0 : kM1) (b1 : Int32) (b2 : Int32)  : Sm Γ (K3 Γ) p l e R s mid args below meth c 5 false m0 [(0, .ref (Γ.1 0 0)), (1, .int b1), (2, .int b2)] [] 77 (fX7_grinds_b77 m0 b1 b2) := by
  unfold fX7_grinds_b77
  refine k_aload_n C 0 dX7_grinds_77 rfl rfl (pc' := 78) rfl ?_
  refine k_getf C 0 (c3 Γ m0 0 (e_model Γ (m0 0))) (v_0 (by decide)) flX7_7 (v := .ref (Γ.1 0 1)) rfl dX7_grinds_78 (pc' := 81) rfl ?_
  refine k_bipush C (v := 24) dX7_grinds_81 (by decide) (pc' := 83) rfl ?_
  refine k_ialdK C (n0 := 24) (c3 Γ m0 1 (e_d Γ (m0 1))) (v_0 (by decide)) (by decide) (by decide) dX7_grinds_83 (pc' := 84) rfl ?_
  refine k_iconst C (v := (-1)) dX7_grinds_84 (by decide) (pc' := 85) rfl ?_
  refine k_ic_ne C (tgt := 97) dX7_grinds_85 (by decide) (pc' := 88) rfl (fun h16 => ?_) (fun h16 => ?_)
  · exact sX7_grinds_b97 hL C hr m0 b1 b2
  · refine k_aload_n C 0 dX7_grinds_88 rfl rfl (pc' := 89) rfl ?_
    refine k_aload_n C 0 dX7_grinds_89 rfl rfl (pc' := 90) rfl ?_
    refine k_iconst C (v := 0) dX7_grinds_90 (by decide) (pc' := 91) rfl ?_
    refine k_callVi C (rest := [.ref (Γ.1 0 0)]) (qX7_waitingAt l Γ hL m0 0) mwX7_waitingAt iwX7_waitingAt mlX7_75 (k_rm_of (by decide) (by decide)) (c3 Γ m0 0 (e_model Γ (m0 0))) (v_0 (by decide)) rfl rfl rfl (Nat.le_of_ble_eq_true rfl) dX7_grinds_91 (pc' := 94) rfl (fun r51 m52 => ?_)
    refine k_callVv C (rest := []) (qX7_comes l Γ hL m52 r51) mwX7_comes iwX7_comes mlX7_78 (k_rm_of (by decide) (by decide)) (c3 Γ m52 0 (e_model Γ (m52 0))) (v_0 (by decide)) rfl rfl rfl (Nat.le_of_ble_eq_true rfl) dX7_grinds_94 (pc' := 97) rfl (fun r53 m54 => ?_)
    exact sX7_grinds_b97 hL C hr m54 b1 b2
def fX7_grinds (m0 : kM1) : Option (Int32 × kM1) :=
  bd (fX7_head m0) fun r1 m2 => k_let ((m2 1 18) * (m2 1 7)) fun v5 => if (m2 1 18) = 0 then some (0, m2) else if r1 ≤ 0 then some (0, m2) else if r1 < (m2 1 6) then some (0, m2) else if (m2 1 19) < v5 then some (0, m2) else if (m2 1 24) = (-1) then bd (fX7_sacksIn m2 0) fun r55 m56 => if r55 = 0 then some (0, m56) else fX7_grinds_b77 m56 r1 v5 else fX7_grinds_b77 m2 r1 v5
set_option maxRecDepth 100000 in
set_option maxHeartbeats 4000000 in
theorem qX7_grinds (l : Launch) (Γ : kG) (hL : k_Lay Γ 7) (m0 : kM1) : CT l Γ (K3 Γ) yX7_grinds cX7_grinds 5 none (k_R 5) [.ref (Γ.1 0 0)] m0 (fX7_grinds m0 ) := by
  refine k_meth (own := RX7) (by decide) rfl (Nat.le_of_ble_eq_true rfl) (fun p e R s mid args below meth c C hr => ?_)
  show Sm Γ (K3 Γ) p l e R s mid args below meth c 5 false m0 [(0, .ref (Γ.1 0 0))] [] 0 (fX7_grinds m0 )
  unfold fX7_grinds
  refine k_aload_n C 0 dX7_grinds_0 rfl rfl (pc' := 1) rfl ?_
  refine k_callVi C (rest := []) (qX7_head l Γ hL m0) mwX7_head iwX7_head mlX7_68 (k_rm_of (by decide) (by decide)) (c3 Γ m0 0 (e_model Γ (m0 0))) (v_0 (by decide)) rfl rfl rfl (Nat.le_of_ble_eq_true rfl) dX7_grinds_1 (pc' := 4) rfl (fun r1 m2 => ?_)
  refine k_istore_n C (lv' := [(1, .int r1), (0, .ref (Γ.1 0 0))]) dX7_grinds_4 rfl (by decide) rfl (pc' := 5) rfl ?_
  refine k_aload_n C 1 dX7_grinds_5 rfl rfl (pc' := 6) rfl ?_
  refine k_getf C 0 (c3 Γ m2 0 (e_model Γ (m2 0))) (v_0 (by decide)) flX7_7 (v := .ref (Γ.1 0 1)) rfl dX7_grinds_6 (pc' := 9) rfl ?_
  refine k_bipush C (v := 18) dX7_grinds_9 (by decide) (pc' := 11) rfl ?_
  refine k_ialdK C (n0 := 18) (c3 Γ m2 1 (e_d Γ (m2 1))) (v_0 (by decide)) (by decide) (by decide) dX7_grinds_11 (pc' := 12) rfl ?_
  refine k_aload_n C 1 dX7_grinds_12 rfl rfl (pc' := 13) rfl ?_
  refine k_getf C 0 (c3 Γ m2 0 (e_model Γ (m2 0))) (v_0 (by decide)) flX7_7 (v := .ref (Γ.1 0 1)) rfl dX7_grinds_13 (pc' := 16) rfl ?_
  refine k_bipush C (v := 7) dX7_grinds_16 (by decide) (pc' := 18) rfl ?_
  refine k_ialdK C (n0 := 7) (c3 Γ m2 1 (e_d Γ (m2 1))) (v_0 (by decide)) (by decide) (by decide) dX7_grinds_18 (pc' := 19) rfl ?_
  refine k_imul C dX7_grinds_19 (pc' := 20) rfl ?_
  refine k_topi (fun v5 => ?_)
  refine k_istore_n C (lv' := [(2, .int v5), (1, .int r1), (0, .ref (Γ.1 0 0))]) dX7_grinds_20 rfl (by decide) rfl (pc' := 21) rfl ?_
  refine k_aload_n C 2 dX7_grinds_21 rfl rfl (pc' := 22) rfl ?_
  refine k_getf C 0 (c3 Γ m2 0 (e_model Γ (m2 0))) (v_0 (by decide)) flX7_7 (v := .ref (Γ.1 0 1)) rfl dX7_grinds_22 (pc' := 25) rfl ?_
  refine k_bipush C (v := 18) dX7_grinds_25 (by decide) (pc' := 27) rfl ?_
  refine k_ialdK C (n0 := 18) (c3 Γ m2 1 (e_d Γ (m2 1))) (v_0 (by decide)) (by decide) (by decide) dX7_grinds_27 (pc' := 28) rfl ?_
  refine k_if_eq C (tgt := 76) dX7_grinds_28 (by decide) (pc' := 31) rfl (fun h7 => ?_) (fun h7 => ?_)
  · exact k_retv C rfl hr dX7_grinds_76
  · refine k_iload_n C 1 dX7_grinds_31 rfl rfl (pc' := 32) rfl ?_
    refine k_if_le C (tgt := 76) dX7_grinds_32 (by decide) (pc' := 35) rfl (fun h8 => ?_) (fun h8 => ?_)
    · exact k_retv C rfl hr dX7_grinds_76
    · refine k_iload_n C 1 dX7_grinds_35 rfl rfl (pc' := 36) rfl ?_
      refine k_aload_n C 2 dX7_grinds_36 rfl rfl (pc' := 37) rfl ?_
      refine k_getf C 0 (c3 Γ m2 0 (e_model Γ (m2 0))) (v_0 (by decide)) flX7_7 (v := .ref (Γ.1 0 1)) rfl dX7_grinds_37 (pc' := 40) rfl ?_
      refine k_bipush C (v := 6) dX7_grinds_40 (by decide) (pc' := 42) rfl ?_
      refine k_ialdK C (n0 := 6) (c3 Γ m2 1 (e_d Γ (m2 1))) (v_0 (by decide)) (by decide) (by decide) dX7_grinds_42 (pc' := 43) rfl ?_
      refine k_ic_lt C (tgt := 76) dX7_grinds_43 (by decide) (pc' := 46) rfl (fun h10 => ?_) (fun h10 => ?_)
      · exact k_retv C rfl hr dX7_grinds_76
      · refine k_aload_n C 2 dX7_grinds_46 rfl rfl (pc' := 47) rfl ?_
        refine k_getf C 0 (c3 Γ m2 0 (e_model Γ (m2 0))) (v_0 (by decide)) flX7_7 (v := .ref (Γ.1 0 1)) rfl dX7_grinds_47 (pc' := 50) rfl ?_
        refine k_bipush C (v := 19) dX7_grinds_50 (by decide) (pc' := 52) rfl ?_
        refine k_ialdK C (n0 := 19) (c3 Γ m2 1 (e_d Γ (m2 1))) (v_0 (by decide)) (by decide) (by decide) dX7_grinds_52 (pc' := 53) rfl ?_
        refine k_iload_n C 0 dX7_grinds_53 rfl rfl (pc' := 54) rfl ?_
        refine k_ic_lt C (tgt := 76) dX7_grinds_54 (by decide) (pc' := 57) rfl (fun h12 => ?_) (fun h12 => ?_)
        · exact k_retv C rfl hr dX7_grinds_76
        · refine k_aload_n C 2 dX7_grinds_57 rfl rfl (pc' := 58) rfl ?_
          refine k_getf C 0 (c3 Γ m2 0 (e_model Γ (m2 0))) (v_0 (by decide)) flX7_7 (v := .ref (Γ.1 0 1)) rfl dX7_grinds_58 (pc' := 61) rfl ?_
          refine k_bipush C (v := 24) dX7_grinds_61 (by decide) (pc' := 63) rfl ?_
          refine k_ialdK C (n0 := 24) (c3 Γ m2 1 (e_d Γ (m2 1))) (v_0 (by decide)) (by decide) (by decide) dX7_grinds_63 (pc' := 64) rfl ?_
          refine k_iconst C (v := (-1)) dX7_grinds_64 (by decide) (pc' := 65) rfl ?_
          refine k_ic_ne C (tgt := 77) dX7_grinds_65 (by decide) (pc' := 68) rfl (fun h14 => ?_) (fun h14 => ?_)
          · refine k_sub [2, 1, 0] rfl ?_
            exact sX7_grinds_b77 hL C hr m2 r1 v5
          · refine k_aload_n C 2 dX7_grinds_68 rfl rfl (pc' := 69) rfl ?_
            refine k_iconst C (v := 0) dX7_grinds_69 (by decide) (pc' := 70) rfl ?_
            refine k_callVi C (rest := []) (qX7_sacksIn l Γ hL m2 0) mwX7_sacksIn iwX7_sacksIn mlX7_72 (k_rm_of (by decide) (by decide)) (c3 Γ m2 0 (e_model Γ (m2 0))) (v_0 (by decide)) rfl rfl rfl (Nat.le_of_ble_eq_true rfl) dX7_grinds_70 (pc' := 73) rfl (fun r55 m56 => ?_)
            refine k_if_ne C (tgt := 77) dX7_grinds_73 (by decide) (pc' := 76) rfl (fun h57 => ?_) (fun h57 => ?_)
            · refine k_sub [2, 1, 0] rfl ?_
              exact sX7_grinds_b77 hL C hr m56 r1 v5
            · exact k_retv C rfl hr dX7_grinds_76
def fX7_goes_b28   (m0 : kM1) : Option (Int32 × kM1) :=
  bd (fX7_flows m0) fun r6 m7 => bd (fX7_grinds m7) fun r8 m9 => some (0, m9)
set_option maxRecDepth 100000 in
set_option maxHeartbeats 4000000 in
theorem sX7_goes_b28 {l : Launch} {Γ : kG} (hL : k_Lay Γ 7) {p : Program} {e : Env} {R : Room} {s : State} {mid : MethodId} {args : Array Value} {below : List Frame} {meth : Method} {c : Code} (C : k_C Γ p R s mid args meth c cX7_goes 1 RX7 (k_R 6)) (hr : meth.sig.returnType = none)  (m0 : kM1)   : Sm Γ (K3 Γ) p l e R s mid args below meth c 1 false m0 [(0, .ref (Γ.1 0 0))] [] 28 (fX7_goes_b28 m0) := by
  unfold fX7_goes_b28
  refine k_aload_n C 0 dX7_goes_28 rfl rfl (pc' := 29) rfl ?_
  refine k_callVv C (rest := []) (qX7_flows l Γ hL m0) mwX7_flows iwX7_flows mlX7_88 (k_rm_of (by decide) (by decide)) (c3 Γ m0 0 (e_model Γ (m0 0))) (v_0 (by decide)) rfl rfl rfl (Nat.le_of_ble_eq_true rfl) dX7_goes_29 (pc' := 32) rfl (fun r6 m7 => ?_)
  refine k_aload_n C 0 dX7_goes_32 rfl rfl (pc' := 33) rfl ?_
  refine k_callVv C (rest := []) (qX7_grinds l Γ hL m7) mwX7_grinds iwX7_grinds mlX7_91 (k_rm_of (by decide) (by decide)) (c3 Γ m7 0 (e_model Γ (m7 0))) (v_0 (by decide)) rfl rfl rfl (Nat.le_of_ble_eq_true rfl) dX7_goes_33 (pc' := 36) rfl (fun r8 m9 => ?_)
  exact k_retv C rfl hr dX7_goes_36
def fX7_goes (m0 : kM1) : Option (Int32 × kM1) :=
  k_let (mu m0 1 26 ((m0 1 26) + 1)) fun m3 => if ((m3 1 26) - (m3 1 26) / 96 * 96) = 0 then bd (fX7_falls m3) fun r10 m11 => fX7_goes_b28 m11 else fX7_goes_b28 m3
set_option maxRecDepth 100000 in
set_option maxHeartbeats 4000000 in
theorem qX7_goes (l : Launch) (Γ : kG) (hL : k_Lay Γ 7) (m0 : kM1) : CT l Γ (K3 Γ) yX7_goes cX7_goes 1 none (k_R 6) [.ref (Γ.1 0 0)] m0 (fX7_goes m0 ) := by
  refine k_meth (own := RX7) (by decide) rfl (Nat.le_of_ble_eq_true rfl) (fun p e R s mid args below meth c C hr => ?_)
  show Sm Γ (K3 Γ) p l e R s mid args below meth c 1 false m0 [(0, .ref (Γ.1 0 0))] [] 0 (fX7_goes m0 )
  unfold fX7_goes
  refine k_aload_n C 0 dX7_goes_0 rfl rfl (pc' := 1) rfl ?_
  refine k_getf C 0 (c3 Γ m0 0 (e_model Γ (m0 0))) (v_0 (by decide)) flX7_7 (v := .ref (Γ.1 0 1)) rfl dX7_goes_1 (pc' := 4) rfl ?_
  refine k_bipush C (v := 26) dX7_goes_4 (by decide) (pc' := 6) rfl ?_
  refine k_dup2 C dX7_goes_6 rfl rfl (pc' := 7) rfl ?_
  refine k_ialdK C (n0 := 26) (c3 Γ m0 1 (e_d Γ (m0 1))) (v_0 (by decide)) (by decide) (by decide) dX7_goes_7 (pc' := 8) rfl ?_
  refine k_iconst C (v := 1) dX7_goes_8 (by decide) (pc' := 9) rfl ?_
  refine k_iadd C dX7_goes_9 (pc' := 10) rfl ?_
  refine k_iastK C (n0 := 26) hL.k3 (c3 Γ m0 1 (e_d Γ (m0 1))) (v_0 (by decide)) (by decide) (by decide) (s3 Γ m0 1 26 ((m0 1 26) + 1) (e_d Γ _)) dX7_goes_10 (pc' := 11) rfl (fun m3 => ?_)
  refine k_aload_n C 0 dX7_goes_11 rfl rfl (pc' := 12) rfl ?_
  refine k_getf C 0 (c3 Γ m3 0 (e_model Γ (m3 0))) (v_0 (by decide)) flX7_7 (v := .ref (Γ.1 0 1)) rfl dX7_goes_12 (pc' := 15) rfl ?_
  refine k_bipush C (v := 26) dX7_goes_15 (by decide) (pc' := 17) rfl ?_
  refine k_ialdK C (n0 := 26) (c3 Γ m3 1 (e_d Γ (m3 1))) (v_0 (by decide)) (by decide) (by decide) dX7_goes_17 (pc' := 18) rfl ?_
  refine k_bipush C (v := 96) dX7_goes_18 (by decide) (pc' := 20) rfl ?_
  refine k_iremK C dX7_goes_20 (by decide) (pc' := 21) rfl ?_
  refine k_if_ne C (tgt := 28) dX7_goes_21 (by decide) (pc' := 24) rfl (fun h5 => ?_) (fun h5 => ?_)
  · exact sX7_goes_b28 hL C hr m3
  · refine k_aload_n C 0 dX7_goes_24 rfl rfl (pc' := 25) rfl ?_
    refine k_callVv C (rest := []) (qX7_falls l Γ hL m3) mwX7_falls iwX7_falls mlX7_85 (k_rm_of (by decide) (by decide)) (c3 Γ m3 0 (e_model Γ (m3 0))) (v_0 (by decide)) rfl rfl rfl (Nat.le_of_ble_eq_true rfl) dX7_goes_25 (pc' := 28) rfl (fun r10 m11 => ?_)
    exact sX7_goes_b28 hL C hr m11
def fX7_gates (m0 : kM1) (a1 : Int32) : Option (Int32 × kM1) :=
  bd (fX7_in m0 a1 0 3) fun r1 m2 => if r1 = 0 then some ((-1000001), m2) else k_let (m2 1 18) fun v5 => k_let (mu m2 1 18 a1) fun m7 => some (v5, m7)
set_option maxRecDepth 100000 in
set_option maxHeartbeats 4000000 in
theorem qX7_gates (l : Launch) (Γ : kG) (hL : k_Lay Γ 7) (m0 : kM1) (a1 : Int32) : CT l Γ (K3 Γ) yX7_gates cX7_gates 3 (some .int) (k_R 1) [.ref (Γ.1 0 0), .int a1] m0 (fX7_gates m0 a1) := by
  refine k_meth (own := RX7) (by decide) rfl (Nat.le_of_ble_eq_true rfl) (fun p e R s mid args below meth c C hr => ?_)
  show Sm Γ (K3 Γ) p l e R s mid args below meth c 3 true m0 [(0, .ref (Γ.1 0 0)), (1, .int a1)] [] 0 (fX7_gates m0 a1)
  unfold fX7_gates
  refine k_iload_n C 1 dX7_gates_0 rfl rfl (pc' := 1) rfl ?_
  refine k_iconst C (v := 0) dX7_gates_1 (by decide) (pc' := 2) rfl ?_
  refine k_iconst C (v := 3) dX7_gates_2 (by decide) (pc' := 3) rfl ?_
  refine k_callSi C (rest := []) (qX7_in l Γ (K3 Γ) m0 a1 0 3) mwX7_in swX7_in mlX7_29 (k_rm_of (by decide) (by decide)) rfl rfl (Nat.le_of_ble_eq_true rfl) dX7_gates_3 (pc' := 6) rfl (fun r1 m2 => ?_)
  refine k_if_ne C (tgt := 12) dX7_gates_6 (by decide) (pc' := 9) rfl (fun h3 => ?_) (fun h3 => ?_)
  · refine k_aload_n C 0 dX7_gates_12 rfl rfl (pc' := 13) rfl ?_
    refine k_getf C 0 (c3 Γ m2 0 (e_model Γ (m2 0))) (v_0 (by decide)) flX7_7 (v := .ref (Γ.1 0 1)) rfl dX7_gates_13 (pc' := 16) rfl ?_
    refine k_bipush C (v := 18) dX7_gates_16 (by decide) (pc' := 18) rfl ?_
    refine k_ialdK C (n0 := 18) (c3 Γ m2 1 (e_d Γ (m2 1))) (v_0 (by decide)) (by decide) (by decide) dX7_gates_18 (pc' := 19) rfl ?_
    refine k_topi (fun v5 => ?_)
    refine k_istore_n C (lv' := [(2, .int v5), (0, .ref (Γ.1 0 0)), (1, .int a1)]) dX7_gates_19 rfl (by decide) rfl (pc' := 20) rfl ?_
    refine k_aload_n C 1 dX7_gates_20 rfl rfl (pc' := 21) rfl ?_
    refine k_getf C 0 (c3 Γ m2 0 (e_model Γ (m2 0))) (v_0 (by decide)) flX7_7 (v := .ref (Γ.1 0 1)) rfl dX7_gates_21 (pc' := 24) rfl ?_
    refine k_bipush C (v := 18) dX7_gates_24 (by decide) (pc' := 26) rfl ?_
    refine k_iload_n C 2 dX7_gates_26 rfl rfl (pc' := 27) rfl ?_
    refine k_iastK C (n0 := 18) hL.k3 (c3 Γ m2 1 (e_d Γ (m2 1))) (v_0 (by decide)) (by decide) (by decide) (s3 Γ m2 1 18 a1 (e_d Γ _)) dX7_gates_27 (pc' := 28) rfl (fun m7 => ?_)
    refine k_iload_n C 0 dX7_gates_28 rfl rfl (pc' := 29) rfl ?_
    exact k_reti C rfl hr dX7_gates_29
  · refine k_ldc C (v := (-1000001)) dX7_gates_9 cnX7_33 (pc' := 11) rfl ?_
    exact k_reti C rfl hr dX7_gates_11
def fX7_brings_b57 (a1 : Int32) (a2 : Int32) (a3 : Int32) : Nat → kM1 → Int32 → Int32 → Option (Int32 × kM1)
  | 0, _, _, _ => none
  | n + 1, m0, b4, b5 =>
  if 13 ≤ b5 then bd (fX7_put m0 b4 0 a1) fun r15 m16 => bd (fX7_put m16 b4 1 a2) fun r17 m18 => bd (fX7_put m18 b4 2 a3) fun r19 m20 => k_let (mu m20 1 29 ((m20 1 29) + 1)) fun m23 => some (b4, m23) else bd (fX7_put m0 b4 b5 0) fun r24 m25 => k_let (b5 + 1) fun v26 => fX7_brings_b57 a1 a2 a3 n m25 b4 v26
set_option maxRecDepth 100000 in
set_option maxHeartbeats 4000000 in
theorem sX7_brings_b57 {l : Launch} {Γ : kG} (hL : k_Lay Γ 7) {p : Program} {e : Env} {R : Room} {s : State} {mid : MethodId} {args : Array Value} {below : List Frame} {meth : Method} {c : Code} (C : k_C Γ p R s mid args meth c cX7_brings 6 RX7 (k_R 2)) (hr : meth.sig.returnType = (some .int)) (a1 : Int32) (a2 : Int32) (a3 : Int32)  (n : Nat) : ∀ (m0 : kM1) (b4 : Int32) (b5 : Int32), Sm Γ (K3 Γ) p l e R s mid args below meth c 6 true m0 [(0, .ref (Γ.1 0 0)), (1, .int a1), (2, .int a2), (3, .int a3), (4, .int b4), (5, .int b5)] [] 57 (fX7_brings_b57 a1 a2 a3 n m0 b4 b5) := by
  induction n with
  | zero => intros; exact k_none
  | succ n ih =>
    intro m0 b4 b5
    unfold fX7_brings_b57
    refine k_iload C 5 dX7_brings_57 rfl (pc' := 59) rfl ?_
    refine k_bipush C (v := 13) dX7_brings_59 (by decide) (pc' := 61) rfl ?_
    refine k_ic_ge C (tgt := 79) dX7_brings_61 (by decide) (pc' := 64) rfl (fun h14 => ?_) (fun h14 => ?_)
    · refine k_aload_n C 0 dX7_brings_79 rfl rfl (pc' := 80) rfl ?_
      refine k_iload C 4 dX7_brings_80 rfl (pc' := 82) rfl ?_
      refine k_iconst C (v := 0) dX7_brings_82 (by decide) (pc' := 83) rfl ?_
      refine k_iload_n C 1 dX7_brings_83 rfl rfl (pc' := 84) rfl ?_
      refine k_callVv C (rest := []) (qX7_put l Γ hL m0 b4 0 a1) mwX7_put iwX7_put mlX7_64 (k_rm_of (by decide) (by decide)) (c3 Γ m0 0 (e_model Γ (m0 0))) (v_0 (by decide)) rfl rfl rfl (Nat.le_of_ble_eq_true rfl) dX7_brings_84 (pc' := 87) rfl (fun r15 m16 => ?_)
      refine k_aload_n C 0 dX7_brings_87 rfl rfl (pc' := 88) rfl ?_
      refine k_iload C 4 dX7_brings_88 rfl (pc' := 90) rfl ?_
      refine k_iconst C (v := 1) dX7_brings_90 (by decide) (pc' := 91) rfl ?_
      refine k_iload_n C 2 dX7_brings_91 rfl rfl (pc' := 92) rfl ?_
      refine k_callVv C (rest := []) (qX7_put l Γ hL m16 b4 1 a2) mwX7_put iwX7_put mlX7_64 (k_rm_of (by decide) (by decide)) (c3 Γ m16 0 (e_model Γ (m16 0))) (v_0 (by decide)) rfl rfl rfl (Nat.le_of_ble_eq_true rfl) dX7_brings_92 (pc' := 95) rfl (fun r17 m18 => ?_)
      refine k_aload_n C 0 dX7_brings_95 rfl rfl (pc' := 96) rfl ?_
      refine k_iload C 4 dX7_brings_96 rfl (pc' := 98) rfl ?_
      refine k_iconst C (v := 2) dX7_brings_98 (by decide) (pc' := 99) rfl ?_
      refine k_iload_n C 3 dX7_brings_99 rfl rfl (pc' := 100) rfl ?_
      refine k_callVv C (rest := []) (qX7_put l Γ hL m18 b4 2 a3) mwX7_put iwX7_put mlX7_64 (k_rm_of (by decide) (by decide)) (c3 Γ m18 0 (e_model Γ (m18 0))) (v_0 (by decide)) rfl rfl rfl (Nat.le_of_ble_eq_true rfl) dX7_brings_100 (pc' := 103) rfl (fun r19 m20 => ?_)
      refine k_aload_n C 0 dX7_brings_103 rfl rfl (pc' := 104) rfl ?_
      refine k_getf C 0 (c3 Γ m20 0 (e_model Γ (m20 0))) (v_0 (by decide)) flX7_7 (v := .ref (Γ.1 0 1)) rfl dX7_brings_104 (pc' := 107) rfl ?_
      refine k_bipush C (v := 29) dX7_brings_107 (by decide) (pc' := 109) rfl ?_
      refine k_dup2 C dX7_brings_109 rfl rfl (pc' := 110) rfl ?_
      refine k_ialdK C (n0 := 29) (c3 Γ m20 1 (e_d Γ (m20 1))) (v_0 (by decide)) (by decide) (by decide) dX7_brings_110 (pc' := 111) rfl ?_
      refine k_iconst C (v := 1) dX7_brings_111 (by decide) (pc' := 112) rfl ?_
      refine k_iadd C dX7_brings_112 (pc' := 113) rfl ?_
      refine k_iastK C (n0 := 29) hL.k3 (c3 Γ m20 1 (e_d Γ (m20 1))) (v_0 (by decide)) (by decide) (by decide) (s3 Γ m20 1 29 ((m20 1 29) + 1) (e_d Γ _)) dX7_brings_113 (pc' := 114) rfl (fun m23 => ?_)
      refine k_iload C 4 dX7_brings_114 rfl (pc' := 116) rfl ?_
      exact k_reti C rfl hr dX7_brings_116
    · refine k_aload_n C 0 dX7_brings_64 rfl rfl (pc' := 65) rfl ?_
      refine k_iload C 4 dX7_brings_65 rfl (pc' := 67) rfl ?_
      refine k_iload C 5 dX7_brings_67 rfl (pc' := 69) rfl ?_
      refine k_iconst C (v := 0) dX7_brings_69 (by decide) (pc' := 70) rfl ?_
      refine k_callVv C (rest := []) (qX7_put l Γ hL m0 b4 b5 0) mwX7_put iwX7_put mlX7_64 (k_rm_of (by decide) (by decide)) (c3 Γ m0 0 (e_model Γ (m0 0))) (v_0 (by decide)) rfl rfl rfl (Nat.le_of_ble_eq_true rfl) dX7_brings_70 (pc' := 73) rfl (fun r24 m25 => ?_)
      refine k_iinc (v := 1) (q := 5) (lv' := [(0, .ref (Γ.1 0 0)), (1, .int a1), (2, .int a2), (3, .int a3), (4, .int b4)]) C dX7_brings_73 rfl (by decide) (by decide) (pc' := 76) rfl (fun _ => rfl) (fun v26 => ?_)
      refine k_goto C (pc' := 57) dX7_brings_76 (by decide) ?_
      refine k_sub [1, 2, 3, 4, 5, 0] rfl ?_
      exact ih m25 b4 v26
def fX7_brings (m0 : kM1) (a1 : Int32) (a2 : Int32) (a3 : Int32) : Option (Int32 × kM1) :=
  bd (fX7_isFarmer m0 a1) fun r1 m2 => if r1 = 0 then some ((-1000001), m2) else bd (fX7_isKind m2 a2) fun r4 m5 => if r4 = 0 then some ((-1000001), m5) else bd (fX7_in m5 a3 1 200) fun r7 m8 => if r7 = 0 then some ((-1000001), m8) else if (m8 1 29) = 24 then some ((-1000003), m8) else k_let (m8 1 29) fun v13 => fX7_brings_b57 a1 a2 a3 kFu m8 v13 0
set_option maxRecDepth 100000 in
set_option maxHeartbeats 4000000 in
theorem qX7_brings (l : Launch) (Γ : kG) (hL : k_Lay Γ 7) (m0 : kM1) (a1 : Int32) (a2 : Int32) (a3 : Int32) : CT l Γ (K3 Γ) yX7_brings cX7_brings 6 (some .int) (k_R 2) [.ref (Γ.1 0 0), .int a1, .int a2, .int a3] m0 (fX7_brings m0 a1 a2 a3) := by
  refine k_meth (own := RX7) (by decide) rfl (Nat.le_of_ble_eq_true rfl) (fun p e R s mid args below meth c C hr => ?_)
  show Sm Γ (K3 Γ) p l e R s mid args below meth c 6 true m0 [(0, .ref (Γ.1 0 0)), (1, .int a1), (2, .int a2), (3, .int a3)] [] 0 (fX7_brings m0 a1 a2 a3)
  unfold fX7_brings
  refine k_aload_n C 0 dX7_brings_0 rfl rfl (pc' := 1) rfl ?_
  refine k_iload_n C 1 dX7_brings_1 rfl rfl (pc' := 2) rfl ?_
  refine k_callVi C (rest := []) (qX7_isFarmer l Γ hL m0 a1) mwX7_isFarmer iwX7_isFarmer mlX7_94 (k_rm_of (by decide) (by decide)) (c3 Γ m0 0 (e_model Γ (m0 0))) (v_0 (by decide)) rfl rfl rfl (Nat.le_of_ble_eq_true rfl) dX7_brings_2 (pc' := 5) rfl (fun r1 m2 => ?_)
  refine k_if_eq C (tgt := 27) dX7_brings_5 (by decide) (pc' := 8) rfl (fun h3 => ?_) (fun h3 => ?_)
  · refine k_ldc C (v := (-1000001)) dX7_brings_27 cnX7_33 (pc' := 29) rfl ?_
    exact k_reti C rfl hr dX7_brings_29
  · refine k_aload_n C 0 dX7_brings_8 rfl rfl (pc' := 9) rfl ?_
    refine k_iload_n C 2 dX7_brings_9 rfl rfl (pc' := 10) rfl ?_
    refine k_callVi C (rest := []) (qX7_isKind l Γ hL m2 a2) mwX7_isKind iwX7_isKind mlX7_98 (k_rm_of (by decide) (by decide)) (c3 Γ m2 0 (e_model Γ (m2 0))) (v_0 (by decide)) rfl rfl rfl (Nat.le_of_ble_eq_true rfl) dX7_brings_10 (pc' := 13) rfl (fun r4 m5 => ?_)
    refine k_if_eq C (tgt := 27) dX7_brings_13 (by decide) (pc' := 16) rfl (fun h6 => ?_) (fun h6 => ?_)
    · refine k_ldc C (v := (-1000001)) dX7_brings_27 cnX7_33 (pc' := 29) rfl ?_
      exact k_reti C rfl hr dX7_brings_29
    · refine k_iload_n C 3 dX7_brings_16 rfl rfl (pc' := 17) rfl ?_
      refine k_iconst C (v := 1) dX7_brings_17 (by decide) (pc' := 18) rfl ?_
      refine k_sipush C (v := 200) dX7_brings_18 (by decide) (pc' := 21) rfl ?_
      refine k_callSi C (rest := []) (qX7_in l Γ (K3 Γ) m5 a3 1 200) mwX7_in swX7_in mlX7_29 (k_rm_of (by decide) (by decide)) rfl rfl (Nat.le_of_ble_eq_true rfl) dX7_brings_21 (pc' := 24) rfl (fun r7 m8 => ?_)
      refine k_if_ne C (tgt := 30) dX7_brings_24 (by decide) (pc' := 27) rfl (fun h9 => ?_) (fun h9 => ?_)
      · refine k_aload_n C 0 dX7_brings_30 rfl rfl (pc' := 31) rfl ?_
        refine k_getf C 0 (c3 Γ m8 0 (e_model Γ (m8 0))) (v_0 (by decide)) flX7_7 (v := .ref (Γ.1 0 1)) rfl dX7_brings_31 (pc' := 34) rfl ?_
        refine k_bipush C (v := 29) dX7_brings_34 (by decide) (pc' := 36) rfl ?_
        refine k_ialdK C (n0 := 29) (c3 Γ m8 1 (e_d Γ (m8 1))) (v_0 (by decide)) (by decide) (by decide) dX7_brings_36 (pc' := 37) rfl ?_
        refine k_bipush C (v := 24) dX7_brings_37 (by decide) (pc' := 39) rfl ?_
        refine k_ic_ne C (tgt := 45) dX7_brings_39 (by decide) (pc' := 42) rfl (fun h11 => ?_) (fun h11 => ?_)
        · refine k_aload_n C 0 dX7_brings_45 rfl rfl (pc' := 46) rfl ?_
          refine k_getf C 0 (c3 Γ m8 0 (e_model Γ (m8 0))) (v_0 (by decide)) flX7_7 (v := .ref (Γ.1 0 1)) rfl dX7_brings_46 (pc' := 49) rfl ?_
          refine k_bipush C (v := 29) dX7_brings_49 (by decide) (pc' := 51) rfl ?_
          refine k_ialdK C (n0 := 29) (c3 Γ m8 1 (e_d Γ (m8 1))) (v_0 (by decide)) (by decide) (by decide) dX7_brings_51 (pc' := 52) rfl ?_
          refine k_topi (fun v13 => ?_)
          refine k_istore C (lv' := [(4, .int v13), (0, .ref (Γ.1 0 0)), (1, .int a1), (2, .int a2), (3, .int a3)]) dX7_brings_52 (by decide) rfl (pc' := 54) rfl ?_
          refine k_iconst C (v := 0) dX7_brings_54 (by decide) (pc' := 55) rfl ?_
          refine k_istore C (lv' := [(5, .int 0), (4, .int v13), (0, .ref (Γ.1 0 0)), (1, .int a1), (2, .int a2), (3, .int a3)]) dX7_brings_55 (by decide) rfl (pc' := 57) rfl ?_
          refine k_sub [2, 3, 4, 5, 1, 0] rfl ?_
          exact sX7_brings_b57 hL C hr a1 a2 a3 kFu m8 v13 0
        · refine k_ldc C (v := (-1000003)) dX7_brings_42 cnX7_101 (pc' := 44) rfl ?_
          exact k_reti C rfl hr dX7_brings_44
      · refine k_ldc C (v := (-1000001)) dX7_brings_27 cnX7_33 (pc' := 29) rfl ?_
        exact k_reti C rfl hr dX7_brings_29
def fX7_fetches (m0 : kM1) (a1 : Int32) : Option (Int32 × kM1) :=
  bd (fX7_isSack m0 a1) fun r1 m2 => if r1 = 0 then some ((-1000001), m2) else bd (fX7_of m2 a1 3) fun r4 m5 => if r4 = 2 then bd (fX7_of m5 a1 6) fun r7 m8 => if r7 ≤ 0 then bd (fX7_flour m8 a1) fun r10 m11 => bd (fX7_put m11 a1 11 r10) fun r12 m13 => bd (fX7_put m13 a1 3 3) fun r14 m15 => some (r10, m15) else some ((-1000002), m8) else some ((-1000002), m5)
set_option maxRecDepth 100000 in
set_option maxHeartbeats 4000000 in
theorem qX7_fetches (l : Launch) (Γ : kG) (hL : k_Lay Γ 7) (m0 : kM1) (a1 : Int32) : CT l Γ (K3 Γ) yX7_fetches cX7_fetches 3 (some .int) (k_R 4) [.ref (Γ.1 0 0), .int a1] m0 (fX7_fetches m0 a1) := by
  refine k_meth (own := RX7) (by decide) rfl (Nat.le_of_ble_eq_true rfl) (fun p e R s mid args below meth c C hr => ?_)
  show Sm Γ (K3 Γ) p l e R s mid args below meth c 3 true m0 [(0, .ref (Γ.1 0 0)), (1, .int a1)] [] 0 (fX7_fetches m0 a1)
  unfold fX7_fetches
  refine k_aload_n C 0 dX7_fetches_0 rfl rfl (pc' := 1) rfl ?_
  refine k_iload_n C 1 dX7_fetches_1 rfl rfl (pc' := 2) rfl ?_
  refine k_callVi C (rest := []) (qX7_isSack l Γ hL m0 a1) mwX7_isSack iwX7_isSack mlX7_102 (k_rm_of (by decide) (by decide)) (c3 Γ m0 0 (e_model Γ (m0 0))) (v_0 (by decide)) rfl rfl rfl (Nat.le_of_ble_eq_true rfl) dX7_fetches_2 (pc' := 5) rfl (fun r1 m2 => ?_)
  refine k_if_ne C (tgt := 11) dX7_fetches_5 (by decide) (pc' := 8) rfl (fun h3 => ?_) (fun h3 => ?_)
  · refine k_aload_n C 0 dX7_fetches_11 rfl rfl (pc' := 12) rfl ?_
    refine k_iload_n C 1 dX7_fetches_12 rfl rfl (pc' := 13) rfl ?_
    refine k_iconst C (v := 3) dX7_fetches_13 (by decide) (pc' := 14) rfl ?_
    refine k_callVi C (rest := []) (qX7_of l Γ hL m2 a1 3) mwX7_of iwX7_of mlX7_38 (k_rm_of (by decide) (by decide)) (c3 Γ m2 0 (e_model Γ (m2 0))) (v_0 (by decide)) rfl rfl rfl (Nat.le_of_ble_eq_true rfl) dX7_fetches_14 (pc' := 17) rfl (fun r4 m5 => ?_)
    refine k_iconst C (v := 2) dX7_fetches_17 (by decide) (pc' := 18) rfl ?_
    refine k_ic_ne C (tgt := 31) dX7_fetches_18 (by decide) (pc' := 21) rfl (fun h6 => ?_) (fun h6 => ?_)
    · refine k_ldc C (v := (-1000002)) dX7_fetches_31 cnX7_105 (pc' := 33) rfl ?_
      exact k_reti C rfl hr dX7_fetches_33
    · refine k_aload_n C 0 dX7_fetches_21 rfl rfl (pc' := 22) rfl ?_
      refine k_iload_n C 1 dX7_fetches_22 rfl rfl (pc' := 23) rfl ?_
      refine k_bipush C (v := 6) dX7_fetches_23 (by decide) (pc' := 25) rfl ?_
      refine k_callVi C (rest := []) (qX7_of l Γ hL m5 a1 6) mwX7_of iwX7_of mlX7_38 (k_rm_of (by decide) (by decide)) (c3 Γ m5 0 (e_model Γ (m5 0))) (v_0 (by decide)) rfl rfl rfl (Nat.le_of_ble_eq_true rfl) dX7_fetches_25 (pc' := 28) rfl (fun r7 m8 => ?_)
      refine k_if_le C (tgt := 34) dX7_fetches_28 (by decide) (pc' := 31) rfl (fun h9 => ?_) (fun h9 => ?_)
      · refine k_aload_n C 0 dX7_fetches_34 rfl rfl (pc' := 35) rfl ?_
        refine k_iload_n C 1 dX7_fetches_35 rfl rfl (pc' := 36) rfl ?_
        refine k_callVi C (rest := []) (qX7_flour l Γ hL m8 a1) mwX7_flour iwX7_flour mlX7_106 (k_rm_of (by decide) (by decide)) (c3 Γ m8 0 (e_model Γ (m8 0))) (v_0 (by decide)) rfl rfl rfl (Nat.le_of_ble_eq_true rfl) dX7_fetches_36 (pc' := 39) rfl (fun r10 m11 => ?_)
        refine k_istore_n C (lv' := [(2, .int r10), (0, .ref (Γ.1 0 0)), (1, .int a1)]) dX7_fetches_39 rfl (by decide) rfl (pc' := 40) rfl ?_
        refine k_aload_n C 1 dX7_fetches_40 rfl rfl (pc' := 41) rfl ?_
        refine k_iload_n C 2 dX7_fetches_41 rfl rfl (pc' := 42) rfl ?_
        refine k_bipush C (v := 11) dX7_fetches_42 (by decide) (pc' := 44) rfl ?_
        refine k_iload_n C 0 dX7_fetches_44 rfl rfl (pc' := 45) rfl ?_
        refine k_callVv C (rest := []) (qX7_put l Γ hL m11 a1 11 r10) mwX7_put iwX7_put mlX7_64 (k_rm_of (by decide) (by decide)) (c3 Γ m11 0 (e_model Γ (m11 0))) (v_0 (by decide)) rfl rfl rfl (Nat.le_of_ble_eq_true rfl) dX7_fetches_45 (pc' := 48) rfl (fun r12 m13 => ?_)
        refine k_aload_n C 1 dX7_fetches_48 rfl rfl (pc' := 49) rfl ?_
        refine k_iload_n C 2 dX7_fetches_49 rfl rfl (pc' := 50) rfl ?_
        refine k_iconst C (v := 3) dX7_fetches_50 (by decide) (pc' := 51) rfl ?_
        refine k_iconst C (v := 3) dX7_fetches_51 (by decide) (pc' := 52) rfl ?_
        refine k_callVv C (rest := []) (qX7_put l Γ hL m13 a1 3 3) mwX7_put iwX7_put mlX7_64 (k_rm_of (by decide) (by decide)) (c3 Γ m13 0 (e_model Γ (m13 0))) (v_0 (by decide)) rfl rfl rfl (Nat.le_of_ble_eq_true rfl) dX7_fetches_52 (pc' := 55) rfl (fun r14 m15 => ?_)
        refine k_iload_n C 0 dX7_fetches_55 rfl rfl (pc' := 56) rfl ?_
        exact k_reti C rfl hr dX7_fetches_56
      · refine k_ldc C (v := (-1000002)) dX7_fetches_31 cnX7_105 (pc' := 33) rfl ?_
        exact k_reti C rfl hr dX7_fetches_33
  · refine k_ldc C (v := (-1000001)) dX7_fetches_8 cnX7_33 (pc' := 10) rfl ?_
    exact k_reti C rfl hr dX7_fetches_10
def fX7_pledges (m0 : kM1) (a1 : Int32) (a2 : Int32) : Option (Int32 × kM1) :=
  bd (fX7_isSack m0 a1) fun r1 m2 => if r1 = 0 then some ((-1000001), m2) else bd (fX7_in m2 a2 1 200) fun r4 m5 => if r4 = 0 then some ((-1000001), m5) else bd (fX7_of m5 a1 3) fun r7 m8 => if r7 = 2 then bd (fX7_of m8 a1 6) fun r10 m11 => if 0 < r10 then some ((-1000002), m11) else bd (fX7_flour m11 a1) fun r13 m14 => if a2 ≤ r13 then bd (fX7_of m14 a1 1) fun r16 m17 => if ¬ ((30 + (3 * r16)) + 2) < 0 ∧ ((30 + (3 * r16)) + 2).toNatClampNeg < 368 then bd (fX7_product m17 a2 (m17 1 ((30 + (3 * r16)) + 2).toNatClampNeg)) fun r19 m20 => bd (fX7_product m20 r19 (m20 1 11)) fun r22 m23 => bd (fX7_of m23 a1 0) fun r24 m25 => if ¬ (48 + r24) < 0 ∧ (48 + r24).toNatClampNeg < 368 then k_let (m25 1 (48 + r24).toNatClampNeg) fun v27 => if r22 < 0 then some ((-1000002), m25) else if (r22 / 100) ≤ (2147483647 - v27) then k_let (r22 / 100) fun v30 => bd (fX7_put m25 a1 6 a2) fun r31 m32 => bd (fX7_put m32 a1 7 v30) fun r33 m34 => bd (fX7_put m34 a1 8 ((m34 1 26) / 96)) fun r36 m37 => bd (fX7_put m37 a1 9 (((m37 1 26) / 96) + (m37 1 10))) fun r40 m41 => bd (fX7_of m41 a1 0) fun r42 m43 => if ¬ (48 + r42) < 0 ∧ (48 + r42).toNatClampNeg < 368 then if ¬ (48 + r42) < 0 ∧ (48 + r42).toNatClampNeg < 368 then k_let (mu m43 1 (48 + r42).toNatClampNeg ((m43 1 (48 + r42).toNatClampNeg) + v30)) fun m46 => some (v30, m46) else none else none else some ((-1000002), m25) else none else none else some ((-1000002), m14) else some ((-1000002), m8)
set_option maxRecDepth 100000 in
set_option maxHeartbeats 4000000 in
theorem qX7_pledges (l : Launch) (Γ : kG) (hL : k_Lay Γ 7) (m0 : kM1) (a1 : Int32) (a2 : Int32) : CT l Γ (K3 Γ) yX7_pledges cX7_pledges 6 (some .int) (k_R 4) [.ref (Γ.1 0 0), .int a1, .int a2] m0 (fX7_pledges m0 a1 a2) := by
  refine k_meth (own := RX7) (by decide) rfl (Nat.le_of_ble_eq_true rfl) (fun p e R s mid args below meth c C hr => ?_)
  show Sm Γ (K3 Γ) p l e R s mid args below meth c 6 true m0 [(0, .ref (Γ.1 0 0)), (1, .int a1), (2, .int a2)] [] 0 (fX7_pledges m0 a1 a2)
  unfold fX7_pledges
  refine k_aload_n C 0 dX7_pledges_0 rfl rfl (pc' := 1) rfl ?_
  refine k_iload_n C 1 dX7_pledges_1 rfl rfl (pc' := 2) rfl ?_
  refine k_callVi C (rest := []) (qX7_isSack l Γ hL m0 a1) mwX7_isSack iwX7_isSack mlX7_102 (k_rm_of (by decide) (by decide)) (c3 Γ m0 0 (e_model Γ (m0 0))) (v_0 (by decide)) rfl rfl rfl (Nat.le_of_ble_eq_true rfl) dX7_pledges_2 (pc' := 5) rfl (fun r1 m2 => ?_)
  refine k_if_eq C (tgt := 19) dX7_pledges_5 (by decide) (pc' := 8) rfl (fun h3 => ?_) (fun h3 => ?_)
  · refine k_ldc C (v := (-1000001)) dX7_pledges_19 cnX7_33 (pc' := 21) rfl ?_
    exact k_reti C rfl hr dX7_pledges_21
  · refine k_iload_n C 2 dX7_pledges_8 rfl rfl (pc' := 9) rfl ?_
    refine k_iconst C (v := 1) dX7_pledges_9 (by decide) (pc' := 10) rfl ?_
    refine k_sipush C (v := 200) dX7_pledges_10 (by decide) (pc' := 13) rfl ?_
    refine k_callSi C (rest := []) (qX7_in l Γ (K3 Γ) m2 a2 1 200) mwX7_in swX7_in mlX7_29 (k_rm_of (by decide) (by decide)) rfl rfl (Nat.le_of_ble_eq_true rfl) dX7_pledges_13 (pc' := 16) rfl (fun r4 m5 => ?_)
    refine k_if_ne C (tgt := 22) dX7_pledges_16 (by decide) (pc' := 19) rfl (fun h6 => ?_) (fun h6 => ?_)
    · refine k_aload_n C 0 dX7_pledges_22 rfl rfl (pc' := 23) rfl ?_
      refine k_iload_n C 1 dX7_pledges_23 rfl rfl (pc' := 24) rfl ?_
      refine k_iconst C (v := 3) dX7_pledges_24 (by decide) (pc' := 25) rfl ?_
      refine k_callVi C (rest := []) (qX7_of l Γ hL m5 a1 3) mwX7_of iwX7_of mlX7_38 (k_rm_of (by decide) (by decide)) (c3 Γ m5 0 (e_model Γ (m5 0))) (v_0 (by decide)) rfl rfl rfl (Nat.le_of_ble_eq_true rfl) dX7_pledges_25 (pc' := 28) rfl (fun r7 m8 => ?_)
      refine k_iconst C (v := 2) dX7_pledges_28 (by decide) (pc' := 29) rfl ?_
      refine k_ic_ne C (tgt := 51) dX7_pledges_29 (by decide) (pc' := 32) rfl (fun h9 => ?_) (fun h9 => ?_)
      · refine k_ldc C (v := (-1000002)) dX7_pledges_51 cnX7_105 (pc' := 53) rfl ?_
        exact k_reti C rfl hr dX7_pledges_53
      · refine k_aload_n C 0 dX7_pledges_32 rfl rfl (pc' := 33) rfl ?_
        refine k_iload_n C 1 dX7_pledges_33 rfl rfl (pc' := 34) rfl ?_
        refine k_bipush C (v := 6) dX7_pledges_34 (by decide) (pc' := 36) rfl ?_
        refine k_callVi C (rest := []) (qX7_of l Γ hL m8 a1 6) mwX7_of iwX7_of mlX7_38 (k_rm_of (by decide) (by decide)) (c3 Γ m8 0 (e_model Γ (m8 0))) (v_0 (by decide)) rfl rfl rfl (Nat.le_of_ble_eq_true rfl) dX7_pledges_36 (pc' := 39) rfl (fun r10 m11 => ?_)
        refine k_if_gt C (tgt := 51) dX7_pledges_39 (by decide) (pc' := 42) rfl (fun h12 => ?_) (fun h12 => ?_)
        · refine k_ldc C (v := (-1000002)) dX7_pledges_51 cnX7_105 (pc' := 53) rfl ?_
          exact k_reti C rfl hr dX7_pledges_53
        · refine k_aload_n C 0 dX7_pledges_42 rfl rfl (pc' := 43) rfl ?_
          refine k_iload_n C 1 dX7_pledges_43 rfl rfl (pc' := 44) rfl ?_
          refine k_callVi C (rest := []) (qX7_flour l Γ hL m11 a1) mwX7_flour iwX7_flour mlX7_106 (k_rm_of (by decide) (by decide)) (c3 Γ m11 0 (e_model Γ (m11 0))) (v_0 (by decide)) rfl rfl rfl (Nat.le_of_ble_eq_true rfl) dX7_pledges_44 (pc' := 47) rfl (fun r13 m14 => ?_)
          refine k_iload_n C 2 dX7_pledges_47 rfl rfl (pc' := 48) rfl ?_
          refine k_ic_ge C (tgt := 54) dX7_pledges_48 (by decide) (pc' := 51) rfl (fun h15 => ?_) (fun h15 => ?_)
          · refine k_iload_n C 2 dX7_pledges_54 rfl rfl (pc' := 55) rfl ?_
            refine k_aload_n C 0 dX7_pledges_55 rfl rfl (pc' := 56) rfl ?_
            refine k_getf C 0 (c3 Γ m14 0 (e_model Γ (m14 0))) (v_0 (by decide)) flX7_7 (v := .ref (Γ.1 0 1)) rfl dX7_pledges_56 (pc' := 59) rfl ?_
            refine k_bipush C (v := 30) dX7_pledges_59 (by decide) (pc' := 61) rfl ?_
            refine k_iconst C (v := 3) dX7_pledges_61 (by decide) (pc' := 62) rfl ?_
            refine k_aload_n C 0 dX7_pledges_62 rfl rfl (pc' := 63) rfl ?_
            refine k_iload_n C 1 dX7_pledges_63 rfl rfl (pc' := 64) rfl ?_
            refine k_iconst C (v := 1) dX7_pledges_64 (by decide) (pc' := 65) rfl ?_
            refine k_callVi C (rest := [.int 3, .int 30, .ref (Γ.1 0 1), .int a2]) (qX7_of l Γ hL m14 a1 1) mwX7_of iwX7_of mlX7_38 (k_rm_of (by decide) (by decide)) (c3 Γ m14 0 (e_model Γ (m14 0))) (v_0 (by decide)) rfl rfl rfl (Nat.le_of_ble_eq_true rfl) dX7_pledges_65 (pc' := 68) rfl (fun r16 m17 => ?_)
            refine k_imul C dX7_pledges_68 (pc' := 69) rfl ?_
            refine k_iadd C dX7_pledges_69 (pc' := 70) rfl ?_
            refine k_iconst C (v := 2) dX7_pledges_70 (by decide) (pc' := 71) rfl ?_
            refine k_iadd C dX7_pledges_71 (pc' := 72) rfl ?_
            refine k_iald C (c3 Γ m17 1 (e_d Γ (m17 1))) (v_0 (by decide)) dX7_pledges_72 (pc' := 73) rfl (fun h18 => ?_)
            refine k_callSi C (rest := []) (qX7_product l Γ (K3 Γ) m17 a2 (m17 1 ((30 + (3 * r16)) + 2).toNatClampNeg)) mwX7_product swX7_product mlX7_111 (k_rm_of (by decide) (by decide)) rfl rfl (Nat.le_of_ble_eq_true rfl) dX7_pledges_73 (pc' := 76) rfl (fun r19 m20 => ?_)
            refine k_aload_n C 0 dX7_pledges_76 rfl rfl (pc' := 77) rfl ?_
            refine k_getf C 0 (c3 Γ m20 0 (e_model Γ (m20 0))) (v_0 (by decide)) flX7_7 (v := .ref (Γ.1 0 1)) rfl dX7_pledges_77 (pc' := 80) rfl ?_
            refine k_bipush C (v := 11) dX7_pledges_80 (by decide) (pc' := 82) rfl ?_
            refine k_ialdK C (n0 := 11) (c3 Γ m20 1 (e_d Γ (m20 1))) (v_0 (by decide)) (by decide) (by decide) dX7_pledges_82 (pc' := 83) rfl ?_
            refine k_callSi C (rest := []) (qX7_product l Γ (K3 Γ) m20 r19 (m20 1 11)) mwX7_product swX7_product mlX7_111 (k_rm_of (by decide) (by decide)) rfl rfl (Nat.le_of_ble_eq_true rfl) dX7_pledges_83 (pc' := 86) rfl (fun r22 m23 => ?_)
            refine k_istore_n C (lv' := [(3, .int r22), (0, .ref (Γ.1 0 0)), (1, .int a1), (2, .int a2)]) dX7_pledges_86 rfl (by decide) rfl (pc' := 87) rfl ?_
            refine k_aload_n C 1 dX7_pledges_87 rfl rfl (pc' := 88) rfl ?_
            refine k_getf C 0 (c3 Γ m23 0 (e_model Γ (m23 0))) (v_0 (by decide)) flX7_7 (v := .ref (Γ.1 0 1)) rfl dX7_pledges_88 (pc' := 91) rfl ?_
            refine k_bipush C (v := 48) dX7_pledges_91 (by decide) (pc' := 93) rfl ?_
            refine k_aload_n C 1 dX7_pledges_93 rfl rfl (pc' := 94) rfl ?_
            refine k_iload_n C 2 dX7_pledges_94 rfl rfl (pc' := 95) rfl ?_
            refine k_iconst C (v := 0) dX7_pledges_95 (by decide) (pc' := 96) rfl ?_
            refine k_callVi C (rest := [.int 48, .ref (Γ.1 0 1)]) (qX7_of l Γ hL m23 a1 0) mwX7_of iwX7_of mlX7_38 (k_rm_of (by decide) (by decide)) (c3 Γ m23 0 (e_model Γ (m23 0))) (v_0 (by decide)) rfl rfl rfl (Nat.le_of_ble_eq_true rfl) dX7_pledges_96 (pc' := 99) rfl (fun r24 m25 => ?_)
            refine k_iadd C dX7_pledges_99 (pc' := 100) rfl ?_
            refine k_iald C (c3 Γ m25 1 (e_d Γ (m25 1))) (v_0 (by decide)) dX7_pledges_100 (pc' := 101) rfl (fun h26 => ?_)
            refine k_topi (fun v27 => ?_)
            refine k_istore C (lv' := [(4, .int v27), (3, .int r22), (0, .ref (Γ.1 0 0)), (1, .int a1), (2, .int a2)]) dX7_pledges_101 (by decide) rfl (pc' := 103) rfl ?_
            refine k_iload_n C 1 dX7_pledges_103 rfl rfl (pc' := 104) rfl ?_
            refine k_if_lt C (tgt := 119) dX7_pledges_104 (by decide) (pc' := 107) rfl (fun h28 => ?_) (fun h28 => ?_)
            · refine k_ldc C (v := (-1000002)) dX7_pledges_119 cnX7_105 (pc' := 121) rfl ?_
              exact k_reti C rfl hr dX7_pledges_121
            · refine k_iload_n C 1 dX7_pledges_107 rfl rfl (pc' := 108) rfl ?_
              refine k_bipush C (v := 100) dX7_pledges_108 (by decide) (pc' := 110) rfl ?_
              refine k_idivK C dX7_pledges_110 (by decide) (pc' := 111) rfl ?_
              refine k_ldc C (v := 2147483647) dX7_pledges_111 cnX7_114 (pc' := 113) rfl ?_
              refine k_iload C 0 dX7_pledges_113 rfl (pc' := 115) rfl ?_
              refine k_isub C dX7_pledges_115 (pc' := 116) rfl ?_
              refine k_ic_le C (tgt := 122) dX7_pledges_116 (by decide) (pc' := 119) rfl (fun h29 => ?_) (fun h29 => ?_)
              · refine k_iload_n C 1 dX7_pledges_122 rfl rfl (pc' := 123) rfl ?_
                refine k_bipush C (v := 100) dX7_pledges_123 (by decide) (pc' := 125) rfl ?_
                refine k_idivK C dX7_pledges_125 (by decide) (pc' := 126) rfl ?_
                refine k_topi (fun v30 => ?_)
                refine k_istore C (lv' := [(5, .int v30), (4, .int v27), (3, .int r22), (0, .ref (Γ.1 0 0)), (1, .int a1), (2, .int a2)]) dX7_pledges_126 (by decide) rfl (pc' := 128) rfl ?_
                refine k_aload_n C 3 dX7_pledges_128 rfl rfl (pc' := 129) rfl ?_
                refine k_iload_n C 4 dX7_pledges_129 rfl rfl (pc' := 130) rfl ?_
                refine k_bipush C (v := 6) dX7_pledges_130 (by decide) (pc' := 132) rfl ?_
                refine k_iload_n C 5 dX7_pledges_132 rfl rfl (pc' := 133) rfl ?_
                refine k_callVv C (rest := []) (qX7_put l Γ hL m25 a1 6 a2) mwX7_put iwX7_put mlX7_64 (k_rm_of (by decide) (by decide)) (c3 Γ m25 0 (e_model Γ (m25 0))) (v_0 (by decide)) rfl rfl rfl (Nat.le_of_ble_eq_true rfl) dX7_pledges_133 (pc' := 136) rfl (fun r31 m32 => ?_)
                refine k_aload_n C 3 dX7_pledges_136 rfl rfl (pc' := 137) rfl ?_
                refine k_iload_n C 4 dX7_pledges_137 rfl rfl (pc' := 138) rfl ?_
                refine k_bipush C (v := 7) dX7_pledges_138 (by decide) (pc' := 140) rfl ?_
                refine k_iload C 0 dX7_pledges_140 rfl (pc' := 142) rfl ?_
                refine k_callVv C (rest := []) (qX7_put l Γ hL m32 a1 7 v30) mwX7_put iwX7_put mlX7_64 (k_rm_of (by decide) (by decide)) (c3 Γ m32 0 (e_model Γ (m32 0))) (v_0 (by decide)) rfl rfl rfl (Nat.le_of_ble_eq_true rfl) dX7_pledges_142 (pc' := 145) rfl (fun r33 m34 => ?_)
                refine k_aload_n C 3 dX7_pledges_145 rfl rfl (pc' := 146) rfl ?_
                refine k_iload_n C 4 dX7_pledges_146 rfl rfl (pc' := 147) rfl ?_
                refine k_bipush C (v := 8) dX7_pledges_147 (by decide) (pc' := 149) rfl ?_
                refine k_aload_n C 3 dX7_pledges_149 rfl rfl (pc' := 150) rfl ?_
                refine k_getf C 0 (c3 Γ m34 0 (e_model Γ (m34 0))) (v_0 (by decide)) flX7_7 (v := .ref (Γ.1 0 1)) rfl dX7_pledges_150 (pc' := 153) rfl ?_
                refine k_bipush C (v := 26) dX7_pledges_153 (by decide) (pc' := 155) rfl ?_
                refine k_ialdK C (n0 := 26) (c3 Γ m34 1 (e_d Γ (m34 1))) (v_0 (by decide)) (by decide) (by decide) dX7_pledges_155 (pc' := 156) rfl ?_
                refine k_bipush C (v := 96) dX7_pledges_156 (by decide) (pc' := 158) rfl ?_
                refine k_idivK C dX7_pledges_158 (by decide) (pc' := 159) rfl ?_
                refine k_callVv C (rest := []) (qX7_put l Γ hL m34 a1 8 ((m34 1 26) / 96)) mwX7_put iwX7_put mlX7_64 (k_rm_of (by decide) (by decide)) (c3 Γ m34 0 (e_model Γ (m34 0))) (v_0 (by decide)) rfl rfl rfl (Nat.le_of_ble_eq_true rfl) dX7_pledges_159 (pc' := 162) rfl (fun r36 m37 => ?_)
                refine k_aload_n C 3 dX7_pledges_162 rfl rfl (pc' := 163) rfl ?_
                refine k_iload_n C 4 dX7_pledges_163 rfl rfl (pc' := 164) rfl ?_
                refine k_bipush C (v := 9) dX7_pledges_164 (by decide) (pc' := 166) rfl ?_
                refine k_aload_n C 3 dX7_pledges_166 rfl rfl (pc' := 167) rfl ?_
                refine k_getf C 0 (c3 Γ m37 0 (e_model Γ (m37 0))) (v_0 (by decide)) flX7_7 (v := .ref (Γ.1 0 1)) rfl dX7_pledges_167 (pc' := 170) rfl ?_
                refine k_bipush C (v := 26) dX7_pledges_170 (by decide) (pc' := 172) rfl ?_
                refine k_ialdK C (n0 := 26) (c3 Γ m37 1 (e_d Γ (m37 1))) (v_0 (by decide)) (by decide) (by decide) dX7_pledges_172 (pc' := 173) rfl ?_
                refine k_bipush C (v := 96) dX7_pledges_173 (by decide) (pc' := 175) rfl ?_
                refine k_idivK C dX7_pledges_175 (by decide) (pc' := 176) rfl ?_
                refine k_aload_n C 3 dX7_pledges_176 rfl rfl (pc' := 177) rfl ?_
                refine k_getf C 0 (c3 Γ m37 0 (e_model Γ (m37 0))) (v_0 (by decide)) flX7_7 (v := .ref (Γ.1 0 1)) rfl dX7_pledges_177 (pc' := 180) rfl ?_
                refine k_bipush C (v := 10) dX7_pledges_180 (by decide) (pc' := 182) rfl ?_
                refine k_ialdK C (n0 := 10) (c3 Γ m37 1 (e_d Γ (m37 1))) (v_0 (by decide)) (by decide) (by decide) dX7_pledges_182 (pc' := 183) rfl ?_
                refine k_iadd C dX7_pledges_183 (pc' := 184) rfl ?_
                refine k_callVv C (rest := []) (qX7_put l Γ hL m37 a1 9 (((m37 1 26) / 96) + (m37 1 10))) mwX7_put iwX7_put mlX7_64 (k_rm_of (by decide) (by decide)) (c3 Γ m37 0 (e_model Γ (m37 0))) (v_0 (by decide)) rfl rfl rfl (Nat.le_of_ble_eq_true rfl) dX7_pledges_184 (pc' := 187) rfl (fun r40 m41 => ?_)
                refine k_aload_n C 3 dX7_pledges_187 rfl rfl (pc' := 188) rfl ?_
                refine k_getf C 0 (c3 Γ m41 0 (e_model Γ (m41 0))) (v_0 (by decide)) flX7_7 (v := .ref (Γ.1 0 1)) rfl dX7_pledges_188 (pc' := 191) rfl ?_
                refine k_bipush C (v := 48) dX7_pledges_191 (by decide) (pc' := 193) rfl ?_
                refine k_aload_n C 3 dX7_pledges_193 rfl rfl (pc' := 194) rfl ?_
                refine k_iload_n C 4 dX7_pledges_194 rfl rfl (pc' := 195) rfl ?_
                refine k_iconst C (v := 0) dX7_pledges_195 (by decide) (pc' := 196) rfl ?_
                refine k_callVi C (rest := [.int 48, .ref (Γ.1 0 1)]) (qX7_of l Γ hL m41 a1 0) mwX7_of iwX7_of mlX7_38 (k_rm_of (by decide) (by decide)) (c3 Γ m41 0 (e_model Γ (m41 0))) (v_0 (by decide)) rfl rfl rfl (Nat.le_of_ble_eq_true rfl) dX7_pledges_196 (pc' := 199) rfl (fun r42 m43 => ?_)
                refine k_iadd C dX7_pledges_199 (pc' := 200) rfl ?_
                refine k_dup2 C dX7_pledges_200 rfl rfl (pc' := 201) rfl ?_
                refine k_iald C (c3 Γ m43 1 (e_d Γ (m43 1))) (v_0 (by decide)) dX7_pledges_201 (pc' := 202) rfl (fun h44 => ?_)
                refine k_iload C 0 dX7_pledges_202 rfl (pc' := 204) rfl ?_
                refine k_iadd C dX7_pledges_204 (pc' := 205) rfl ?_
                refine k_iast C hL.k3 (c3 Γ m43 1 (e_d Γ (m43 1))) (v_0 (by decide)) (s3 Γ m43 1 (48 + r42).toNatClampNeg ((m43 1 (48 + r42).toNatClampNeg) + v30) (e_d Γ _)) dX7_pledges_205 (pc' := 206) rfl (fun h45 m46 => ?_)
                refine k_iload C 0 dX7_pledges_206 rfl (pc' := 208) rfl ?_
                exact k_reti C rfl hr dX7_pledges_208
              · refine k_ldc C (v := (-1000002)) dX7_pledges_119 cnX7_105 (pc' := 121) rfl ?_
                exact k_reti C rfl hr dX7_pledges_121
          · refine k_ldc C (v := (-1000002)) dX7_pledges_51 cnX7_105 (pc' := 53) rfl ?_
            exact k_reti C rfl hr dX7_pledges_53
    · refine k_ldc C (v := (-1000001)) dX7_pledges_19 cnX7_33 (pc' := 21) rfl ?_
      exact k_reti C rfl hr dX7_pledges_21
def fX7_owes_b61 (a1 : Int32)  (m0 : kM1) : Option (Int32 × kM1) :=
  some (2147483647, m0)
set_option maxRecDepth 100000 in
set_option maxHeartbeats 4000000 in
theorem sX7_owes_b61 {l : Launch} {Γ : kG} (hL : k_Lay Γ 7) {p : Program} {e : Env} {R : Room} {s : State} {mid : MethodId} {args : Array Value} {below : List Frame} {meth : Method} {c : Code} (C : k_C Γ p R s mid args meth c cX7_owes 3 RX7 (k_R 1)) (hr : meth.sig.returnType = (some .int)) (a1 : Int32)  (m0 : kM1)   : Sm Γ (K3 Γ) p l e R s mid args below meth c 3 true m0 [] [] 61 (fX7_owes_b61 a1 m0) := by
  unfold fX7_owes_b61
  refine k_ldc C (v := 2147483647) dX7_owes_61 cnX7_114 (pc' := 63) rfl ?_
  refine k_goto C (pc' := 79) dX7_owes_63 (by decide) ?_
  exact k_reti C rfl hr dX7_owes_79
def fX7_owes (m0 : kM1) (a1 : Int32) : Option (Int32 × kM1) :=
  bd (fX7_of m0 a1 7) fun r1 m2 => bd (fX7_product m2 r1 (m2 1 9)) fun r4 m5 => bd (fX7_of m5 a1 8) fun r7 m8 => bd (fX7_product m8 r4 (((m5 1 26) / 96) - r7)) fun r9 m10 => if r9 < 0 then fX7_owes_b61 a1 m10 else bd (fX7_of m10 a1 7) fun r12 m13 => if (r9 / 1000) ≤ (2147483647 - r12) then bd (fX7_of m13 a1 7) fun r15 m16 => some (r15 + (r9 / 1000), m16) else fX7_owes_b61 a1 m13
set_option maxRecDepth 100000 in
set_option maxHeartbeats 4000000 in
theorem qX7_owes (l : Launch) (Γ : kG) (hL : k_Lay Γ 7) (m0 : kM1) (a1 : Int32) : CT l Γ (K3 Γ) yX7_owes cX7_owes 3 (some .int) (k_R 1) [.ref (Γ.1 0 0), .int a1] m0 (fX7_owes m0 a1) := by
  refine k_meth (own := RX7) (by decide) rfl (Nat.le_of_ble_eq_true rfl) (fun p e R s mid args below meth c C hr => ?_)
  show Sm Γ (K3 Γ) p l e R s mid args below meth c 3 true m0 [(0, .ref (Γ.1 0 0)), (1, .int a1)] [] 0 (fX7_owes m0 a1)
  unfold fX7_owes
  refine k_aload_n C 0 dX7_owes_0 rfl rfl (pc' := 1) rfl ?_
  refine k_iload_n C 1 dX7_owes_1 rfl rfl (pc' := 2) rfl ?_
  refine k_bipush C (v := 7) dX7_owes_2 (by decide) (pc' := 4) rfl ?_
  refine k_callVi C (rest := []) (qX7_of l Γ hL m0 a1 7) mwX7_of iwX7_of mlX7_38 (k_rm_of (by decide) (by decide)) (c3 Γ m0 0 (e_model Γ (m0 0))) (v_0 (by decide)) rfl rfl rfl (Nat.le_of_ble_eq_true rfl) dX7_owes_4 (pc' := 7) rfl (fun r1 m2 => ?_)
  refine k_aload_n C 0 dX7_owes_7 rfl rfl (pc' := 8) rfl ?_
  refine k_getf C 0 (c3 Γ m2 0 (e_model Γ (m2 0))) (v_0 (by decide)) flX7_7 (v := .ref (Γ.1 0 1)) rfl dX7_owes_8 (pc' := 11) rfl ?_
  refine k_bipush C (v := 9) dX7_owes_11 (by decide) (pc' := 13) rfl ?_
  refine k_ialdK C (n0 := 9) (c3 Γ m2 1 (e_d Γ (m2 1))) (v_0 (by decide)) (by decide) (by decide) dX7_owes_13 (pc' := 14) rfl ?_
  refine k_callSi C (rest := []) (qX7_product l Γ (K3 Γ) m2 r1 (m2 1 9)) mwX7_product swX7_product mlX7_111 (k_rm_of (by decide) (by decide)) rfl rfl (Nat.le_of_ble_eq_true rfl) dX7_owes_14 (pc' := 17) rfl (fun r4 m5 => ?_)
  refine k_aload_n C 0 dX7_owes_17 rfl rfl (pc' := 18) rfl ?_
  refine k_getf C 0 (c3 Γ m5 0 (e_model Γ (m5 0))) (v_0 (by decide)) flX7_7 (v := .ref (Γ.1 0 1)) rfl dX7_owes_18 (pc' := 21) rfl ?_
  refine k_bipush C (v := 26) dX7_owes_21 (by decide) (pc' := 23) rfl ?_
  refine k_ialdK C (n0 := 26) (c3 Γ m5 1 (e_d Γ (m5 1))) (v_0 (by decide)) (by decide) (by decide) dX7_owes_23 (pc' := 24) rfl ?_
  refine k_bipush C (v := 96) dX7_owes_24 (by decide) (pc' := 26) rfl ?_
  refine k_idivK C dX7_owes_26 (by decide) (pc' := 27) rfl ?_
  refine k_aload_n C 0 dX7_owes_27 rfl rfl (pc' := 28) rfl ?_
  refine k_iload_n C 1 dX7_owes_28 rfl rfl (pc' := 29) rfl ?_
  refine k_bipush C (v := 8) dX7_owes_29 (by decide) (pc' := 31) rfl ?_
  refine k_callVi C (rest := [.int ((m5 1 26) / 96), .int r4]) (qX7_of l Γ hL m5 a1 8) mwX7_of iwX7_of mlX7_38 (k_rm_of (by decide) (by decide)) (c3 Γ m5 0 (e_model Γ (m5 0))) (v_0 (by decide)) rfl rfl rfl (Nat.le_of_ble_eq_true rfl) dX7_owes_31 (pc' := 34) rfl (fun r7 m8 => ?_)
  refine k_isub C dX7_owes_34 (pc' := 35) rfl ?_
  refine k_callSi C (rest := []) (qX7_product l Γ (K3 Γ) m8 r4 (((m5 1 26) / 96) - r7)) mwX7_product swX7_product mlX7_111 (k_rm_of (by decide) (by decide)) rfl rfl (Nat.le_of_ble_eq_true rfl) dX7_owes_35 (pc' := 38) rfl (fun r9 m10 => ?_)
  refine k_istore_n C (lv' := [(2, .int r9), (0, .ref (Γ.1 0 0)), (1, .int a1)]) dX7_owes_38 rfl (by decide) rfl (pc' := 39) rfl ?_
  refine k_iload_n C 0 dX7_owes_39 rfl rfl (pc' := 40) rfl ?_
  refine k_if_lt C (tgt := 61) dX7_owes_40 (by decide) (pc' := 43) rfl (fun h11 => ?_) (fun h11 => ?_)
  · refine k_sub [] rfl ?_
    exact sX7_owes_b61 hL C hr a1 m10
  · refine k_iload_n C 0 dX7_owes_43 rfl rfl (pc' := 44) rfl ?_
    refine k_sipush C (v := 1000) dX7_owes_44 (by decide) (pc' := 47) rfl ?_
    refine k_idivK C dX7_owes_47 (by decide) (pc' := 48) rfl ?_
    refine k_ldc C (v := 2147483647) dX7_owes_48 cnX7_114 (pc' := 50) rfl ?_
    refine k_aload_n C 1 dX7_owes_50 rfl rfl (pc' := 51) rfl ?_
    refine k_iload_n C 2 dX7_owes_51 rfl rfl (pc' := 52) rfl ?_
    refine k_bipush C (v := 7) dX7_owes_52 (by decide) (pc' := 54) rfl ?_
    refine k_callVi C (rest := [.int 2147483647, .int (r9 / 1000)]) (qX7_of l Γ hL m10 a1 7) mwX7_of iwX7_of mlX7_38 (k_rm_of (by decide) (by decide)) (c3 Γ m10 0 (e_model Γ (m10 0))) (v_0 (by decide)) rfl rfl rfl (Nat.le_of_ble_eq_true rfl) dX7_owes_54 (pc' := 57) rfl (fun r12 m13 => ?_)
    refine k_isub C dX7_owes_57 (pc' := 58) rfl ?_
    refine k_ic_le C (tgt := 66) dX7_owes_58 (by decide) (pc' := 61) rfl (fun h14 => ?_) (fun h14 => ?_)
    · refine k_aload_n C 1 dX7_owes_66 rfl rfl (pc' := 67) rfl ?_
      refine k_iload_n C 2 dX7_owes_67 rfl rfl (pc' := 68) rfl ?_
      refine k_bipush C (v := 7) dX7_owes_68 (by decide) (pc' := 70) rfl ?_
      refine k_callVi C (rest := []) (qX7_of l Γ hL m13 a1 7) mwX7_of iwX7_of mlX7_38 (k_rm_of (by decide) (by decide)) (c3 Γ m13 0 (e_model Γ (m13 0))) (v_0 (by decide)) rfl rfl rfl (Nat.le_of_ble_eq_true rfl) dX7_owes_70 (pc' := 73) rfl (fun r15 m16 => ?_)
      refine k_iload_n C 0 dX7_owes_73 rfl rfl (pc' := 74) rfl ?_
      refine k_sipush C (v := 1000) dX7_owes_74 (by decide) (pc' := 77) rfl ?_
      refine k_idivK C dX7_owes_77 (by decide) (pc' := 78) rfl ?_
      refine k_iadd C dX7_owes_78 (pc' := 79) rfl ?_
      exact k_reti C rfl hr dX7_owes_79
    · refine k_sub [] rfl ?_
      exact sX7_owes_b61 hL C hr a1 m13
def fX7_redeems (m0 : kM1) (a1 : Int32) : Option (Int32 × kM1) :=
  bd (fX7_isSack m0 a1) fun r1 m2 => if r1 = 0 then some ((-1000001), m2) else bd (fX7_of m2 a1 0) fun r4 m5 => k_let (48 + r4) fun v6 => bd (fX7_of m5 a1 6) fun r7 m8 => if r7 = 0 then some ((-1000002), m8) else bd (fX7_owes m8 a1) fun r10 m11 => if r10 = 2147483647 then some ((-1000002), m11) else if ¬ v6 < 0 ∧ v6.toNatClampNeg < 368 then bd (fX7_owes m11 a1) fun r14 m15 => if r14 ≤ (m11 1 v6.toNatClampNeg) then if ¬ v6 < 0 ∧ v6.toNatClampNeg < 368 then bd (fX7_owes m15 a1) fun r18 m19 => if ¬ v6 < 0 ∧ v6.toNatClampNeg < 368 then k_let (mu m19 1 v6.toNatClampNeg ((m15 1 v6.toNatClampNeg) - r18)) fun m21 => bd (fX7_put m21 a1 6 0) fun r22 m23 => if ¬ v6 < 0 ∧ v6.toNatClampNeg < 368 then some (m23 1 v6.toNatClampNeg, m23) else none else none else none else some ((-1000002), m15) else none
set_option maxRecDepth 100000 in
set_option maxHeartbeats 4000000 in
theorem qX7_redeems (l : Launch) (Γ : kG) (hL : k_Lay Γ 7) (m0 : kM1) (a1 : Int32) : CT l Γ (K3 Γ) yX7_redeems cX7_redeems 3 (some .int) (k_R 2) [.ref (Γ.1 0 0), .int a1] m0 (fX7_redeems m0 a1) := by
  refine k_meth (own := RX7) (by decide) rfl (Nat.le_of_ble_eq_true rfl) (fun p e R s mid args below meth c C hr => ?_)
  show Sm Γ (K3 Γ) p l e R s mid args below meth c 3 true m0 [(0, .ref (Γ.1 0 0)), (1, .int a1)] [] 0 (fX7_redeems m0 a1)
  unfold fX7_redeems
  refine k_aload_n C 0 dX7_redeems_0 rfl rfl (pc' := 1) rfl ?_
  refine k_iload_n C 1 dX7_redeems_1 rfl rfl (pc' := 2) rfl ?_
  refine k_callVi C (rest := []) (qX7_isSack l Γ hL m0 a1) mwX7_isSack iwX7_isSack mlX7_102 (k_rm_of (by decide) (by decide)) (c3 Γ m0 0 (e_model Γ (m0 0))) (v_0 (by decide)) rfl rfl rfl (Nat.le_of_ble_eq_true rfl) dX7_redeems_2 (pc' := 5) rfl (fun r1 m2 => ?_)
  refine k_if_ne C (tgt := 11) dX7_redeems_5 (by decide) (pc' := 8) rfl (fun h3 => ?_) (fun h3 => ?_)
  · refine k_bipush C (v := 48) dX7_redeems_11 (by decide) (pc' := 13) rfl ?_
    refine k_aload_n C 0 dX7_redeems_13 rfl rfl (pc' := 14) rfl ?_
    refine k_iload_n C 1 dX7_redeems_14 rfl rfl (pc' := 15) rfl ?_
    refine k_iconst C (v := 0) dX7_redeems_15 (by decide) (pc' := 16) rfl ?_
    refine k_callVi C (rest := [.int 48]) (qX7_of l Γ hL m2 a1 0) mwX7_of iwX7_of mlX7_38 (k_rm_of (by decide) (by decide)) (c3 Γ m2 0 (e_model Γ (m2 0))) (v_0 (by decide)) rfl rfl rfl (Nat.le_of_ble_eq_true rfl) dX7_redeems_16 (pc' := 19) rfl (fun r4 m5 => ?_)
    refine k_iadd C dX7_redeems_19 (pc' := 20) rfl ?_
    refine k_topi (fun v6 => ?_)
    refine k_istore_n C (lv' := [(2, .int v6), (0, .ref (Γ.1 0 0)), (1, .int a1)]) dX7_redeems_20 rfl (by decide) rfl (pc' := 21) rfl ?_
    refine k_aload_n C 1 dX7_redeems_21 rfl rfl (pc' := 22) rfl ?_
    refine k_iload_n C 2 dX7_redeems_22 rfl rfl (pc' := 23) rfl ?_
    refine k_bipush C (v := 6) dX7_redeems_23 (by decide) (pc' := 25) rfl ?_
    refine k_callVi C (rest := []) (qX7_of l Γ hL m5 a1 6) mwX7_of iwX7_of mlX7_38 (k_rm_of (by decide) (by decide)) (c3 Γ m5 0 (e_model Γ (m5 0))) (v_0 (by decide)) rfl rfl rfl (Nat.le_of_ble_eq_true rfl) dX7_redeems_25 (pc' := 28) rfl (fun r7 m8 => ?_)
    refine k_if_eq C (tgt := 55) dX7_redeems_28 (by decide) (pc' := 31) rfl (fun h9 => ?_) (fun h9 => ?_)
    · refine k_ldc C (v := (-1000002)) dX7_redeems_55 cnX7_105 (pc' := 57) rfl ?_
      exact k_reti C rfl hr dX7_redeems_57
    · refine k_aload_n C 1 dX7_redeems_31 rfl rfl (pc' := 32) rfl ?_
      refine k_iload_n C 2 dX7_redeems_32 rfl rfl (pc' := 33) rfl ?_
      refine k_callVi C (rest := []) (qX7_owes l Γ hL m8 a1) mwX7_owes iwX7_owes mlX7_115 (k_rm_of (by decide) (by decide)) (c3 Γ m8 0 (e_model Γ (m8 0))) (v_0 (by decide)) rfl rfl rfl (Nat.le_of_ble_eq_true rfl) dX7_redeems_33 (pc' := 36) rfl (fun r10 m11 => ?_)
      refine k_ldc C (v := 2147483647) dX7_redeems_36 cnX7_114 (pc' := 38) rfl ?_
      refine k_ic_eq C (tgt := 55) dX7_redeems_38 (by decide) (pc' := 41) rfl (fun h12 => ?_) (fun h12 => ?_)
      · refine k_ldc C (v := (-1000002)) dX7_redeems_55 cnX7_105 (pc' := 57) rfl ?_
        exact k_reti C rfl hr dX7_redeems_57
      · refine k_aload_n C 1 dX7_redeems_41 rfl rfl (pc' := 42) rfl ?_
        refine k_getf C 0 (c3 Γ m11 0 (e_model Γ (m11 0))) (v_0 (by decide)) flX7_7 (v := .ref (Γ.1 0 1)) rfl dX7_redeems_42 (pc' := 45) rfl ?_
        refine k_iload_n C 0 dX7_redeems_45 rfl rfl (pc' := 46) rfl ?_
        refine k_iald C (c3 Γ m11 1 (e_d Γ (m11 1))) (v_0 (by decide)) dX7_redeems_46 (pc' := 47) rfl (fun h13 => ?_)
        refine k_aload_n C 1 dX7_redeems_47 rfl rfl (pc' := 48) rfl ?_
        refine k_iload_n C 2 dX7_redeems_48 rfl rfl (pc' := 49) rfl ?_
        refine k_callVi C (rest := [.int (m11 1 v6.toNatClampNeg)]) (qX7_owes l Γ hL m11 a1) mwX7_owes iwX7_owes mlX7_115 (k_rm_of (by decide) (by decide)) (c3 Γ m11 0 (e_model Γ (m11 0))) (v_0 (by decide)) rfl rfl rfl (Nat.le_of_ble_eq_true rfl) dX7_redeems_49 (pc' := 52) rfl (fun r14 m15 => ?_)
        refine k_ic_ge C (tgt := 58) dX7_redeems_52 (by decide) (pc' := 55) rfl (fun h16 => ?_) (fun h16 => ?_)
        · refine k_aload_n C 1 dX7_redeems_58 rfl rfl (pc' := 59) rfl ?_
          refine k_getf C 0 (c3 Γ m15 0 (e_model Γ (m15 0))) (v_0 (by decide)) flX7_7 (v := .ref (Γ.1 0 1)) rfl dX7_redeems_59 (pc' := 62) rfl ?_
          refine k_iload_n C 0 dX7_redeems_62 rfl rfl (pc' := 63) rfl ?_
          refine k_dup2 C dX7_redeems_63 rfl rfl (pc' := 64) rfl ?_
          refine k_iald C (c3 Γ m15 1 (e_d Γ (m15 1))) (v_0 (by decide)) dX7_redeems_64 (pc' := 65) rfl (fun h17 => ?_)
          refine k_aload_n C 1 dX7_redeems_65 rfl rfl (pc' := 66) rfl ?_
          refine k_iload_n C 2 dX7_redeems_66 rfl rfl (pc' := 67) rfl ?_
          refine k_callVi C (rest := [.int (m15 1 v6.toNatClampNeg), .int v6, .ref (Γ.1 0 1)]) (qX7_owes l Γ hL m15 a1) mwX7_owes iwX7_owes mlX7_115 (k_rm_of (by decide) (by decide)) (c3 Γ m15 0 (e_model Γ (m15 0))) (v_0 (by decide)) rfl rfl rfl (Nat.le_of_ble_eq_true rfl) dX7_redeems_67 (pc' := 70) rfl (fun r18 m19 => ?_)
          refine k_isub C dX7_redeems_70 (pc' := 71) rfl ?_
          refine k_iast C hL.k3 (c3 Γ m19 1 (e_d Γ (m19 1))) (v_0 (by decide)) (s3 Γ m19 1 v6.toNatClampNeg ((m15 1 v6.toNatClampNeg) - r18) (e_d Γ _)) dX7_redeems_71 (pc' := 72) rfl (fun h20 m21 => ?_)
          refine k_aload_n C 1 dX7_redeems_72 rfl rfl (pc' := 73) rfl ?_
          refine k_iload_n C 2 dX7_redeems_73 rfl rfl (pc' := 74) rfl ?_
          refine k_bipush C (v := 6) dX7_redeems_74 (by decide) (pc' := 76) rfl ?_
          refine k_iconst C (v := 0) dX7_redeems_76 (by decide) (pc' := 77) rfl ?_
          refine k_callVv C (rest := []) (qX7_put l Γ hL m21 a1 6 0) mwX7_put iwX7_put mlX7_64 (k_rm_of (by decide) (by decide)) (c3 Γ m21 0 (e_model Γ (m21 0))) (v_0 (by decide)) rfl rfl rfl (Nat.le_of_ble_eq_true rfl) dX7_redeems_77 (pc' := 80) rfl (fun r22 m23 => ?_)
          refine k_aload_n C 1 dX7_redeems_80 rfl rfl (pc' := 81) rfl ?_
          refine k_getf C 0 (c3 Γ m23 0 (e_model Γ (m23 0))) (v_0 (by decide)) flX7_7 (v := .ref (Γ.1 0 1)) rfl dX7_redeems_81 (pc' := 84) rfl ?_
          refine k_iload_n C 0 dX7_redeems_84 rfl rfl (pc' := 85) rfl ?_
          refine k_iald C (c3 Γ m23 1 (e_d Γ (m23 1))) (v_0 (by decide)) dX7_redeems_85 (pc' := 86) rfl (fun h24 => ?_)
          exact k_reti C rfl hr dX7_redeems_86
        · refine k_ldc C (v := (-1000002)) dX7_redeems_55 cnX7_105 (pc' := 57) rfl ?_
          exact k_reti C rfl hr dX7_redeems_57
  · refine k_ldc C (v := (-1000001)) dX7_redeems_8 cnX7_33 (pc' := 10) rfl ?_
    exact k_reti C rfl hr dX7_redeems_10
def fX7_set (m0 : kM1) (a1 : Int32) (a2 : Int32) : Option (Int32 × kM1) :=
  bd (fX7_in m0 a1 0 12) fun r1 m2 => if r1 = 0 then some ((-1000001), m2) else bd (fX7_low m2 a1) fun r4 m5 => bd (fX7_high m5 a1) fun r6 m7 => bd (fX7_in m7 a2 r4 r6) fun r8 m9 => if r8 = 0 then some ((-1000001), m9) else bd (fX7_keeps m9) fun r11 m12 => if ¬ a1 < 0 ∧ a1.toNatClampNeg < 368 then k_let (m12 1 a1.toNatClampNeg) fun v14 => if ¬ a1 < 0 ∧ a1.toNatClampNeg < 368 then k_let (mu m12 1 a1.toNatClampNeg a2) fun m16 => bd (fX7_acted m16 v14) fun r17 m18 => some (r17, m18) else none else none
set_option maxRecDepth 100000 in
set_option maxHeartbeats 4000000 in
theorem qX7_set (l : Launch) (Γ : kG) (hL : k_Lay Γ 7) (m0 : kM1) (a1 : Int32) (a2 : Int32) : CT l Γ (K3 Γ) yX7_set cX7_set 4 (some .int) (k_R 1) [.ref (Γ.1 0 0), .int a1, .int a2] m0 (fX7_set m0 a1 a2) := by
  refine k_meth (own := RX7) (by decide) rfl (Nat.le_of_ble_eq_true rfl) (fun p e R s mid args below meth c C hr => ?_)
  show Sm Γ (K3 Γ) p l e R s mid args below meth c 4 true m0 [(0, .ref (Γ.1 0 0)), (1, .int a1), (2, .int a2)] [] 0 (fX7_set m0 a1 a2)
  unfold fX7_set
  refine k_iload_n C 1 dX7_set_0 rfl rfl (pc' := 1) rfl ?_
  refine k_iconst C (v := 0) dX7_set_1 (by decide) (pc' := 2) rfl ?_
  refine k_bipush C (v := 12) dX7_set_2 (by decide) (pc' := 4) rfl ?_
  refine k_callSi C (rest := []) (qX7_in l Γ (K3 Γ) m0 a1 0 12) mwX7_in swX7_in mlX7_29 (k_rm_of (by decide) (by decide)) rfl rfl (Nat.le_of_ble_eq_true rfl) dX7_set_4 (pc' := 7) rfl (fun r1 m2 => ?_)
  refine k_if_eq C (tgt := 25) dX7_set_7 (by decide) (pc' := 10) rfl (fun h3 => ?_) (fun h3 => ?_)
  · refine k_ldc C (v := (-1000001)) dX7_set_25 cnX7_33 (pc' := 27) rfl ?_
    exact k_reti C rfl hr dX7_set_27
  · refine k_iload_n C 2 dX7_set_10 rfl rfl (pc' := 11) rfl ?_
    refine k_iload_n C 1 dX7_set_11 rfl rfl (pc' := 12) rfl ?_
    refine k_callSi C (rest := [.int a2]) (qX7_low l Γ (K3 Γ) m2 a1) mwX7_low swX7_low mlX7_118 (k_rm_of (by decide) (by decide)) rfl rfl (Nat.le_of_ble_eq_true rfl) dX7_set_12 (pc' := 15) rfl (fun r4 m5 => ?_)
    refine k_iload_n C 1 dX7_set_15 rfl rfl (pc' := 16) rfl ?_
    refine k_callSi C (rest := [.int r4, .int a2]) (qX7_high l Γ (K3 Γ) m5 a1) mwX7_high swX7_high mlX7_121 (k_rm_of (by decide) (by decide)) rfl rfl (Nat.le_of_ble_eq_true rfl) dX7_set_16 (pc' := 19) rfl (fun r6 m7 => ?_)
    refine k_callSi C (rest := []) (qX7_in l Γ (K3 Γ) m7 a2 r4 r6) mwX7_in swX7_in mlX7_29 (k_rm_of (by decide) (by decide)) rfl rfl (Nat.le_of_ble_eq_true rfl) dX7_set_19 (pc' := 22) rfl (fun r8 m9 => ?_)
    refine k_if_ne C (tgt := 28) dX7_set_22 (by decide) (pc' := 25) rfl (fun h10 => ?_) (fun h10 => ?_)
    · refine k_aload_n C 0 dX7_set_28 rfl rfl (pc' := 29) rfl ?_
      refine k_callVv C (rest := []) (qX7_keeps l Γ hL m9) mwX7_keeps iwX7_keeps mlX7_124 (k_rm_of (by decide) (by decide)) (c3 Γ m9 0 (e_model Γ (m9 0))) (v_0 (by decide)) rfl rfl rfl (Nat.le_of_ble_eq_true rfl) dX7_set_29 (pc' := 32) rfl (fun r11 m12 => ?_)
      refine k_aload_n C 0 dX7_set_32 rfl rfl (pc' := 33) rfl ?_
      refine k_getf C 0 (c3 Γ m12 0 (e_model Γ (m12 0))) (v_0 (by decide)) flX7_7 (v := .ref (Γ.1 0 1)) rfl dX7_set_33 (pc' := 36) rfl ?_
      refine k_iload_n C 1 dX7_set_36 rfl rfl (pc' := 37) rfl ?_
      refine k_iald C (c3 Γ m12 1 (e_d Γ (m12 1))) (v_0 (by decide)) dX7_set_37 (pc' := 38) rfl (fun h13 => ?_)
      refine k_topi (fun v14 => ?_)
      refine k_istore_n C (lv' := [(3, .int v14), (0, .ref (Γ.1 0 0)), (1, .int a1), (2, .int a2)]) dX7_set_38 rfl (by decide) rfl (pc' := 39) rfl ?_
      refine k_aload_n C 1 dX7_set_39 rfl rfl (pc' := 40) rfl ?_
      refine k_getf C 0 (c3 Γ m12 0 (e_model Γ (m12 0))) (v_0 (by decide)) flX7_7 (v := .ref (Γ.1 0 1)) rfl dX7_set_40 (pc' := 43) rfl ?_
      refine k_iload_n C 2 dX7_set_43 rfl rfl (pc' := 44) rfl ?_
      refine k_iload_n C 3 dX7_set_44 rfl rfl (pc' := 45) rfl ?_
      refine k_iast C hL.k3 (c3 Γ m12 1 (e_d Γ (m12 1))) (v_0 (by decide)) (s3 Γ m12 1 a1.toNatClampNeg a2 (e_d Γ _)) dX7_set_45 (pc' := 46) rfl (fun h15 m16 => ?_)
      refine k_aload_n C 1 dX7_set_46 rfl rfl (pc' := 47) rfl ?_
      refine k_iload_n C 0 dX7_set_47 rfl rfl (pc' := 48) rfl ?_
      refine k_callVi C (rest := []) (qX7_acted l Γ hL m16 v14) mwX7_acted iwX7_acted mlX7_127 (k_rm_of (by decide) (by decide)) (c3 Γ m16 0 (e_model Γ (m16 0))) (v_0 (by decide)) rfl rfl rfl (Nat.le_of_ble_eq_true rfl) dX7_set_48 (pc' := 51) rfl (fun r17 m18 => ?_)
      exact k_reti C rfl hr dX7_set_51
    · refine k_ldc C (v := (-1000001)) dX7_set_25 cnX7_33 (pc' := 27) rfl ?_
      exact k_reti C rfl hr dX7_set_27
def fX7_leak (m0 : kM1) (a1 : Int32) (a2 : Int32) : Option (Int32 × kM1) :=
  bd (fX7_in m0 a1 0 3) fun r1 m2 => if r1 = 0 then some ((-1000001), m2) else bd (fX7_in m2 a2 0 20) fun r4 m5 => if r4 = 0 then some ((-1000001), m5) else bd (fX7_keeps m5) fun r7 m8 => if ¬ (13 + a1) < 0 ∧ (13 + a1).toNatClampNeg < 368 then k_let (m8 1 (13 + a1).toNatClampNeg) fun v10 => if ¬ (13 + a1) < 0 ∧ (13 + a1).toNatClampNeg < 368 then k_let (mu m8 1 (13 + a1).toNatClampNeg a2) fun m12 => bd (fX7_acted m12 v10) fun r13 m14 => some (r13, m14) else none else none
set_option maxRecDepth 100000 in
set_option maxHeartbeats 4000000 in
theorem qX7_leak (l : Launch) (Γ : kG) (hL : k_Lay Γ 7) (m0 : kM1) (a1 : Int32) (a2 : Int32) : CT l Γ (K3 Γ) yX7_leak cX7_leak 4 (some .int) (k_R 1) [.ref (Γ.1 0 0), .int a1, .int a2] m0 (fX7_leak m0 a1 a2) := by
  refine k_meth (own := RX7) (by decide) rfl (Nat.le_of_ble_eq_true rfl) (fun p e R s mid args below meth c C hr => ?_)
  show Sm Γ (K3 Γ) p l e R s mid args below meth c 4 true m0 [(0, .ref (Γ.1 0 0)), (1, .int a1), (2, .int a2)] [] 0 (fX7_leak m0 a1 a2)
  unfold fX7_leak
  refine k_iload_n C 1 dX7_leak_0 rfl rfl (pc' := 1) rfl ?_
  refine k_iconst C (v := 0) dX7_leak_1 (by decide) (pc' := 2) rfl ?_
  refine k_iconst C (v := 3) dX7_leak_2 (by decide) (pc' := 3) rfl ?_
  refine k_callSi C (rest := []) (qX7_in l Γ (K3 Γ) m0 a1 0 3) mwX7_in swX7_in mlX7_29 (k_rm_of (by decide) (by decide)) rfl rfl (Nat.le_of_ble_eq_true rfl) dX7_leak_3 (pc' := 6) rfl (fun r1 m2 => ?_)
  refine k_if_eq C (tgt := 19) dX7_leak_6 (by decide) (pc' := 9) rfl (fun h3 => ?_) (fun h3 => ?_)
  · refine k_ldc C (v := (-1000001)) dX7_leak_19 cnX7_33 (pc' := 21) rfl ?_
    exact k_reti C rfl hr dX7_leak_21
  · refine k_iload_n C 2 dX7_leak_9 rfl rfl (pc' := 10) rfl ?_
    refine k_iconst C (v := 0) dX7_leak_10 (by decide) (pc' := 11) rfl ?_
    refine k_bipush C (v := 20) dX7_leak_11 (by decide) (pc' := 13) rfl ?_
    refine k_callSi C (rest := []) (qX7_in l Γ (K3 Γ) m2 a2 0 20) mwX7_in swX7_in mlX7_29 (k_rm_of (by decide) (by decide)) rfl rfl (Nat.le_of_ble_eq_true rfl) dX7_leak_13 (pc' := 16) rfl (fun r4 m5 => ?_)
    refine k_if_ne C (tgt := 22) dX7_leak_16 (by decide) (pc' := 19) rfl (fun h6 => ?_) (fun h6 => ?_)
    · refine k_aload_n C 0 dX7_leak_22 rfl rfl (pc' := 23) rfl ?_
      refine k_callVv C (rest := []) (qX7_keeps l Γ hL m5) mwX7_keeps iwX7_keeps mlX7_124 (k_rm_of (by decide) (by decide)) (c3 Γ m5 0 (e_model Γ (m5 0))) (v_0 (by decide)) rfl rfl rfl (Nat.le_of_ble_eq_true rfl) dX7_leak_23 (pc' := 26) rfl (fun r7 m8 => ?_)
      refine k_aload_n C 0 dX7_leak_26 rfl rfl (pc' := 27) rfl ?_
      refine k_getf C 0 (c3 Γ m8 0 (e_model Γ (m8 0))) (v_0 (by decide)) flX7_7 (v := .ref (Γ.1 0 1)) rfl dX7_leak_27 (pc' := 30) rfl ?_
      refine k_bipush C (v := 13) dX7_leak_30 (by decide) (pc' := 32) rfl ?_
      refine k_iload_n C 1 dX7_leak_32 rfl rfl (pc' := 33) rfl ?_
      refine k_iadd C dX7_leak_33 (pc' := 34) rfl ?_
      refine k_iald C (c3 Γ m8 1 (e_d Γ (m8 1))) (v_0 (by decide)) dX7_leak_34 (pc' := 35) rfl (fun h9 => ?_)
      refine k_topi (fun v10 => ?_)
      refine k_istore_n C (lv' := [(3, .int v10), (0, .ref (Γ.1 0 0)), (1, .int a1), (2, .int a2)]) dX7_leak_35 rfl (by decide) rfl (pc' := 36) rfl ?_
      refine k_aload_n C 1 dX7_leak_36 rfl rfl (pc' := 37) rfl ?_
      refine k_getf C 0 (c3 Γ m8 0 (e_model Γ (m8 0))) (v_0 (by decide)) flX7_7 (v := .ref (Γ.1 0 1)) rfl dX7_leak_37 (pc' := 40) rfl ?_
      refine k_bipush C (v := 13) dX7_leak_40 (by decide) (pc' := 42) rfl ?_
      refine k_iload_n C 2 dX7_leak_42 rfl rfl (pc' := 43) rfl ?_
      refine k_iadd C dX7_leak_43 (pc' := 44) rfl ?_
      refine k_iload_n C 3 dX7_leak_44 rfl rfl (pc' := 45) rfl ?_
      refine k_iast C hL.k3 (c3 Γ m8 1 (e_d Γ (m8 1))) (v_0 (by decide)) (s3 Γ m8 1 (13 + a1).toNatClampNeg a2 (e_d Γ _)) dX7_leak_45 (pc' := 46) rfl (fun h11 m12 => ?_)
      refine k_aload_n C 1 dX7_leak_46 rfl rfl (pc' := 47) rfl ?_
      refine k_iload_n C 0 dX7_leak_47 rfl rfl (pc' := 48) rfl ?_
      refine k_callVi C (rest := []) (qX7_acted l Γ hL m12 v10) mwX7_acted iwX7_acted mlX7_127 (k_rm_of (by decide) (by decide)) (c3 Γ m12 0 (e_model Γ (m12 0))) (v_0 (by decide)) rfl rfl rfl (Nat.le_of_ble_eq_true rfl) dX7_leak_48 (pc' := 51) rfl (fun r13 m14 => ?_)
      exact k_reti C rfl hr dX7_leak_51
    · refine k_ldc C (v := (-1000001)) dX7_leak_19 cnX7_33 (pc' := 21) rfl ?_
      exact k_reti C rfl hr dX7_leak_21
def fX7_lock (m0 : kM1) (a1 : Int32) : Option (Int32 × kM1) :=
  bd (fX7_in m0 a1 0 1) fun r1 m2 => if r1 = 0 then some ((-1000001), m2) else bd (fX7_keeps m2) fun r4 m5 => k_let (m5 1 17) fun v7 => k_let (mu m5 1 17 a1) fun m9 => bd (fX7_acted m9 v7) fun r10 m11 => some (r10, m11)
set_option maxRecDepth 100000 in
set_option maxHeartbeats 4000000 in
theorem qX7_lock (l : Launch) (Γ : kG) (hL : k_Lay Γ 7) (m0 : kM1) (a1 : Int32) : CT l Γ (K3 Γ) yX7_lock cX7_lock 3 (some .int) (k_R 1) [.ref (Γ.1 0 0), .int a1] m0 (fX7_lock m0 a1) := by
  refine k_meth (own := RX7) (by decide) rfl (Nat.le_of_ble_eq_true rfl) (fun p e R s mid args below meth c C hr => ?_)
  show Sm Γ (K3 Γ) p l e R s mid args below meth c 3 true m0 [(0, .ref (Γ.1 0 0)), (1, .int a1)] [] 0 (fX7_lock m0 a1)
  unfold fX7_lock
  refine k_iload_n C 1 dX7_lock_0 rfl rfl (pc' := 1) rfl ?_
  refine k_iconst C (v := 0) dX7_lock_1 (by decide) (pc' := 2) rfl ?_
  refine k_iconst C (v := 1) dX7_lock_2 (by decide) (pc' := 3) rfl ?_
  refine k_callSi C (rest := []) (qX7_in l Γ (K3 Γ) m0 a1 0 1) mwX7_in swX7_in mlX7_29 (k_rm_of (by decide) (by decide)) rfl rfl (Nat.le_of_ble_eq_true rfl) dX7_lock_3 (pc' := 6) rfl (fun r1 m2 => ?_)
  refine k_if_ne C (tgt := 12) dX7_lock_6 (by decide) (pc' := 9) rfl (fun h3 => ?_) (fun h3 => ?_)
  · refine k_aload_n C 0 dX7_lock_12 rfl rfl (pc' := 13) rfl ?_
    refine k_callVv C (rest := []) (qX7_keeps l Γ hL m2) mwX7_keeps iwX7_keeps mlX7_124 (k_rm_of (by decide) (by decide)) (c3 Γ m2 0 (e_model Γ (m2 0))) (v_0 (by decide)) rfl rfl rfl (Nat.le_of_ble_eq_true rfl) dX7_lock_13 (pc' := 16) rfl (fun r4 m5 => ?_)
    refine k_aload_n C 0 dX7_lock_16 rfl rfl (pc' := 17) rfl ?_
    refine k_getf C 0 (c3 Γ m5 0 (e_model Γ (m5 0))) (v_0 (by decide)) flX7_7 (v := .ref (Γ.1 0 1)) rfl dX7_lock_17 (pc' := 20) rfl ?_
    refine k_bipush C (v := 17) dX7_lock_20 (by decide) (pc' := 22) rfl ?_
    refine k_ialdK C (n0 := 17) (c3 Γ m5 1 (e_d Γ (m5 1))) (v_0 (by decide)) (by decide) (by decide) dX7_lock_22 (pc' := 23) rfl ?_
    refine k_topi (fun v7 => ?_)
    refine k_istore_n C (lv' := [(2, .int v7), (0, .ref (Γ.1 0 0)), (1, .int a1)]) dX7_lock_23 rfl (by decide) rfl (pc' := 24) rfl ?_
    refine k_aload_n C 1 dX7_lock_24 rfl rfl (pc' := 25) rfl ?_
    refine k_getf C 0 (c3 Γ m5 0 (e_model Γ (m5 0))) (v_0 (by decide)) flX7_7 (v := .ref (Γ.1 0 1)) rfl dX7_lock_25 (pc' := 28) rfl ?_
    refine k_bipush C (v := 17) dX7_lock_28 (by decide) (pc' := 30) rfl ?_
    refine k_iload_n C 2 dX7_lock_30 rfl rfl (pc' := 31) rfl ?_
    refine k_iastK C (n0 := 17) hL.k3 (c3 Γ m5 1 (e_d Γ (m5 1))) (v_0 (by decide)) (by decide) (by decide) (s3 Γ m5 1 17 a1 (e_d Γ _)) dX7_lock_31 (pc' := 32) rfl (fun m9 => ?_)
    refine k_aload_n C 1 dX7_lock_32 rfl rfl (pc' := 33) rfl ?_
    refine k_iload_n C 0 dX7_lock_33 rfl rfl (pc' := 34) rfl ?_
    refine k_callVi C (rest := []) (qX7_acted l Γ hL m9 v7) mwX7_acted iwX7_acted mlX7_127 (k_rm_of (by decide) (by decide)) (c3 Γ m9 0 (e_model Γ (m9 0))) (v_0 (by decide)) rfl rfl rfl (Nat.le_of_ble_eq_true rfl) dX7_lock_34 (pc' := 37) rfl (fun r10 m11 => ?_)
    exact k_reti C rfl hr dX7_lock_37
  · refine k_ldc C (v := (-1000001)) dX7_lock_9 cnX7_33 (pc' := 11) rfl ?_
    exact k_reti C rfl hr dX7_lock_11
def fX7_gate (m0 : kM1) (a1 : Int32) : Option (Int32 × kM1) :=
  bd (fX7_keeps m0) fun r1 m2 => bd (fX7_gates m2 a1) fun r3 m4 => bd (fX7_acted m4 r3) fun r5 m6 => some (r5, m6)
set_option maxRecDepth 100000 in
set_option maxHeartbeats 4000000 in
theorem qX7_gate (l : Launch) (Γ : kG) (hL : k_Lay Γ 7) (m0 : kM1) (a1 : Int32) : CT l Γ (K3 Γ) yX7_gate cX7_gate 2 (some .int) (k_R 2) [.ref (Γ.1 0 0), .int a1] m0 (fX7_gate m0 a1) := by
  refine k_meth (own := RX7) (by decide) rfl (Nat.le_of_ble_eq_true rfl) (fun p e R s mid args below meth c C hr => ?_)
  show Sm Γ (K3 Γ) p l e R s mid args below meth c 2 true m0 [(0, .ref (Γ.1 0 0)), (1, .int a1)] [] 0 (fX7_gate m0 a1)
  unfold fX7_gate
  refine k_aload_n C 0 dX7_gate_0 rfl rfl (pc' := 1) rfl ?_
  refine k_callVv C (rest := []) (qX7_keeps l Γ hL m0) mwX7_keeps iwX7_keeps mlX7_124 (k_rm_of (by decide) (by decide)) (c3 Γ m0 0 (e_model Γ (m0 0))) (v_0 (by decide)) rfl rfl rfl (Nat.le_of_ble_eq_true rfl) dX7_gate_1 (pc' := 4) rfl (fun r1 m2 => ?_)
  refine k_aload_n C 0 dX7_gate_4 rfl rfl (pc' := 5) rfl ?_
  refine k_aload_n C 0 dX7_gate_5 rfl rfl (pc' := 6) rfl ?_
  refine k_iload_n C 1 dX7_gate_6 rfl rfl (pc' := 7) rfl ?_
  refine k_callVi C (rest := [.ref (Γ.1 0 0)]) (qX7_gates l Γ hL m2 a1) mwX7_gates iwX7_gates mlX7_130 (k_rm_of (by decide) (by decide)) (c3 Γ m2 0 (e_model Γ (m2 0))) (v_0 (by decide)) rfl rfl rfl (Nat.le_of_ble_eq_true rfl) dX7_gate_7 (pc' := 10) rfl (fun r3 m4 => ?_)
  refine k_callVi C (rest := []) (qX7_acted l Γ hL m4 r3) mwX7_acted iwX7_acted mlX7_127 (k_rm_of (by decide) (by decide)) (c3 Γ m4 0 (e_model Γ (m4 0))) (v_0 (by decide)) rfl rfl rfl (Nat.le_of_ble_eq_true rfl) dX7_gate_10 (pc' := 13) rfl (fun r5 m6 => ?_)
  exact k_reti C rfl hr dX7_gate_13
def fX7_kind (m0 : kM1) (a1 : Int32) (a2 : Int32) (a3 : Int32) : Option (Int32 × kM1) :=
  bd (fX7_in m0 a1 1 9) fun r1 m2 => if r1 = 0 then some ((-1000001), m2) else bd (fX7_in m2 a2 0 20) fun r4 m5 => if r4 = 0 then some ((-1000001), m5) else bd (fX7_in m5 a3 1 1000000) fun r7 m8 => if r7 = 0 then some ((-1000001), m8) else if (m8 1 27) = 6 then some ((-1000003), m8) else bd (fX7_keeps m8) fun r12 m13 => k_let (30 + (3 * (m13 1 27))) fun v15 => if ¬ v15 < 0 ∧ v15.toNatClampNeg < 368 then k_let (mu m13 1 v15.toNatClampNeg a1) fun m17 => if ¬ (v15 + 1) < 0 ∧ (v15 + 1).toNatClampNeg < 368 then k_let (mu m17 1 (v15 + 1).toNatClampNeg a2) fun m19 => if ¬ (v15 + 2) < 0 ∧ (v15 + 2).toNatClampNeg < 368 then k_let (mu m19 1 (v15 + 2).toNatClampNeg a3) fun m21 => k_let (mu m21 1 27 ((m21 1 27) + 1)) fun m24 => bd (fX7_acted m24 ((m24 1 27) - 1)) fun r26 m27 => some (r26, m27) else none else none else none
set_option maxRecDepth 100000 in
set_option maxHeartbeats 4000000 in
theorem qX7_kind (l : Launch) (Γ : kG) (hL : k_Lay Γ 7) (m0 : kM1) (a1 : Int32) (a2 : Int32) (a3 : Int32) : CT l Γ (K3 Γ) yX7_kind cX7_kind 5 (some .int) (k_R 1) [.ref (Γ.1 0 0), .int a1, .int a2, .int a3] m0 (fX7_kind m0 a1 a2 a3) := by
  refine k_meth (own := RX7) (by decide) rfl (Nat.le_of_ble_eq_true rfl) (fun p e R s mid args below meth c C hr => ?_)
  show Sm Γ (K3 Γ) p l e R s mid args below meth c 5 true m0 [(0, .ref (Γ.1 0 0)), (1, .int a1), (2, .int a2), (3, .int a3)] [] 0 (fX7_kind m0 a1 a2 a3)
  unfold fX7_kind
  refine k_iload_n C 1 dX7_kind_0 rfl rfl (pc' := 1) rfl ?_
  refine k_iconst C (v := 1) dX7_kind_1 (by decide) (pc' := 2) rfl ?_
  refine k_bipush C (v := 9) dX7_kind_2 (by decide) (pc' := 4) rfl ?_
  refine k_callSi C (rest := []) (qX7_in l Γ (K3 Γ) m0 a1 1 9) mwX7_in swX7_in mlX7_29 (k_rm_of (by decide) (by decide)) rfl rfl (Nat.le_of_ble_eq_true rfl) dX7_kind_4 (pc' := 7) rfl (fun r1 m2 => ?_)
  refine k_if_eq C (tgt := 30) dX7_kind_7 (by decide) (pc' := 10) rfl (fun h3 => ?_) (fun h3 => ?_)
  · refine k_ldc C (v := (-1000001)) dX7_kind_30 cnX7_33 (pc' := 32) rfl ?_
    exact k_reti C rfl hr dX7_kind_32
  · refine k_iload_n C 2 dX7_kind_10 rfl rfl (pc' := 11) rfl ?_
    refine k_iconst C (v := 0) dX7_kind_11 (by decide) (pc' := 12) rfl ?_
    refine k_bipush C (v := 20) dX7_kind_12 (by decide) (pc' := 14) rfl ?_
    refine k_callSi C (rest := []) (qX7_in l Γ (K3 Γ) m2 a2 0 20) mwX7_in swX7_in mlX7_29 (k_rm_of (by decide) (by decide)) rfl rfl (Nat.le_of_ble_eq_true rfl) dX7_kind_14 (pc' := 17) rfl (fun r4 m5 => ?_)
    refine k_if_eq C (tgt := 30) dX7_kind_17 (by decide) (pc' := 20) rfl (fun h6 => ?_) (fun h6 => ?_)
    · refine k_ldc C (v := (-1000001)) dX7_kind_30 cnX7_33 (pc' := 32) rfl ?_
      exact k_reti C rfl hr dX7_kind_32
    · refine k_iload_n C 3 dX7_kind_20 rfl rfl (pc' := 21) rfl ?_
      refine k_iconst C (v := 1) dX7_kind_21 (by decide) (pc' := 22) rfl ?_
      refine k_ldc C (v := 1000000) dX7_kind_22 cnX7_133 (pc' := 24) rfl ?_
      refine k_callSi C (rest := []) (qX7_in l Γ (K3 Γ) m5 a3 1 1000000) mwX7_in swX7_in mlX7_29 (k_rm_of (by decide) (by decide)) rfl rfl (Nat.le_of_ble_eq_true rfl) dX7_kind_24 (pc' := 27) rfl (fun r7 m8 => ?_)
      refine k_if_ne C (tgt := 33) dX7_kind_27 (by decide) (pc' := 30) rfl (fun h9 => ?_) (fun h9 => ?_)
      · refine k_aload_n C 0 dX7_kind_33 rfl rfl (pc' := 34) rfl ?_
        refine k_getf C 0 (c3 Γ m8 0 (e_model Γ (m8 0))) (v_0 (by decide)) flX7_7 (v := .ref (Γ.1 0 1)) rfl dX7_kind_34 (pc' := 37) rfl ?_
        refine k_bipush C (v := 27) dX7_kind_37 (by decide) (pc' := 39) rfl ?_
        refine k_ialdK C (n0 := 27) (c3 Γ m8 1 (e_d Γ (m8 1))) (v_0 (by decide)) (by decide) (by decide) dX7_kind_39 (pc' := 40) rfl ?_
        refine k_bipush C (v := 6) dX7_kind_40 (by decide) (pc' := 42) rfl ?_
        refine k_ic_ne C (tgt := 48) dX7_kind_42 (by decide) (pc' := 45) rfl (fun h11 => ?_) (fun h11 => ?_)
        · refine k_aload_n C 0 dX7_kind_48 rfl rfl (pc' := 49) rfl ?_
          refine k_callVv C (rest := []) (qX7_keeps l Γ hL m8) mwX7_keeps iwX7_keeps mlX7_124 (k_rm_of (by decide) (by decide)) (c3 Γ m8 0 (e_model Γ (m8 0))) (v_0 (by decide)) rfl rfl rfl (Nat.le_of_ble_eq_true rfl) dX7_kind_49 (pc' := 52) rfl (fun r12 m13 => ?_)
          refine k_bipush C (v := 30) dX7_kind_52 (by decide) (pc' := 54) rfl ?_
          refine k_iconst C (v := 3) dX7_kind_54 (by decide) (pc' := 55) rfl ?_
          refine k_aload_n C 0 dX7_kind_55 rfl rfl (pc' := 56) rfl ?_
          refine k_getf C 0 (c3 Γ m13 0 (e_model Γ (m13 0))) (v_0 (by decide)) flX7_7 (v := .ref (Γ.1 0 1)) rfl dX7_kind_56 (pc' := 59) rfl ?_
          refine k_bipush C (v := 27) dX7_kind_59 (by decide) (pc' := 61) rfl ?_
          refine k_ialdK C (n0 := 27) (c3 Γ m13 1 (e_d Γ (m13 1))) (v_0 (by decide)) (by decide) (by decide) dX7_kind_61 (pc' := 62) rfl ?_
          refine k_imul C dX7_kind_62 (pc' := 63) rfl ?_
          refine k_iadd C dX7_kind_63 (pc' := 64) rfl ?_
          refine k_topi (fun v15 => ?_)
          refine k_istore C (lv' := [(4, .int v15), (0, .ref (Γ.1 0 0)), (1, .int a1), (2, .int a2), (3, .int a3)]) dX7_kind_64 (by decide) rfl (pc' := 66) rfl ?_
          refine k_aload_n C 1 dX7_kind_66 rfl rfl (pc' := 67) rfl ?_
          refine k_getf C 0 (c3 Γ m13 0 (e_model Γ (m13 0))) (v_0 (by decide)) flX7_7 (v := .ref (Γ.1 0 1)) rfl dX7_kind_67 (pc' := 70) rfl ?_
          refine k_iload C 0 dX7_kind_70 rfl (pc' := 72) rfl ?_
          refine k_iload_n C 2 dX7_kind_72 rfl rfl (pc' := 73) rfl ?_
          refine k_iast C hL.k3 (c3 Γ m13 1 (e_d Γ (m13 1))) (v_0 (by decide)) (s3 Γ m13 1 v15.toNatClampNeg a1 (e_d Γ _)) dX7_kind_73 (pc' := 74) rfl (fun h16 m17 => ?_)
          refine k_aload_n C 1 dX7_kind_74 rfl rfl (pc' := 75) rfl ?_
          refine k_getf C 0 (c3 Γ m17 0 (e_model Γ (m17 0))) (v_0 (by decide)) flX7_7 (v := .ref (Γ.1 0 1)) rfl dX7_kind_75 (pc' := 78) rfl ?_
          refine k_iload C 0 dX7_kind_78 rfl (pc' := 80) rfl ?_
          refine k_iconst C (v := 1) dX7_kind_80 (by decide) (pc' := 81) rfl ?_
          refine k_iadd C dX7_kind_81 (pc' := 82) rfl ?_
          refine k_iload_n C 3 dX7_kind_82 rfl rfl (pc' := 83) rfl ?_
          refine k_iast C hL.k3 (c3 Γ m17 1 (e_d Γ (m17 1))) (v_0 (by decide)) (s3 Γ m17 1 (v15 + 1).toNatClampNeg a2 (e_d Γ _)) dX7_kind_83 (pc' := 84) rfl (fun h18 m19 => ?_)
          refine k_aload_n C 1 dX7_kind_84 rfl rfl (pc' := 85) rfl ?_
          refine k_getf C 0 (c3 Γ m19 0 (e_model Γ (m19 0))) (v_0 (by decide)) flX7_7 (v := .ref (Γ.1 0 1)) rfl dX7_kind_85 (pc' := 88) rfl ?_
          refine k_iload C 0 dX7_kind_88 rfl (pc' := 90) rfl ?_
          refine k_iconst C (v := 2) dX7_kind_90 (by decide) (pc' := 91) rfl ?_
          refine k_iadd C dX7_kind_91 (pc' := 92) rfl ?_
          refine k_iload_n C 4 dX7_kind_92 rfl rfl (pc' := 93) rfl ?_
          refine k_iast C hL.k3 (c3 Γ m19 1 (e_d Γ (m19 1))) (v_0 (by decide)) (s3 Γ m19 1 (v15 + 2).toNatClampNeg a3 (e_d Γ _)) dX7_kind_93 (pc' := 94) rfl (fun h20 m21 => ?_)
          refine k_aload_n C 1 dX7_kind_94 rfl rfl (pc' := 95) rfl ?_
          refine k_getf C 0 (c3 Γ m21 0 (e_model Γ (m21 0))) (v_0 (by decide)) flX7_7 (v := .ref (Γ.1 0 1)) rfl dX7_kind_95 (pc' := 98) rfl ?_
          refine k_bipush C (v := 27) dX7_kind_98 (by decide) (pc' := 100) rfl ?_
          refine k_dup2 C dX7_kind_100 rfl rfl (pc' := 101) rfl ?_
          refine k_ialdK C (n0 := 27) (c3 Γ m21 1 (e_d Γ (m21 1))) (v_0 (by decide)) (by decide) (by decide) dX7_kind_101 (pc' := 102) rfl ?_
          refine k_iconst C (v := 1) dX7_kind_102 (by decide) (pc' := 103) rfl ?_
          refine k_iadd C dX7_kind_103 (pc' := 104) rfl ?_
          refine k_iastK C (n0 := 27) hL.k3 (c3 Γ m21 1 (e_d Γ (m21 1))) (v_0 (by decide)) (by decide) (by decide) (s3 Γ m21 1 27 ((m21 1 27) + 1) (e_d Γ _)) dX7_kind_104 (pc' := 105) rfl (fun m24 => ?_)
          refine k_aload_n C 1 dX7_kind_105 rfl rfl (pc' := 106) rfl ?_
          refine k_aload_n C 1 dX7_kind_106 rfl rfl (pc' := 107) rfl ?_
          refine k_getf C 0 (c3 Γ m24 0 (e_model Γ (m24 0))) (v_0 (by decide)) flX7_7 (v := .ref (Γ.1 0 1)) rfl dX7_kind_107 (pc' := 110) rfl ?_
          refine k_bipush C (v := 27) dX7_kind_110 (by decide) (pc' := 112) rfl ?_
          refine k_ialdK C (n0 := 27) (c3 Γ m24 1 (e_d Γ (m24 1))) (v_0 (by decide)) (by decide) (by decide) dX7_kind_112 (pc' := 113) rfl ?_
          refine k_iconst C (v := 1) dX7_kind_113 (by decide) (pc' := 114) rfl ?_
          refine k_isub C dX7_kind_114 (pc' := 115) rfl ?_
          refine k_callVi C (rest := []) (qX7_acted l Γ hL m24 ((m24 1 27) - 1)) mwX7_acted iwX7_acted mlX7_127 (k_rm_of (by decide) (by decide)) (c3 Γ m24 0 (e_model Γ (m24 0))) (v_0 (by decide)) rfl rfl rfl (Nat.le_of_ble_eq_true rfl) dX7_kind_115 (pc' := 118) rfl (fun r26 m27 => ?_)
          exact k_reti C rfl hr dX7_kind_118
        · refine k_ldc C (v := (-1000003)) dX7_kind_45 cnX7_101 (pc' := 47) rfl ?_
          exact k_reti C rfl hr dX7_kind_47
      · refine k_ldc C (v := (-1000001)) dX7_kind_30 cnX7_33 (pc' := 32) rfl ?_
        exact k_reti C rfl hr dX7_kind_32
def fX7_farmer (m0 : kM1) : Option (Int32 × kM1) :=
  if (m0 1 28) = 8 then some ((-1000003), m0) else bd (fX7_keeps m0) fun r3 m4 => if ¬ (48 + (m4 1 28)) < 0 ∧ (48 + (m4 1 28)).toNatClampNeg < 368 then k_let (mu m4 1 (48 + (m4 1 28)).toNatClampNeg 0) fun m7 => k_let (mu m7 1 28 ((m7 1 28) + 1)) fun m10 => bd (fX7_acted m10 ((m10 1 28) - 1)) fun r12 m13 => some (r12, m13) else none
set_option maxRecDepth 100000 in
set_option maxHeartbeats 4000000 in
theorem qX7_farmer (l : Launch) (Γ : kG) (hL : k_Lay Γ 7) (m0 : kM1) : CT l Γ (K3 Γ) yX7_farmer cX7_farmer 1 (some .int) (k_R 1) [.ref (Γ.1 0 0)] m0 (fX7_farmer m0 ) := by
  refine k_meth (own := RX7) (by decide) rfl (Nat.le_of_ble_eq_true rfl) (fun p e R s mid args below meth c C hr => ?_)
  show Sm Γ (K3 Γ) p l e R s mid args below meth c 1 true m0 [(0, .ref (Γ.1 0 0))] [] 0 (fX7_farmer m0 )
  unfold fX7_farmer
  refine k_aload_n C 0 dX7_farmer_0 rfl rfl (pc' := 1) rfl ?_
  refine k_getf C 0 (c3 Γ m0 0 (e_model Γ (m0 0))) (v_0 (by decide)) flX7_7 (v := .ref (Γ.1 0 1)) rfl dX7_farmer_1 (pc' := 4) rfl ?_
  refine k_bipush C (v := 28) dX7_farmer_4 (by decide) (pc' := 6) rfl ?_
  refine k_ialdK C (n0 := 28) (c3 Γ m0 1 (e_d Γ (m0 1))) (v_0 (by decide)) (by decide) (by decide) dX7_farmer_6 (pc' := 7) rfl ?_
  refine k_bipush C (v := 8) dX7_farmer_7 (by decide) (pc' := 9) rfl ?_
  refine k_ic_ne C (tgt := 15) dX7_farmer_9 (by decide) (pc' := 12) rfl (fun h2 => ?_) (fun h2 => ?_)
  · refine k_aload_n C 0 dX7_farmer_15 rfl rfl (pc' := 16) rfl ?_
    refine k_callVv C (rest := []) (qX7_keeps l Γ hL m0) mwX7_keeps iwX7_keeps mlX7_124 (k_rm_of (by decide) (by decide)) (c3 Γ m0 0 (e_model Γ (m0 0))) (v_0 (by decide)) rfl rfl rfl (Nat.le_of_ble_eq_true rfl) dX7_farmer_16 (pc' := 19) rfl (fun r3 m4 => ?_)
    refine k_aload_n C 0 dX7_farmer_19 rfl rfl (pc' := 20) rfl ?_
    refine k_getf C 0 (c3 Γ m4 0 (e_model Γ (m4 0))) (v_0 (by decide)) flX7_7 (v := .ref (Γ.1 0 1)) rfl dX7_farmer_20 (pc' := 23) rfl ?_
    refine k_bipush C (v := 48) dX7_farmer_23 (by decide) (pc' := 25) rfl ?_
    refine k_aload_n C 0 dX7_farmer_25 rfl rfl (pc' := 26) rfl ?_
    refine k_getf C 0 (c3 Γ m4 0 (e_model Γ (m4 0))) (v_0 (by decide)) flX7_7 (v := .ref (Γ.1 0 1)) rfl dX7_farmer_26 (pc' := 29) rfl ?_
    refine k_bipush C (v := 28) dX7_farmer_29 (by decide) (pc' := 31) rfl ?_
    refine k_ialdK C (n0 := 28) (c3 Γ m4 1 (e_d Γ (m4 1))) (v_0 (by decide)) (by decide) (by decide) dX7_farmer_31 (pc' := 32) rfl ?_
    refine k_iadd C dX7_farmer_32 (pc' := 33) rfl ?_
    refine k_iconst C (v := 0) dX7_farmer_33 (by decide) (pc' := 34) rfl ?_
    refine k_iast C hL.k3 (c3 Γ m4 1 (e_d Γ (m4 1))) (v_0 (by decide)) (s3 Γ m4 1 (48 + (m4 1 28)).toNatClampNeg 0 (e_d Γ _)) dX7_farmer_34 (pc' := 35) rfl (fun h6 m7 => ?_)
    refine k_aload_n C 0 dX7_farmer_35 rfl rfl (pc' := 36) rfl ?_
    refine k_getf C 0 (c3 Γ m7 0 (e_model Γ (m7 0))) (v_0 (by decide)) flX7_7 (v := .ref (Γ.1 0 1)) rfl dX7_farmer_36 (pc' := 39) rfl ?_
    refine k_bipush C (v := 28) dX7_farmer_39 (by decide) (pc' := 41) rfl ?_
    refine k_dup2 C dX7_farmer_41 rfl rfl (pc' := 42) rfl ?_
    refine k_ialdK C (n0 := 28) (c3 Γ m7 1 (e_d Γ (m7 1))) (v_0 (by decide)) (by decide) (by decide) dX7_farmer_42 (pc' := 43) rfl ?_
    refine k_iconst C (v := 1) dX7_farmer_43 (by decide) (pc' := 44) rfl ?_
    refine k_iadd C dX7_farmer_44 (pc' := 45) rfl ?_
    refine k_iastK C (n0 := 28) hL.k3 (c3 Γ m7 1 (e_d Γ (m7 1))) (v_0 (by decide)) (by decide) (by decide) (s3 Γ m7 1 28 ((m7 1 28) + 1) (e_d Γ _)) dX7_farmer_45 (pc' := 46) rfl (fun m10 => ?_)
    refine k_aload_n C 0 dX7_farmer_46 rfl rfl (pc' := 47) rfl ?_
    refine k_aload_n C 0 dX7_farmer_47 rfl rfl (pc' := 48) rfl ?_
    refine k_getf C 0 (c3 Γ m10 0 (e_model Γ (m10 0))) (v_0 (by decide)) flX7_7 (v := .ref (Γ.1 0 1)) rfl dX7_farmer_48 (pc' := 51) rfl ?_
    refine k_bipush C (v := 28) dX7_farmer_51 (by decide) (pc' := 53) rfl ?_
    refine k_ialdK C (n0 := 28) (c3 Γ m10 1 (e_d Γ (m10 1))) (v_0 (by decide)) (by decide) (by decide) dX7_farmer_53 (pc' := 54) rfl ?_
    refine k_iconst C (v := 1) dX7_farmer_54 (by decide) (pc' := 55) rfl ?_
    refine k_isub C dX7_farmer_55 (pc' := 56) rfl ?_
    refine k_callVi C (rest := []) (qX7_acted l Γ hL m10 ((m10 1 28) - 1)) mwX7_acted iwX7_acted mlX7_127 (k_rm_of (by decide) (by decide)) (c3 Γ m10 0 (e_model Γ (m10 0))) (v_0 (by decide)) rfl rfl rfl (Nat.le_of_ble_eq_true rfl) dX7_farmer_56 (pc' := 59) rfl (fun r12 m13 => ?_)
    exact k_reti C rfl hr dX7_farmer_59
  · refine k_ldc C (v := (-1000003)) dX7_farmer_12 cnX7_101 (pc' := 14) rfl ?_
    exact k_reti C rfl hr dX7_farmer_14
def fX7_bring (m0 : kM1) (a1 : Int32) (a2 : Int32) (a3 : Int32) : Option (Int32 × kM1) :=
  bd (fX7_keeps m0) fun r1 m2 => bd (fX7_brings m2 a1 a2 a3) fun r3 m4 => bd (fX7_acted m4 r3) fun r5 m6 => some (r5, m6)
set_option maxRecDepth 100000 in
set_option maxHeartbeats 4000000 in
theorem qX7_bring (l : Launch) (Γ : kG) (hL : k_Lay Γ 7) (m0 : kM1) (a1 : Int32) (a2 : Int32) (a3 : Int32) : CT l Γ (K3 Γ) yX7_bring cX7_bring 4 (some .int) (k_R 3) [.ref (Γ.1 0 0), .int a1, .int a2, .int a3] m0 (fX7_bring m0 a1 a2 a3) := by
  refine k_meth (own := RX7) (by decide) rfl (Nat.le_of_ble_eq_true rfl) (fun p e R s mid args below meth c C hr => ?_)
  show Sm Γ (K3 Γ) p l e R s mid args below meth c 4 true m0 [(0, .ref (Γ.1 0 0)), (1, .int a1), (2, .int a2), (3, .int a3)] [] 0 (fX7_bring m0 a1 a2 a3)
  unfold fX7_bring
  refine k_aload_n C 0 dX7_bring_0 rfl rfl (pc' := 1) rfl ?_
  refine k_callVv C (rest := []) (qX7_keeps l Γ hL m0) mwX7_keeps iwX7_keeps mlX7_124 (k_rm_of (by decide) (by decide)) (c3 Γ m0 0 (e_model Γ (m0 0))) (v_0 (by decide)) rfl rfl rfl (Nat.le_of_ble_eq_true rfl) dX7_bring_1 (pc' := 4) rfl (fun r1 m2 => ?_)
  refine k_aload_n C 0 dX7_bring_4 rfl rfl (pc' := 5) rfl ?_
  refine k_aload_n C 0 dX7_bring_5 rfl rfl (pc' := 6) rfl ?_
  refine k_iload_n C 1 dX7_bring_6 rfl rfl (pc' := 7) rfl ?_
  refine k_iload_n C 2 dX7_bring_7 rfl rfl (pc' := 8) rfl ?_
  refine k_iload_n C 3 dX7_bring_8 rfl rfl (pc' := 9) rfl ?_
  refine k_callVi C (rest := [.ref (Γ.1 0 0)]) (qX7_brings l Γ hL m2 a1 a2 a3) mwX7_brings iwX7_brings mlX7_134 (k_rm_of (by decide) (by decide)) (c3 Γ m2 0 (e_model Γ (m2 0))) (v_0 (by decide)) rfl rfl rfl (Nat.le_of_ble_eq_true rfl) dX7_bring_9 (pc' := 12) rfl (fun r3 m4 => ?_)
  refine k_callVi C (rest := []) (qX7_acted l Γ hL m4 r3) mwX7_acted iwX7_acted mlX7_127 (k_rm_of (by decide) (by decide)) (c3 Γ m4 0 (e_model Γ (m4 0))) (v_0 (by decide)) rfl rfl rfl (Nat.le_of_ble_eq_true rfl) dX7_bring_12 (pc' := 15) rfl (fun r5 m6 => ?_)
  exact k_reti C rfl hr dX7_bring_15
def fX7_withdraw (m0 : kM1) (a1 : Int32) : Option (Int32 × kM1) :=
  bd (fX7_isSack m0 a1) fun r1 m2 => if r1 = 0 then some ((-1000001), m2) else bd (fX7_of m2 a1 3) fun r4 m5 => if r4 = 0 then bd (fX7_keeps m5) fun r7 m8 => bd (fX7_of m8 a1 2) fun r9 m10 => bd (fX7_put m10 a1 11 r9) fun r11 m12 => bd (fX7_put m12 a1 3 3) fun r13 m14 => bd (fX7_of m14 a1 2) fun r15 m16 => bd (fX7_acted m16 r15) fun r17 m18 => some (r17, m18) else some ((-1000002), m5)
set_option maxRecDepth 100000 in
set_option maxHeartbeats 4000000 in
theorem qX7_withdraw (l : Launch) (Γ : kG) (hL : k_Lay Γ 7) (m0 : kM1) (a1 : Int32) : CT l Γ (K3 Γ) yX7_withdraw cX7_withdraw 2 (some .int) (k_R 2) [.ref (Γ.1 0 0), .int a1] m0 (fX7_withdraw m0 a1) := by
  refine k_meth (own := RX7) (by decide) rfl (Nat.le_of_ble_eq_true rfl) (fun p e R s mid args below meth c C hr => ?_)
  show Sm Γ (K3 Γ) p l e R s mid args below meth c 2 true m0 [(0, .ref (Γ.1 0 0)), (1, .int a1)] [] 0 (fX7_withdraw m0 a1)
  unfold fX7_withdraw
  refine k_aload_n C 0 dX7_withdraw_0 rfl rfl (pc' := 1) rfl ?_
  refine k_iload_n C 1 dX7_withdraw_1 rfl rfl (pc' := 2) rfl ?_
  refine k_callVi C (rest := []) (qX7_isSack l Γ hL m0 a1) mwX7_isSack iwX7_isSack mlX7_102 (k_rm_of (by decide) (by decide)) (c3 Γ m0 0 (e_model Γ (m0 0))) (v_0 (by decide)) rfl rfl rfl (Nat.le_of_ble_eq_true rfl) dX7_withdraw_2 (pc' := 5) rfl (fun r1 m2 => ?_)
  refine k_if_ne C (tgt := 11) dX7_withdraw_5 (by decide) (pc' := 8) rfl (fun h3 => ?_) (fun h3 => ?_)
  · refine k_aload_n C 0 dX7_withdraw_11 rfl rfl (pc' := 12) rfl ?_
    refine k_iload_n C 1 dX7_withdraw_12 rfl rfl (pc' := 13) rfl ?_
    refine k_iconst C (v := 3) dX7_withdraw_13 (by decide) (pc' := 14) rfl ?_
    refine k_callVi C (rest := []) (qX7_of l Γ hL m2 a1 3) mwX7_of iwX7_of mlX7_38 (k_rm_of (by decide) (by decide)) (c3 Γ m2 0 (e_model Γ (m2 0))) (v_0 (by decide)) rfl rfl rfl (Nat.le_of_ble_eq_true rfl) dX7_withdraw_14 (pc' := 17) rfl (fun r4 m5 => ?_)
    refine k_if_eq C (tgt := 23) dX7_withdraw_17 (by decide) (pc' := 20) rfl (fun h6 => ?_) (fun h6 => ?_)
    · refine k_aload_n C 0 dX7_withdraw_23 rfl rfl (pc' := 24) rfl ?_
      refine k_callVv C (rest := []) (qX7_keeps l Γ hL m5) mwX7_keeps iwX7_keeps mlX7_124 (k_rm_of (by decide) (by decide)) (c3 Γ m5 0 (e_model Γ (m5 0))) (v_0 (by decide)) rfl rfl rfl (Nat.le_of_ble_eq_true rfl) dX7_withdraw_24 (pc' := 27) rfl (fun r7 m8 => ?_)
      refine k_aload_n C 0 dX7_withdraw_27 rfl rfl (pc' := 28) rfl ?_
      refine k_iload_n C 1 dX7_withdraw_28 rfl rfl (pc' := 29) rfl ?_
      refine k_bipush C (v := 11) dX7_withdraw_29 (by decide) (pc' := 31) rfl ?_
      refine k_aload_n C 0 dX7_withdraw_31 rfl rfl (pc' := 32) rfl ?_
      refine k_iload_n C 1 dX7_withdraw_32 rfl rfl (pc' := 33) rfl ?_
      refine k_iconst C (v := 2) dX7_withdraw_33 (by decide) (pc' := 34) rfl ?_
      refine k_callVi C (rest := [.int 11, .int a1, .ref (Γ.1 0 0)]) (qX7_of l Γ hL m8 a1 2) mwX7_of iwX7_of mlX7_38 (k_rm_of (by decide) (by decide)) (c3 Γ m8 0 (e_model Γ (m8 0))) (v_0 (by decide)) rfl rfl rfl (Nat.le_of_ble_eq_true rfl) dX7_withdraw_34 (pc' := 37) rfl (fun r9 m10 => ?_)
      refine k_callVv C (rest := []) (qX7_put l Γ hL m10 a1 11 r9) mwX7_put iwX7_put mlX7_64 (k_rm_of (by decide) (by decide)) (c3 Γ m10 0 (e_model Γ (m10 0))) (v_0 (by decide)) rfl rfl rfl (Nat.le_of_ble_eq_true rfl) dX7_withdraw_37 (pc' := 40) rfl (fun r11 m12 => ?_)
      refine k_aload_n C 0 dX7_withdraw_40 rfl rfl (pc' := 41) rfl ?_
      refine k_iload_n C 1 dX7_withdraw_41 rfl rfl (pc' := 42) rfl ?_
      refine k_iconst C (v := 3) dX7_withdraw_42 (by decide) (pc' := 43) rfl ?_
      refine k_iconst C (v := 3) dX7_withdraw_43 (by decide) (pc' := 44) rfl ?_
      refine k_callVv C (rest := []) (qX7_put l Γ hL m12 a1 3 3) mwX7_put iwX7_put mlX7_64 (k_rm_of (by decide) (by decide)) (c3 Γ m12 0 (e_model Γ (m12 0))) (v_0 (by decide)) rfl rfl rfl (Nat.le_of_ble_eq_true rfl) dX7_withdraw_44 (pc' := 47) rfl (fun r13 m14 => ?_)
      refine k_aload_n C 0 dX7_withdraw_47 rfl rfl (pc' := 48) rfl ?_
      refine k_aload_n C 0 dX7_withdraw_48 rfl rfl (pc' := 49) rfl ?_
      refine k_iload_n C 1 dX7_withdraw_49 rfl rfl (pc' := 50) rfl ?_
      refine k_iconst C (v := 2) dX7_withdraw_50 (by decide) (pc' := 51) rfl ?_
      refine k_callVi C (rest := [.ref (Γ.1 0 0)]) (qX7_of l Γ hL m14 a1 2) mwX7_of iwX7_of mlX7_38 (k_rm_of (by decide) (by decide)) (c3 Γ m14 0 (e_model Γ (m14 0))) (v_0 (by decide)) rfl rfl rfl (Nat.le_of_ble_eq_true rfl) dX7_withdraw_51 (pc' := 54) rfl (fun r15 m16 => ?_)
      refine k_callVi C (rest := []) (qX7_acted l Γ hL m16 r15) mwX7_acted iwX7_acted mlX7_127 (k_rm_of (by decide) (by decide)) (c3 Γ m16 0 (e_model Γ (m16 0))) (v_0 (by decide)) rfl rfl rfl (Nat.le_of_ble_eq_true rfl) dX7_withdraw_54 (pc' := 57) rfl (fun r17 m18 => ?_)
      exact k_reti C rfl hr dX7_withdraw_57
    · refine k_ldc C (v := (-1000002)) dX7_withdraw_20 cnX7_105 (pc' := 22) rfl ?_
      exact k_reti C rfl hr dX7_withdraw_22
  · refine k_ldc C (v := (-1000001)) dX7_withdraw_8 cnX7_33 (pc' := 10) rfl ?_
    exact k_reti C rfl hr dX7_withdraw_10
def fX7_fetch (m0 : kM1) (a1 : Int32) : Option (Int32 × kM1) :=
  bd (fX7_keeps m0) fun r1 m2 => bd (fX7_fetches m2 a1) fun r3 m4 => bd (fX7_acted m4 r3) fun r5 m6 => some (r5, m6)
set_option maxRecDepth 100000 in
set_option maxHeartbeats 4000000 in
theorem qX7_fetch (l : Launch) (Γ : kG) (hL : k_Lay Γ 7) (m0 : kM1) (a1 : Int32) : CT l Γ (K3 Γ) yX7_fetch cX7_fetch 2 (some .int) (k_R 5) [.ref (Γ.1 0 0), .int a1] m0 (fX7_fetch m0 a1) := by
  refine k_meth (own := RX7) (by decide) rfl (Nat.le_of_ble_eq_true rfl) (fun p e R s mid args below meth c C hr => ?_)
  show Sm Γ (K3 Γ) p l e R s mid args below meth c 2 true m0 [(0, .ref (Γ.1 0 0)), (1, .int a1)] [] 0 (fX7_fetch m0 a1)
  unfold fX7_fetch
  refine k_aload_n C 0 dX7_fetch_0 rfl rfl (pc' := 1) rfl ?_
  refine k_callVv C (rest := []) (qX7_keeps l Γ hL m0) mwX7_keeps iwX7_keeps mlX7_124 (k_rm_of (by decide) (by decide)) (c3 Γ m0 0 (e_model Γ (m0 0))) (v_0 (by decide)) rfl rfl rfl (Nat.le_of_ble_eq_true rfl) dX7_fetch_1 (pc' := 4) rfl (fun r1 m2 => ?_)
  refine k_aload_n C 0 dX7_fetch_4 rfl rfl (pc' := 5) rfl ?_
  refine k_aload_n C 0 dX7_fetch_5 rfl rfl (pc' := 6) rfl ?_
  refine k_iload_n C 1 dX7_fetch_6 rfl rfl (pc' := 7) rfl ?_
  refine k_callVi C (rest := [.ref (Γ.1 0 0)]) (qX7_fetches l Γ hL m2 a1) mwX7_fetches iwX7_fetches mlX7_138 (k_rm_of (by decide) (by decide)) (c3 Γ m2 0 (e_model Γ (m2 0))) (v_0 (by decide)) rfl rfl rfl (Nat.le_of_ble_eq_true rfl) dX7_fetch_7 (pc' := 10) rfl (fun r3 m4 => ?_)
  refine k_callVi C (rest := []) (qX7_acted l Γ hL m4 r3) mwX7_acted iwX7_acted mlX7_127 (k_rm_of (by decide) (by decide)) (c3 Γ m4 0 (e_model Γ (m4 0))) (v_0 (by decide)) rfl rfl rfl (Nat.le_of_ble_eq_true rfl) dX7_fetch_10 (pc' := 13) rfl (fun r5 m6 => ?_)
  exact k_reti C rfl hr dX7_fetch_13
