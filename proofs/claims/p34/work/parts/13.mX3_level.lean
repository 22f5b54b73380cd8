def fX3_level (m0 : kM1) : Option (Int32 × kM1) :=
  bd (fX6_quotient m0 (m0 0 9) (m0 1 0)) fun r2 m3 => some (r2, m3)
set_option maxRecDepth 100000 in
set_option maxHeartbeats 4000000 in
theorem qX3_level (l : Launch) (Γ : kG) (hL : k_Lay Γ 314) (M : kM2) (i : Nat) (hi : i < 7) (m0 : kM1) : CT l Γ (K1 Γ M i) yX3_level cX3_level 1 (some .int) (k_R 1) [.ref (Γ.1 i 0)] m0 (fX3_level m0 ) := by
  refine k_meth (own := RX3) (by decide) rfl (Nat.le_of_ble_eq_true rfl) (fun p e R s mid args below meth c C hr => ?_)
  show Sm Γ (K1 Γ M i) p l e R s mid args below meth c 1 (jM true Γ (K1 Γ M i) below args s) m0 [(0, .ref (Γ.1 i 0))] [] 0 (fX3_level m0 )
  unfold fX3_level
  refine k_aload_n C 0 dX3_level_0 rfl rfl (pc' := 1) rfl ?_
  refine k_getf C 9 (c1 Γ M i m0 0 (e_mill Γ hi (m0 0))) (v_i hi (by decide)) flX3_70 (v := .int (m0 0 9)) rfl dX3_level_1 (pc' := 4) rfl ?_
  refine k_aload_n C 0 dX3_level_4 rfl rfl (pc' := 5) rfl ?_
  refine k_getf C 0 (c1 Γ M i m0 0 (e_mill Γ hi (m0 0))) (v_i hi (by decide)) flX3_18 (v := .ref (Γ.1 i 1)) rfl dX3_level_5 (pc' := 8) rfl ?_
  refine k_iconst C (v := 0) dX3_level_8 (by decide) (pc' := 9) rfl ?_
  refine k_ialdK C (n0 := 0) (c1 Γ M i m0 1 (e_sets Γ hi (m0 1))) (v_i hi (by decide)) (by decide) (by decide) dX3_level_9 (pc' := 10) rfl ?_
  refine k_callSNi C (rest := []) (qX6_quotient l Γ (K1 Γ M i) m0 (m0 0 9) (m0 1 0)) mwX6_quotient swX6_quotient (fun h => h.2.1) (k_rm_of (by decide) (by decide)) rfl rfl (Nat.le_of_ble_eq_true rfl) dX3_level_10 (pc' := 13) rfl (fun r2 m3 => ?_)
  exact k_reti C rfl hr dX3_level_13
def fX3_flowIn (m0 : kM1) (a1 : Int32) : Option (Int32 × kM1) :=
  bd (fX3_level m0) fun r1 m2 => k_let (a1 - r1) fun v3 => if (m2 0 10) = 1 then some (0, m2) else if 0 < v3 then k_let ((if (m2 1 0) < (m2 1 5) then (m2 1 0) else (m2 1 5)) * v3) fun v8 => k_let (mu m2 0 9 ((m2 0 9) + v8)) fun m9 => k_let (mu m9 0 14 ((m9 0 14) + v8)) fun m10 => some (0, m10) else some (0, m2)
set_option maxRecDepth 100000 in
set_option maxHeartbeats 4000000 in
theorem qX3_flowIn (l : Launch) (Γ : kG) (hL : k_Lay Γ 314) (M : kM2) (i : Nat) (hi : i < 7) (m0 : kM1) (a1 : Int32) : CT l Γ (K1 Γ M i) yX3_flowIn cX3_flowIn 4 none (k_R 2) [.ref (Γ.1 i 0), .int a1] m0 (fX3_flowIn m0 a1) := by
  refine k_meth (own := RX3) (by decide) rfl (Nat.le_of_ble_eq_true rfl) (fun p e R s mid args below meth c C hr => ?_)
  show Sm Γ (K1 Γ M i) p l e R s mid args below meth c 4 (jM false Γ (K1 Γ M i) below args s) m0 [(0, .ref (Γ.1 i 0)), (1, .int a1)] [] 0 (fX3_flowIn m0 a1)
  unfold fX3_flowIn
  refine k_iload_n C 1 dX3_flowIn_0 rfl rfl (pc' := 1) rfl ?_
  refine k_aload_n C 0 dX3_flowIn_1 rfl rfl (pc' := 2) rfl ?_
  refine k_callVi C (rest := [.int a1]) (qX3_level l Γ hL M i hi m0) mwX3_level iwX3_level mlX3_277 (k_rm_of (by decide) (by decide)) (c1 Γ M i m0 0 (e_mill Γ hi (m0 0))) (v_i hi (by decide)) rfl rfl rfl (Nat.le_of_ble_eq_true rfl) dX3_flowIn_2 (pc' := 5) rfl (fun r1 m2 => ?_)
  refine k_isub C dX3_flowIn_5 (pc' := 6) rfl ?_
  refine k_topi (fun v3 => ?_)
  refine k_istore_n C (lv' := [(2, .int v3), (0, .ref (Γ.1 i 0)), (1, .int a1)]) dX3_flowIn_6 rfl (by decide) rfl (pc' := 7) rfl ?_
  refine k_aload_n C 1 dX3_flowIn_7 rfl rfl (pc' := 8) rfl ?_
  refine k_getf C 10 (c1 Γ M i m2 0 (e_mill Γ hi (m2 0))) (v_i hi (by decide)) flX3_73 (v := .int (m2 0 10)) rfl dX3_flowIn_8 (pc' := 11) rfl ?_
  refine k_iconst C (v := 1) dX3_flowIn_11 (by decide) (pc' := 12) rfl ?_
  refine k_ic_eq C (tgt := 19) dX3_flowIn_12 (by decide) (pc' := 15) rfl (fun h4 => ?_) (fun h4 => ?_)
  · exact k_retv C rfl hr dX3_flowIn_19
  · refine k_iload_n C 0 dX3_flowIn_15 rfl rfl (pc' := 16) rfl ?_
    refine k_if_gt C (tgt := 20) dX3_flowIn_16 (by decide) (pc' := 19) rfl (fun h5 => ?_) (fun h5 => ?_)
    · refine k_aload_n C 1 dX3_flowIn_20 rfl rfl (pc' := 21) rfl ?_
      refine k_getf C 0 (c1 Γ M i m2 0 (e_mill Γ hi (m2 0))) (v_i hi (by decide)) flX3_18 (v := .ref (Γ.1 i 1)) rfl dX3_flowIn_21 (pc' := 24) rfl ?_
      refine k_iconst C (v := 5) dX3_flowIn_24 (by decide) (pc' := 25) rfl ?_
      refine k_ialdK C (n0 := 5) (c1 Γ M i m2 1 (e_sets Γ hi (m2 1))) (v_i hi (by decide)) (by decide) (by decide) dX3_flowIn_25 (pc' := 26) rfl ?_
      refine k_aload_n C 1 dX3_flowIn_26 rfl rfl (pc' := 27) rfl ?_
      refine k_getf C 0 (c1 Γ M i m2 0 (e_mill Γ hi (m2 0))) (v_i hi (by decide)) flX3_18 (v := .ref (Γ.1 i 1)) rfl dX3_flowIn_27 (pc' := 30) rfl ?_
      refine k_iconst C (v := 0) dX3_flowIn_30 (by decide) (pc' := 31) rfl ?_
      refine k_ialdK C (n0 := 0) (c1 Γ M i m2 1 (e_sets Γ hi (m2 1))) (v_i hi (by decide)) (by decide) (by decide) dX3_flowIn_31 (pc' := 32) rfl ?_
      refine k_mmin C mlX3_280 kw_min ⟨Nat.le_of_ble_eq_true rfl, Nat.le_of_ble_eq_true rfl⟩ (Nat.le_of_ble_eq_true rfl) dX3_flowIn_32 (pc' := 35) rfl ?_
      refine k_iload_n C 0 dX3_flowIn_35 rfl rfl (pc' := 36) rfl ?_
      refine k_imul C dX3_flowIn_36 (pc' := 37) rfl ?_
      refine k_topi (fun v8 => ?_)
      refine k_istore_n C (lv' := [(3, .int v8), (2, .int v3), (0, .ref (Γ.1 i 0)), (1, .int a1)]) dX3_flowIn_37 rfl (by decide) rfl (pc' := 38) rfl ?_
      refine k_aload_n C 2 dX3_flowIn_38 rfl rfl (pc' := 39) rfl ?_
      refine k_dup C dX3_flowIn_39 rfl (pc' := 40) rfl ?_
      refine k_getf C 9 (c1 Γ M i m2 0 (e_mill Γ hi (m2 0))) (v_i hi (by decide)) flX3_70 (v := .int (m2 0 9)) rfl dX3_flowIn_40 (pc' := 43) rfl ?_
      refine k_iload_n C 0 dX3_flowIn_43 rfl rfl (pc' := 44) rfl ?_
      refine k_iadd C dX3_flowIn_44 (pc' := 45) rfl ?_
      refine k_putf C (hL.k1 M i) 9 (c1 Γ M i m2 0 (e_mill Γ hi (m2 0))) (v_i hi (by decide)) flX3_70 fpX3_9 (Nat.le_of_ble_eq_true rfl) (s1 Γ M i m2 0 9 ((m2 0 9) + v8) ((e_mill Γ hi _).trans (congrArg (fun z => Sum.inr (3, z)) (f_mill Γ i (m2 0) ((m2 0 9) + v8) 9 (by decide))))) dX3_flowIn_45 (pc' := 48) rfl (fun m9 => ?_)
      refine k_aload_n C 2 dX3_flowIn_48 rfl rfl (pc' := 49) rfl ?_
      refine k_dup C dX3_flowIn_49 rfl (pc' := 50) rfl ?_
      refine k_getf C 14 (c1 Γ M i m9 0 (e_mill Γ hi (m9 0))) (v_i hi (by decide)) flX3_79 (v := .int (m9 0 14)) rfl dX3_flowIn_50 (pc' := 53) rfl ?_
      refine k_iload_n C 0 dX3_flowIn_53 rfl rfl (pc' := 54) rfl ?_
      refine k_iadd C dX3_flowIn_54 (pc' := 55) rfl ?_
      refine k_putf C (hL.k1 M i) 14 (c1 Γ M i m9 0 (e_mill Γ hi (m9 0))) (v_i hi (by decide)) flX3_79 fpX3_14 (Nat.le_of_ble_eq_true rfl) (s1 Γ M i m9 0 14 ((m9 0 14) + v8) ((e_mill Γ hi _).trans (congrArg (fun z => Sum.inr (3, z)) (f_mill Γ i (m9 0) ((m9 0 14) + v8) 14 (by decide))))) dX3_flowIn_55 (pc' := 58) rfl (fun m10 => ?_)
      exact k_retv C rfl hr dX3_flowIn_58
    · exact k_retv C rfl hr dX3_flowIn_19
def fX3_grindSack (m0 : kM1) (j1 : Nat) (a2 : Int32) : Option (Int32 × kM1) :=
  bd (fX6_quotient m0 a2 (m0 j1 2)) fun r1 m2 => bd (fX5_grain m2 j1) fun r3 m4 => k_let (if r3 < (if r1 < 1 then 1 else r1) then r3 else (if r1 < 1 then 1 else r1)) fun v5 => bd (fX5_addGround m4 j1 v5) fun r6 m7 => k_let (mu m7 0 17 ((m7 0 17) + v5)) fun m8 => if (m8 j1 6) = 2 then k_let (mu m8 0 12 (-1)) fun m10 => some (0, m10) else some (0, m8)
set_option maxRecDepth 100000 in
set_option maxHeartbeats 4000000 in
theorem qX3_grindSack (l : Launch) (Γ : kG) (hL : k_Lay Γ 314) (M : kM2) (i : Nat) (hi : i < 7) (m0 : kM1) (j1 : Nat) (a2 : Int32) (hj1 : 20 ≤ j1 ∧ j1 < 44) : CT l Γ (K1 Γ M i) yX3_grindSack cX3_grindSack 4 none (k_R 1) [.ref (Γ.1 i 0), .ref (Γ.1 i j1), .int a2] m0 (fX3_grindSack m0 j1 a2) := by
  refine k_meth (own := RX3) (by decide) rfl (Nat.le_of_ble_eq_true rfl) (fun p e R s mid args below meth c C hr => ?_)
  show Sm Γ (K1 Γ M i) p l e R s mid args below meth c 4 (jM false Γ (K1 Γ M i) below args s) m0 [(0, .ref (Γ.1 i 0)), (1, .ref (Γ.1 i j1)), (2, .int a2)] [] 0 (fX3_grindSack m0 j1 a2)
  unfold fX3_grindSack
  refine k_iload_n C 2 dX3_grindSack_0 rfl rfl (pc' := 1) rfl ?_
  refine k_aload_n C 1 dX3_grindSack_1 rfl rfl (pc' := 2) rfl ?_
  refine k_getf C 2 (c1 Γ M i m0 j1 (e_sack Γ hi hj1 (m0 j1))) (v_i hi (h_sack hj1)) flX3_209 (v := .int (m0 j1 2)) rfl dX3_grindSack_2 (pc' := 5) rfl ?_
  refine k_callSNi C (rest := []) (qX6_quotient l Γ (K1 Γ M i) m0 a2 (m0 j1 2)) mwX6_quotient swX6_quotient (fun h => h.2.1) (k_rm_of (by decide) (by decide)) rfl rfl (Nat.le_of_ble_eq_true rfl) dX3_grindSack_5 (pc' := 8) rfl (fun r1 m2 => ?_)
  refine k_iconst C (v := 1) dX3_grindSack_8 (by decide) (pc' := 9) rfl ?_
  refine k_mmax C mlX3_296 kw_max ⟨Nat.le_of_ble_eq_true rfl, Nat.le_of_ble_eq_true rfl⟩ (Nat.le_of_ble_eq_true rfl) dX3_grindSack_9 (pc' := 12) rfl ?_
  refine k_aload_n C 1 dX3_grindSack_12 rfl rfl (pc' := 13) rfl ?_
  refine k_callVi C (rest := [.int (if r1 < 1 then 1 else r1)]) (qX5_grain l Γ hL M i hi m2 j1 hj1) mwX5_grain iwX5_grain mlX3_156 (k_rm_of (by decide) (by decide)) (c1 Γ M i m2 j1 (e_sack Γ hi hj1 (m2 j1))) (v_i hi (h_sack hj1)) rfl rfl rfl (Nat.le_of_ble_eq_true rfl) dX3_grindSack_13 (pc' := 16) rfl (fun r3 m4 => ?_)
  refine k_mmin C mlX3_280 kw_min ⟨Nat.le_of_ble_eq_true rfl, Nat.le_of_ble_eq_true rfl⟩ (Nat.le_of_ble_eq_true rfl) dX3_grindSack_16 (pc' := 19) rfl ?_
  refine k_topi (fun v5 => ?_)
  refine k_istore_n C (lv' := [(3, .int v5), (0, .ref (Γ.1 i 0)), (1, .ref (Γ.1 i j1)), (2, .int a2)]) dX3_grindSack_19 rfl (by decide) rfl (pc' := 20) rfl ?_
  refine k_aload_n C 2 dX3_grindSack_20 rfl rfl (pc' := 21) rfl ?_
  refine k_iload_n C 0 dX3_grindSack_21 rfl rfl (pc' := 22) rfl ?_
  refine k_callVv C (rest := []) (qX5_addGround l Γ hL M i hi m4 j1 v5 hj1) mwX5_addGround iwX5_addGround mlX3_299 (k_rm_of (by decide) (by decide)) (c1 Γ M i m4 j1 (e_sack Γ hi hj1 (m4 j1))) (v_i hi (h_sack hj1)) rfl rfl rfl (Nat.le_of_ble_eq_true rfl) dX3_grindSack_22 (pc' := 25) rfl (fun r6 m7 => ?_)
  refine k_aload_n C 1 dX3_grindSack_25 rfl rfl (pc' := 26) rfl ?_
  refine k_dup C dX3_grindSack_26 rfl (pc' := 27) rfl ?_
  refine k_getf C 17 (c1 Γ M i m7 0 (e_mill Γ hi (m7 0))) (v_i hi (by decide)) flX3_88 (v := .int (m7 0 17)) rfl dX3_grindSack_27 (pc' := 30) rfl ?_
  refine k_iload_n C 0 dX3_grindSack_30 rfl rfl (pc' := 31) rfl ?_
  refine k_iadd C dX3_grindSack_31 (pc' := 32) rfl ?_
  refine k_putf C (hL.k1 M i) 17 (c1 Γ M i m7 0 (e_mill Γ hi (m7 0))) (v_i hi (by decide)) flX3_88 fpX3_17 (Nat.le_of_ble_eq_true rfl) (s1 Γ M i m7 0 17 ((m7 0 17) + v5) ((e_mill Γ hi _).trans (congrArg (fun z => Sum.inr (3, z)) (f_mill Γ i (m7 0) ((m7 0 17) + v5) 17 (by decide))))) dX3_grindSack_32 (pc' := 35) rfl (fun m8 => ?_)
  refine k_aload_n C 2 dX3_grindSack_35 rfl rfl (pc' := 36) rfl ?_
  refine k_getf C 6 (c1 Γ M i m8 j1 (e_sack Γ hi hj1 (m8 j1))) (v_i hi (h_sack hj1)) flX3_152 (v := .int (m8 j1 6)) rfl dX3_grindSack_36 (pc' := 39) rfl ?_
  refine k_iconst C (v := 2) dX3_grindSack_39 (by decide) (pc' := 40) rfl ?_
  refine k_ic_ne C (tgt := 48) dX3_grindSack_40 (by decide) (pc' := 43) rfl (fun h9 => ?_) (fun h9 => ?_)
  · exact k_retv C rfl hr dX3_grindSack_48
  · refine k_aload_n C 1 dX3_grindSack_43 rfl rfl (pc' := 44) rfl ?_
    refine k_iconst C (v := (-1)) dX3_grindSack_44 (by decide) (pc' := 45) rfl ?_
    refine k_putf C (hL.k1 M i) 12 (c1 Γ M i m8 0 (e_mill Γ hi (m8 0))) (v_i hi (by decide)) flX3_47 fpX3_12 (Nat.le_of_ble_eq_true rfl) (s1 Γ M i m8 0 12 (-1) ((e_mill Γ hi _).trans (congrArg (fun z => Sum.inr (3, z)) (f_mill Γ i (m8 0) (-1) 12 (by decide))))) dX3_grindSack_45 (pc' := 48) rfl (fun m10 => ?_)
    exact k_retv C rfl hr dX3_grindSack_48
def fX3_putOnStones (m0 : kM1) (a1 : Int32) : Option (Int32 × kM1) :=
  bd (fX3_hasSack m0 a1) fun r1 m2 => if r1 = 0 then some (0, m2) else if ¬ a1 < 0 ∧ a1.toNatClampNeg < 24 then k_let (mu m2 (20 + a1.toNatClampNeg) 6 1) fun m5 => k_let (mu m5 (20 + a1.toNatClampNeg) 8 (m5 1 8)) fun m7 => k_let (mu m7 0 12 a1) fun m8 => k_let (mu m8 0 13 (m8 (20 + a1.toNatClampNeg) 1)) fun m9 => bd (fX3_hasFarmer m9 (m9 (20 + a1.toNatClampNeg) 0)) fun r10 m11 => if r10 = 0 then some (0, m11) else if ¬ (m11 (20 + a1.toNatClampNeg) 0) < 0 ∧ (m11 (20 + a1.toNatClampNeg) 0).toNatClampNeg < 8 then k_let (mu m11 (12 + (m11 (20 + a1.toNatClampNeg) 0).toNatClampNeg) 1 ((m11 (12 + (m11 (20 + a1.toNatClampNeg) 0).toNatClampNeg) 1) + 1)) fun m14 => some (0, m14) else none else none
set_option maxRecDepth 100000 in
set_option maxHeartbeats 4000000 in
theorem qX3_putOnStones (l : Launch) (Γ : kG) (hL : k_Lay Γ 314) (M : kM2) (i : Nat) (hi : i < 7) (m0 : kM1) (a1 : Int32) : CT l Γ (K1 Γ M i) yX3_putOnStones cX3_putOnStones 3 none (k_R 1) [.ref (Γ.1 i 0), .int a1] m0 (fX3_putOnStones m0 a1) := by
  refine k_meth (own := RX3) (by decide) rfl (Nat.le_of_ble_eq_true rfl) (fun p e R s mid args below meth c C hr => ?_)
  show Sm Γ (K1 Γ M i) p l e R s mid args below meth c 3 (jM false Γ (K1 Γ M i) below args s) m0 [(0, .ref (Γ.1 i 0)), (1, .int a1)] [] 0 (fX3_putOnStones m0 a1)
  unfold fX3_putOnStones
  refine k_aload_n C 0 dX3_putOnStones_0 rfl rfl (pc' := 1) rfl ?_
  refine k_iload_n C 1 dX3_putOnStones_1 rfl rfl (pc' := 2) rfl ?_
  refine k_callVi C (rest := []) (qX3_hasSack l Γ hL M i hi m0 a1) mwX3_hasSack iwX3_hasSack mlX3_149 (k_rm_of (by decide) (by decide)) (c1 Γ M i m0 0 (e_mill Γ hi (m0 0))) (v_i hi (by decide)) rfl rfl rfl (Nat.le_of_ble_eq_true rfl) dX3_putOnStones_2 (pc' := 5) rfl (fun r1 m2 => ?_)
  refine k_if_ne C (tgt := 9) dX3_putOnStones_5 (by decide) (pc' := 8) rfl (fun h3 => ?_) (fun h3 => ?_)
  · refine k_aload_n C 0 dX3_putOnStones_9 rfl rfl (pc' := 10) rfl ?_
    refine k_getf C 4 (c1 Γ M i m2 0 (e_mill Γ hi (m2 0))) (v_i hi (by decide)) flX3_43 (v := .ref (Γ.1 i 5)) rfl dX3_putOnStones_10 (pc' := 13) rfl ?_
    refine k_iload_n C 1 dX3_putOnStones_13 rfl rfl (pc' := 14) rfl ?_
    refine k_aald C 4 (c1 Γ M i m2 5 (e_sacks Γ hi (m2 5))) (v_i hi (by decide)) rfl (b := Γ.1 i (20 + a1.toNatClampNeg)) rfl dX3_putOnStones_14 (pc' := 15) rfl (fun h4 => ?_)
    refine k_astore_n C (lv' := [(2, .ref (Γ.1 i (20 + a1.toNatClampNeg))), (0, .ref (Γ.1 i 0)), (1, .int a1)]) dX3_putOnStones_15 rfl (by decide) rfl (pc' := 16) rfl ?_
    refine k_aload_n C 0 dX3_putOnStones_16 rfl rfl (pc' := 17) rfl ?_
    refine k_iconst C (v := 1) dX3_putOnStones_17 (by decide) (pc' := 18) rfl ?_
    refine k_putf C (hL.k1 M i) 6 (c1 Γ M i m2 (20 + a1.toNatClampNeg) (e_sack Γ hi (j_sack h4) (m2 (20 + a1.toNatClampNeg)))) (v_i hi (h_sack (j_sack h4))) flX3_152 fpX5_6 (Nat.le_of_ble_eq_true rfl) (s1 Γ M i m2 (20 + a1.toNatClampNeg) 6 1 ((e_sack Γ hi (j_sack h4) _).trans (congrArg (fun z => Sum.inr (5, z)) (f_sack (m2 (20 + a1.toNatClampNeg)) 1 6 (by decide))))) dX3_putOnStones_18 (pc' := 21) rfl (fun m5 => ?_)
    refine k_aload_n C 0 dX3_putOnStones_21 rfl rfl (pc' := 22) rfl ?_
    refine k_aload_n C 1 dX3_putOnStones_22 rfl rfl (pc' := 23) rfl ?_
    refine k_getf C 0 (c1 Γ M i m5 0 (e_mill Γ hi (m5 0))) (v_i hi (by decide)) flX3_18 (v := .ref (Γ.1 i 1)) rfl dX3_putOnStones_23 (pc' := 26) rfl ?_
    refine k_bipush C (v := 8) dX3_putOnStones_26 (by decide) (pc' := 28) rfl ?_
    refine k_ialdK C (n0 := 8) (c1 Γ M i m5 1 (e_sets Γ hi (m5 1))) (v_i hi (by decide)) (by decide) (by decide) dX3_putOnStones_28 (pc' := 29) rfl ?_
    refine k_putf C (hL.k1 M i) 8 (c1 Γ M i m5 (20 + a1.toNatClampNeg) (e_sack Γ hi (j_sack h4) (m5 (20 + a1.toNatClampNeg)))) (v_i hi (h_sack (j_sack h4))) flX3_293 fpX5_8 (Nat.le_of_ble_eq_true rfl) (s1 Γ M i m5 (20 + a1.toNatClampNeg) 8 (m5 1 8) ((e_sack Γ hi (j_sack h4) _).trans (congrArg (fun z => Sum.inr (5, z)) (f_sack (m5 (20 + a1.toNatClampNeg)) (m5 1 8) 8 (by decide))))) dX3_putOnStones_29 (pc' := 32) rfl (fun m7 => ?_)
    refine k_aload_n C 1 dX3_putOnStones_32 rfl rfl (pc' := 33) rfl ?_
    refine k_iload_n C 2 dX3_putOnStones_33 rfl rfl (pc' := 34) rfl ?_
    refine k_putf C (hL.k1 M i) 12 (c1 Γ M i m7 0 (e_mill Γ hi (m7 0))) (v_i hi (by decide)) flX3_47 fpX3_12 (Nat.le_of_ble_eq_true rfl) (s1 Γ M i m7 0 12 a1 ((e_mill Γ hi _).trans (congrArg (fun z => Sum.inr (3, z)) (f_mill Γ i (m7 0) a1 12 (by decide))))) dX3_putOnStones_34 (pc' := 37) rfl (fun m8 => ?_)
    refine k_aload_n C 1 dX3_putOnStones_37 rfl rfl (pc' := 38) rfl ?_
    refine k_aload_n C 0 dX3_putOnStones_38 rfl rfl (pc' := 39) rfl ?_
    refine k_getf C 1 (c1 Γ M i m8 (20 + a1.toNatClampNeg) (e_sack Γ hi (j_sack h4) (m8 (20 + a1.toNatClampNeg)))) (v_i hi (h_sack (j_sack h4))) flX3_206 (v := .int (m8 (20 + a1.toNatClampNeg) 1)) rfl dX3_putOnStones_39 (pc' := 42) rfl ?_
    refine k_putf C (hL.k1 M i) 13 (c1 Γ M i m8 0 (e_mill Γ hi (m8 0))) (v_i hi (by decide)) flX3_51 fpX3_13 (Nat.le_of_ble_eq_true rfl) (s1 Γ M i m8 0 13 (m8 (20 + a1.toNatClampNeg) 1) ((e_mill Γ hi _).trans (congrArg (fun z => Sum.inr (3, z)) (f_mill Γ i (m8 0) (m8 (20 + a1.toNatClampNeg) 1) 13 (by decide))))) dX3_putOnStones_42 (pc' := 45) rfl (fun m9 => ?_)
    refine k_aload_n C 1 dX3_putOnStones_45 rfl rfl (pc' := 46) rfl ?_
    refine k_aload_n C 0 dX3_putOnStones_46 rfl rfl (pc' := 47) rfl ?_
    refine k_getf C 0 (c1 Γ M i m9 (20 + a1.toNatClampNeg) (e_sack Γ hi (j_sack h4) (m9 (20 + a1.toNatClampNeg)))) (v_i hi (h_sack (j_sack h4))) flX3_203 (v := .int (m9 (20 + a1.toNatClampNeg) 0)) rfl dX3_putOnStones_47 (pc' := 50) rfl ?_
    refine k_callVi C (rest := []) (qX3_hasFarmer l Γ hL M i hi m9 (m9 (20 + a1.toNatClampNeg) 0)) mwX3_hasFarmer iwX3_hasFarmer mlX3_138 (k_rm_of (by decide) (by decide)) (c1 Γ M i m9 0 (e_mill Γ hi (m9 0))) (v_i hi (by decide)) rfl rfl rfl (Nat.le_of_ble_eq_true rfl) dX3_putOnStones_50 (pc' := 53) rfl (fun r10 m11 => ?_)
    refine k_if_eq C (tgt := 74) dX3_putOnStones_53 (by decide) (pc' := 56) rfl (fun h12 => ?_) (fun h12 => ?_)
    · exact k_retv C rfl hr dX3_putOnStones_74
    · refine k_aload_n C 1 dX3_putOnStones_56 rfl rfl (pc' := 57) rfl ?_
      refine k_getf C 3 (c1 Γ M i m11 0 (e_mill Γ hi (m11 0))) (v_i hi (by decide)) flX3_37 (v := .ref (Γ.1 i 4)) rfl dX3_putOnStones_57 (pc' := 60) rfl ?_
      refine k_aload_n C 0 dX3_putOnStones_60 rfl rfl (pc' := 61) rfl ?_
      refine k_getf C 0 (c1 Γ M i m11 (20 + a1.toNatClampNeg) (e_sack Γ hi (j_sack h4) (m11 (20 + a1.toNatClampNeg)))) (v_i hi (h_sack (j_sack h4))) flX3_203 (v := .int (m11 (20 + a1.toNatClampNeg) 0)) rfl dX3_putOnStones_61 (pc' := 64) rfl ?_
      refine k_aald C 3 (c1 Γ M i m11 4 (e_farmers Γ hi (m11 4))) (v_i hi (by decide)) rfl (b := Γ.1 i (12 + (m11 (20 + a1.toNatClampNeg) 0).toNatClampNeg)) rfl dX3_putOnStones_64 (pc' := 65) rfl (fun h13 => ?_)
      refine k_dup C dX3_putOnStones_65 rfl (pc' := 66) rfl ?_
      refine k_getf C 1 (c1 Γ M i m11 (12 + (m11 (20 + a1.toNatClampNeg) 0).toNatClampNeg) (e_farmer Γ hi (j_farmer h13) (m11 (12 + (m11 (20 + a1.toNatClampNeg) 0).toNatClampNeg)))) (v_i hi (h_farmer (j_farmer h13))) flX3_135 (v := .int (m11 (12 + (m11 (20 + a1.toNatClampNeg) 0).toNatClampNeg) 1)) rfl dX3_putOnStones_66 (pc' := 69) rfl ?_
      refine k_iconst C (v := 1) dX3_putOnStones_69 (by decide) (pc' := 70) rfl ?_
      refine k_iadd C dX3_putOnStones_70 (pc' := 71) rfl ?_
      refine k_putf C (hL.k1 M i) 1 (c1 Γ M i m11 (12 + (m11 (20 + a1.toNatClampNeg) 0).toNatClampNeg) (e_farmer Γ hi (j_farmer h13) (m11 (12 + (m11 (20 + a1.toNatClampNeg) 0).toNatClampNeg)))) (v_i hi (h_farmer (j_farmer h13))) flX3_135 fpX0_1 (Nat.le_of_ble_eq_true rfl) (s1 Γ M i m11 (12 + (m11 (20 + a1.toNatClampNeg) 0).toNatClampNeg) 1 ((m11 (12 + (m11 (20 + a1.toNatClampNeg) 0).toNatClampNeg) 1) + 1) ((e_farmer Γ hi (j_farmer h13) _).trans (congrArg (fun z => Sum.inr (0, z)) (f_farmer (m11 (12 + (m11 (20 + a1.toNatClampNeg) 0).toNatClampNeg)) ((m11 (12 + (m11 (20 + a1.toNatClampNeg) 0).toNatClampNeg) 1) + 1) 1 (by decide))))) dX3_putOnStones_71 (pc' := 74) rfl (fun m14 => ?_)
      exact k_retv C rfl hr dX3_putOnStones_74
  · exact k_retv C rfl hr dX3_putOnStones_8
def fX3_grind_b70 (a1 : Int32)  (m0 : kM1) (b2 : Int32) (b3 : Int32) : Option (Int32 × kM1) :=
  bd (fX3_hasSack m0 (m0 0 12)) fun r14 m15 => if r14 = 0 then some (0, m15) else k_let (mu m15 0 9 ((m15 0 9) - b3)) fun m17 => k_let (mu m17 0 16 ((m17 0 16) + b3)) fun m18 => if ¬ (m18 0 12) < 0 ∧ (m18 0 12).toNatClampNeg < 24 then bd (fX3_grindSack m18 ((20 + (m18 0 12).toNatClampNeg)) ((m18 0 11) * b2)) fun r20 m21 => some (0, m21) else none
set_option maxRecDepth 100000 in
set_option maxHeartbeats 4000000 in
theorem sX3_grind_b70 {l : Launch} {Γ : kG} (hL : k_Lay Γ 314) {M : kM2} {i : Nat} (hi : i < 7) {p : Program} {e : Env} {R : Room} {s : State} {mid : MethodId} {args : Array Value} {below : List Frame} {meth : Method} {c : Code} (C : k_C Γ p R s mid args meth c cX3_grind 4 RX3 (k_R 3)) (hr : meth.sig.returnType = none) (a1 : Int32)  (m0 : kM1) (b2 : Int32) (b3 : Int32)  : Sm Γ (K1 Γ M i) p l e R s mid args below meth c 4 (jM false Γ (K1 Γ M i) below args s) m0 [(0, .ref (Γ.1 i 0)), (2, .int b2), (3, .int b3)] [] 70 (fX3_grind_b70 a1 m0 b2 b3) := by
  unfold fX3_grind_b70
  refine k_aload_n C 0 dX3_grind_70 rfl rfl (pc' := 71) rfl ?_
  refine k_aload_n C 0 dX3_grind_71 rfl rfl (pc' := 72) rfl ?_
  refine k_getf C 12 (c1 Γ M i m0 0 (e_mill Γ hi (m0 0))) (v_i hi (by decide)) flX3_47 (v := .int (m0 0 12)) rfl dX3_grind_72 (pc' := 75) rfl ?_
  refine k_callVi C (rest := []) (qX3_hasSack l Γ hL M i hi m0 (m0 0 12)) mwX3_hasSack iwX3_hasSack mlX3_149 (k_rm_of (by decide) (by decide)) (c1 Γ M i m0 0 (e_mill Γ hi (m0 0))) (v_i hi (by decide)) rfl rfl rfl (Nat.le_of_ble_eq_true rfl) dX3_grind_75 (pc' := 78) rfl (fun r14 m15 => ?_)
  refine k_if_eq C (tgt := 120) dX3_grind_78 (by decide) (pc' := 81) rfl (fun h16 => ?_) (fun h16 => ?_)
  · exact k_retv C rfl hr dX3_grind_120
  · refine k_aload_n C 0 dX3_grind_81 rfl rfl (pc' := 82) rfl ?_
    refine k_dup C dX3_grind_82 rfl (pc' := 83) rfl ?_
    refine k_getf C 9 (c1 Γ M i m15 0 (e_mill Γ hi (m15 0))) (v_i hi (by decide)) flX3_70 (v := .int (m15 0 9)) rfl dX3_grind_83 (pc' := 86) rfl ?_
    refine k_iload_n C 2 dX3_grind_86 rfl rfl (pc' := 87) rfl ?_
    refine k_isub C dX3_grind_87 (pc' := 88) rfl ?_
    refine k_putf C (hL.k1 M i) 9 (c1 Γ M i m15 0 (e_mill Γ hi (m15 0))) (v_i hi (by decide)) flX3_70 fpX3_9 (Nat.le_of_ble_eq_true rfl) (s1 Γ M i m15 0 9 ((m15 0 9) - b3) ((e_mill Γ hi _).trans (congrArg (fun z => Sum.inr (3, z)) (f_mill Γ i (m15 0) ((m15 0 9) - b3) 9 (by decide))))) dX3_grind_88 (pc' := 91) rfl (fun m17 => ?_)
    refine k_aload_n C 0 dX3_grind_91 rfl rfl (pc' := 92) rfl ?_
    refine k_dup C dX3_grind_92 rfl (pc' := 93) rfl ?_
    refine k_getf C 16 (c1 Γ M i m17 0 (e_mill Γ hi (m17 0))) (v_i hi (by decide)) flX3_85 (v := .int (m17 0 16)) rfl dX3_grind_93 (pc' := 96) rfl ?_
    refine k_iload_n C 2 dX3_grind_96 rfl rfl (pc' := 97) rfl ?_
    refine k_iadd C dX3_grind_97 (pc' := 98) rfl ?_
    refine k_putf C (hL.k1 M i) 16 (c1 Γ M i m17 0 (e_mill Γ hi (m17 0))) (v_i hi (by decide)) flX3_85 fpX3_16 (Nat.le_of_ble_eq_true rfl) (s1 Γ M i m17 0 16 ((m17 0 16) + b3) ((e_mill Γ hi _).trans (congrArg (fun z => Sum.inr (3, z)) (f_mill Γ i (m17 0) ((m17 0 16) + b3) 16 (by decide))))) dX3_grind_98 (pc' := 101) rfl (fun m18 => ?_)
    refine k_aload_n C 0 dX3_grind_101 rfl rfl (pc' := 102) rfl ?_
    refine k_aload_n C 0 dX3_grind_102 rfl rfl (pc' := 103) rfl ?_
    refine k_getf C 4 (c1 Γ M i m18 0 (e_mill Γ hi (m18 0))) (v_i hi (by decide)) flX3_43 (v := .ref (Γ.1 i 5)) rfl dX3_grind_103 (pc' := 106) rfl ?_
    refine k_aload_n C 0 dX3_grind_106 rfl rfl (pc' := 107) rfl ?_
    refine k_getf C 12 (c1 Γ M i m18 0 (e_mill Γ hi (m18 0))) (v_i hi (by decide)) flX3_47 (v := .int (m18 0 12)) rfl dX3_grind_107 (pc' := 110) rfl ?_
    refine k_aald C 4 (c1 Γ M i m18 5 (e_sacks Γ hi (m18 5))) (v_i hi (by decide)) rfl (b := Γ.1 i (20 + (m18 0 12).toNatClampNeg)) rfl dX3_grind_110 (pc' := 111) rfl (fun h19 => ?_)
    refine k_aload_n C 0 dX3_grind_111 rfl rfl (pc' := 112) rfl ?_
    refine k_getf C 11 (c1 Γ M i m18 0 (e_mill Γ hi (m18 0))) (v_i hi (by decide)) flX3_76 (v := .int (m18 0 11)) rfl dX3_grind_112 (pc' := 115) rfl ?_
    refine k_iload_n C 1 dX3_grind_115 rfl rfl (pc' := 116) rfl ?_
    refine k_imul C dX3_grind_116 (pc' := 117) rfl ?_
    refine k_callVv C (rest := []) (qX3_grindSack l Γ hL M i hi m18 ((20 + (m18 0 12).toNatClampNeg)) ((m18 0 11) * b2) (j_sack h19)) mwX3_grindSack iwX3_grindSack mlX3_289 (k_rm_of (by decide) (by decide)) (c1 Γ M i m18 0 (e_mill Γ hi (m18 0))) (v_i hi (by decide)) rfl rfl rfl (Nat.le_of_ble_eq_true rfl) dX3_grind_117 (pc' := 120) rfl (fun r20 m21 => ?_)
    exact k_retv C rfl hr dX3_grind_120
def fX3_grind (m0 : kM1) (a1 : Int32) : Option (Int32 × kM1) :=
  bd (fX3_level m0) fun r1 m2 => k_let (r1 - a1) fun v3 => k_let ((m2 0 11) * (m2 1 7)) fun v5 => if (m2 0 11) = 0 then some (0, m2) else if v3 ≤ 0 then some (0, m2) else if v3 < (m2 1 6) then some (0, m2) else if v5 ≤ (m2 0 9) then bd (fX3_hasSack m2 (m2 0 12)) fun r11 m12 => if r11 = 0 then bd (fX3_firstOfQueue m12) fun r22 m23 => bd (fX3_putOnStones m23 r22) fun r24 m25 => fX3_grind_b70 a1 m25 v3 v5 else fX3_grind_b70 a1 m12 v3 v5 else some (0, m2)
set_option maxRecDepth 100000 in
set_option maxHeartbeats 4000000 in
theorem qX3_grind (l : Launch) (Γ : kG) (hL : k_Lay Γ 314) (M : kM2) (i : Nat) (hi : i < 7) (m0 : kM1) (a1 : Int32) : CT l Γ (K1 Γ M i) yX3_grind cX3_grind 4 none (k_R 3) [.ref (Γ.1 i 0), .int a1] m0 (fX3_grind m0 a1) := by
  refine k_meth (own := RX3) (by decide) rfl (Nat.le_of_ble_eq_true rfl) (fun p e R s mid args below meth c C hr => ?_)
  show Sm Γ (K1 Γ M i) p l e R s mid args below meth c 4 (jM false Γ (K1 Γ M i) below args s) m0 [(0, .ref (Γ.1 i 0)), (1, .int a1)] [] 0 (fX3_grind m0 a1)
  unfold fX3_grind
  refine k_aload_n C 0 dX3_grind_0 rfl rfl (pc' := 1) rfl ?_
  refine k_callVi C (rest := []) (qX3_level l Γ hL M i hi m0) mwX3_level iwX3_level mlX3_277 (k_rm_of (by decide) (by decide)) (c1 Γ M i m0 0 (e_mill Γ hi (m0 0))) (v_i hi (by decide)) rfl rfl rfl (Nat.le_of_ble_eq_true rfl) dX3_grind_1 (pc' := 4) rfl (fun r1 m2 => ?_)
  refine k_iload_n C 1 dX3_grind_4 rfl rfl (pc' := 5) rfl ?_
  refine k_isub C dX3_grind_5 (pc' := 6) rfl ?_
  refine k_topi (fun v3 => ?_)
  refine k_istore_n C (lv' := [(2, .int v3), (0, .ref (Γ.1 i 0)), (1, .int a1)]) dX3_grind_6 rfl (by decide) rfl (pc' := 7) rfl ?_
  refine k_aload_n C 1 dX3_grind_7 rfl rfl (pc' := 8) rfl ?_
  refine k_getf C 11 (c1 Γ M i m2 0 (e_mill Γ hi (m2 0))) (v_i hi (by decide)) flX3_76 (v := .int (m2 0 11)) rfl dX3_grind_8 (pc' := 11) rfl ?_
  refine k_aload_n C 1 dX3_grind_11 rfl rfl (pc' := 12) rfl ?_
  refine k_getf C 0 (c1 Γ M i m2 0 (e_mill Γ hi (m2 0))) (v_i hi (by decide)) flX3_18 (v := .ref (Γ.1 i 1)) rfl dX3_grind_12 (pc' := 15) rfl ?_
  refine k_bipush C (v := 7) dX3_grind_15 (by decide) (pc' := 17) rfl ?_
  refine k_ialdK C (n0 := 7) (c1 Γ M i m2 1 (e_sets Γ hi (m2 1))) (v_i hi (by decide)) (by decide) (by decide) dX3_grind_17 (pc' := 18) rfl ?_
  refine k_imul C dX3_grind_18 (pc' := 19) rfl ?_
  refine k_topi (fun v5 => ?_)
  refine k_istore_n C (lv' := [(3, .int v5), (2, .int v3), (0, .ref (Γ.1 i 0)), (1, .int a1)]) dX3_grind_19 rfl (by decide) rfl (pc' := 20) rfl ?_
  refine k_aload_n C 2 dX3_grind_20 rfl rfl (pc' := 21) rfl ?_
  refine k_getf C 11 (c1 Γ M i m2 0 (e_mill Γ hi (m2 0))) (v_i hi (by decide)) flX3_76 (v := .int (m2 0 11)) rfl dX3_grind_21 (pc' := 24) rfl ?_
  refine k_if_eq C (tgt := 50) dX3_grind_24 (by decide) (pc' := 27) rfl (fun h6 => ?_) (fun h6 => ?_)
  · exact k_retv C rfl hr dX3_grind_50
  · refine k_iload_n C 1 dX3_grind_27 rfl rfl (pc' := 28) rfl ?_
    refine k_if_le C (tgt := 50) dX3_grind_28 (by decide) (pc' := 31) rfl (fun h7 => ?_) (fun h7 => ?_)
    · exact k_retv C rfl hr dX3_grind_50
    · refine k_iload_n C 1 dX3_grind_31 rfl rfl (pc' := 32) rfl ?_
      refine k_aload_n C 2 dX3_grind_32 rfl rfl (pc' := 33) rfl ?_
      refine k_getf C 0 (c1 Γ M i m2 0 (e_mill Γ hi (m2 0))) (v_i hi (by decide)) flX3_18 (v := .ref (Γ.1 i 1)) rfl dX3_grind_33 (pc' := 36) rfl ?_
      refine k_bipush C (v := 6) dX3_grind_36 (by decide) (pc' := 38) rfl ?_
      refine k_ialdK C (n0 := 6) (c1 Γ M i m2 1 (e_sets Γ hi (m2 1))) (v_i hi (by decide)) (by decide) (by decide) dX3_grind_38 (pc' := 39) rfl ?_
      refine k_ic_lt C (tgt := 50) dX3_grind_39 (by decide) (pc' := 42) rfl (fun h9 => ?_) (fun h9 => ?_)
      · exact k_retv C rfl hr dX3_grind_50
      · refine k_aload_n C 2 dX3_grind_42 rfl rfl (pc' := 43) rfl ?_
        refine k_getf C 9 (c1 Γ M i m2 0 (e_mill Γ hi (m2 0))) (v_i hi (by decide)) flX3_70 (v := .int (m2 0 9)) rfl dX3_grind_43 (pc' := 46) rfl ?_
        refine k_iload_n C 0 dX3_grind_46 rfl rfl (pc' := 47) rfl ?_
        refine k_ic_ge C (tgt := 51) dX3_grind_47 (by decide) (pc' := 50) rfl (fun h10 => ?_) (fun h10 => ?_)
        · refine k_aload_n C 2 dX3_grind_51 rfl rfl (pc' := 52) rfl ?_
          refine k_aload_n C 2 dX3_grind_52 rfl rfl (pc' := 53) rfl ?_
          refine k_getf C 12 (c1 Γ M i m2 0 (e_mill Γ hi (m2 0))) (v_i hi (by decide)) flX3_47 (v := .int (m2 0 12)) rfl dX3_grind_53 (pc' := 56) rfl ?_
          refine k_callVi C (rest := []) (qX3_hasSack l Γ hL M i hi m2 (m2 0 12)) mwX3_hasSack iwX3_hasSack mlX3_149 (k_rm_of (by decide) (by decide)) (c1 Γ M i m2 0 (e_mill Γ hi (m2 0))) (v_i hi (by decide)) rfl rfl rfl (Nat.le_of_ble_eq_true rfl) dX3_grind_56 (pc' := 59) rfl (fun r11 m12 => ?_)
          refine k_if_ne C (tgt := 70) dX3_grind_59 (by decide) (pc' := 62) rfl (fun h13 => ?_) (fun h13 => ?_)
          · refine k_sub [2, 1, 0] rfl ?_
            exact sX3_grind_b70 hL hi C hr a1 m12 v3 v5
          · refine k_aload_n C 2 dX3_grind_62 rfl rfl (pc' := 63) rfl ?_
            refine k_aload_n C 2 dX3_grind_63 rfl rfl (pc' := 64) rfl ?_
            refine k_callVi C (rest := [.ref (Γ.1 i 0)]) (qX3_firstOfQueue l Γ hL M i hi m12) mwX3_firstOfQueue iwX3_firstOfQueue mlX3_283 (k_rm_of (by decide) (by decide)) (c1 Γ M i m12 0 (e_mill Γ hi (m12 0))) (v_i hi (by decide)) rfl rfl rfl (Nat.le_of_ble_eq_true rfl) dX3_grind_64 (pc' := 67) rfl (fun r22 m23 => ?_)
            refine k_callVv C (rest := []) (qX3_putOnStones l Γ hL M i hi m23 r22) mwX3_putOnStones iwX3_putOnStones mlX3_286 (k_rm_of (by decide) (by decide)) (c1 Γ M i m23 0 (e_mill Γ hi (m23 0))) (v_i hi (by decide)) rfl rfl rfl (Nat.le_of_ble_eq_true rfl) dX3_grind_67 (pc' := 70) rfl (fun r24 m25 => ?_)
            refine k_sub [2, 1, 0] rfl ?_
            exact sX3_grind_b70 hL hi C hr a1 m25 v3 v5
        · exact k_retv C rfl hr dX3_grind_50
def fX3_leakOut_b14 (a1 : Int32) : Nat → kM1 → Int32 → Int32 → Option (Int32 × kM1)
  | 0, _, _, _ => none
  | n + 1, m0, b2, b3 =>
  if 4 ≤ b3 then some (0, m0) else if ¬ b3 < 0 ∧ b3.toNatClampNeg < 4 then k_let (if (m0 0 9) < ((m0 2 b3.toNatClampNeg) * b2) then (m0 0 9) else ((m0 2 b3.toNatClampNeg) * b2)) fun v7 => k_let (mu m0 0 9 ((m0 0 9) - v7)) fun m8 => k_let (mu m8 0 15 ((m8 0 15) + v7)) fun m9 => k_let (b3 + 1) fun v10 => fX3_leakOut_b14 a1 n m9 b2 v10 else none
set_option maxRecDepth 100000 in
set_option maxHeartbeats 4000000 in
theorem sX3_leakOut_b14 {l : Launch} {Γ : kG} (hL : k_Lay Γ 314) {M : kM2} {i : Nat} (hi : i < 7) {p : Program} {e : Env} {R : Room} {s : State} {mid : MethodId} {args : Array Value} {below : List Frame} {meth : Method} {c : Code} (C : k_C Γ p R s mid args meth c cX3_leakOut 5 RX3 (k_R 2)) (hr : meth.sig.returnType = none) (a1 : Int32)  (n : Nat) : ∀ (m0 : kM1) (b2 : Int32) (b3 : Int32), Sm Γ (K1 Γ M i) p l e R s mid args below meth c 5 (jM false Γ (K1 Γ M i) below args s) m0 [(0, .ref (Γ.1 i 0)), (2, .int b2), (3, .int b3)] [] 14 (fX3_leakOut_b14 a1 n m0 b2 b3) := by
  induction n with
  | zero => intros; exact k_none
  | succ n ih =>
    intro m0 b2 b3
    unfold fX3_leakOut_b14
    refine k_iload_n C 2 dX3_leakOut_14 rfl rfl (pc' := 15) rfl ?_
    refine k_iconst C (v := 4) dX3_leakOut_15 (by decide) (pc' := 16) rfl ?_
    refine k_ic_ge C (tgt := 64) dX3_leakOut_16 (by decide) (pc' := 19) rfl (fun h5 => ?_) (fun h5 => ?_)
    · exact k_retv C rfl hr dX3_leakOut_64
    · refine k_aload_n C 0 dX3_leakOut_19 rfl rfl (pc' := 20) rfl ?_
      refine k_getf C 1 (c1 Γ M i m0 0 (e_mill Γ hi (m0 0))) (v_i hi (by decide)) flX3_26 (v := .ref (Γ.1 i 2)) rfl dX3_leakOut_20 (pc' := 23) rfl ?_
      refine k_iload_n C 2 dX3_leakOut_23 rfl rfl (pc' := 24) rfl ?_
      refine k_iald C (c1 Γ M i m0 2 (e_leaks Γ hi (m0 2))) (v_i hi (by decide)) dX3_leakOut_24 (pc' := 25) rfl (fun h6 => ?_)
      refine k_iload_n C 1 dX3_leakOut_25 rfl rfl (pc' := 26) rfl ?_
      refine k_imul C dX3_leakOut_26 (pc' := 27) rfl ?_
      refine k_aload_n C 0 dX3_leakOut_27 rfl rfl (pc' := 28) rfl ?_
      refine k_getf C 9 (c1 Γ M i m0 0 (e_mill Γ hi (m0 0))) (v_i hi (by decide)) flX3_70 (v := .int (m0 0 9)) rfl dX3_leakOut_28 (pc' := 31) rfl ?_
      refine k_mmin C mlX3_280 kw_min ⟨Nat.le_of_ble_eq_true rfl, Nat.le_of_ble_eq_true rfl⟩ (Nat.le_of_ble_eq_true rfl) dX3_leakOut_31 (pc' := 34) rfl ?_
      refine k_topi (fun v7 => ?_)
      refine k_istore C (lv' := [(4, .int v7), (0, .ref (Γ.1 i 0)), (2, .int b2), (3, .int b3)]) dX3_leakOut_34 (by decide) rfl (pc' := 36) rfl ?_
      refine k_aload_n C 1 dX3_leakOut_36 rfl rfl (pc' := 37) rfl ?_
      refine k_dup C dX3_leakOut_37 rfl (pc' := 38) rfl ?_
      refine k_getf C 9 (c1 Γ M i m0 0 (e_mill Γ hi (m0 0))) (v_i hi (by decide)) flX3_70 (v := .int (m0 0 9)) rfl dX3_leakOut_38 (pc' := 41) rfl ?_
      refine k_iload C 0 dX3_leakOut_41 rfl (pc' := 43) rfl ?_
      refine k_isub C dX3_leakOut_43 (pc' := 44) rfl ?_
      refine k_putf C (hL.k1 M i) 9 (c1 Γ M i m0 0 (e_mill Γ hi (m0 0))) (v_i hi (by decide)) flX3_70 fpX3_9 (Nat.le_of_ble_eq_true rfl) (s1 Γ M i m0 0 9 ((m0 0 9) - v7) ((e_mill Γ hi _).trans (congrArg (fun z => Sum.inr (3, z)) (f_mill Γ i (m0 0) ((m0 0 9) - v7) 9 (by decide))))) dX3_leakOut_44 (pc' := 47) rfl (fun m8 => ?_)
      refine k_aload_n C 1 dX3_leakOut_47 rfl rfl (pc' := 48) rfl ?_
      refine k_dup C dX3_leakOut_48 rfl (pc' := 49) rfl ?_
      refine k_getf C 15 (c1 Γ M i m8 0 (e_mill Γ hi (m8 0))) (v_i hi (by decide)) flX3_82 (v := .int (m8 0 15)) rfl dX3_leakOut_49 (pc' := 52) rfl ?_
      refine k_iload C 0 dX3_leakOut_52 rfl (pc' := 54) rfl ?_
      refine k_iadd C dX3_leakOut_54 (pc' := 55) rfl ?_
      refine k_putf C (hL.k1 M i) 15 (c1 Γ M i m8 0 (e_mill Γ hi (m8 0))) (v_i hi (by decide)) flX3_82 fpX3_15 (Nat.le_of_ble_eq_true rfl) (s1 Γ M i m8 0 15 ((m8 0 15) + v7) ((e_mill Γ hi _).trans (congrArg (fun z => Sum.inr (3, z)) (f_mill Γ i (m8 0) ((m8 0 15) + v7) 15 (by decide))))) dX3_leakOut_55 (pc' := 58) rfl (fun m9 => ?_)
      refine k_iinc (v := 1) (q := 3) (lv' := [(4, .int v7), (0, .ref (Γ.1 i 0)), (2, .int b2)]) C dX3_leakOut_58 rfl (by decide) (by decide) (pc' := 61) rfl (fun _ => rfl) (fun v10 => ?_)
      refine k_goto C (pc' := 14) dX3_leakOut_61 (by decide) ?_
      refine k_sub [2, 3, 0] rfl ?_
      exact ih m9 b2 v10
def fX3_leakOut (m0 : kM1) (a1 : Int32) : Option (Int32 × kM1) :=
  bd (fX3_level m0) fun r1 m2 => k_let (r1 - a1) fun v3 => if 0 < v3 then fX3_leakOut_b14 a1 kFu m2 v3 0 else some (0, m2)
set_option maxRecDepth 100000 in
set_option maxHeartbeats 4000000 in
theorem qX3_leakOut (l : Launch) (Γ : kG) (hL : k_Lay Γ 314) (M : kM2) (i : Nat) (hi : i < 7) (m0 : kM1) (a1 : Int32) : CT l Γ (K1 Γ M i) yX3_leakOut cX3_leakOut 5 none (k_R 2) [.ref (Γ.1 i 0), .int a1] m0 (fX3_leakOut m0 a1) := by
  refine k_meth (own := RX3) (by decide) rfl (Nat.le_of_ble_eq_true rfl) (fun p e R s mid args below meth c C hr => ?_)
  show Sm Γ (K1 Γ M i) p l e R s mid args below meth c 5 (jM false Γ (K1 Γ M i) below args s) m0 [(0, .ref (Γ.1 i 0)), (1, .int a1)] [] 0 (fX3_leakOut m0 a1)
  unfold fX3_leakOut
  refine k_aload_n C 0 dX3_leakOut_0 rfl rfl (pc' := 1) rfl ?_
  refine k_callVi C (rest := []) (qX3_level l Γ hL M i hi m0) mwX3_level iwX3_level mlX3_277 (k_rm_of (by decide) (by decide)) (c1 Γ M i m0 0 (e_mill Γ hi (m0 0))) (v_i hi (by decide)) rfl rfl rfl (Nat.le_of_ble_eq_true rfl) dX3_leakOut_1 (pc' := 4) rfl (fun r1 m2 => ?_)
  refine k_iload_n C 1 dX3_leakOut_4 rfl rfl (pc' := 5) rfl ?_
  refine k_isub C dX3_leakOut_5 (pc' := 6) rfl ?_
  refine k_topi (fun v3 => ?_)
  refine k_istore_n C (lv' := [(2, .int v3), (0, .ref (Γ.1 i 0)), (1, .int a1)]) dX3_leakOut_6 rfl (by decide) rfl (pc' := 7) rfl ?_
  refine k_iload_n C 0 dX3_leakOut_7 rfl rfl (pc' := 8) rfl ?_
  refine k_if_gt C (tgt := 12) dX3_leakOut_8 (by decide) (pc' := 11) rfl (fun h4 => ?_) (fun h4 => ?_)
  · refine k_iconst C (v := 0) dX3_leakOut_12 (by decide) (pc' := 13) rfl ?_
    refine k_istore_n C (lv' := [(3, .int 0), (2, .int v3), (0, .ref (Γ.1 i 0)), (1, .int a1)]) dX3_leakOut_13 rfl (by decide) rfl (pc' := 14) rfl ?_
    refine k_sub [2, 1, 0] rfl ?_
    exact sX3_leakOut_b14 hL hi C hr a1 kFu m2 v3 0
  · exact k_retv C rfl hr dX3_leakOut_11
def fX3_seaAt_b88 (a1 : Int32)  (m0 : kM1) (t0 : Int32) : Option (Int32 × kM1) :=
  some ((m0 1 1) + t0, m0)
set_option maxRecDepth 100000 in
set_option maxHeartbeats 4000000 in
theorem sX3_seaAt_b88 {l : Launch} {Γ : kG} (hL : k_Lay Γ 314) {M : kM2} {i : Nat} (hi : i < 7) {p : Program} {e : Env} {R : Room} {s : State} {mid : MethodId} {args : Array Value} {below : List Frame} {meth : Method} {c : Code} (C : k_C Γ p R s mid args meth c cX3_seaAt 8 RX3 (k_R 1)) (hr : meth.sig.returnType = (some .int)) (a1 : Int32)  (m0 : kM1) (t0 : Int32)  : Sm Γ (K1 Γ M i) p l e R s mid args below meth c 8 (jM true Γ (K1 Γ M i) below args s) m0 [(0, .ref (Γ.1 i 0))] [.int t0] 88 (fX3_seaAt_b88 a1 m0 t0) := by
  unfold fX3_seaAt_b88
  refine k_istore C (lv' := [(7, .int t0), (0, .ref (Γ.1 i 0))]) dX3_seaAt_88 (by decide) rfl (pc' := 90) rfl ?_
  refine k_aload_n C 1 dX3_seaAt_90 rfl rfl (pc' := 91) rfl ?_
  refine k_getf C 0 (c1 Γ M i m0 0 (e_mill Γ hi (m0 0))) (v_i hi (by decide)) flX3_18 (v := .ref (Γ.1 i 1)) rfl dX3_seaAt_91 (pc' := 94) rfl ?_
  refine k_iconst C (v := 1) dX3_seaAt_94 (by decide) (pc' := 95) rfl ?_
  refine k_ialdK C (n0 := 1) (c1 Γ M i m0 1 (e_sets Γ hi (m0 1))) (v_i hi (by decide)) (by decide) (by decide) dX3_seaAt_95 (pc' := 96) rfl ?_
  refine k_iload C 0 dX3_seaAt_96 rfl (pc' := 98) rfl ?_
  refine k_iadd C dX3_seaAt_98 (pc' := 99) rfl ?_
  exact k_reti C rfl hr dX3_seaAt_99
def fX3_seaAt (m0 : kM1) (a1 : Int32) : Option (Int32 × kM1) :=
  k_let (m0 1 4) fun v2 => bd (fX6_quotient m0 a1 v2) fun r3 m4 => k_let (a1 - (r3 * v2)) fun v5 => k_let (v2 / 2) fun v6 => k_let ((m4 1 2) + (((m4 1 3) * (if 0 ≤ ((irm r3 14) - 7) then ((irm r3 14) - 7) else 0 - ((irm r3 14) - 7))) / 7)) fun v9 => if v6 < v5 then bd (fX6_quotient m4 (v9 * (v2 - v5)) (v2 - v6)) fun r11 m12 => fX3_seaAt_b88 a1 m12 r11 else bd (fX6_quotient m4 (v9 * v5) v6) fun r14 m15 => fX3_seaAt_b88 a1 m15 r14
set_option maxRecDepth 100000 in
set_option maxHeartbeats 4000000 in
theorem qX3_seaAt (l : Launch) (Γ : kG) (hL : k_Lay Γ 314) (M : kM2) (i : Nat) (hi : i < 7) (m0 : kM1) (a1 : Int32) : CT l Γ (K1 Γ M i) yX3_seaAt cX3_seaAt 8 (some .int) (k_R 1) [.ref (Γ.1 i 0), .int a1] m0 (fX3_seaAt m0 a1) := by
  refine k_meth (own := RX3) (by decide) rfl (Nat.le_of_ble_eq_true rfl) (fun p e R s mid args below meth c C hr => ?_)
  show Sm Γ (K1 Γ M i) p l e R s mid args below meth c 8 (jM true Γ (K1 Γ M i) below args s) m0 [(0, .ref (Γ.1 i 0)), (1, .int a1)] [] 0 (fX3_seaAt m0 a1)
  unfold fX3_seaAt
  refine k_aload_n C 0 dX3_seaAt_0 rfl rfl (pc' := 1) rfl ?_
  refine k_getf C 0 (c1 Γ M i m0 0 (e_mill Γ hi (m0 0))) (v_i hi (by decide)) flX3_18 (v := .ref (Γ.1 i 1)) rfl dX3_seaAt_1 (pc' := 4) rfl ?_
  refine k_iconst C (v := 4) dX3_seaAt_4 (by decide) (pc' := 5) rfl ?_
  refine k_ialdK C (n0 := 4) (c1 Γ M i m0 1 (e_sets Γ hi (m0 1))) (v_i hi (by decide)) (by decide) (by decide) dX3_seaAt_5 (pc' := 6) rfl ?_
  refine k_topi (fun v2 => ?_)
  refine k_istore_n C (lv' := [(2, .int v2), (0, .ref (Γ.1 i 0)), (1, .int a1)]) dX3_seaAt_6 rfl (by decide) rfl (pc' := 7) rfl ?_
  refine k_iload_n C 2 dX3_seaAt_7 rfl rfl (pc' := 8) rfl ?_
  refine k_iload_n C 0 dX3_seaAt_8 rfl rfl (pc' := 9) rfl ?_
  refine k_callSNi C (rest := []) (qX6_quotient l Γ (K1 Γ M i) m0 a1 v2) mwX6_quotient swX6_quotient (fun h => h.2.1) (k_rm_of (by decide) (by decide)) rfl rfl (Nat.le_of_ble_eq_true rfl) dX3_seaAt_9 (pc' := 12) rfl (fun r3 m4 => ?_)
  refine k_istore_n C (lv' := [(3, .int r3), (2, .int v2), (0, .ref (Γ.1 i 0)), (1, .int a1)]) dX3_seaAt_12 rfl (by decide) rfl (pc' := 13) rfl ?_
  refine k_iload_n C 3 dX3_seaAt_13 rfl rfl (pc' := 14) rfl ?_
  refine k_iload_n C 0 dX3_seaAt_14 rfl rfl (pc' := 15) rfl ?_
  refine k_iload_n C 1 dX3_seaAt_15 rfl rfl (pc' := 16) rfl ?_
  refine k_imul C dX3_seaAt_16 (pc' := 17) rfl ?_
  refine k_isub C dX3_seaAt_17 (pc' := 18) rfl ?_
  refine k_topi (fun v5 => ?_)
  refine k_istore C (lv' := [(4, .int v5), (3, .int r3), (2, .int v2), (0, .ref (Γ.1 i 0)), (1, .int a1)]) dX3_seaAt_18 (by decide) rfl (pc' := 20) rfl ?_
  refine k_iload_n C 2 dX3_seaAt_20 rfl rfl (pc' := 21) rfl ?_
  refine k_iconst C (v := 2) dX3_seaAt_21 (by decide) (pc' := 22) rfl ?_
  refine k_idivK C dX3_seaAt_22 (by decide) (pc' := 23) rfl ?_
  refine k_topi (fun v6 => ?_)
  refine k_istore C (lv' := [(5, .int v6), (4, .int v5), (3, .int r3), (2, .int v2), (0, .ref (Γ.1 i 0)), (1, .int a1)]) dX3_seaAt_23 (by decide) rfl (pc' := 25) rfl ?_
  refine k_aload_n C 4 dX3_seaAt_25 rfl rfl (pc' := 26) rfl ?_
  refine k_getf C 0 (c1 Γ M i m4 0 (e_mill Γ hi (m4 0))) (v_i hi (by decide)) flX3_18 (v := .ref (Γ.1 i 1)) rfl dX3_seaAt_26 (pc' := 29) rfl ?_
  refine k_iconst C (v := 2) dX3_seaAt_29 (by decide) (pc' := 30) rfl ?_
  refine k_ialdK C (n0 := 2) (c1 Γ M i m4 1 (e_sets Γ hi (m4 1))) (v_i hi (by decide)) (by decide) (by decide) dX3_seaAt_30 (pc' := 31) rfl ?_
  refine k_aload_n C 4 dX3_seaAt_31 rfl rfl (pc' := 32) rfl ?_
  refine k_getf C 0 (c1 Γ M i m4 0 (e_mill Γ hi (m4 0))) (v_i hi (by decide)) flX3_18 (v := .ref (Γ.1 i 1)) rfl dX3_seaAt_32 (pc' := 35) rfl ?_
  refine k_iconst C (v := 3) dX3_seaAt_35 (by decide) (pc' := 36) rfl ?_
  refine k_ialdK C (n0 := 3) (c1 Γ M i m4 1 (e_sets Γ hi (m4 1))) (v_i hi (by decide)) (by decide) (by decide) dX3_seaAt_36 (pc' := 37) rfl ?_
  refine k_iload_n C 2 dX3_seaAt_37 rfl rfl (pc' := 38) rfl ?_
  refine k_bipush C (v := 14) dX3_seaAt_38 (by decide) (pc' := 40) rfl ?_
  refine k_iremK C dX3_seaAt_40 (by decide) (pc' := 41) rfl ?_
  refine k_bipush C (v := 7) dX3_seaAt_41 (by decide) (pc' := 43) rfl ?_
  refine k_isub C dX3_seaAt_43 (pc' := 44) rfl ?_
  refine k_mabs C mlX3_272 kw_abs ⟨Nat.le_of_ble_eq_true rfl, Nat.le_of_ble_eq_true rfl⟩ (Nat.le_of_ble_eq_true rfl) dX3_seaAt_44 (pc' := 47) rfl ?_
  refine k_imul C dX3_seaAt_47 (pc' := 48) rfl ?_
  refine k_bipush C (v := 7) dX3_seaAt_48 (by decide) (pc' := 50) rfl ?_
  refine k_idivK C dX3_seaAt_50 (by decide) (pc' := 51) rfl ?_
  refine k_iadd C dX3_seaAt_51 (pc' := 52) rfl ?_
  refine k_topi (fun v9 => ?_)
  refine k_istore C (lv' := [(6, .int v9), (5, .int v6), (4, .int v5), (3, .int r3), (2, .int v2), (0, .ref (Γ.1 i 0)), (1, .int a1)]) dX3_seaAt_52 (by decide) rfl (pc' := 54) rfl ?_
  refine k_iload C 2 dX3_seaAt_54 rfl (pc' := 56) rfl ?_
  refine k_iload C 1 dX3_seaAt_56 rfl (pc' := 58) rfl ?_
  refine k_ic_gt C (tgt := 74) dX3_seaAt_58 (by decide) (pc' := 61) rfl (fun h10 => ?_) (fun h10 => ?_)
  · refine k_iload C 0 dX3_seaAt_74 rfl (pc' := 76) rfl ?_
    refine k_iload_n C 4 dX3_seaAt_76 rfl rfl (pc' := 77) rfl ?_
    refine k_iload C 2 dX3_seaAt_77 rfl (pc' := 79) rfl ?_
    refine k_isub C dX3_seaAt_79 (pc' := 80) rfl ?_
    refine k_imul C dX3_seaAt_80 (pc' := 81) rfl ?_
    refine k_iload_n C 4 dX3_seaAt_81 rfl rfl (pc' := 82) rfl ?_
    refine k_iload C 1 dX3_seaAt_82 rfl (pc' := 84) rfl ?_
    refine k_isub C dX3_seaAt_84 (pc' := 85) rfl ?_
    refine k_callSNi C (rest := []) (qX6_quotient l Γ (K1 Γ M i) m4 (v9 * (v2 - v5)) (v2 - v6)) mwX6_quotient swX6_quotient (fun h => h.2.1) (k_rm_of (by decide) (by decide)) rfl rfl (Nat.le_of_ble_eq_true rfl) dX3_seaAt_85 (pc' := 88) rfl (fun r11 m12 => ?_)
    refine k_sub [5] rfl ?_
    exact sX3_seaAt_b88 hL hi C hr a1 m12 r11
  · refine k_iload C 0 dX3_seaAt_61 rfl (pc' := 63) rfl ?_
    refine k_iload C 2 dX3_seaAt_63 rfl (pc' := 65) rfl ?_
    refine k_imul C dX3_seaAt_65 (pc' := 66) rfl ?_
    refine k_iload C 1 dX3_seaAt_66 rfl (pc' := 68) rfl ?_
    refine k_callSNi C (rest := []) (qX6_quotient l Γ (K1 Γ M i) m4 (v9 * v5) v6) mwX6_quotient swX6_quotient (fun h => h.2.1) (k_rm_of (by decide) (by decide)) rfl rfl (Nat.le_of_ble_eq_true rfl) dX3_seaAt_68 (pc' := 71) rfl (fun r14 m15 => ?_)
    refine k_goto C (pc' := 88) dX3_seaAt_71 (by decide) ?_
    refine k_sub [5] rfl ?_
    exact sX3_seaAt_b88 hL hi C hr a1 m15 r14
def fX3_step_b24   (m0 : kM1) : Option (Int32 × kM1) :=
  bd (fX3_seaAt m0 (m0 0 8)) fun r3 m4 => bd (fX3_flowIn m4 r3) fun r5 m6 => bd (fX3_leakOut m6 r3) fun r7 m8 => bd (fX3_grind m8 r3) fun r9 m10 => some (0, m10)
set_option maxRecDepth 100000 in
set_option maxHeartbeats 4000000 in
theorem sX3_step_b24 {l : Launch} {Γ : kG} (hL : k_Lay Γ 314) {M : kM2} {i : Nat} (hi : i < 7) {p : Program} {e : Env} {R : Room} {s : State} {mid : MethodId} {args : Array Value} {below : List Frame} {meth : Method} {c : Code} (C : k_C Γ p R s mid args meth c cX3_step 2 RX3 (k_R 4)) (hr : meth.sig.returnType = none)  (m0 : kM1)   : Sm Γ (K1 Γ M i) p l e R s mid args below meth c 2 (jM false Γ (K1 Γ M i) below args s) m0 [(0, .ref (Γ.1 i 0))] [] 24 (fX3_step_b24 m0) := by
  unfold fX3_step_b24
  refine k_aload_n C 0 dX3_step_24 rfl rfl (pc' := 25) rfl ?_
  refine k_aload_n C 0 dX3_step_25 rfl rfl (pc' := 26) rfl ?_
  refine k_getf C 8 (c1 Γ M i m0 0 (e_mill Γ hi (m0 0))) (v_i hi (by decide)) flX3_67 (v := .int (m0 0 8)) rfl dX3_step_26 (pc' := 29) rfl ?_
  refine k_callVi C (rest := []) (qX3_seaAt l Γ hL M i hi m0 (m0 0 8)) mwX3_seaAt iwX3_seaAt mlX3_256 (k_rm_of (by decide) (by decide)) (c1 Γ M i m0 0 (e_mill Γ hi (m0 0))) (v_i hi (by decide)) rfl rfl rfl (Nat.le_of_ble_eq_true rfl) dX3_step_29 (pc' := 32) rfl (fun r3 m4 => ?_)
  refine k_istore_n C (lv' := [(1, .int r3), (0, .ref (Γ.1 i 0))]) dX3_step_32 rfl (by decide) rfl (pc' := 33) rfl ?_
  refine k_aload_n C 1 dX3_step_33 rfl rfl (pc' := 34) rfl ?_
  refine k_iload_n C 0 dX3_step_34 rfl rfl (pc' := 35) rfl ?_
  refine k_callVv C (rest := []) (qX3_flowIn l Γ hL M i hi m4 r3) mwX3_flowIn iwX3_flowIn mlX3_259 (k_rm_of (by decide) (by decide)) (c1 Γ M i m4 0 (e_mill Γ hi (m4 0))) (v_i hi (by decide)) rfl rfl rfl (Nat.le_of_ble_eq_true rfl) dX3_step_35 (pc' := 38) rfl (fun r5 m6 => ?_)
  refine k_aload_n C 1 dX3_step_38 rfl rfl (pc' := 39) rfl ?_
  refine k_iload_n C 0 dX3_step_39 rfl rfl (pc' := 40) rfl ?_
  refine k_callVv C (rest := []) (qX3_leakOut l Γ hL M i hi m6 r3) mwX3_leakOut iwX3_leakOut mlX3_263 (k_rm_of (by decide) (by decide)) (c1 Γ M i m6 0 (e_mill Γ hi (m6 0))) (v_i hi (by decide)) rfl rfl rfl (Nat.le_of_ble_eq_true rfl) dX3_step_40 (pc' := 43) rfl (fun r7 m8 => ?_)
  refine k_aload_n C 1 dX3_step_43 rfl rfl (pc' := 44) rfl ?_
  refine k_iload_n C 0 dX3_step_44 rfl rfl (pc' := 45) rfl ?_
  refine k_callVv C (rest := []) (qX3_grind l Γ hL M i hi m8 r3) mwX3_grind iwX3_grind mlX3_266 (k_rm_of (by decide) (by decide)) (c1 Γ M i m8 0 (e_mill Γ hi (m8 0))) (v_i hi (by decide)) rfl rfl rfl (Nat.le_of_ble_eq_true rfl) dX3_step_45 (pc' := 48) rfl (fun r9 m10 => ?_)
  exact k_retv C rfl hr dX3_step_48
def fX3_step (m0 : kM1) : Option (Int32 × kM1) :=
  k_let (mu m0 0 8 ((m0 0 8) + 1)) fun m1 => if (irm (m1 0 8) 96) = 0 then bd (fX3_dropOldPledges m1) fun r11 m12 => fX3_step_b24 m12 else fX3_step_b24 m1
set_option maxRecDepth 100000 in
set_option maxHeartbeats 4000000 in
theorem qX3_step (l : Launch) (Γ : kG) (hL : k_Lay Γ 314) (M : kM2) (i : Nat) (hi : i < 7) (m0 : kM1) : CT l Γ (K1 Γ M i) yX3_step cX3_step 2 none (k_R 4) [.ref (Γ.1 i 0)] m0 (fX3_step m0 ) := by
  refine k_meth (own := RX3) (by decide) rfl (Nat.le_of_ble_eq_true rfl) (fun p e R s mid args below meth c C hr => ?_)
  show Sm Γ (K1 Γ M i) p l e R s mid args below meth c 2 (jM false Γ (K1 Γ M i) below args s) m0 [(0, .ref (Γ.1 i 0))] [] 0 (fX3_step m0 )
  unfold fX3_step
  refine k_aload_n C 0 dX3_step_0 rfl rfl (pc' := 1) rfl ?_
  refine k_dup C dX3_step_1 rfl (pc' := 2) rfl ?_
  refine k_getf C 8 (c1 Γ M i m0 0 (e_mill Γ hi (m0 0))) (v_i hi (by decide)) flX3_67 (v := .int (m0 0 8)) rfl dX3_step_2 (pc' := 5) rfl ?_
  refine k_iconst C (v := 1) dX3_step_5 (by decide) (pc' := 6) rfl ?_
  refine k_iadd C dX3_step_6 (pc' := 7) rfl ?_
  refine k_putf C (hL.k1 M i) 8 (c1 Γ M i m0 0 (e_mill Γ hi (m0 0))) (v_i hi (by decide)) flX3_67 fpX3_8 (Nat.le_of_ble_eq_true rfl) (s1 Γ M i m0 0 8 ((m0 0 8) + 1) ((e_mill Γ hi _).trans (congrArg (fun z => Sum.inr (3, z)) (f_mill Γ i (m0 0) ((m0 0 8) + 1) 8 (by decide))))) dX3_step_7 (pc' := 10) rfl (fun m1 => ?_)
  refine k_aload_n C 0 dX3_step_10 rfl rfl (pc' := 11) rfl ?_
  refine k_getf C 8 (c1 Γ M i m1 0 (e_mill Γ hi (m1 0))) (v_i hi (by decide)) flX3_67 (v := .int (m1 0 8)) rfl dX3_step_11 (pc' := 14) rfl ?_
  refine k_bipush C (v := 96) dX3_step_14 (by decide) (pc' := 16) rfl ?_
  refine k_iremK C dX3_step_16 (by decide) (pc' := 17) rfl ?_
  refine k_if_ne C (tgt := 24) dX3_step_17 (by decide) (pc' := 20) rfl (fun h2 => ?_) (fun h2 => ?_)
  · exact sX3_step_b24 hL hi C hr m1
  · refine k_aload_n C 0 dX3_step_20 rfl rfl (pc' := 21) rfl ?_
    refine k_callVv C (rest := []) (qX3_dropOldPledges l Γ hL M i hi m1) mwX3_dropOldPledges iwX3_dropOldPledges mlX3_253 (k_rm_of (by decide) (by decide)) (c1 Γ M i m1 0 (e_mill Γ hi (m1 0))) (v_i hi (by decide)) rfl rfl rfl (Nat.le_of_ble_eq_true rfl) dX3_step_21 (pc' := 24) rfl (fun r11 m12 => ?_)
    exact sX3_step_b24 hL hi C hr m12
def fX3_letPass_b31 (a1 : Int32) : Nat → kM1 → Int32 → Option (Int32 × kM1)
  | 0, _, _ => none
  | n + 1, m0, b2 =>
  if a1 ≤ b2 then some (m0 0 8, m0) else bd (fX3_step m0) fun r6 m7 => k_let (b2 + 1) fun v8 => fX3_letPass_b31 a1 n m7 v8
set_option maxRecDepth 100000 in
set_option maxHeartbeats 4000000 in
theorem sX3_letPass_b31 {l : Launch} {Γ : kG} (hL : k_Lay Γ 314) {M : kM2} {i : Nat} (hi : i < 7) {p : Program} {e : Env} {R : Room} {s : State} {mid : MethodId} {args : Array Value} {below : List Frame} {meth : Method} {c : Code} (C : k_C Γ p R s mid args meth c cX3_letPass 3 RX3 (k_R 5)) (hr : meth.sig.returnType = (some .int)) (a1 : Int32)  (n : Nat) : ∀ (m0 : kM1) (b2 : Int32), Sm Γ (K1 Γ M i) p l e R s mid args below meth c 3 (jM true Γ (K1 Γ M i) below args s) m0 [(0, .ref (Γ.1 i 0)), (1, .int a1), (2, .int b2)] [] 31 (fX3_letPass_b31 a1 n m0 b2) := by
  induction n with
  | zero => intros; exact k_none
  | succ n ih =>
    intro m0 b2
    unfold fX3_letPass_b31
    refine k_iload_n C 2 dX3_letPass_31 rfl rfl (pc' := 32) rfl ?_
    refine k_iload_n C 1 dX3_letPass_32 rfl rfl (pc' := 33) rfl ?_
    refine k_ic_ge C (tgt := 46) dX3_letPass_33 (by decide) (pc' := 36) rfl (fun h5 => ?_) (fun h5 => ?_)
    · refine k_aload_n C 0 dX3_letPass_46 rfl rfl (pc' := 47) rfl ?_
      refine k_getf C 8 (c1 Γ M i m0 0 (e_mill Γ hi (m0 0))) (v_i hi (by decide)) flX3_67 (v := .int (m0 0 8)) rfl dX3_letPass_47 (pc' := 50) rfl ?_
      exact k_reti C rfl hr dX3_letPass_50
    · refine k_aload_n C 0 dX3_letPass_36 rfl rfl (pc' := 37) rfl ?_
      refine k_callVv C (rest := []) (qX3_step l Γ hL M i hi m0) mwX3_step iwX3_step mlX3_250 (k_rm_of (by decide) (by decide)) (c1 Γ M i m0 0 (e_mill Γ hi (m0 0))) (v_i hi (by decide)) rfl rfl rfl (Nat.le_of_ble_eq_true rfl) dX3_letPass_37 (pc' := 40) rfl (fun r6 m7 => ?_)
      refine k_iinc (v := 1) (q := 2) (lv' := [(0, .ref (Γ.1 i 0)), (1, .int a1)]) C dX3_letPass_40 rfl (by decide) (by decide) (pc' := 43) rfl (fun _ => rfl) (fun v8 => ?_)
      refine k_goto C (pc' := 31) dX3_letPass_43 (by decide) ?_
      refine k_sub [1, 2, 0] rfl ?_
      exact ih m7 v8
def fX3_letPass (m0 : kM1) (a1 : Int32) : Option (Int32 × kM1) :=
  bd (fX6_within m0 a1 1 200) fun r1 m2 => if r1 = 0 then some ((-1000001), m2) else if ((m2 0 8) + a1) ≤ 10000 then fX3_letPass_b31 a1 kFu m2 0 else some ((-1000003), m2)
set_option maxRecDepth 100000 in
set_option maxHeartbeats 4000000 in
theorem qX3_letPass (l : Launch) (Γ : kG) (hL : k_Lay Γ 314) (M : kM2) (i : Nat) (hi : i < 7) (m0 : kM1) (a1 : Int32) : CT l Γ (K1 Γ M i) yX3_letPass cX3_letPass 3 (some .int) (k_R 5) [.ref (Γ.1 i 0), .int a1] m0 (fX3_letPass m0 a1) := by
  refine k_meth (own := RX3) (by decide) rfl (Nat.le_of_ble_eq_true rfl) (fun p e R s mid args below meth c C hr => ?_)
  show Sm Γ (K1 Γ M i) p l e R s mid args below meth c 3 (jM true Γ (K1 Γ M i) below args s) m0 [(0, .ref (Γ.1 i 0)), (1, .int a1)] [] 0 (fX3_letPass m0 a1)
  unfold fX3_letPass
  refine k_iload_n C 1 dX3_letPass_0 rfl rfl (pc' := 1) rfl ?_
  refine k_iconst C (v := 1) dX3_letPass_1 (by decide) (pc' := 2) rfl ?_
  refine k_sipush C (v := 200) dX3_letPass_2 (by decide) (pc' := 5) rfl ?_
  refine k_callSNi C (rest := []) (qX6_within l Γ (K1 Γ M i) m0 a1 1 200) mwX6_within swX6_within (fun h => h.1) (k_rm_of (by decide) (by decide)) rfl rfl (Nat.le_of_ble_eq_true rfl) dX3_letPass_5 (pc' := 8) rfl (fun r1 m2 => ?_)
  refine k_if_ne C (tgt := 14) dX3_letPass_8 (by decide) (pc' := 11) rfl (fun h3 => ?_) (fun h3 => ?_)
  · refine k_aload_n C 0 dX3_letPass_14 rfl rfl (pc' := 15) rfl ?_
    refine k_getf C 8 (c1 Γ M i m2 0 (e_mill Γ hi (m2 0))) (v_i hi (by decide)) flX3_67 (v := .int (m2 0 8)) rfl dX3_letPass_15 (pc' := 18) rfl ?_
    refine k_iload_n C 1 dX3_letPass_18 rfl rfl (pc' := 19) rfl ?_
    refine k_iadd C dX3_letPass_19 (pc' := 20) rfl ?_
    refine k_sipush C (v := 10000) dX3_letPass_20 (by decide) (pc' := 23) rfl ?_
    refine k_ic_le C (tgt := 29) dX3_letPass_23 (by decide) (pc' := 26) rfl (fun h4 => ?_) (fun h4 => ?_)
    · refine k_iconst C (v := 0) dX3_letPass_29 (by decide) (pc' := 30) rfl ?_
      refine k_istore_n C (lv' := [(2, .int 0), (0, .ref (Γ.1 i 0)), (1, .int a1)]) dX3_letPass_30 rfl (by decide) rfl (pc' := 31) rfl ?_
      refine k_sub [1, 2, 0] rfl ?_
      exact sX3_letPass_b31 hL hi C hr a1 kFu m2 0
    · refine k_ldc C (v := (-1000003)) dX3_letPass_26 cnX3_122 (pc' := 28) rfl ?_
      exact k_reti C rfl hr dX3_letPass_28
  · refine k_ldc C (v := (-1000001)) dX3_letPass_11 cnX3_120 (pc' := 13) rfl ?_
    exact k_reti C rfl hr dX3_letPass_13
def fX3_tellPond (m0 : kM1) (a1 : Int32) : Option (Int32 × kM1) :=
  if a1 = 0 then some (m0 0 9, m0) else if a1 = 1 then bd (fX3_level m0) fun r3 m4 => some (r3, m4) else if a1 = 2 then bd (fX3_seaAt m0 (m0 0 8)) fun r6 m7 => some (r6, m7) else if a1 = 3 then bd (fX3_level m0) fun r9 m10 => bd (fX3_seaAt m10 (m10 0 8)) fun r11 m12 => some (r9 - r11, m12) else if a1 = 4 then some (m0 0 11, m0) else if a1 = 5 then some (m0 0 10, m0) else if a1 = 6 then if (m0 0 12) = (-1) then some ((-1000004), m0) else some (m0 0 12, m0) else if a1 = 7 then some (m0 0 14, m0) else if a1 = 8 then some (m0 0 15, m0) else if a1 = 9 then some (m0 0 16, m0) else if a1 = 10 then some (m0 0 17, m0) else bd (fX6_within m0 a1 11 14) fun r21 m22 => if r21 = 0 then some ((-1000001), m22) else if ¬ (a1 - 11) < 0 ∧ (a1 - 11).toNatClampNeg < 4 then some (m22 2 (a1 - 11).toNatClampNeg, m22) else none
set_option maxRecDepth 100000 in
set_option maxHeartbeats 4000000 in
theorem qX3_tellPond (l : Launch) (Γ : kG) (hL : k_Lay Γ 314) (M : kM2) (i : Nat) (hi : i < 7) (m0 : kM1) (a1 : Int32) : CT l Γ (K1 Γ M i) yX3_tellPond cX3_tellPond 2 (some .int) (k_R 2) [.ref (Γ.1 i 0), .int a1] m0 (fX3_tellPond m0 a1) := by
  refine k_meth (own := RX3) (by decide) rfl (Nat.le_of_ble_eq_true rfl) (fun p e R s mid args below meth c C hr => ?_)
  show Sm Γ (K1 Γ M i) p l e R s mid args below meth c 2 (jM true Γ (K1 Γ M i) below args s) m0 [(0, .ref (Γ.1 i 0)), (1, .int a1)] [] 0 (fX3_tellPond m0 a1)
  unfold fX3_tellPond
  refine k_iload_n C 1 dX3_tellPond_0 rfl rfl (pc' := 1) rfl ?_
  refine k_ite (fun h1 => ?_) (fun h1 => ?_)
  · refine k_tswIn C (59) dX3_tellPond_1 h1 (by decide) (by decide) rfl (pc' := 60) (by decide) ?_
    refine k_aload_n C 0 dX3_tellPond_60 rfl rfl (pc' := 61) rfl ?_
    refine k_getf C 9 (c1 Γ M i m0 0 (e_mill Γ hi (m0 0))) (v_i hi (by decide)) flX3_70 (v := .int (m0 0 9)) rfl dX3_tellPond_61 (pc' := 64) rfl ?_
    exact k_reti C rfl hr dX3_tellPond_64
  refine k_ite (fun h2 => ?_) (fun h2 => ?_)
  · refine k_tswIn C (64) dX3_tellPond_1 h2 (by decide) (by decide) rfl (pc' := 65) (by decide) ?_
    refine k_aload_n C 0 dX3_tellPond_65 rfl rfl (pc' := 66) rfl ?_
    refine k_callVi C (rest := []) (qX3_level l Γ hL M i hi m0) mwX3_level iwX3_level mlX3_277 (k_rm_of (by decide) (by decide)) (c1 Γ M i m0 0 (e_mill Γ hi (m0 0))) (v_i hi (by decide)) rfl rfl rfl (Nat.le_of_ble_eq_true rfl) dX3_tellPond_66 (pc' := 69) rfl (fun r3 m4 => ?_)
    exact k_reti C rfl hr dX3_tellPond_69
  refine k_ite (fun h5 => ?_) (fun h5 => ?_)
  · refine k_tswIn C (69) dX3_tellPond_1 h5 (by decide) (by decide) rfl (pc' := 70) (by decide) ?_
    refine k_aload_n C 0 dX3_tellPond_70 rfl rfl (pc' := 71) rfl ?_
    refine k_aload_n C 0 dX3_tellPond_71 rfl rfl (pc' := 72) rfl ?_
    refine k_getf C 8 (c1 Γ M i m0 0 (e_mill Γ hi (m0 0))) (v_i hi (by decide)) flX3_67 (v := .int (m0 0 8)) rfl dX3_tellPond_72 (pc' := 75) rfl ?_
    refine k_callVi C (rest := []) (qX3_seaAt l Γ hL M i hi m0 (m0 0 8)) mwX3_seaAt iwX3_seaAt mlX3_256 (k_rm_of (by decide) (by decide)) (c1 Γ M i m0 0 (e_mill Γ hi (m0 0))) (v_i hi (by decide)) rfl rfl rfl (Nat.le_of_ble_eq_true rfl) dX3_tellPond_75 (pc' := 78) rfl (fun r6 m7 => ?_)
    exact k_reti C rfl hr dX3_tellPond_78
  refine k_ite (fun h8 => ?_) (fun h8 => ?_)
  · refine k_tswIn C (78) dX3_tellPond_1 h8 (by decide) (by decide) rfl (pc' := 79) (by decide) ?_
    refine k_aload_n C 0 dX3_tellPond_79 rfl rfl (pc' := 80) rfl ?_
    refine k_callVi C (rest := []) (qX3_level l Γ hL M i hi m0) mwX3_level iwX3_level mlX3_277 (k_rm_of (by decide) (by decide)) (c1 Γ M i m0 0 (e_mill Γ hi (m0 0))) (v_i hi (by decide)) rfl rfl rfl (Nat.le_of_ble_eq_true rfl) dX3_tellPond_80 (pc' := 83) rfl (fun r9 m10 => ?_)
    refine k_aload_n C 0 dX3_tellPond_83 rfl rfl (pc' := 84) rfl ?_
    refine k_aload_n C 0 dX3_tellPond_84 rfl rfl (pc' := 85) rfl ?_
    refine k_getf C 8 (c1 Γ M i m10 0 (e_mill Γ hi (m10 0))) (v_i hi (by decide)) flX3_67 (v := .int (m10 0 8)) rfl dX3_tellPond_85 (pc' := 88) rfl ?_
    refine k_callVi C (rest := [.int r9]) (qX3_seaAt l Γ hL M i hi m10 (m10 0 8)) mwX3_seaAt iwX3_seaAt mlX3_256 (k_rm_of (by decide) (by decide)) (c1 Γ M i m10 0 (e_mill Γ hi (m10 0))) (v_i hi (by decide)) rfl rfl rfl (Nat.le_of_ble_eq_true rfl) dX3_tellPond_88 (pc' := 91) rfl (fun r11 m12 => ?_)
    refine k_isub C dX3_tellPond_91 (pc' := 92) rfl ?_
    exact k_reti C rfl hr dX3_tellPond_92
  refine k_ite (fun h13 => ?_) (fun h13 => ?_)
  · refine k_tswIn C (92) dX3_tellPond_1 h13 (by decide) (by decide) rfl (pc' := 93) (by decide) ?_
    refine k_aload_n C 0 dX3_tellPond_93 rfl rfl (pc' := 94) rfl ?_
    refine k_getf C 11 (c1 Γ M i m0 0 (e_mill Γ hi (m0 0))) (v_i hi (by decide)) flX3_76 (v := .int (m0 0 11)) rfl dX3_tellPond_94 (pc' := 97) rfl ?_
    exact k_reti C rfl hr dX3_tellPond_97
  refine k_ite (fun h14 => ?_) (fun h14 => ?_)
  · refine k_tswIn C (97) dX3_tellPond_1 h14 (by decide) (by decide) rfl (pc' := 98) (by decide) ?_
    refine k_aload_n C 0 dX3_tellPond_98 rfl rfl (pc' := 99) rfl ?_
    refine k_getf C 10 (c1 Γ M i m0 0 (e_mill Γ hi (m0 0))) (v_i hi (by decide)) flX3_73 (v := .int (m0 0 10)) rfl dX3_tellPond_99 (pc' := 102) rfl ?_
    exact k_reti C rfl hr dX3_tellPond_102
  refine k_ite (fun h15 => ?_) (fun h15 => ?_)
  · refine k_tswIn C (102) dX3_tellPond_1 h15 (by decide) (by decide) rfl (pc' := 103) (by decide) ?_
    refine k_aload_n C 0 dX3_tellPond_103 rfl rfl (pc' := 104) rfl ?_
    refine k_getf C 12 (c1 Γ M i m0 0 (e_mill Γ hi (m0 0))) (v_i hi (by decide)) flX3_47 (v := .int (m0 0 12)) rfl dX3_tellPond_104 (pc' := 107) rfl ?_
    refine k_iconst C (v := (-1)) dX3_tellPond_107 (by decide) (pc' := 108) rfl ?_
    refine k_ic_ne C (tgt := 116) dX3_tellPond_108 (by decide) (pc' := 111) rfl (fun h16 => ?_) (fun h16 => ?_)
    · refine k_aload_n C 0 dX3_tellPond_116 rfl rfl (pc' := 117) rfl ?_
      refine k_getf C 12 (c1 Γ M i m0 0 (e_mill Γ hi (m0 0))) (v_i hi (by decide)) flX3_47 (v := .int (m0 0 12)) rfl dX3_tellPond_117 (pc' := 120) rfl ?_
      exact k_reti C rfl hr dX3_tellPond_120
    · refine k_ldc C (v := (-1000004)) dX3_tellPond_111 cnX3_189 (pc' := 113) rfl ?_
      refine k_goto C (pc' := 120) dX3_tellPond_113 (by decide) ?_
      exact k_reti C rfl hr dX3_tellPond_120
  refine k_ite (fun h17 => ?_) (fun h17 => ?_)
  · refine k_tswIn C (120) dX3_tellPond_1 h17 (by decide) (by decide) rfl (pc' := 121) (by decide) ?_
    refine k_aload_n C 0 dX3_tellPond_121 rfl rfl (pc' := 122) rfl ?_
    refine k_getf C 14 (c1 Γ M i m0 0 (e_mill Γ hi (m0 0))) (v_i hi (by decide)) flX3_79 (v := .int (m0 0 14)) rfl dX3_tellPond_122 (pc' := 125) rfl ?_
    exact k_reti C rfl hr dX3_tellPond_125
  refine k_ite (fun h18 => ?_) (fun h18 => ?_)
  · refine k_tswIn C (125) dX3_tellPond_1 h18 (by decide) (by decide) rfl (pc' := 126) (by decide) ?_
    refine k_aload_n C 0 dX3_tellPond_126 rfl rfl (pc' := 127) rfl ?_
    refine k_getf C 15 (c1 Γ M i m0 0 (e_mill Γ hi (m0 0))) (v_i hi (by decide)) flX3_82 (v := .int (m0 0 15)) rfl dX3_tellPond_127 (pc' := 130) rfl ?_
    exact k_reti C rfl hr dX3_tellPond_130
  refine k_ite (fun h19 => ?_) (fun h19 => ?_)
  · refine k_tswIn C (130) dX3_tellPond_1 h19 (by decide) (by decide) rfl (pc' := 131) (by decide) ?_
    refine k_aload_n C 0 dX3_tellPond_131 rfl rfl (pc' := 132) rfl ?_
    refine k_getf C 16 (c1 Γ M i m0 0 (e_mill Γ hi (m0 0))) (v_i hi (by decide)) flX3_85 (v := .int (m0 0 16)) rfl dX3_tellPond_132 (pc' := 135) rfl ?_
    exact k_reti C rfl hr dX3_tellPond_135
  refine k_ite (fun h20 => ?_) (fun h20 => ?_)
  · refine k_tswIn C (135) dX3_tellPond_1 h20 (by decide) (by decide) rfl (pc' := 136) (by decide) ?_
    refine k_aload_n C 0 dX3_tellPond_136 rfl rfl (pc' := 137) rfl ?_
    refine k_getf C 17 (c1 Γ M i m0 0 (e_mill Γ hi (m0 0))) (v_i hi (by decide)) flX3_88 (v := .int (m0 0 17)) rfl dX3_tellPond_137 (pc' := 140) rfl ?_
    exact k_reti C rfl hr dX3_tellPond_140
  refine k_tswOut C dX3_tellPond_1 (by have z0 := lv_neT h1 (show (0 : Int32).toInt = 0 by decide); have z1 := lv_neT h2 (show (1 : Int32).toInt = 1 by decide); have z2 := lv_neT h5 (show (2 : Int32).toInt = 2 by decide); have z3 := lv_neT h8 (show (3 : Int32).toInt = 3 by decide); have z4 := lv_neT h13 (show (4 : Int32).toInt = 4 by decide); have z5 := lv_neT h14 (show (5 : Int32).toInt = 5 by decide); have z6 := lv_neT h15 (show (6 : Int32).toInt = 6 by decide); have z7 := lv_neT h17 (show (7 : Int32).toInt = 7 by decide); have z8 := lv_neT h18 (show (8 : Int32).toInt = 8 by decide); have z9 := lv_neT h19 (show (9 : Int32).toInt = 9 by decide); have z10 := lv_neT h20 (show (10 : Int32).toInt = 10 by decide); omega) (pc' := 141) (by decide) ?_
  refine k_iload_n C 1 dX3_tellPond_141 rfl rfl (pc' := 142) rfl ?_
  refine k_bipush C (v := 11) dX3_tellPond_142 (by decide) (pc' := 144) rfl ?_
  refine k_bipush C (v := 14) dX3_tellPond_144 (by decide) (pc' := 146) rfl ?_
  refine k_callSNi C (rest := []) (qX6_within l Γ (K1 Γ M i) m0 a1 11 14) mwX6_within swX6_within (fun h => h.1) (k_rm_of (by decide) (by decide)) rfl rfl (Nat.le_of_ble_eq_true rfl) dX3_tellPond_146 (pc' := 149) rfl (fun r21 m22 => ?_)
  refine k_if_eq C (tgt := 164) dX3_tellPond_149 (by decide) (pc' := 152) rfl (fun h23 => ?_) (fun h23 => ?_)
  · refine k_ldc C (v := (-1000001)) dX3_tellPond_164 cnX3_120 (pc' := 166) rfl ?_
    exact k_reti C rfl hr dX3_tellPond_166
  · refine k_aload_n C 0 dX3_tellPond_152 rfl rfl (pc' := 153) rfl ?_
    refine k_getf C 1 (c1 Γ M i m22 0 (e_mill Γ hi (m22 0))) (v_i hi (by decide)) flX3_26 (v := .ref (Γ.1 i 2)) rfl dX3_tellPond_153 (pc' := 156) rfl ?_
    refine k_iload_n C 1 dX3_tellPond_156 rfl rfl (pc' := 157) rfl ?_
    refine k_bipush C (v := 11) dX3_tellPond_157 (by decide) (pc' := 159) rfl ?_
    refine k_isub C dX3_tellPond_159 (pc' := 160) rfl ?_
    refine k_iald C (c1 Γ M i m22 2 (e_leaks Γ hi (m22 2))) (v_i hi (by decide)) dX3_tellPond_160 (pc' := 161) rfl (fun h24 => ?_)
    refine k_goto C (pc' := 166) dX3_tellPond_161 (by decide) ?_
    exact k_reti C rfl hr dX3_tellPond_166
def fX3_countOf (m0 : kM1) (a1 : Int32) : Option (Int32 × kM1) :=
  if a1 = 0 then some (m0 0 5, m0) else if a1 = 1 then some (m0 0 6, m0) else if a1 = 2 then some (m0 0 7, m0) else if a1 = 3 then bd (fX3_sacksInStage m0 0) fun r5 m6 => some (r5, m6) else if a1 = 4 then bd (fX3_sacksInStage m0 2) fun r8 m9 => some (r8, m9) else if a1 = 5 then bd (fX3_sacksInStage m0 3) fun r11 m12 => some (r11, m12) else if a1 = 6 then bd (fX3_pledgesOf m0 (-1)) fun r14 m15 => some (r14, m15) else if a1 = 7 then some (m0 0 8, m0) else if a1 = 8 then bd (fX3_today m0) fun r18 m19 => some (r18, m19) else some ((-1000001), m0)
set_option maxRecDepth 100000 in
set_option maxHeartbeats 4000000 in
theorem qX3_countOf (l : Launch) (Γ : kG) (hL : k_Lay Γ 314) (M : kM2) (i : Nat) (hi : i < 7) (m0 : kM1) (a1 : Int32) : CT l Γ (K1 Γ M i) yX3_countOf cX3_countOf 2 (some .int) (k_R 2) [.ref (Γ.1 i 0), .int a1] m0 (fX3_countOf m0 a1) := by
  refine k_meth (own := RX3) (by decide) rfl (Nat.le_of_ble_eq_true rfl) (fun p e R s mid args below meth c C hr => ?_)
  show Sm Γ (K1 Γ M i) p l e R s mid args below meth c 2 (jM true Γ (K1 Γ M i) below args s) m0 [(0, .ref (Γ.1 i 0)), (1, .int a1)] [] 0 (fX3_countOf m0 a1)
  unfold fX3_countOf
  refine k_iload_n C 1 dX3_countOf_0 rfl rfl (pc' := 1) rfl ?_
  refine k_ite (fun h1 => ?_) (fun h1 => ?_)
  · refine k_tswIn C (51) dX3_countOf_1 h1 (by decide) (by decide) rfl (pc' := 52) (by decide) ?_
    refine k_aload_n C 0 dX3_countOf_52 rfl rfl (pc' := 53) rfl ?_
    refine k_getf C 5 (c1 Γ M i m0 0 (e_mill Γ hi (m0 0))) (v_i hi (by decide)) flX3_91 (v := .int (m0 0 5)) rfl dX3_countOf_53 (pc' := 56) rfl ?_
    exact k_reti C rfl hr dX3_countOf_56
  refine k_ite (fun h2 => ?_) (fun h2 => ?_)
  · refine k_tswIn C (56) dX3_countOf_1 h2 (by decide) (by decide) rfl (pc' := 57) (by decide) ?_
    refine k_aload_n C 0 dX3_countOf_57 rfl rfl (pc' := 58) rfl ?_
    refine k_getf C 6 (c1 Γ M i m0 0 (e_mill Γ hi (m0 0))) (v_i hi (by decide)) flX3_94 (v := .int (m0 0 6)) rfl dX3_countOf_58 (pc' := 61) rfl ?_
    exact k_reti C rfl hr dX3_countOf_61
  refine k_ite (fun h3 => ?_) (fun h3 => ?_)
  · refine k_tswIn C (61) dX3_countOf_1 h3 (by decide) (by decide) rfl (pc' := 62) (by decide) ?_
    refine k_aload_n C 0 dX3_countOf_62 rfl rfl (pc' := 63) rfl ?_
    refine k_getf C 7 (c1 Γ M i m0 0 (e_mill Γ hi (m0 0))) (v_i hi (by decide)) flX3_97 (v := .int (m0 0 7)) rfl dX3_countOf_63 (pc' := 66) rfl ?_
    exact k_reti C rfl hr dX3_countOf_66
  refine k_ite (fun h4 => ?_) (fun h4 => ?_)
  · refine k_tswIn C (66) dX3_countOf_1 h4 (by decide) (by decide) rfl (pc' := 67) (by decide) ?_
    refine k_aload_n C 0 dX3_countOf_67 rfl rfl (pc' := 68) rfl ?_
    refine k_iconst C (v := 0) dX3_countOf_68 (by decide) (pc' := 69) rfl ?_
    refine k_callVi C (rest := []) (qX3_sacksInStage l Γ hL M i hi m0 0) mwX3_sacksInStage iwX3_sacksInStage mlX3_302 (k_rm_of (by decide) (by decide)) (c1 Γ M i m0 0 (e_mill Γ hi (m0 0))) (v_i hi (by decide)) rfl rfl rfl (Nat.le_of_ble_eq_true rfl) dX3_countOf_69 (pc' := 72) rfl (fun r5 m6 => ?_)
    exact k_reti C rfl hr dX3_countOf_72
  refine k_ite (fun h7 => ?_) (fun h7 => ?_)
  · refine k_tswIn C (72) dX3_countOf_1 h7 (by decide) (by decide) rfl (pc' := 73) (by decide) ?_
    refine k_aload_n C 0 dX3_countOf_73 rfl rfl (pc' := 74) rfl ?_
    refine k_iconst C (v := 2) dX3_countOf_74 (by decide) (pc' := 75) rfl ?_
    refine k_callVi C (rest := []) (qX3_sacksInStage l Γ hL M i hi m0 2) mwX3_sacksInStage iwX3_sacksInStage mlX3_302 (k_rm_of (by decide) (by decide)) (c1 Γ M i m0 0 (e_mill Γ hi (m0 0))) (v_i hi (by decide)) rfl rfl rfl (Nat.le_of_ble_eq_true rfl) dX3_countOf_75 (pc' := 78) rfl (fun r8 m9 => ?_)
    exact k_reti C rfl hr dX3_countOf_78
  refine k_ite (fun h10 => ?_) (fun h10 => ?_)
  · refine k_tswIn C (78) dX3_countOf_1 h10 (by decide) (by decide) rfl (pc' := 79) (by decide) ?_
    refine k_aload_n C 0 dX3_countOf_79 rfl rfl (pc' := 80) rfl ?_
    refine k_iconst C (v := 3) dX3_countOf_80 (by decide) (pc' := 81) rfl ?_
    refine k_callVi C (rest := []) (qX3_sacksInStage l Γ hL M i hi m0 3) mwX3_sacksInStage iwX3_sacksInStage mlX3_302 (k_rm_of (by decide) (by decide)) (c1 Γ M i m0 0 (e_mill Γ hi (m0 0))) (v_i hi (by decide)) rfl rfl rfl (Nat.le_of_ble_eq_true rfl) dX3_countOf_81 (pc' := 84) rfl (fun r11 m12 => ?_)
    exact k_reti C rfl hr dX3_countOf_84
  refine k_ite (fun h13 => ?_) (fun h13 => ?_)
  · refine k_tswIn C (84) dX3_countOf_1 h13 (by decide) (by decide) rfl (pc' := 85) (by decide) ?_
    refine k_aload_n C 0 dX3_countOf_85 rfl rfl (pc' := 86) rfl ?_
    refine k_iconst C (v := (-1)) dX3_countOf_86 (by decide) (pc' := 87) rfl ?_
    refine k_callVi C (rest := []) (qX3_pledgesOf l Γ hL M i hi m0 (-1)) mwX3_pledgesOf iwX3_pledgesOf mlX3_178 (k_rm_of (by decide) (by decide)) (c1 Γ M i m0 0 (e_mill Γ hi (m0 0))) (v_i hi (by decide)) rfl rfl rfl (Nat.le_of_ble_eq_true rfl) dX3_countOf_87 (pc' := 90) rfl (fun r14 m15 => ?_)
    exact k_reti C rfl hr dX3_countOf_90
  refine k_ite (fun h16 => ?_) (fun h16 => ?_)
  · refine k_tswIn C (90) dX3_countOf_1 h16 (by decide) (by decide) rfl (pc' := 91) (by decide) ?_
    refine k_aload_n C 0 dX3_countOf_91 rfl rfl (pc' := 92) rfl ?_
    refine k_getf C 8 (c1 Γ M i m0 0 (e_mill Γ hi (m0 0))) (v_i hi (by decide)) flX3_67 (v := .int (m0 0 8)) rfl dX3_countOf_92 (pc' := 95) rfl ?_
    exact k_reti C rfl hr dX3_countOf_95
  refine k_ite (fun h17 => ?_) (fun h17 => ?_)
  · refine k_tswIn C (95) dX3_countOf_1 h17 (by decide) (by decide) rfl (pc' := 96) (by decide) ?_
    refine k_aload_n C 0 dX3_countOf_96 rfl rfl (pc' := 97) rfl ?_
    refine k_callVi C (rest := []) (qX3_today l Γ hL M i hi m0) mwX3_today iwX3_today mlX3_223 (k_rm_of (by decide) (by decide)) (c1 Γ M i m0 0 (e_mill Γ hi (m0 0))) (v_i hi (by decide)) rfl rfl rfl (Nat.le_of_ble_eq_true rfl) dX3_countOf_97 (pc' := 100) rfl (fun r18 m19 => ?_)
    exact k_reti C rfl hr dX3_countOf_100
  refine k_tswOut C dX3_countOf_1 (by have z0 := lv_neT h1 (show (0 : Int32).toInt = 0 by decide); have z1 := lv_neT h2 (show (1 : Int32).toInt = 1 by decide); have z2 := lv_neT h3 (show (2 : Int32).toInt = 2 by decide); have z3 := lv_neT h4 (show (3 : Int32).toInt = 3 by decide); have z4 := lv_neT h7 (show (4 : Int32).toInt = 4 by decide); have z5 := lv_neT h10 (show (5 : Int32).toInt = 5 by decide); have z6 := lv_neT h13 (show (6 : Int32).toInt = 6 by decide); have z7 := lv_neT h16 (show (7 : Int32).toInt = 7 by decide); have z8 := lv_neT h17 (show (8 : Int32).toInt = 8 by decide); omega) (pc' := 101) (by decide) ?_
  refine k_ldc C (v := (-1000001)) dX3_countOf_101 cnX3_120 (pc' := 103) rfl ?_
  exact k_reti C rfl hr dX3_countOf_103
def fX1_hold (M0 : kM2) (i1 : Nat) : Option (Int32 × kM2) :=
  if ¬ (irm ((M0 7 1 1) + (M0 7 1 2)) 5) < 0 ∧ (irm ((M0 7 1 1) + (M0 7 1 2)) 5).toNatClampNeg < 5 then bd (fX3_copyFrom M0 ((2 + (irm ((M0 7 1 1) + (M0 7 1 2)) 5).toNatClampNeg)) i1) fun r2 M3 => some (0, M3) else none
set_option maxRecDepth 100000 in
set_option maxHeartbeats 4000000 in
theorem qX1_hold (l : Launch) (Γ : kG) (hL : k_Lay Γ 314) (M0 : kM2) (i1 : Nat) (hi1 : i1 < 7) : CT l Γ (K2 Γ) yX1_hold cX1_hold 2 none (k_R 3) [.ref (Γ.1 7 1), .ref (Γ.1 i1 0)] M0 (fX1_hold M0 i1) := by
  refine k_meth (own := RX1) (by decide) rfl (Nat.le_of_ble_eq_true rfl) (fun p e R s mid args below meth c C hr => ?_)
  show Sm Γ (K2 Γ) p l e R s mid args below meth c 2 (jM false Γ (K2 Γ) below args s) M0 [(0, .ref (Γ.1 7 1)), (1, .ref (Γ.1 i1 0))] [] 0 (fX1_hold M0 i1)
  unfold fX1_hold
  refine k_aload_n C 0 dX1_hold_0 rfl rfl (pc' := 1) rfl ?_
  refine k_getf C 0 (c2 Γ M0 7 1 (e_hist Γ (M0 7 1))) (v_7 (by decide)) flX1_11 (v := .ref (Γ.1 7 2)) rfl dX1_hold_1 (pc' := 4) rfl ?_
  refine k_aload_n C 0 dX1_hold_4 rfl rfl (pc' := 5) rfl ?_
  refine k_getf C 1 (c2 Γ M0 7 1 (e_hist Γ (M0 7 1))) (v_7 (by decide)) flX1_18 (v := .int (M0 7 1 1)) rfl dX1_hold_5 (pc' := 8) rfl ?_
  refine k_aload_n C 0 dX1_hold_8 rfl rfl (pc' := 9) rfl ?_
  refine k_getf C 2 (c2 Γ M0 7 1 (e_hist Γ (M0 7 1))) (v_7 (by decide)) flX1_22 (v := .int (M0 7 1 2)) rfl dX1_hold_9 (pc' := 12) rfl ?_
  refine k_iadd C dX1_hold_12 (pc' := 13) rfl ?_
  refine k_iconst C (v := 5) dX1_hold_13 (by decide) (pc' := 14) rfl ?_
  refine k_iremK C dX1_hold_14 (by decide) (pc' := 15) rfl ?_
  refine k_aald C 5 (c2 Γ M0 7 2 (e_states Γ (M0 7 2))) (v_7 (by decide)) rfl (b := Γ.1 (2 + (irm ((M0 7 1 1) + (M0 7 1 2)) 5).toNatClampNeg) 0) rfl dX1_hold_15 (pc' := 16) rfl (fun h1 => ?_)
  refine k_aload_n C 1 dX1_hold_16 rfl rfl (pc' := 17) rfl ?_
  refine k_callVv C (rest := []) (qX3_copyFrom l Γ hL M0 ((2 + (irm ((M0 7 1 1) + (M0 7 1 2)) 5).toNatClampNeg)) i1 (i_state h1) hi1) mwX3_copyFrom iwX3_copyFrom mlX1_25 (k_rm_of (by decide) (by decide)) (c2 Γ M0 (2 + (irm ((M0 7 1 1) + (M0 7 1 2)) 5).toNatClampNeg) 0 (e_mill Γ (i_state h1) (M0 (2 + (irm ((M0 7 1 1) + (M0 7 1 2)) 5).toNatClampNeg) 0))) (v_i (i_state h1) (by decide)) rfl rfl rfl (Nat.le_of_ble_eq_true rfl) dX1_hold_17 (pc' := 20) rfl (fun r2 M3 => ?_)
  exact k_retv C rfl hr dX1_hold_20
def fX1_keepIfDone (m0 : kM1) (a1 : Int32) : Option (Int32 × kM1) :=
  if a1 < 0 then some (a1, m0) else if 4 ≤ (m0 1 2) then k_let (mu m0 1 1 (irm ((m0 1 1) + 1) 5)) fun m3 => some (a1, m3) else k_let (mu m0 1 2 ((m0 1 2) + 1)) fun m4 => some (a1, m4)
set_option maxRecDepth 100000 in
set_option maxHeartbeats 4000000 in
theorem qX1_keepIfDone (l : Launch) (Γ : kG) (hL : k_Lay Γ 314) (M : kM2) (m0 : kM1) (a1 : Int32) : CT l Γ (K1 Γ M 7) yX1_keepIfDone cX1_keepIfDone 2 (some .int) (k_R 0) [.ref (Γ.1 7 1), .int a1] m0 (fX1_keepIfDone m0 a1) := by
  refine k_meth (own := RX1) (by decide) rfl (Nat.le_of_ble_eq_true rfl) (fun p e R s mid args below meth c C hr => ?_)
  show Sm Γ (K1 Γ M 7) p l e R s mid args below meth c 2 (jM true Γ (K1 Γ M 7) below args s) m0 [(0, .ref (Γ.1 7 1)), (1, .int a1)] [] 0 (fX1_keepIfDone m0 a1)
  unfold fX1_keepIfDone
  refine k_iload_n C 1 dX1_keepIfDone_0 rfl rfl (pc' := 1) rfl ?_
  refine k_if_lt C (tgt := 37) dX1_keepIfDone_1 (by decide) (pc' := 4) rfl (fun h1 => ?_) (fun h1 => ?_)
  · refine k_iload_n C 1 dX1_keepIfDone_37 rfl rfl (pc' := 38) rfl ?_
    exact k_reti C rfl hr dX1_keepIfDone_38
  · refine k_aload_n C 0 dX1_keepIfDone_4 rfl rfl (pc' := 5) rfl ?_
    refine k_getf C 2 (c1 Γ M 7 m0 1 (e_hist Γ (m0 1))) (v_7 (by decide)) flX1_22 (v := .int (m0 1 2)) rfl dX1_keepIfDone_5 (pc' := 8) rfl ?_
    refine k_iconst C (v := 4) dX1_keepIfDone_8 (by decide) (pc' := 9) rfl ?_
    refine k_ic_ge C (tgt := 25) dX1_keepIfDone_9 (by decide) (pc' := 12) rfl (fun h2 => ?_) (fun h2 => ?_)
    · refine k_aload_n C 0 dX1_keepIfDone_25 rfl rfl (pc' := 26) rfl ?_
      refine k_aload_n C 0 dX1_keepIfDone_26 rfl rfl (pc' := 27) rfl ?_
      refine k_getf C 1 (c1 Γ M 7 m0 1 (e_hist Γ (m0 1))) (v_7 (by decide)) flX1_18 (v := .int (m0 1 1)) rfl dX1_keepIfDone_27 (pc' := 30) rfl ?_
      refine k_iconst C (v := 1) dX1_keepIfDone_30 (by decide) (pc' := 31) rfl ?_
      refine k_iadd C dX1_keepIfDone_31 (pc' := 32) rfl ?_
      refine k_iconst C (v := 5) dX1_keepIfDone_32 (by decide) (pc' := 33) rfl ?_
      refine k_iremK C dX1_keepIfDone_33 (by decide) (pc' := 34) rfl ?_
      refine k_putf C (hL.k1 M 7) 1 (c1 Γ M 7 m0 1 (e_hist Γ (m0 1))) (v_7 (by decide)) flX1_18 fpX1_1 (Nat.le_of_ble_eq_true rfl) (s1 Γ M 7 m0 1 1 (irm ((m0 1 1) + 1) 5) ((e_hist Γ _).trans (congrArg (fun z => Sum.inr (1, z)) (f_hist Γ (m0 1) (irm ((m0 1 1) + 1) 5) 1 (by decide))))) dX1_keepIfDone_34 (pc' := 37) rfl (fun m3 => ?_)
      refine k_iload_n C 1 dX1_keepIfDone_37 rfl rfl (pc' := 38) rfl ?_
      exact k_reti C rfl hr dX1_keepIfDone_38
    · refine k_aload_n C 0 dX1_keepIfDone_12 rfl rfl (pc' := 13) rfl ?_
      refine k_dup C dX1_keepIfDone_13 rfl (pc' := 14) rfl ?_
      refine k_getf C 2 (c1 Γ M 7 m0 1 (e_hist Γ (m0 1))) (v_7 (by decide)) flX1_22 (v := .int (m0 1 2)) rfl dX1_keepIfDone_14 (pc' := 17) rfl ?_
      refine k_iconst C (v := 1) dX1_keepIfDone_17 (by decide) (pc' := 18) rfl ?_
      refine k_iadd C dX1_keepIfDone_18 (pc' := 19) rfl ?_
      refine k_putf C (hL.k1 M 7) 2 (c1 Γ M 7 m0 1 (e_hist Γ (m0 1))) (v_7 (by decide)) flX1_22 fpX1_2 (Nat.le_of_ble_eq_true rfl) (s1 Γ M 7 m0 1 2 ((m0 1 2) + 1) ((e_hist Γ _).trans (congrArg (fun z => Sum.inr (1, z)) (f_hist Γ (m0 1) ((m0 1 2) + 1) 2 (by decide))))) dX1_keepIfDone_19 (pc' := 22) rfl (fun m4 => ?_)
      refine k_goto C (pc' := 37) dX1_keepIfDone_22 (by decide) ?_
      refine k_iload_n C 1 dX1_keepIfDone_37 rfl rfl (pc' := 38) rfl ?_
      exact k_reti C rfl hr dX1_keepIfDone_38
def fX1_restore (M0 : kM2) (i1 : Nat) : Option (Int32 × kM2) :=
  if (M0 7 1 2) = 0 then some ((-1000002), M0) else k_let (mw M0 7 1 2 ((M0 7 1 2) - 1)) fun M2 => if ¬ (irm ((M2 7 1 1) + (M2 7 1 2)) 5) < 0 ∧ (irm ((M2 7 1 1) + (M2 7 1 2)) 5).toNatClampNeg < 5 then bd (fX3_copyFrom M2 i1 ((2 + (irm ((M2 7 1 1) + (M2 7 1 2)) 5).toNatClampNeg))) fun r4 M5 => some (M5 7 1 2, M5) else none
set_option maxRecDepth 100000 in
set_option maxHeartbeats 4000000 in
theorem qX1_restore (l : Launch) (Γ : kG) (hL : k_Lay Γ 314) (M0 : kM2) (i1 : Nat) (hi1 : i1 < 7) : CT l Γ (K2 Γ) yX1_restore cX1_restore 2 (some .int) (k_R 3) [.ref (Γ.1 7 1), .ref (Γ.1 i1 0)] M0 (fX1_restore M0 i1) := by
  refine k_meth (own := RX1) (by decide) rfl (Nat.le_of_ble_eq_true rfl) (fun p e R s mid args below meth c C hr => ?_)
  show Sm Γ (K2 Γ) p l e R s mid args below meth c 2 (jM true Γ (K2 Γ) below args s) M0 [(0, .ref (Γ.1 7 1)), (1, .ref (Γ.1 i1 0))] [] 0 (fX1_restore M0 i1)
  unfold fX1_restore
  refine k_aload_n C 0 dX1_restore_0 rfl rfl (pc' := 1) rfl ?_
  refine k_getf C 2 (c2 Γ M0 7 1 (e_hist Γ (M0 7 1))) (v_7 (by decide)) flX1_22 (v := .int (M0 7 1 2)) rfl dX1_restore_1 (pc' := 4) rfl ?_
  refine k_if_ne C (tgt := 10) dX1_restore_4 (by decide) (pc' := 7) rfl (fun h1 => ?_) (fun h1 => ?_)
  · refine k_aload_n C 0 dX1_restore_10 rfl rfl (pc' := 11) rfl ?_
    refine k_dup C dX1_restore_11 rfl (pc' := 12) rfl ?_
    refine k_getf C 2 (c2 Γ M0 7 1 (e_hist Γ (M0 7 1))) (v_7 (by decide)) flX1_22 (v := .int (M0 7 1 2)) rfl dX1_restore_12 (pc' := 15) rfl ?_
    refine k_iconst C (v := 1) dX1_restore_15 (by decide) (pc' := 16) rfl ?_
    refine k_isub C dX1_restore_16 (pc' := 17) rfl ?_
    refine k_putf C hL.k2 2 (c2 Γ M0 7 1 (e_hist Γ (M0 7 1))) (v_7 (by decide)) flX1_22 fpX1_2 (Nat.le_of_ble_eq_true rfl) (s2 Γ M0 7 1 2 ((M0 7 1 2) - 1) ((e_hist Γ _).trans (congrArg (fun z => Sum.inr (1, z)) (f_hist Γ (M0 7 1) ((M0 7 1 2) - 1) 2 (by decide))))) dX1_restore_17 (pc' := 20) rfl (fun M2 => ?_)
    refine k_aload_n C 1 dX1_restore_20 rfl rfl (pc' := 21) rfl ?_
    refine k_aload_n C 0 dX1_restore_21 rfl rfl (pc' := 22) rfl ?_
    refine k_getf C 0 (c2 Γ M2 7 1 (e_hist Γ (M2 7 1))) (v_7 (by decide)) flX1_11 (v := .ref (Γ.1 7 2)) rfl dX1_restore_22 (pc' := 25) rfl ?_
    refine k_aload_n C 0 dX1_restore_25 rfl rfl (pc' := 26) rfl ?_
    refine k_getf C 1 (c2 Γ M2 7 1 (e_hist Γ (M2 7 1))) (v_7 (by decide)) flX1_18 (v := .int (M2 7 1 1)) rfl dX1_restore_26 (pc' := 29) rfl ?_
    refine k_aload_n C 0 dX1_restore_29 rfl rfl (pc' := 30) rfl ?_
    refine k_getf C 2 (c2 Γ M2 7 1 (e_hist Γ (M2 7 1))) (v_7 (by decide)) flX1_22 (v := .int (M2 7 1 2)) rfl dX1_restore_30 (pc' := 33) rfl ?_
    refine k_iadd C dX1_restore_33 (pc' := 34) rfl ?_
    refine k_iconst C (v := 5) dX1_restore_34 (by decide) (pc' := 35) rfl ?_
    refine k_iremK C dX1_restore_35 (by decide) (pc' := 36) rfl ?_
    refine k_aald C 5 (c2 Γ M2 7 2 (e_states Γ (M2 7 2))) (v_7 (by decide)) rfl (b := Γ.1 (2 + (irm ((M2 7 1 1) + (M2 7 1 2)) 5).toNatClampNeg) 0) rfl dX1_restore_36 (pc' := 37) rfl (fun h3 => ?_)
    refine k_callVv C (rest := []) (qX3_copyFrom l Γ hL M2 i1 ((2 + (irm ((M2 7 1 1) + (M2 7 1 2)) 5).toNatClampNeg)) hi1 (i_state h3)) mwX3_copyFrom iwX3_copyFrom mlX1_25 (k_rm_of (by decide) (by decide)) (c2 Γ M2 i1 0 (e_mill Γ hi1 (M2 i1 0))) (v_i hi1 (by decide)) rfl rfl rfl (Nat.le_of_ble_eq_true rfl) dX1_restore_37 (pc' := 40) rfl (fun r4 M5 => ?_)
    refine k_aload_n C 0 dX1_restore_40 rfl rfl (pc' := 41) rfl ?_
    refine k_getf C 2 (c2 Γ M5 7 1 (e_hist Γ (M5 7 1))) (v_7 (by decide)) flX1_22 (v := .int (M5 7 1 2)) rfl dX1_restore_41 (pc' := 44) rfl ?_
    exact k_reti C rfl hr dX1_restore_44
  · refine k_ldc C (v := (-1000002)) dX1_restore_7 cnX1_29 (pc' := 9) rfl ?_
    exact k_reti C rfl hr dX1_restore_9
def fX6_set (M0 : kM2) (a1 : Int32) (a2 : Int32) : Option (Int32 × kM2) :=
  bd (fX1_hold M0 0) fun r1 M2 => bd (k_on M2 0 (fX3_changeSetting (M2 0) a1 a2)) fun r3 M4 => bd (k_on M4 7 (fX1_keepIfDone (M4 7) r3)) fun r5 M6 => some (r5, M6)
set_option maxRecDepth 100000 in
set_option maxHeartbeats 4000000 in
theorem qX6_set (l : Launch) (Γ : kG) (hL : k_Lay Γ 314) (M0 : kM2) (a1 : Int32) (a2 : Int32) : CT l Γ (K2 Γ) yX6_set cX6_set 3 (some .int) (k_R 4) [.ref (Γ.1 7 0), .int a1, .int a2] M0 (fX6_set M0 a1 a2) := by
  refine k_meth (own := RX6) (by decide) rfl (Nat.le_of_ble_eq_true rfl) (fun p e R s mid args below meth c C hr => ?_)
  show Sm Γ (K2 Γ) p l e R s mid args below meth c 3 (jM true Γ (K2 Γ) below args s) M0 [(0, .ref (Γ.1 7 0)), (1, .int a1), (2, .int a2)] [] 0 (fX6_set M0 a1 a2)
  unfold fX6_set
  refine k_aload_n C 0 dX6_set_0 rfl rfl (pc' := 1) rfl ?_
  refine k_getf C 2 (c2 Γ M0 7 0 (e_sea Γ (M0 7 0))) (v_7 (by decide)) flX6_22 (v := .ref (Γ.1 7 1)) rfl dX6_set_1 (pc' := 4) rfl ?_
  refine k_aload_n C 0 dX6_set_4 rfl rfl (pc' := 5) rfl ?_
  refine k_getf C 0 (c2 Γ M0 7 0 (e_sea Γ (M0 7 0))) (v_7 (by decide)) flX6_10 (v := .ref (Γ.1 0 0)) rfl dX6_set_5 (pc' := 8) rfl ?_
  refine k_callVv C (rest := []) (qX1_hold l Γ hL M0 0 (by decide)) mwX1_hold iwX1_hold mlX6_33 (k_rm_of (by decide) (by decide)) (c2 Γ M0 7 1 (e_hist Γ (M0 7 1))) (v_7 (by decide)) rfl rfl rfl (Nat.le_of_ble_eq_true rfl) dX6_set_8 (pc' := 11) rfl (fun r1 M2 => ?_)
  refine k_aload_n C 0 dX6_set_11 rfl rfl (pc' := 12) rfl ?_
  refine k_getf C 2 (c2 Γ M2 7 0 (e_sea Γ (M2 7 0))) (v_7 (by decide)) flX6_22 (v := .ref (Γ.1 7 1)) rfl dX6_set_12 (pc' := 15) rfl ?_
  refine k_aload_n C 0 dX6_set_15 rfl rfl (pc' := 16) rfl ?_
  refine k_getf C 0 (c2 Γ M2 7 0 (e_sea Γ (M2 7 0))) (v_7 (by decide)) flX6_10 (v := .ref (Γ.1 0 0)) rfl dX6_set_16 (pc' := 19) rfl ?_
  refine k_iload_n C 1 dX6_set_19 rfl rfl (pc' := 20) rfl ?_
  refine k_iload_n C 2 dX6_set_20 rfl rfl (pc' := 21) rfl ?_
  refine k_callVi C (rest := [.ref (Γ.1 7 1)]) (CT.lift2 (qX3_changeSetting l Γ hL M2 0 (by decide) (M2 0) a1 a2)) mwX3_changeSetting iwX3_changeSetting mlX6_37 (k_rm_of (by decide) (by decide)) (c2 Γ M2 0 0 (e_mill Γ (by decide) (M2 0 0))) (v_i (by decide) (by decide)) rfl rfl rfl (Nat.le_of_ble_eq_true rfl) dX6_set_21 (pc' := 24) rfl (fun r3 M4 => ?_)
  refine k_callVi C (rest := []) (CT.lift2 (qX1_keepIfDone l Γ hL M4 (M4 7) r3)) mwX1_keepIfDone iwX1_keepIfDone mlX6_41 (k_rm_of (by decide) (by decide)) (c2 Γ M4 7 1 (e_hist Γ (M4 7 1))) (v_7 (by decide)) rfl rfl rfl (Nat.le_of_ble_eq_true rfl) dX6_set_24 (pc' := 27) rfl (fun r5 M6 => ?_)
  exact k_reti C rfl hr dX6_set_27
def fX6_lock (M0 : kM2) (a1 : Int32) : Option (Int32 × kM2) :=
  bd (fX1_hold M0 0) fun r1 M2 => bd (k_on M2 0 (fX3_changeLock (M2 0) a1)) fun r3 M4 => bd (k_on M4 7 (fX1_keepIfDone (M4 7) r3)) fun r5 M6 => some (r5, M6)
set_option maxRecDepth 100000 in
set_option maxHeartbeats 4000000 in
theorem qX6_lock (l : Launch) (Γ : kG) (hL : k_Lay Γ 314) (M0 : kM2) (a1 : Int32) : CT l Γ (K2 Γ) yX6_lock cX6_lock 2 (some .int) (k_R 4) [.ref (Γ.1 7 0), .int a1] M0 (fX6_lock M0 a1) := by
  refine k_meth (own := RX6) (by decide) rfl (Nat.le_of_ble_eq_true rfl) (fun p e R s mid args below meth c C hr => ?_)
  show Sm Γ (K2 Γ) p l e R s mid args below meth c 2 (jM true Γ (K2 Γ) below args s) M0 [(0, .ref (Γ.1 7 0)), (1, .int a1)] [] 0 (fX6_lock M0 a1)
  unfold fX6_lock
  refine k_aload_n C 0 dX6_lock_0 rfl rfl (pc' := 1) rfl ?_
  refine k_getf C 2 (c2 Γ M0 7 0 (e_sea Γ (M0 7 0))) (v_7 (by decide)) flX6_22 (v := .ref (Γ.1 7 1)) rfl dX6_lock_1 (pc' := 4) rfl ?_
  refine k_aload_n C 0 dX6_lock_4 rfl rfl (pc' := 5) rfl ?_
  refine k_getf C 0 (c2 Γ M0 7 0 (e_sea Γ (M0 7 0))) (v_7 (by decide)) flX6_10 (v := .ref (Γ.1 0 0)) rfl dX6_lock_5 (pc' := 8) rfl ?_
  refine k_callVv C (rest := []) (qX1_hold l Γ hL M0 0 (by decide)) mwX1_hold iwX1_hold mlX6_33 (k_rm_of (by decide) (by decide)) (c2 Γ M0 7 1 (e_hist Γ (M0 7 1))) (v_7 (by decide)) rfl rfl rfl (Nat.le_of_ble_eq_true rfl) dX6_lock_8 (pc' := 11) rfl (fun r1 M2 => ?_)
  refine k_aload_n C 0 dX6_lock_11 rfl rfl (pc' := 12) rfl ?_
  refine k_getf C 2 (c2 Γ M2 7 0 (e_sea Γ (M2 7 0))) (v_7 (by decide)) flX6_22 (v := .ref (Γ.1 7 1)) rfl dX6_lock_12 (pc' := 15) rfl ?_
  refine k_aload_n C 0 dX6_lock_15 rfl rfl (pc' := 16) rfl ?_
  refine k_getf C 0 (c2 Γ M2 7 0 (e_sea Γ (M2 7 0))) (v_7 (by decide)) flX6_10 (v := .ref (Γ.1 0 0)) rfl dX6_lock_16 (pc' := 19) rfl ?_
  refine k_iload_n C 1 dX6_lock_19 rfl rfl (pc' := 20) rfl ?_
  refine k_callVi C (rest := [.ref (Γ.1 7 1)]) (CT.lift2 (qX3_changeLock l Γ hL M2 0 (by decide) (M2 0) a1)) mwX3_changeLock iwX3_changeLock mlX6_48 (k_rm_of (by decide) (by decide)) (c2 Γ M2 0 0 (e_mill Γ (by decide) (M2 0 0))) (v_i (by decide) (by decide)) rfl rfl rfl (Nat.le_of_ble_eq_true rfl) dX6_lock_20 (pc' := 23) rfl (fun r3 M4 => ?_)
  refine k_callVi C (rest := []) (CT.lift2 (qX1_keepIfDone l Γ hL M4 (M4 7) r3)) mwX1_keepIfDone iwX1_keepIfDone mlX6_41 (k_rm_of (by decide) (by decide)) (c2 Γ M4 7 1 (e_hist Γ (M4 7 1))) (v_7 (by decide)) rfl rfl rfl (Nat.le_of_ble_eq_true rfl) dX6_lock_23 (pc' := 26) rfl (fun r5 M6 => ?_)
  exact k_reti C rfl hr dX6_lock_26
def fX6_gate (M0 : kM2) (a1 : Int32) : Option (Int32 × kM2) :=
  bd (fX1_hold M0 0) fun r1 M2 => bd (k_on M2 0 (fX3_changeOpening (M2 0) a1)) fun r3 M4 => bd (k_on M4 7 (fX1_keepIfDone (M4 7) r3)) fun r5 M6 => some (r5, M6)
set_option maxRecDepth 100000 in
set_option maxHeartbeats 4000000 in
theorem qX6_gate (l : Launch) (Γ : kG) (hL : k_Lay Γ 314) (M0 : kM2) (a1 : Int32) : CT l Γ (K2 Γ) yX6_gate cX6_gate 2 (some .int) (k_R 4) [.ref (Γ.1 7 0), .int a1] M0 (fX6_gate M0 a1) := by
  refine k_meth (own := RX6) (by decide) rfl (Nat.le_of_ble_eq_true rfl) (fun p e R s mid args below meth c C hr => ?_)
  show Sm Γ (K2 Γ) p l e R s mid args below meth c 2 (jM true Γ (K2 Γ) below args s) M0 [(0, .ref (Γ.1 7 0)), (1, .int a1)] [] 0 (fX6_gate M0 a1)
  unfold fX6_gate
  refine k_aload_n C 0 dX6_gate_0 rfl rfl (pc' := 1) rfl ?_
  refine k_getf C 2 (c2 Γ M0 7 0 (e_sea Γ (M0 7 0))) (v_7 (by decide)) flX6_22 (v := .ref (Γ.1 7 1)) rfl dX6_gate_1 (pc' := 4) rfl ?_
  refine k_aload_n C 0 dX6_gate_4 rfl rfl (pc' := 5) rfl ?_
  refine k_getf C 0 (c2 Γ M0 7 0 (e_sea Γ (M0 7 0))) (v_7 (by decide)) flX6_10 (v := .ref (Γ.1 0 0)) rfl dX6_gate_5 (pc' := 8) rfl ?_
  refine k_callVv C (rest := []) (qX1_hold l Γ hL M0 0 (by decide)) mwX1_hold iwX1_hold mlX6_33 (k_rm_of (by decide) (by decide)) (c2 Γ M0 7 1 (e_hist Γ (M0 7 1))) (v_7 (by decide)) rfl rfl rfl (Nat.le_of_ble_eq_true rfl) dX6_gate_8 (pc' := 11) rfl (fun r1 M2 => ?_)
  refine k_aload_n C 0 dX6_gate_11 rfl rfl (pc' := 12) rfl ?_
  refine k_getf C 2 (c2 Γ M2 7 0 (e_sea Γ (M2 7 0))) (v_7 (by decide)) flX6_22 (v := .ref (Γ.1 7 1)) rfl dX6_gate_12 (pc' := 15) rfl ?_
  refine k_aload_n C 0 dX6_gate_15 rfl rfl (pc' := 16) rfl ?_
  refine k_getf C 0 (c2 Γ M2 7 0 (e_sea Γ (M2 7 0))) (v_7 (by decide)) flX6_10 (v := .ref (Γ.1 0 0)) rfl dX6_gate_16 (pc' := 19) rfl ?_
  refine k_iload_n C 1 dX6_gate_19 rfl rfl (pc' := 20) rfl ?_
  refine k_callVi C (rest := [.ref (Γ.1 7 1)]) (CT.lift2 (qX3_changeOpening l Γ hL M2 0 (by decide) (M2 0) a1)) mwX3_changeOpening iwX3_changeOpening mlX6_51 (k_rm_of (by decide) (by decide)) (c2 Γ M2 0 0 (e_mill Γ (by decide) (M2 0 0))) (v_i (by decide) (by decide)) rfl rfl rfl (Nat.le_of_ble_eq_true rfl) dX6_gate_20 (pc' := 23) rfl (fun r3 M4 => ?_)
  refine k_callVi C (rest := []) (CT.lift2 (qX1_keepIfDone l Γ hL M4 (M4 7) r3)) mwX1_keepIfDone iwX1_keepIfDone mlX6_41 (k_rm_of (by decide) (by decide)) (c2 Γ M4 7 1 (e_hist Γ (M4 7 1))) (v_7 (by decide)) rfl rfl rfl (Nat.le_of_ble_eq_true rfl) dX6_gate_23 (pc' := 26) rfl (fun r5 M6 => ?_)
  exact k_reti C rfl hr dX6_gate_26
