def fX3_changeLock (m0 : kM1) (a1 : Int32) : Option (Int32 × kM1) :=
  bd (fX6_within m0 a1 0 1) fun r1 m2 => if r1 = 0 then some ((-1000001), m2) else k_let (m2 0 10) fun v4 => k_let (mu m2 0 10 a1) fun m5 => some (v4, m5)
set_option maxRecDepth 100000 in
set_option maxHeartbeats 4000000 in
theorem qX3_changeLock (l : Launch) (Γ : kG) (hL : k_Lay Γ 314) (M : kM2) (i : Nat) (hi : i < 7) (m0 : kM1) (a1 : Int32) : CT l Γ (K1 Γ M i) yX3_changeLock cX3_changeLock 3 (some .int) (k_R 1) [.ref (Γ.1 i 0), .int a1] m0 (fX3_changeLock m0 a1) := by
  refine k_meth (own := RX3) (by decide) rfl (Nat.le_of_ble_eq_true rfl) (fun p e R s mid args below meth c C hr => ?_)
  show Sm Γ (K1 Γ M i) p l e R s mid args below meth c 3 (jM true Γ (K1 Γ M i) below args s) m0 [(0, .ref (Γ.1 i 0)), (1, .int a1)] [] 0 (fX3_changeLock m0 a1)
  unfold fX3_changeLock
  refine k_iload_n C 1 dX3_changeLock_0 rfl rfl (pc' := 1) rfl ?_
  refine k_iconst C (v := 0) dX3_changeLock_1 (by decide) (pc' := 2) rfl ?_
  refine k_iconst C (v := 1) dX3_changeLock_2 (by decide) (pc' := 3) rfl ?_
  refine k_callSNi C (rest := []) (qX6_within l Γ (K1 Γ M i) m0 a1 0 1) mwX6_within swX6_within (fun h => h.1) (k_rm_of (by decide) (by decide)) rfl rfl (Nat.le_of_ble_eq_true rfl) dX3_changeLock_3 (pc' := 6) rfl (fun r1 m2 => ?_)
  refine k_if_ne C (tgt := 12) dX3_changeLock_6 (by decide) (pc' := 9) rfl (fun h3 => ?_) (fun h3 => ?_)
  · refine k_aload_n C 0 dX3_changeLock_12 rfl rfl (pc' := 13) rfl ?_
    refine k_getf C 10 (c1 Γ M i m2 0 (e_mill Γ hi (m2 0))) (v_i hi (by decide)) flX3_73 (v := .int (m2 0 10)) rfl dX3_changeLock_13 (pc' := 16) rfl ?_
    refine k_topi (fun v4 => ?_)
    refine k_istore_n C (lv' := [(2, .int v4), (0, .ref (Γ.1 i 0)), (1, .int a1)]) dX3_changeLock_16 rfl (by decide) rfl (pc' := 17) rfl ?_
    refine k_aload_n C 1 dX3_changeLock_17 rfl rfl (pc' := 18) rfl ?_
    refine k_iload_n C 2 dX3_changeLock_18 rfl rfl (pc' := 19) rfl ?_
    refine k_putf C (hL.k1 M i) 10 (c1 Γ M i m2 0 (e_mill Γ hi (m2 0))) (v_i hi (by decide)) flX3_73 fpX3_10 (Nat.le_of_ble_eq_true rfl) (s1 Γ M i m2 0 10 a1 ((e_mill Γ hi _).trans (congrArg (fun z => Sum.inr (3, z)) (f_mill Γ i (m2 0) a1 10 (by decide))))) dX3_changeLock_19 (pc' := 22) rfl (fun m5 => ?_)
    refine k_iload_n C 0 dX3_changeLock_22 rfl rfl (pc' := 23) rfl ?_
    exact k_reti C rfl hr dX3_changeLock_23
  · refine k_ldc C (v := (-1000001)) dX3_changeLock_9 cnX3_120 (pc' := 11) rfl ?_
    exact k_reti C rfl hr dX3_changeLock_11
def fX3_changeOpening (m0 : kM1) (a1 : Int32) : Option (Int32 × kM1) :=
  bd (fX6_within m0 a1 0 3) fun r1 m2 => if r1 = 0 then some ((-1000001), m2) else k_let (m2 0 11) fun v4 => k_let (mu m2 0 11 a1) fun m5 => some (v4, m5)
set_option maxRecDepth 100000 in
set_option maxHeartbeats 4000000 in
theorem qX3_changeOpening (l : Launch) (Γ : kG) (hL : k_Lay Γ 314) (M : kM2) (i : Nat) (hi : i < 7) (m0 : kM1) (a1 : Int32) : CT l Γ (K1 Γ M i) yX3_changeOpening cX3_changeOpening 3 (some .int) (k_R 1) [.ref (Γ.1 i 0), .int a1] m0 (fX3_changeOpening m0 a1) := by
  refine k_meth (own := RX3) (by decide) rfl (Nat.le_of_ble_eq_true rfl) (fun p e R s mid args below meth c C hr => ?_)
  show Sm Γ (K1 Γ M i) p l e R s mid args below meth c 3 (jM true Γ (K1 Γ M i) below args s) m0 [(0, .ref (Γ.1 i 0)), (1, .int a1)] [] 0 (fX3_changeOpening m0 a1)
  unfold fX3_changeOpening
  refine k_iload_n C 1 dX3_changeOpening_0 rfl rfl (pc' := 1) rfl ?_
  refine k_iconst C (v := 0) dX3_changeOpening_1 (by decide) (pc' := 2) rfl ?_
  refine k_iconst C (v := 3) dX3_changeOpening_2 (by decide) (pc' := 3) rfl ?_
  refine k_callSNi C (rest := []) (qX6_within l Γ (K1 Γ M i) m0 a1 0 3) mwX6_within swX6_within (fun h => h.1) (k_rm_of (by decide) (by decide)) rfl rfl (Nat.le_of_ble_eq_true rfl) dX3_changeOpening_3 (pc' := 6) rfl (fun r1 m2 => ?_)
  refine k_if_ne C (tgt := 12) dX3_changeOpening_6 (by decide) (pc' := 9) rfl (fun h3 => ?_) (fun h3 => ?_)
  · refine k_aload_n C 0 dX3_changeOpening_12 rfl rfl (pc' := 13) rfl ?_
    refine k_getf C 11 (c1 Γ M i m2 0 (e_mill Γ hi (m2 0))) (v_i hi (by decide)) flX3_76 (v := .int (m2 0 11)) rfl dX3_changeOpening_13 (pc' := 16) rfl ?_
    refine k_topi (fun v4 => ?_)
    refine k_istore_n C (lv' := [(2, .int v4), (0, .ref (Γ.1 i 0)), (1, .int a1)]) dX3_changeOpening_16 rfl (by decide) rfl (pc' := 17) rfl ?_
    refine k_aload_n C 1 dX3_changeOpening_17 rfl rfl (pc' := 18) rfl ?_
    refine k_iload_n C 2 dX3_changeOpening_18 rfl rfl (pc' := 19) rfl ?_
    refine k_putf C (hL.k1 M i) 11 (c1 Γ M i m2 0 (e_mill Γ hi (m2 0))) (v_i hi (by decide)) flX3_76 fpX3_11 (Nat.le_of_ble_eq_true rfl) (s1 Γ M i m2 0 11 a1 ((e_mill Γ hi _).trans (congrArg (fun z => Sum.inr (3, z)) (f_mill Γ i (m2 0) a1 11 (by decide))))) dX3_changeOpening_19 (pc' := 22) rfl (fun m5 => ?_)
    refine k_iload_n C 0 dX3_changeOpening_22 rfl rfl (pc' := 23) rfl ?_
    exact k_reti C rfl hr dX3_changeOpening_23
  · refine k_ldc C (v := (-1000001)) dX3_changeOpening_9 cnX3_120 (pc' := 11) rfl ?_
    exact k_reti C rfl hr dX3_changeOpening_11
def fX3_addKind (m0 : kM1) (a1 : Int32) (a2 : Int32) (a3 : Int32) : Option (Int32 × kM1) :=
  bd (fX6_within m0 a1 1 9) fun r1 m2 => if r1 = 0 then some ((-1000001), m2) else bd (fX6_within m2 a2 0 20) fun r4 m5 => if r4 = 0 then some ((-1000001), m5) else bd (fX6_within m5 a3 1 1000000) fun r7 m8 => if r7 = 0 then some ((-1000001), m8) else if (m8 0 5) < 6 then if ¬ (m8 0 5) < 0 ∧ (m8 0 5).toNatClampNeg < 6 then k_let (mu m8 (6 + (m8 0 5).toNatClampNeg) 0 a1) fun m12 => k_let (mu m12 (6 + (m8 0 5).toNatClampNeg) 1 a2) fun m13 => k_let (mu m13 (6 + (m8 0 5).toNatClampNeg) 2 a3) fun m14 => k_let (mu m14 0 5 ((m14 0 5) + 1)) fun m15 => some ((m15 0 5) - 1, m15) else none else some ((-1000003), m8)
set_option maxRecDepth 100000 in
set_option maxHeartbeats 4000000 in
theorem qX3_addKind (l : Launch) (Γ : kG) (hL : k_Lay Γ 314) (M : kM2) (i : Nat) (hi : i < 7) (m0 : kM1) (a1 : Int32) (a2 : Int32) (a3 : Int32) : CT l Γ (K1 Γ M i) yX3_addKind cX3_addKind 5 (some .int) (k_R 1) [.ref (Γ.1 i 0), .int a1, .int a2, .int a3] m0 (fX3_addKind m0 a1 a2 a3) := by
  refine k_meth (own := RX3) (by decide) rfl (Nat.le_of_ble_eq_true rfl) (fun p e R s mid args below meth c C hr => ?_)
  show Sm Γ (K1 Γ M i) p l e R s mid args below meth c 5 (jM true Γ (K1 Γ M i) below args s) m0 [(0, .ref (Γ.1 i 0)), (1, .int a1), (2, .int a2), (3, .int a3)] [] 0 (fX3_addKind m0 a1 a2 a3)
  unfold fX3_addKind
  refine k_iload_n C 1 dX3_addKind_0 rfl rfl (pc' := 1) rfl ?_
  refine k_iconst C (v := 1) dX3_addKind_1 (by decide) (pc' := 2) rfl ?_
  refine k_bipush C (v := 9) dX3_addKind_2 (by decide) (pc' := 4) rfl ?_
  refine k_callSNi C (rest := []) (qX6_within l Γ (K1 Γ M i) m0 a1 1 9) mwX6_within swX6_within (fun h => h.1) (k_rm_of (by decide) (by decide)) rfl rfl (Nat.le_of_ble_eq_true rfl) dX3_addKind_4 (pc' := 7) rfl (fun r1 m2 => ?_)
  refine k_if_eq C (tgt := 30) dX3_addKind_7 (by decide) (pc' := 10) rfl (fun h3 => ?_) (fun h3 => ?_)
  · refine k_ldc C (v := (-1000001)) dX3_addKind_30 cnX3_120 (pc' := 32) rfl ?_
    exact k_reti C rfl hr dX3_addKind_32
  · refine k_iload_n C 2 dX3_addKind_10 rfl rfl (pc' := 11) rfl ?_
    refine k_iconst C (v := 0) dX3_addKind_11 (by decide) (pc' := 12) rfl ?_
    refine k_bipush C (v := 20) dX3_addKind_12 (by decide) (pc' := 14) rfl ?_
    refine k_callSNi C (rest := []) (qX6_within l Γ (K1 Γ M i) m2 a2 0 20) mwX6_within swX6_within (fun h => h.1) (k_rm_of (by decide) (by decide)) rfl rfl (Nat.le_of_ble_eq_true rfl) dX3_addKind_14 (pc' := 17) rfl (fun r4 m5 => ?_)
    refine k_if_eq C (tgt := 30) dX3_addKind_17 (by decide) (pc' := 20) rfl (fun h6 => ?_) (fun h6 => ?_)
    · refine k_ldc C (v := (-1000001)) dX3_addKind_30 cnX3_120 (pc' := 32) rfl ?_
      exact k_reti C rfl hr dX3_addKind_32
    · refine k_iload_n C 3 dX3_addKind_20 rfl rfl (pc' := 21) rfl ?_
      refine k_iconst C (v := 1) dX3_addKind_21 (by decide) (pc' := 22) rfl ?_
      refine k_ldc C (v := 1000000) dX3_addKind_22 cnX3_121 (pc' := 24) rfl ?_
      refine k_callSNi C (rest := []) (qX6_within l Γ (K1 Γ M i) m5 a3 1 1000000) mwX6_within swX6_within (fun h => h.1) (k_rm_of (by decide) (by decide)) rfl rfl (Nat.le_of_ble_eq_true rfl) dX3_addKind_24 (pc' := 27) rfl (fun r7 m8 => ?_)
      refine k_if_ne C (tgt := 33) dX3_addKind_27 (by decide) (pc' := 30) rfl (fun h9 => ?_) (fun h9 => ?_)
      · refine k_aload_n C 0 dX3_addKind_33 rfl rfl (pc' := 34) rfl ?_
        refine k_getf C 5 (c1 Γ M i m8 0 (e_mill Γ hi (m8 0))) (v_i hi (by decide)) flX3_91 (v := .int (m8 0 5)) rfl dX3_addKind_34 (pc' := 37) rfl ?_
        refine k_bipush C (v := 6) dX3_addKind_37 (by decide) (pc' := 39) rfl ?_
        refine k_ic_lt C (tgt := 45) dX3_addKind_39 (by decide) (pc' := 42) rfl (fun h10 => ?_) (fun h10 => ?_)
        · refine k_aload_n C 0 dX3_addKind_45 rfl rfl (pc' := 46) rfl ?_
          refine k_getf C 2 (c1 Γ M i m8 0 (e_mill Γ hi (m8 0))) (v_i hi (by decide)) flX3_31 (v := .ref (Γ.1 i 3)) rfl dX3_addKind_46 (pc' := 49) rfl ?_
          refine k_aload_n C 0 dX3_addKind_49 rfl rfl (pc' := 50) rfl ?_
          refine k_getf C 5 (c1 Γ M i m8 0 (e_mill Γ hi (m8 0))) (v_i hi (by decide)) flX3_91 (v := .int (m8 0 5)) rfl dX3_addKind_50 (pc' := 53) rfl ?_
          refine k_aald C 2 (c1 Γ M i m8 3 (e_kinds Γ hi (m8 3))) (v_i hi (by decide)) rfl (b := Γ.1 i (6 + (m8 0 5).toNatClampNeg)) rfl dX3_addKind_53 (pc' := 54) rfl (fun h11 => ?_)
          refine k_astore C (lv' := [(4, .ref (Γ.1 i (6 + (m8 0 5).toNatClampNeg))), (0, .ref (Γ.1 i 0)), (1, .int a1), (2, .int a2), (3, .int a3)]) dX3_addKind_54 (by decide) rfl (pc' := 56) rfl ?_
          refine k_aload C 0 dX3_addKind_56 rfl (pc' := 58) rfl ?_
          refine k_iload_n C 2 dX3_addKind_58 rfl rfl (pc' := 59) rfl ?_
          refine k_putf C (hL.k1 M i) 0 (c1 Γ M i m8 (6 + (m8 0 5).toNatClampNeg) (e_kind Γ hi (j_kind h11) (m8 (6 + (m8 0 5).toNatClampNeg)))) (v_i hi (h_kind (j_kind h11))) flX3_123 fpX2_0 (Nat.le_of_ble_eq_true rfl) (s1 Γ M i m8 (6 + (m8 0 5).toNatClampNeg) 0 a1 ((e_kind Γ hi (j_kind h11) _).trans (congrArg (fun z => Sum.inr (2, z)) (f_kind (m8 (6 + (m8 0 5).toNatClampNeg)) a1 0 (by decide))))) dX3_addKind_59 (pc' := 62) rfl (fun m12 => ?_)
          refine k_aload C 0 dX3_addKind_62 rfl (pc' := 64) rfl ?_
          refine k_iload_n C 3 dX3_addKind_64 rfl rfl (pc' := 65) rfl ?_
          refine k_putf C (hL.k1 M i) 1 (c1 Γ M i m12 (6 + (m8 0 5).toNatClampNeg) (e_kind Γ hi (j_kind h11) (m12 (6 + (m8 0 5).toNatClampNeg)))) (v_i hi (h_kind (j_kind h11))) flX3_126 fpX2_1 (Nat.le_of_ble_eq_true rfl) (s1 Γ M i m12 (6 + (m8 0 5).toNatClampNeg) 1 a2 ((e_kind Γ hi (j_kind h11) _).trans (congrArg (fun z => Sum.inr (2, z)) (f_kind (m12 (6 + (m8 0 5).toNatClampNeg)) a2 1 (by decide))))) dX3_addKind_65 (pc' := 68) rfl (fun m13 => ?_)
          refine k_aload C 0 dX3_addKind_68 rfl (pc' := 70) rfl ?_
          refine k_iload_n C 4 dX3_addKind_70 rfl rfl (pc' := 71) rfl ?_
          refine k_putf C (hL.k1 M i) 2 (c1 Γ M i m13 (6 + (m8 0 5).toNatClampNeg) (e_kind Γ hi (j_kind h11) (m13 (6 + (m8 0 5).toNatClampNeg)))) (v_i hi (h_kind (j_kind h11))) flX3_129 fpX2_2 (Nat.le_of_ble_eq_true rfl) (s1 Γ M i m13 (6 + (m8 0 5).toNatClampNeg) 2 a3 ((e_kind Γ hi (j_kind h11) _).trans (congrArg (fun z => Sum.inr (2, z)) (f_kind (m13 (6 + (m8 0 5).toNatClampNeg)) a3 2 (by decide))))) dX3_addKind_71 (pc' := 74) rfl (fun m14 => ?_)
          refine k_aload_n C 1 dX3_addKind_74 rfl rfl (pc' := 75) rfl ?_
          refine k_dup C dX3_addKind_75 rfl (pc' := 76) rfl ?_
          refine k_getf C 5 (c1 Γ M i m14 0 (e_mill Γ hi (m14 0))) (v_i hi (by decide)) flX3_91 (v := .int (m14 0 5)) rfl dX3_addKind_76 (pc' := 79) rfl ?_
          refine k_iconst C (v := 1) dX3_addKind_79 (by decide) (pc' := 80) rfl ?_
          refine k_iadd C dX3_addKind_80 (pc' := 81) rfl ?_
          refine k_putf C (hL.k1 M i) 5 (c1 Γ M i m14 0 (e_mill Γ hi (m14 0))) (v_i hi (by decide)) flX3_91 fpX3_5 (Nat.le_of_ble_eq_true rfl) (s1 Γ M i m14 0 5 ((m14 0 5) + 1) ((e_mill Γ hi _).trans (congrArg (fun z => Sum.inr (3, z)) (f_mill Γ i (m14 0) ((m14 0 5) + 1) 5 (by decide))))) dX3_addKind_81 (pc' := 84) rfl (fun m15 => ?_)
          refine k_aload_n C 1 dX3_addKind_84 rfl rfl (pc' := 85) rfl ?_
          refine k_getf C 5 (c1 Γ M i m15 0 (e_mill Γ hi (m15 0))) (v_i hi (by decide)) flX3_91 (v := .int (m15 0 5)) rfl dX3_addKind_85 (pc' := 88) rfl ?_
          refine k_iconst C (v := 1) dX3_addKind_88 (by decide) (pc' := 89) rfl ?_
          refine k_isub C dX3_addKind_89 (pc' := 90) rfl ?_
          exact k_reti C rfl hr dX3_addKind_90
        · refine k_ldc C (v := (-1000003)) dX3_addKind_42 cnX3_122 (pc' := 44) rfl ?_
          exact k_reti C rfl hr dX3_addKind_44
      · refine k_ldc C (v := (-1000001)) dX3_addKind_30 cnX3_120 (pc' := 32) rfl ?_
        exact k_reti C rfl hr dX3_addKind_32
def fX3_addFarmer (m0 : kM1) : Option (Int32 × kM1) :=
  if (m0 0 6) < 8 then if ¬ (m0 0 6) < 0 ∧ (m0 0 6).toNatClampNeg < 8 then k_let (mu m0 (12 + (m0 0 6).toNatClampNeg) 0 0) fun m3 => k_let (mu m3 (12 + (m0 0 6).toNatClampNeg) 1 0) fun m4 => k_let (mu m4 0 6 ((m4 0 6) + 1)) fun m5 => some ((m5 0 6) - 1, m5) else none else some ((-1000003), m0)
set_option maxRecDepth 100000 in
set_option maxHeartbeats 4000000 in
theorem qX3_addFarmer (l : Launch) (Γ : kG) (hL : k_Lay Γ 314) (M : kM2) (i : Nat) (hi : i < 7) (m0 : kM1) : CT l Γ (K1 Γ M i) yX3_addFarmer cX3_addFarmer 2 (some .int) (k_R 0) [.ref (Γ.1 i 0)] m0 (fX3_addFarmer m0 ) := by
  refine k_meth (own := RX3) (by decide) rfl (Nat.le_of_ble_eq_true rfl) (fun p e R s mid args below meth c C hr => ?_)
  show Sm Γ (K1 Γ M i) p l e R s mid args below meth c 2 (jM true Γ (K1 Γ M i) below args s) m0 [(0, .ref (Γ.1 i 0))] [] 0 (fX3_addFarmer m0 )
  unfold fX3_addFarmer
  refine k_aload_n C 0 dX3_addFarmer_0 rfl rfl (pc' := 1) rfl ?_
  refine k_getf C 6 (c1 Γ M i m0 0 (e_mill Γ hi (m0 0))) (v_i hi (by decide)) flX3_94 (v := .int (m0 0 6)) rfl dX3_addFarmer_1 (pc' := 4) rfl ?_
  refine k_bipush C (v := 8) dX3_addFarmer_4 (by decide) (pc' := 6) rfl ?_
  refine k_ic_lt C (tgt := 12) dX3_addFarmer_6 (by decide) (pc' := 9) rfl (fun h1 => ?_) (fun h1 => ?_)
  · refine k_aload_n C 0 dX3_addFarmer_12 rfl rfl (pc' := 13) rfl ?_
    refine k_getf C 3 (c1 Γ M i m0 0 (e_mill Γ hi (m0 0))) (v_i hi (by decide)) flX3_37 (v := .ref (Γ.1 i 4)) rfl dX3_addFarmer_13 (pc' := 16) rfl ?_
    refine k_aload_n C 0 dX3_addFarmer_16 rfl rfl (pc' := 17) rfl ?_
    refine k_getf C 6 (c1 Γ M i m0 0 (e_mill Γ hi (m0 0))) (v_i hi (by decide)) flX3_94 (v := .int (m0 0 6)) rfl dX3_addFarmer_17 (pc' := 20) rfl ?_
    refine k_aald C 3 (c1 Γ M i m0 4 (e_farmers Γ hi (m0 4))) (v_i hi (by decide)) rfl (b := Γ.1 i (12 + (m0 0 6).toNatClampNeg)) rfl dX3_addFarmer_20 (pc' := 21) rfl (fun h2 => ?_)
    refine k_astore_n C (lv' := [(1, .ref (Γ.1 i (12 + (m0 0 6).toNatClampNeg))), (0, .ref (Γ.1 i 0))]) dX3_addFarmer_21 rfl (by decide) rfl (pc' := 22) rfl ?_
    refine k_aload_n C 0 dX3_addFarmer_22 rfl rfl (pc' := 23) rfl ?_
    refine k_iconst C (v := 0) dX3_addFarmer_23 (by decide) (pc' := 24) rfl ?_
    refine k_putf C (hL.k1 M i) 0 (c1 Γ M i m0 (12 + (m0 0 6).toNatClampNeg) (e_farmer Γ hi (j_farmer h2) (m0 (12 + (m0 0 6).toNatClampNeg)))) (v_i hi (h_farmer (j_farmer h2))) flX3_132 fpX0_0 (Nat.le_of_ble_eq_true rfl) (s1 Γ M i m0 (12 + (m0 0 6).toNatClampNeg) 0 0 ((e_farmer Γ hi (j_farmer h2) _).trans (congrArg (fun z => Sum.inr (0, z)) (f_farmer (m0 (12 + (m0 0 6).toNatClampNeg)) 0 0 (by decide))))) dX3_addFarmer_24 (pc' := 27) rfl (fun m3 => ?_)
    refine k_aload_n C 0 dX3_addFarmer_27 rfl rfl (pc' := 28) rfl ?_
    refine k_iconst C (v := 0) dX3_addFarmer_28 (by decide) (pc' := 29) rfl ?_
    refine k_putf C (hL.k1 M i) 1 (c1 Γ M i m3 (12 + (m0 0 6).toNatClampNeg) (e_farmer Γ hi (j_farmer h2) (m3 (12 + (m0 0 6).toNatClampNeg)))) (v_i hi (h_farmer (j_farmer h2))) flX3_135 fpX0_1 (Nat.le_of_ble_eq_true rfl) (s1 Γ M i m3 (12 + (m0 0 6).toNatClampNeg) 1 0 ((e_farmer Γ hi (j_farmer h2) _).trans (congrArg (fun z => Sum.inr (0, z)) (f_farmer (m3 (12 + (m0 0 6).toNatClampNeg)) 0 1 (by decide))))) dX3_addFarmer_29 (pc' := 32) rfl (fun m4 => ?_)
    refine k_aload_n C 1 dX3_addFarmer_32 rfl rfl (pc' := 33) rfl ?_
    refine k_dup C dX3_addFarmer_33 rfl (pc' := 34) rfl ?_
    refine k_getf C 6 (c1 Γ M i m4 0 (e_mill Γ hi (m4 0))) (v_i hi (by decide)) flX3_94 (v := .int (m4 0 6)) rfl dX3_addFarmer_34 (pc' := 37) rfl ?_
    refine k_iconst C (v := 1) dX3_addFarmer_37 (by decide) (pc' := 38) rfl ?_
    refine k_iadd C dX3_addFarmer_38 (pc' := 39) rfl ?_
    refine k_putf C (hL.k1 M i) 6 (c1 Γ M i m4 0 (e_mill Γ hi (m4 0))) (v_i hi (by decide)) flX3_94 fpX3_6 (Nat.le_of_ble_eq_true rfl) (s1 Γ M i m4 0 6 ((m4 0 6) + 1) ((e_mill Γ hi _).trans (congrArg (fun z => Sum.inr (3, z)) (f_mill Γ i (m4 0) ((m4 0 6) + 1) 6 (by decide))))) dX3_addFarmer_39 (pc' := 42) rfl (fun m5 => ?_)
    refine k_aload_n C 1 dX3_addFarmer_42 rfl rfl (pc' := 43) rfl ?_
    refine k_getf C 6 (c1 Γ M i m5 0 (e_mill Γ hi (m5 0))) (v_i hi (by decide)) flX3_94 (v := .int (m5 0 6)) rfl dX3_addFarmer_43 (pc' := 46) rfl ?_
    refine k_iconst C (v := 1) dX3_addFarmer_46 (by decide) (pc' := 47) rfl ?_
    refine k_isub C dX3_addFarmer_47 (pc' := 48) rfl ?_
    exact k_reti C rfl hr dX3_addFarmer_48
  · refine k_ldc C (v := (-1000003)) dX3_addFarmer_9 cnX3_122 (pc' := 11) rfl ?_
    exact k_reti C rfl hr dX3_addFarmer_11
def fX3_addSack (m0 : kM1) (a1 : Int32) (a2 : Int32) (a3 : Int32) : Option (Int32 × kM1) :=
  bd (fX3_hasFarmer m0 a1) fun r1 m2 => if r1 = 0 then some ((-1000001), m2) else bd (fX3_hasKind m2 a2) fun r4 m5 => if r4 = 0 then some ((-1000001), m5) else bd (fX6_within m5 a3 1 200) fun r7 m8 => if r7 = 0 then some ((-1000001), m8) else if (m8 0 7) < 24 then if ¬ (m8 0 7) < 0 ∧ (m8 0 7).toNatClampNeg < 24 then if ¬ a2 < 0 ∧ a2.toNatClampNeg < 6 then bd (fX5_begin m8 ((20 + (m8 0 7).toNatClampNeg)) a1 a2 ((6 + a2.toNatClampNeg)) a3) fun r13 m14 => k_let (mu m14 0 7 ((m14 0 7) + 1)) fun m15 => some ((m15 0 7) - 1, m15) else none else none else some ((-1000003), m8)
set_option maxRecDepth 100000 in
set_option maxHeartbeats 4000000 in
theorem qX3_addSack (l : Launch) (Γ : kG) (hL : k_Lay Γ 314) (M : kM2) (i : Nat) (hi : i < 7) (m0 : kM1) (a1 : Int32) (a2 : Int32) (a3 : Int32) : CT l Γ (K1 Γ M i) yX3_addSack cX3_addSack 4 (some .int) (k_R 2) [.ref (Γ.1 i 0), .int a1, .int a2, .int a3] m0 (fX3_addSack m0 a1 a2 a3) := by
  refine k_meth (own := RX3) (by decide) rfl (Nat.le_of_ble_eq_true rfl) (fun p e R s mid args below meth c C hr => ?_)
  show Sm Γ (K1 Γ M i) p l e R s mid args below meth c 4 (jM true Γ (K1 Γ M i) below args s) m0 [(0, .ref (Γ.1 i 0)), (1, .int a1), (2, .int a2), (3, .int a3)] [] 0 (fX3_addSack m0 a1 a2 a3)
  unfold fX3_addSack
  refine k_aload_n C 0 dX3_addSack_0 rfl rfl (pc' := 1) rfl ?_
  refine k_iload_n C 1 dX3_addSack_1 rfl rfl (pc' := 2) rfl ?_
  refine k_callVi C (rest := []) (qX3_hasFarmer l Γ hL M i hi m0 a1) mwX3_hasFarmer iwX3_hasFarmer mlX3_138 (k_rm_of (by decide) (by decide)) (c1 Γ M i m0 0 (e_mill Γ hi (m0 0))) (v_i hi (by decide)) rfl rfl rfl (Nat.le_of_ble_eq_true rfl) dX3_addSack_2 (pc' := 5) rfl (fun r1 m2 => ?_)
  refine k_if_eq C (tgt := 27) dX3_addSack_5 (by decide) (pc' := 8) rfl (fun h3 => ?_) (fun h3 => ?_)
  · refine k_ldc C (v := (-1000001)) dX3_addSack_27 cnX3_120 (pc' := 29) rfl ?_
    exact k_reti C rfl hr dX3_addSack_29
  · refine k_aload_n C 0 dX3_addSack_8 rfl rfl (pc' := 9) rfl ?_
    refine k_iload_n C 2 dX3_addSack_9 rfl rfl (pc' := 10) rfl ?_
    refine k_callVi C (rest := []) (qX3_hasKind l Γ hL M i hi m2 a2) mwX3_hasKind iwX3_hasKind mlX3_142 (k_rm_of (by decide) (by decide)) (c1 Γ M i m2 0 (e_mill Γ hi (m2 0))) (v_i hi (by decide)) rfl rfl rfl (Nat.le_of_ble_eq_true rfl) dX3_addSack_10 (pc' := 13) rfl (fun r4 m5 => ?_)
    refine k_if_eq C (tgt := 27) dX3_addSack_13 (by decide) (pc' := 16) rfl (fun h6 => ?_) (fun h6 => ?_)
    · refine k_ldc C (v := (-1000001)) dX3_addSack_27 cnX3_120 (pc' := 29) rfl ?_
      exact k_reti C rfl hr dX3_addSack_29
    · refine k_iload_n C 3 dX3_addSack_16 rfl rfl (pc' := 17) rfl ?_
      refine k_iconst C (v := 1) dX3_addSack_17 (by decide) (pc' := 18) rfl ?_
      refine k_sipush C (v := 200) dX3_addSack_18 (by decide) (pc' := 21) rfl ?_
      refine k_callSNi C (rest := []) (qX6_within l Γ (K1 Γ M i) m5 a3 1 200) mwX6_within swX6_within (fun h => h.1) (k_rm_of (by decide) (by decide)) rfl rfl (Nat.le_of_ble_eq_true rfl) dX3_addSack_21 (pc' := 24) rfl (fun r7 m8 => ?_)
      refine k_if_ne C (tgt := 30) dX3_addSack_24 (by decide) (pc' := 27) rfl (fun h9 => ?_) (fun h9 => ?_)
      · refine k_aload_n C 0 dX3_addSack_30 rfl rfl (pc' := 31) rfl ?_
        refine k_getf C 7 (c1 Γ M i m8 0 (e_mill Γ hi (m8 0))) (v_i hi (by decide)) flX3_97 (v := .int (m8 0 7)) rfl dX3_addSack_31 (pc' := 34) rfl ?_
        refine k_bipush C (v := 24) dX3_addSack_34 (by decide) (pc' := 36) rfl ?_
        refine k_ic_lt C (tgt := 42) dX3_addSack_36 (by decide) (pc' := 39) rfl (fun h10 => ?_) (fun h10 => ?_)
        · refine k_aload_n C 0 dX3_addSack_42 rfl rfl (pc' := 43) rfl ?_
          refine k_getf C 4 (c1 Γ M i m8 0 (e_mill Γ hi (m8 0))) (v_i hi (by decide)) flX3_43 (v := .ref (Γ.1 i 5)) rfl dX3_addSack_43 (pc' := 46) rfl ?_
          refine k_aload_n C 0 dX3_addSack_46 rfl rfl (pc' := 47) rfl ?_
          refine k_getf C 7 (c1 Γ M i m8 0 (e_mill Γ hi (m8 0))) (v_i hi (by decide)) flX3_97 (v := .int (m8 0 7)) rfl dX3_addSack_47 (pc' := 50) rfl ?_
          refine k_aald C 4 (c1 Γ M i m8 5 (e_sacks Γ hi (m8 5))) (v_i hi (by decide)) rfl (b := Γ.1 i (20 + (m8 0 7).toNatClampNeg)) rfl dX3_addSack_50 (pc' := 51) rfl (fun h11 => ?_)
          refine k_iload_n C 1 dX3_addSack_51 rfl rfl (pc' := 52) rfl ?_
          refine k_iload_n C 2 dX3_addSack_52 rfl rfl (pc' := 53) rfl ?_
          refine k_aload_n C 0 dX3_addSack_53 rfl rfl (pc' := 54) rfl ?_
          refine k_getf C 2 (c1 Γ M i m8 0 (e_mill Γ hi (m8 0))) (v_i hi (by decide)) flX3_31 (v := .ref (Γ.1 i 3)) rfl dX3_addSack_54 (pc' := 57) rfl ?_
          refine k_iload_n C 2 dX3_addSack_57 rfl rfl (pc' := 58) rfl ?_
          refine k_aald C 2 (c1 Γ M i m8 3 (e_kinds Γ hi (m8 3))) (v_i hi (by decide)) rfl (b := Γ.1 i (6 + a2.toNatClampNeg)) rfl dX3_addSack_58 (pc' := 59) rfl (fun h12 => ?_)
          refine k_iload_n C 3 dX3_addSack_59 rfl rfl (pc' := 60) rfl ?_
          refine k_callVv C (rest := []) (qX5_begin l Γ hL M i hi m8 ((20 + (m8 0 7).toNatClampNeg)) a1 a2 ((6 + a2.toNatClampNeg)) a3 (j_sack h11) (j_kind h12)) mwX5_begin iwX5_begin mlX3_145 (k_rm_of (by decide) (by decide)) (c1 Γ M i m8 (20 + (m8 0 7).toNatClampNeg) (e_sack Γ hi (j_sack h11) (m8 (20 + (m8 0 7).toNatClampNeg)))) (v_i hi (h_sack (j_sack h11))) rfl rfl rfl (Nat.le_of_ble_eq_true rfl) dX3_addSack_60 (pc' := 63) rfl (fun r13 m14 => ?_)
          refine k_aload_n C 0 dX3_addSack_63 rfl rfl (pc' := 64) rfl ?_
          refine k_dup C dX3_addSack_64 rfl (pc' := 65) rfl ?_
          refine k_getf C 7 (c1 Γ M i m14 0 (e_mill Γ hi (m14 0))) (v_i hi (by decide)) flX3_97 (v := .int (m14 0 7)) rfl dX3_addSack_65 (pc' := 68) rfl ?_
          refine k_iconst C (v := 1) dX3_addSack_68 (by decide) (pc' := 69) rfl ?_
          refine k_iadd C dX3_addSack_69 (pc' := 70) rfl ?_
          refine k_putf C (hL.k1 M i) 7 (c1 Γ M i m14 0 (e_mill Γ hi (m14 0))) (v_i hi (by decide)) flX3_97 fpX3_7 (Nat.le_of_ble_eq_true rfl) (s1 Γ M i m14 0 7 ((m14 0 7) + 1) ((e_mill Γ hi _).trans (congrArg (fun z => Sum.inr (3, z)) (f_mill Γ i (m14 0) ((m14 0 7) + 1) 7 (by decide))))) dX3_addSack_70 (pc' := 73) rfl (fun m15 => ?_)
          refine k_aload_n C 0 dX3_addSack_73 rfl rfl (pc' := 74) rfl ?_
          refine k_getf C 7 (c1 Γ M i m15 0 (e_mill Γ hi (m15 0))) (v_i hi (by decide)) flX3_97 (v := .int (m15 0 7)) rfl dX3_addSack_74 (pc' := 77) rfl ?_
          refine k_iconst C (v := 1) dX3_addSack_77 (by decide) (pc' := 78) rfl ?_
          refine k_isub C dX3_addSack_78 (pc' := 79) rfl ?_
          exact k_reti C rfl hr dX3_addSack_79
        · refine k_ldc C (v := (-1000003)) dX3_addSack_39 cnX3_122 (pc' := 41) rfl ?_
          exact k_reti C rfl hr dX3_addSack_41
      · refine k_ldc C (v := (-1000001)) dX3_addSack_27 cnX3_120 (pc' := 29) rfl ?_
        exact k_reti C rfl hr dX3_addSack_29
def fX3_withdrawSack (m0 : kM1) (a1 : Int32) : Option (Int32 × kM1) :=
  bd (fX3_hasSack m0 a1) fun r1 m2 => if r1 = 0 then some ((-1000001), m2) else if ¬ a1 < 0 ∧ a1.toNatClampNeg < 24 then if (m2 (20 + a1.toNatClampNeg) 6) = 0 then bd (fX5_grain m2 ((20 + a1.toNatClampNeg))) fun r6 m7 => k_let (mu m7 (20 + a1.toNatClampNeg) 16 r6) fun m8 => k_let (mu m8 (20 + a1.toNatClampNeg) 6 3) fun m9 => some (m9 (20 + a1.toNatClampNeg) 16, m9) else some ((-1000002), m2) else none
set_option maxRecDepth 100000 in
set_option maxHeartbeats 4000000 in
theorem qX3_withdrawSack (l : Launch) (Γ : kG) (hL : k_Lay Γ 314) (M : kM2) (i : Nat) (hi : i < 7) (m0 : kM1) (a1 : Int32) : CT l Γ (K1 Γ M i) yX3_withdrawSack cX3_withdrawSack 3 (some .int) (k_R 1) [.ref (Γ.1 i 0), .int a1] m0 (fX3_withdrawSack m0 a1) := by
  refine k_meth (own := RX3) (by decide) rfl (Nat.le_of_ble_eq_true rfl) (fun p e R s mid args below meth c C hr => ?_)
  show Sm Γ (K1 Γ M i) p l e R s mid args below meth c 3 (jM true Γ (K1 Γ M i) below args s) m0 [(0, .ref (Γ.1 i 0)), (1, .int a1)] [] 0 (fX3_withdrawSack m0 a1)
  unfold fX3_withdrawSack
  refine k_aload_n C 0 dX3_withdrawSack_0 rfl rfl (pc' := 1) rfl ?_
  refine k_iload_n C 1 dX3_withdrawSack_1 rfl rfl (pc' := 2) rfl ?_
  refine k_callVi C (rest := []) (qX3_hasSack l Γ hL M i hi m0 a1) mwX3_hasSack iwX3_hasSack mlX3_149 (k_rm_of (by decide) (by decide)) (c1 Γ M i m0 0 (e_mill Γ hi (m0 0))) (v_i hi (by decide)) rfl rfl rfl (Nat.le_of_ble_eq_true rfl) dX3_withdrawSack_2 (pc' := 5) rfl (fun r1 m2 => ?_)
  refine k_if_ne C (tgt := 11) dX3_withdrawSack_5 (by decide) (pc' := 8) rfl (fun h3 => ?_) (fun h3 => ?_)
  · refine k_aload_n C 0 dX3_withdrawSack_11 rfl rfl (pc' := 12) rfl ?_
    refine k_getf C 4 (c1 Γ M i m2 0 (e_mill Γ hi (m2 0))) (v_i hi (by decide)) flX3_43 (v := .ref (Γ.1 i 5)) rfl dX3_withdrawSack_12 (pc' := 15) rfl ?_
    refine k_iload_n C 1 dX3_withdrawSack_15 rfl rfl (pc' := 16) rfl ?_
    refine k_aald C 4 (c1 Γ M i m2 5 (e_sacks Γ hi (m2 5))) (v_i hi (by decide)) rfl (b := Γ.1 i (20 + a1.toNatClampNeg)) rfl dX3_withdrawSack_16 (pc' := 17) rfl (fun h4 => ?_)
    refine k_astore_n C (lv' := [(2, .ref (Γ.1 i (20 + a1.toNatClampNeg))), (0, .ref (Γ.1 i 0)), (1, .int a1)]) dX3_withdrawSack_17 rfl (by decide) rfl (pc' := 18) rfl ?_
    refine k_aload_n C 0 dX3_withdrawSack_18 rfl rfl (pc' := 19) rfl ?_
    refine k_getf C 6 (c1 Γ M i m2 (20 + a1.toNatClampNeg) (e_sack Γ hi (j_sack h4) (m2 (20 + a1.toNatClampNeg)))) (v_i hi (h_sack (j_sack h4))) flX3_152 (v := .int (m2 (20 + a1.toNatClampNeg) 6)) rfl dX3_withdrawSack_19 (pc' := 22) rfl ?_
    refine k_if_eq C (tgt := 28) dX3_withdrawSack_22 (by decide) (pc' := 25) rfl (fun h5 => ?_) (fun h5 => ?_)
    · refine k_aload_n C 0 dX3_withdrawSack_28 rfl rfl (pc' := 29) rfl ?_
      refine k_aload_n C 0 dX3_withdrawSack_29 rfl rfl (pc' := 30) rfl ?_
      refine k_callVi C (rest := [.ref (Γ.1 i (20 + a1.toNatClampNeg))]) (qX5_grain l Γ hL M i hi m2 ((20 + a1.toNatClampNeg)) (j_sack h4)) mwX5_grain iwX5_grain mlX3_156 (k_rm_of (by decide) (by decide)) (c1 Γ M i m2 (20 + a1.toNatClampNeg) (e_sack Γ hi (j_sack h4) (m2 (20 + a1.toNatClampNeg)))) (v_i hi (h_sack (j_sack h4))) rfl rfl rfl (Nat.le_of_ble_eq_true rfl) dX3_withdrawSack_30 (pc' := 33) rfl (fun r6 m7 => ?_)
      refine k_putf C (hL.k1 M i) 16 (c1 Γ M i m7 (20 + a1.toNatClampNeg) (e_sack Γ hi (j_sack h4) (m7 (20 + a1.toNatClampNeg)))) (v_i hi (h_sack (j_sack h4))) flX3_160 fpX5_16 (Nat.le_of_ble_eq_true rfl) (s1 Γ M i m7 (20 + a1.toNatClampNeg) 16 r6 ((e_sack Γ hi (j_sack h4) _).trans (congrArg (fun z => Sum.inr (5, z)) (f_sack (m7 (20 + a1.toNatClampNeg)) r6 16 (by decide))))) dX3_withdrawSack_33 (pc' := 36) rfl (fun m8 => ?_)
      refine k_aload_n C 0 dX3_withdrawSack_36 rfl rfl (pc' := 37) rfl ?_
      refine k_iconst C (v := 3) dX3_withdrawSack_37 (by decide) (pc' := 38) rfl ?_
      refine k_putf C (hL.k1 M i) 6 (c1 Γ M i m8 (20 + a1.toNatClampNeg) (e_sack Γ hi (j_sack h4) (m8 (20 + a1.toNatClampNeg)))) (v_i hi (h_sack (j_sack h4))) flX3_152 fpX5_6 (Nat.le_of_ble_eq_true rfl) (s1 Γ M i m8 (20 + a1.toNatClampNeg) 6 3 ((e_sack Γ hi (j_sack h4) _).trans (congrArg (fun z => Sum.inr (5, z)) (f_sack (m8 (20 + a1.toNatClampNeg)) 3 6 (by decide))))) dX3_withdrawSack_38 (pc' := 41) rfl (fun m9 => ?_)
      refine k_aload_n C 0 dX3_withdrawSack_41 rfl rfl (pc' := 42) rfl ?_
      refine k_getf C 16 (c1 Γ M i m9 (20 + a1.toNatClampNeg) (e_sack Γ hi (j_sack h4) (m9 (20 + a1.toNatClampNeg)))) (v_i hi (h_sack (j_sack h4))) flX3_160 (v := .int (m9 (20 + a1.toNatClampNeg) 16)) rfl dX3_withdrawSack_42 (pc' := 45) rfl ?_
      exact k_reti C rfl hr dX3_withdrawSack_45
    · refine k_ldc C (v := (-1000002)) dX3_withdrawSack_25 cnX3_155 (pc' := 27) rfl ?_
      exact k_reti C rfl hr dX3_withdrawSack_27
  · refine k_ldc C (v := (-1000001)) dX3_withdrawSack_8 cnX3_120 (pc' := 10) rfl ?_
    exact k_reti C rfl hr dX3_withdrawSack_10
def fX3_fetchSack (m0 : kM1) (a1 : Int32) : Option (Int32 × kM1) :=
  bd (fX3_hasSack m0 a1) fun r1 m2 => if r1 = 0 then some ((-1000001), m2) else if ¬ a1 < 0 ∧ a1.toNatClampNeg < 24 then if (m2 (20 + a1.toNatClampNeg) 6) = 2 then bd (fX5_hasPledge m2 ((20 + a1.toNatClampNeg))) fun r6 m7 => if r6 = 0 then bd (fX5_flour m7 ((20 + a1.toNatClampNeg))) fun r9 m10 => k_let (mu m10 (20 + a1.toNatClampNeg) 16 r9) fun m11 => k_let (mu m11 (20 + a1.toNatClampNeg) 6 3) fun m12 => some (m12 (20 + a1.toNatClampNeg) 16, m12) else some ((-1000002), m7) else some ((-1000002), m2) else none
set_option maxRecDepth 100000 in
set_option maxHeartbeats 4000000 in
theorem qX3_fetchSack (l : Launch) (Γ : kG) (hL : k_Lay Γ 314) (M : kM2) (i : Nat) (hi : i < 7) (m0 : kM1) (a1 : Int32) : CT l Γ (K1 Γ M i) yX3_fetchSack cX3_fetchSack 3 (some .int) (k_R 1) [.ref (Γ.1 i 0), .int a1] m0 (fX3_fetchSack m0 a1) := by
  refine k_meth (own := RX3) (by decide) rfl (Nat.le_of_ble_eq_true rfl) (fun p e R s mid args below meth c C hr => ?_)
  show Sm Γ (K1 Γ M i) p l e R s mid args below meth c 3 (jM true Γ (K1 Γ M i) below args s) m0 [(0, .ref (Γ.1 i 0)), (1, .int a1)] [] 0 (fX3_fetchSack m0 a1)
  unfold fX3_fetchSack
  refine k_aload_n C 0 dX3_fetchSack_0 rfl rfl (pc' := 1) rfl ?_
  refine k_iload_n C 1 dX3_fetchSack_1 rfl rfl (pc' := 2) rfl ?_
  refine k_callVi C (rest := []) (qX3_hasSack l Γ hL M i hi m0 a1) mwX3_hasSack iwX3_hasSack mlX3_149 (k_rm_of (by decide) (by decide)) (c1 Γ M i m0 0 (e_mill Γ hi (m0 0))) (v_i hi (by decide)) rfl rfl rfl (Nat.le_of_ble_eq_true rfl) dX3_fetchSack_2 (pc' := 5) rfl (fun r1 m2 => ?_)
  refine k_if_ne C (tgt := 11) dX3_fetchSack_5 (by decide) (pc' := 8) rfl (fun h3 => ?_) (fun h3 => ?_)
  · refine k_aload_n C 0 dX3_fetchSack_11 rfl rfl (pc' := 12) rfl ?_
    refine k_getf C 4 (c1 Γ M i m2 0 (e_mill Γ hi (m2 0))) (v_i hi (by decide)) flX3_43 (v := .ref (Γ.1 i 5)) rfl dX3_fetchSack_12 (pc' := 15) rfl ?_
    refine k_iload_n C 1 dX3_fetchSack_15 rfl rfl (pc' := 16) rfl ?_
    refine k_aald C 4 (c1 Γ M i m2 5 (e_sacks Γ hi (m2 5))) (v_i hi (by decide)) rfl (b := Γ.1 i (20 + a1.toNatClampNeg)) rfl dX3_fetchSack_16 (pc' := 17) rfl (fun h4 => ?_)
    refine k_astore_n C (lv' := [(2, .ref (Γ.1 i (20 + a1.toNatClampNeg))), (0, .ref (Γ.1 i 0)), (1, .int a1)]) dX3_fetchSack_17 rfl (by decide) rfl (pc' := 18) rfl ?_
    refine k_aload_n C 0 dX3_fetchSack_18 rfl rfl (pc' := 19) rfl ?_
    refine k_getf C 6 (c1 Γ M i m2 (20 + a1.toNatClampNeg) (e_sack Γ hi (j_sack h4) (m2 (20 + a1.toNatClampNeg)))) (v_i hi (h_sack (j_sack h4))) flX3_152 (v := .int (m2 (20 + a1.toNatClampNeg) 6)) rfl dX3_fetchSack_19 (pc' := 22) rfl ?_
    refine k_iconst C (v := 2) dX3_fetchSack_22 (by decide) (pc' := 23) rfl ?_
    refine k_ic_ne C (tgt := 33) dX3_fetchSack_23 (by decide) (pc' := 26) rfl (fun h5 => ?_) (fun h5 => ?_)
    · refine k_ldc C (v := (-1000002)) dX3_fetchSack_33 cnX3_155 (pc' := 35) rfl ?_
      exact k_reti C rfl hr dX3_fetchSack_35
    · refine k_aload_n C 0 dX3_fetchSack_26 rfl rfl (pc' := 27) rfl ?_
      refine k_callVi C (rest := []) (qX5_hasPledge l Γ hL M i hi m2 ((20 + a1.toNatClampNeg)) (j_sack h4)) mwX5_hasPledge iwX5_hasPledge mlX3_163 (k_rm_of (by decide) (by decide)) (c1 Γ M i m2 (20 + a1.toNatClampNeg) (e_sack Γ hi (j_sack h4) (m2 (20 + a1.toNatClampNeg)))) (v_i hi (h_sack (j_sack h4))) rfl rfl rfl (Nat.le_of_ble_eq_true rfl) dX3_fetchSack_27 (pc' := 30) rfl (fun r6 m7 => ?_)
      refine k_if_eq C (tgt := 36) dX3_fetchSack_30 (by decide) (pc' := 33) rfl (fun h8 => ?_) (fun h8 => ?_)
      · refine k_aload_n C 0 dX3_fetchSack_36 rfl rfl (pc' := 37) rfl ?_
        refine k_aload_n C 0 dX3_fetchSack_37 rfl rfl (pc' := 38) rfl ?_
        refine k_callVi C (rest := [.ref (Γ.1 i (20 + a1.toNatClampNeg))]) (qX5_flour l Γ hL M i hi m7 ((20 + a1.toNatClampNeg)) (j_sack h4)) mwX5_flour iwX5_flour mlX3_167 (k_rm_of (by decide) (by decide)) (c1 Γ M i m7 (20 + a1.toNatClampNeg) (e_sack Γ hi (j_sack h4) (m7 (20 + a1.toNatClampNeg)))) (v_i hi (h_sack (j_sack h4))) rfl rfl rfl (Nat.le_of_ble_eq_true rfl) dX3_fetchSack_38 (pc' := 41) rfl (fun r9 m10 => ?_)
        refine k_putf C (hL.k1 M i) 16 (c1 Γ M i m10 (20 + a1.toNatClampNeg) (e_sack Γ hi (j_sack h4) (m10 (20 + a1.toNatClampNeg)))) (v_i hi (h_sack (j_sack h4))) flX3_160 fpX5_16 (Nat.le_of_ble_eq_true rfl) (s1 Γ M i m10 (20 + a1.toNatClampNeg) 16 r9 ((e_sack Γ hi (j_sack h4) _).trans (congrArg (fun z => Sum.inr (5, z)) (f_sack (m10 (20 + a1.toNatClampNeg)) r9 16 (by decide))))) dX3_fetchSack_41 (pc' := 44) rfl (fun m11 => ?_)
        refine k_aload_n C 0 dX3_fetchSack_44 rfl rfl (pc' := 45) rfl ?_
        refine k_iconst C (v := 3) dX3_fetchSack_45 (by decide) (pc' := 46) rfl ?_
        refine k_putf C (hL.k1 M i) 6 (c1 Γ M i m11 (20 + a1.toNatClampNeg) (e_sack Γ hi (j_sack h4) (m11 (20 + a1.toNatClampNeg)))) (v_i hi (h_sack (j_sack h4))) flX3_152 fpX5_6 (Nat.le_of_ble_eq_true rfl) (s1 Γ M i m11 (20 + a1.toNatClampNeg) 6 3 ((e_sack Γ hi (j_sack h4) _).trans (congrArg (fun z => Sum.inr (5, z)) (f_sack (m11 (20 + a1.toNatClampNeg)) 3 6 (by decide))))) dX3_fetchSack_46 (pc' := 49) rfl (fun m12 => ?_)
        refine k_aload_n C 0 dX3_fetchSack_49 rfl rfl (pc' := 50) rfl ?_
        refine k_getf C 16 (c1 Γ M i m12 (20 + a1.toNatClampNeg) (e_sack Γ hi (j_sack h4) (m12 (20 + a1.toNatClampNeg)))) (v_i hi (h_sack (j_sack h4))) flX3_160 (v := .int (m12 (20 + a1.toNatClampNeg) 16)) rfl dX3_fetchSack_50 (pc' := 53) rfl ?_
        exact k_reti C rfl hr dX3_fetchSack_53
      · refine k_ldc C (v := (-1000002)) dX3_fetchSack_33 cnX3_155 (pc' := 35) rfl ?_
        exact k_reti C rfl hr dX3_fetchSack_35
  · refine k_ldc C (v := (-1000001)) dX3_fetchSack_8 cnX3_120 (pc' := 10) rfl ?_
    exact k_reti C rfl hr dX3_fetchSack_10
def fX3_sacksBrought_b32 (a1 : Int32) (a2 : Int32) (rec5 : kM1 → Int32 → Int32 → Option (Int32 × kM1)) (m0 : kM1) (b3 : Int32) (b4 : Int32) : Option (Int32 × kM1) :=
  k_let (b4 + 1) fun v6 => rec5 m0 b3 v6
set_option maxRecDepth 100000 in
set_option maxHeartbeats 4000000 in
theorem sX3_sacksBrought_b32 {l : Launch} {Γ : kG} (hL : k_Lay Γ 314) {M : kM2} {i : Nat} (hi : i < 7) {p : Program} {e : Env} {R : Room} {s : State} {mid : MethodId} {args : Array Value} {below : List Frame} {meth : Method} {c : Code} (C : k_C Γ p R s mid args meth c cX3_sacksBrought 5 RX3 (k_R 1)) (hr : meth.sig.returnType = (some .int)) (a1 : Int32) (a2 : Int32) (rec5 : kM1 → Int32 → Int32 → Option (Int32 × kM1)) (hrec5 : ∀ (m0 : kM1) (b3 : Int32) (b4 : Int32), Sm Γ (K1 Γ M i) p l e R s mid args below meth c 5 (jM true Γ (K1 Γ M i) below args s) m0 [(0, .ref (Γ.1 i 0)), (1, .int a1), (2, .int a2), (3, .int b3), (4, .int b4)] [] 5 (rec5 m0 b3 b4)) (m0 : kM1) (b3 : Int32) (b4 : Int32)  : Sm Γ (K1 Γ M i) p l e R s mid args below meth c 5 (jM true Γ (K1 Γ M i) below args s) m0 [(0, .ref (Γ.1 i 0)), (1, .int a1), (2, .int a2), (3, .int b3), (4, .int b4)] [] 32 (fX3_sacksBrought_b32 a1 a2 rec5 m0 b3 b4) := by
  unfold fX3_sacksBrought_b32
  refine k_iinc (v := 1) (q := 4) (lv' := [(0, .ref (Γ.1 i 0)), (1, .int a1), (2, .int a2), (3, .int b3)]) C dX3_sacksBrought_32 rfl (by decide) (by decide) (pc' := 35) rfl (fun _ => rfl) (fun v6 => ?_)
  refine k_goto C (pc' := 5) dX3_sacksBrought_35 (by decide) ?_
  refine k_sub [1, 2, 3, 4, 0] rfl ?_
  exact hrec5 m0 b3 v6
def fX3_sacksBrought_b5 (a1 : Int32) (a2 : Int32) : Nat → kM1 → Int32 → Int32 → Option (Int32 × kM1)
  | 0, _, _, _ => none
  | n + 1, m0, b3, b4 =>
  if (m0 0 7) ≤ b4 then some (b3, m0) else if ¬ b4 < 0 ∧ b4.toNatClampNeg < 24 then bd (fX5_isOf m0 ((20 + b4.toNatClampNeg)) a1 a2) fun r3 m4 => if r3 = 0 then fX3_sacksBrought_b32 a1 a2 (fX3_sacksBrought_b5 a1 a2 n) m4 b3 b4 else k_let (b3 + 1) fun v7 => fX3_sacksBrought_b32 a1 a2 (fX3_sacksBrought_b5 a1 a2 n) m4 v7 b4 else none
set_option maxRecDepth 100000 in
set_option maxHeartbeats 4000000 in
theorem sX3_sacksBrought_b5 {l : Launch} {Γ : kG} (hL : k_Lay Γ 314) {M : kM2} {i : Nat} (hi : i < 7) {p : Program} {e : Env} {R : Room} {s : State} {mid : MethodId} {args : Array Value} {below : List Frame} {meth : Method} {c : Code} (C : k_C Γ p R s mid args meth c cX3_sacksBrought 5 RX3 (k_R 1)) (hr : meth.sig.returnType = (some .int)) (a1 : Int32) (a2 : Int32)  (n : Nat) : ∀ (m0 : kM1) (b3 : Int32) (b4 : Int32), Sm Γ (K1 Γ M i) p l e R s mid args below meth c 5 (jM true Γ (K1 Γ M i) below args s) m0 [(0, .ref (Γ.1 i 0)), (1, .int a1), (2, .int a2), (3, .int b3), (4, .int b4)] [] 5 (fX3_sacksBrought_b5 a1 a2 n m0 b3 b4) := by
  induction n with
  | zero => intros; exact k_none
  | succ n ih =>
    intro m0 b3 b4
    unfold fX3_sacksBrought_b5
    refine k_iload C 4 dX3_sacksBrought_5 rfl (pc' := 7) rfl ?_
    refine k_aload_n C 0 dX3_sacksBrought_7 rfl rfl (pc' := 8) rfl ?_
    refine k_getf C 7 (c1 Γ M i m0 0 (e_mill Γ hi (m0 0))) (v_i hi (by decide)) flX3_97 (v := .int (m0 0 7)) rfl dX3_sacksBrought_8 (pc' := 11) rfl ?_
    refine k_ic_ge C (tgt := 38) dX3_sacksBrought_11 (by decide) (pc' := 14) rfl (fun h1 => ?_) (fun h1 => ?_)
    · refine k_iload_n C 3 dX3_sacksBrought_38 rfl rfl (pc' := 39) rfl ?_
      exact k_reti C rfl hr dX3_sacksBrought_39
    · refine k_aload_n C 0 dX3_sacksBrought_14 rfl rfl (pc' := 15) rfl ?_
      refine k_getf C 4 (c1 Γ M i m0 0 (e_mill Γ hi (m0 0))) (v_i hi (by decide)) flX3_43 (v := .ref (Γ.1 i 5)) rfl dX3_sacksBrought_15 (pc' := 18) rfl ?_
      refine k_iload C 4 dX3_sacksBrought_18 rfl (pc' := 20) rfl ?_
      refine k_aald C 4 (c1 Γ M i m0 5 (e_sacks Γ hi (m0 5))) (v_i hi (by decide)) rfl (b := Γ.1 i (20 + b4.toNatClampNeg)) rfl dX3_sacksBrought_20 (pc' := 21) rfl (fun h2 => ?_)
      refine k_iload_n C 1 dX3_sacksBrought_21 rfl rfl (pc' := 22) rfl ?_
      refine k_iload_n C 2 dX3_sacksBrought_22 rfl rfl (pc' := 23) rfl ?_
      refine k_callVi C (rest := []) (qX5_isOf l Γ hL M i hi m0 ((20 + b4.toNatClampNeg)) a1 a2 (j_sack h2)) mwX5_isOf iwX5_isOf mlX3_182 (k_rm_of (by decide) (by decide)) (c1 Γ M i m0 (20 + b4.toNatClampNeg) (e_sack Γ hi (j_sack h2) (m0 (20 + b4.toNatClampNeg)))) (v_i hi (h_sack (j_sack h2))) rfl rfl rfl (Nat.le_of_ble_eq_true rfl) dX3_sacksBrought_23 (pc' := 26) rfl (fun r3 m4 => ?_)
      refine k_if_eq C (tgt := 32) dX3_sacksBrought_26 (by decide) (pc' := 29) rfl (fun h5 => ?_) (fun h5 => ?_)
      · exact sX3_sacksBrought_b32 hL hi C hr a1 a2 (fX3_sacksBrought_b5 a1 a2 n) ih m4 b3 b4
      · refine k_iinc (v := 1) (q := 3) (lv' := [(0, .ref (Γ.1 i 0)), (1, .int a1), (2, .int a2), (4, .int b4)]) C dX3_sacksBrought_29 rfl (by decide) (by decide) (pc' := 32) rfl (fun _ => rfl) (fun v7 => ?_)
        refine k_sub [1, 2, 3, 0, 4] rfl ?_
        exact sX3_sacksBrought_b32 hL hi C hr a1 a2 (fX3_sacksBrought_b5 a1 a2 n) ih m4 v7 b4
def fX3_sacksBrought (m0 : kM1) (a1 : Int32) (a2 : Int32) : Option (Int32 × kM1) :=
  fX3_sacksBrought_b5 a1 a2 kFu m0 0 0
set_option maxRecDepth 100000 in
set_option maxHeartbeats 4000000 in
theorem qX3_sacksBrought (l : Launch) (Γ : kG) (hL : k_Lay Γ 314) (M : kM2) (i : Nat) (hi : i < 7) (m0 : kM1) (a1 : Int32) (a2 : Int32) : CT l Γ (K1 Γ M i) yX3_sacksBrought cX3_sacksBrought 5 (some .int) (k_R 1) [.ref (Γ.1 i 0), .int a1, .int a2] m0 (fX3_sacksBrought m0 a1 a2) := by
  refine k_meth (own := RX3) (by decide) rfl (Nat.le_of_ble_eq_true rfl) (fun p e R s mid args below meth c C hr => ?_)
  show Sm Γ (K1 Γ M i) p l e R s mid args below meth c 5 (jM true Γ (K1 Γ M i) below args s) m0 [(0, .ref (Γ.1 i 0)), (1, .int a1), (2, .int a2)] [] 0 (fX3_sacksBrought m0 a1 a2)
  unfold fX3_sacksBrought
  refine k_iconst C (v := 0) dX3_sacksBrought_0 (by decide) (pc' := 1) rfl ?_
  refine k_istore_n C (lv' := [(3, .int 0), (0, .ref (Γ.1 i 0)), (1, .int a1), (2, .int a2)]) dX3_sacksBrought_1 rfl (by decide) rfl (pc' := 2) rfl ?_
  refine k_iconst C (v := 0) dX3_sacksBrought_2 (by decide) (pc' := 3) rfl ?_
  refine k_istore C (lv' := [(4, .int 0), (3, .int 0), (0, .ref (Γ.1 i 0)), (1, .int a1), (2, .int a2)]) dX3_sacksBrought_3 (by decide) rfl (pc' := 5) rfl ?_
  refine k_sub [2, 3, 4, 1, 0] rfl ?_
  exact sX3_sacksBrought_b5 hL hi C hr a1 a2 kFu m0 0 0
def fX3_sumOf_b46 (a1 : Int32) (a2 : Int32) (a3 : Int32) (rec6 : kM1 → Int32 → Int32 → Option (Int32 × kM1)) (m0 : kM1) (b4 : Int32) (b5 : Int32) : Option (Int32 × kM1) :=
  k_let (b5 + 1) fun v6 => rec6 m0 b4 v6
set_option maxRecDepth 100000 in
set_option maxHeartbeats 4000000 in
theorem sX3_sumOf_b46 {l : Launch} {Γ : kG} (hL : k_Lay Γ 314) {M : kM2} {i : Nat} (hi : i < 7) {p : Program} {e : Env} {R : Room} {s : State} {mid : MethodId} {args : Array Value} {below : List Frame} {meth : Method} {c : Code} (C : k_C Γ p R s mid args meth c cX3_sumOf 6 RX3 (k_R 2)) (hr : meth.sig.returnType = (some .int)) (a1 : Int32) (a2 : Int32) (a3 : Int32) (rec6 : kM1 → Int32 → Int32 → Option (Int32 × kM1)) (hrec6 : ∀ (m0 : kM1) (b4 : Int32) (b5 : Int32), Sm Γ (K1 Γ M i) p l e R s mid args below meth c 6 (jM true Γ (K1 Γ M i) below args s) m0 [(0, .ref (Γ.1 i 0)), (1, .int a1), (2, .int a2), (3, .int a3), (4, .int b4), (5, .int b5)] [] 6 (rec6 m0 b4 b5)) (m0 : kM1) (b4 : Int32) (b5 : Int32)  : Sm Γ (K1 Γ M i) p l e R s mid args below meth c 6 (jM true Γ (K1 Γ M i) below args s) m0 [(0, .ref (Γ.1 i 0)), (1, .int a1), (2, .int a2), (3, .int a3), (4, .int b4), (5, .int b5)] [] 46 (fX3_sumOf_b46 a1 a2 a3 rec6 m0 b4 b5) := by
  unfold fX3_sumOf_b46
  refine k_iinc (v := 1) (q := 5) (lv' := [(0, .ref (Γ.1 i 0)), (1, .int a1), (2, .int a2), (3, .int a3), (4, .int b4)]) C dX3_sumOf_46 rfl (by decide) (by decide) (pc' := 49) rfl (fun _ => rfl) (fun v6 => ?_)
  refine k_goto C (pc' := 6) dX3_sumOf_49 (by decide) ?_
  refine k_sub [1, 2, 3, 4, 5, 0] rfl ?_
  exact hrec6 m0 b4 v6
def fX3_sumOf_b6 (a1 : Int32) (a2 : Int32) (a3 : Int32) : Nat → kM1 → Int32 → Int32 → Option (Int32 × kM1)
  | 0, _, _, _ => none
  | n + 1, m0, b4, b5 =>
  if (m0 0 7) ≤ b5 then some (b4, m0) else if ¬ b5 < 0 ∧ b5.toNatClampNeg < 24 then bd (fX5_isOf m0 ((20 + b5.toNatClampNeg)) a1 a2) fun r3 m4 => if r3 = 0 then fX3_sumOf_b46 a1 a2 a3 (fX3_sumOf_b6 a1 a2 a3 n) m4 b4 b5 else if ¬ b5 < 0 ∧ b5.toNatClampNeg < 24 then bd (fX5_tell m4 ((20 + b5.toNatClampNeg)) a3) fun r8 m9 => k_let (b4 + r8) fun v10 => fX3_sumOf_b46 a1 a2 a3 (fX3_sumOf_b6 a1 a2 a3 n) m9 v10 b5 else none else none
set_option maxRecDepth 100000 in
set_option maxHeartbeats 4000000 in
theorem sX3_sumOf_b6 {l : Launch} {Γ : kG} (hL : k_Lay Γ 314) {M : kM2} {i : Nat} (hi : i < 7) {p : Program} {e : Env} {R : Room} {s : State} {mid : MethodId} {args : Array Value} {below : List Frame} {meth : Method} {c : Code} (C : k_C Γ p R s mid args meth c cX3_sumOf 6 RX3 (k_R 2)) (hr : meth.sig.returnType = (some .int)) (a1 : Int32) (a2 : Int32) (a3 : Int32)  (n : Nat) : ∀ (m0 : kM1) (b4 : Int32) (b5 : Int32), Sm Γ (K1 Γ M i) p l e R s mid args below meth c 6 (jM true Γ (K1 Γ M i) below args s) m0 [(0, .ref (Γ.1 i 0)), (1, .int a1), (2, .int a2), (3, .int a3), (4, .int b4), (5, .int b5)] [] 6 (fX3_sumOf_b6 a1 a2 a3 n m0 b4 b5) := by
  induction n with
  | zero => intros; exact k_none
  | succ n ih =>
    intro m0 b4 b5
    unfold fX3_sumOf_b6
    refine k_iload C 5 dX3_sumOf_6 rfl (pc' := 8) rfl ?_
    refine k_aload_n C 0 dX3_sumOf_8 rfl rfl (pc' := 9) rfl ?_
    refine k_getf C 7 (c1 Γ M i m0 0 (e_mill Γ hi (m0 0))) (v_i hi (by decide)) flX3_97 (v := .int (m0 0 7)) rfl dX3_sumOf_9 (pc' := 12) rfl ?_
    refine k_ic_ge C (tgt := 52) dX3_sumOf_12 (by decide) (pc' := 15) rfl (fun h1 => ?_) (fun h1 => ?_)
    · refine k_iload C 4 dX3_sumOf_52 rfl (pc' := 54) rfl ?_
      exact k_reti C rfl hr dX3_sumOf_54
    · refine k_aload_n C 0 dX3_sumOf_15 rfl rfl (pc' := 16) rfl ?_
      refine k_getf C 4 (c1 Γ M i m0 0 (e_mill Γ hi (m0 0))) (v_i hi (by decide)) flX3_43 (v := .ref (Γ.1 i 5)) rfl dX3_sumOf_16 (pc' := 19) rfl ?_
      refine k_iload C 5 dX3_sumOf_19 rfl (pc' := 21) rfl ?_
      refine k_aald C 4 (c1 Γ M i m0 5 (e_sacks Γ hi (m0 5))) (v_i hi (by decide)) rfl (b := Γ.1 i (20 + b5.toNatClampNeg)) rfl dX3_sumOf_21 (pc' := 22) rfl (fun h2 => ?_)
      refine k_iload_n C 1 dX3_sumOf_22 rfl rfl (pc' := 23) rfl ?_
      refine k_iload_n C 2 dX3_sumOf_23 rfl rfl (pc' := 24) rfl ?_
      refine k_callVi C (rest := []) (qX5_isOf l Γ hL M i hi m0 ((20 + b5.toNatClampNeg)) a1 a2 (j_sack h2)) mwX5_isOf iwX5_isOf mlX3_182 (k_rm_of (by decide) (by decide)) (c1 Γ M i m0 (20 + b5.toNatClampNeg) (e_sack Γ hi (j_sack h2) (m0 (20 + b5.toNatClampNeg)))) (v_i hi (h_sack (j_sack h2))) rfl rfl rfl (Nat.le_of_ble_eq_true rfl) dX3_sumOf_24 (pc' := 27) rfl (fun r3 m4 => ?_)
      refine k_if_eq C (tgt := 46) dX3_sumOf_27 (by decide) (pc' := 30) rfl (fun h5 => ?_) (fun h5 => ?_)
      · exact sX3_sumOf_b46 hL hi C hr a1 a2 a3 (fX3_sumOf_b6 a1 a2 a3 n) ih m4 b4 b5
      · refine k_iload C 4 dX3_sumOf_30 rfl (pc' := 32) rfl ?_
        refine k_aload_n C 0 dX3_sumOf_32 rfl rfl (pc' := 33) rfl ?_
        refine k_getf C 4 (c1 Γ M i m4 0 (e_mill Γ hi (m4 0))) (v_i hi (by decide)) flX3_43 (v := .ref (Γ.1 i 5)) rfl dX3_sumOf_33 (pc' := 36) rfl ?_
        refine k_iload C 5 dX3_sumOf_36 rfl (pc' := 38) rfl ?_
        refine k_aald C 4 (c1 Γ M i m4 5 (e_sacks Γ hi (m4 5))) (v_i hi (by decide)) rfl (b := Γ.1 i (20 + b5.toNatClampNeg)) rfl dX3_sumOf_38 (pc' := 39) rfl (fun h7 => ?_)
        refine k_iload_n C 3 dX3_sumOf_39 rfl rfl (pc' := 40) rfl ?_
        refine k_callVi C (rest := [.int b4]) (qX5_tell l Γ hL M i hi m4 ((20 + b5.toNatClampNeg)) a3 (j_sack h7)) mwX5_tell iwX5_tell mlX3_186 (k_rm_of (by decide) (by decide)) (c1 Γ M i m4 (20 + b5.toNatClampNeg) (e_sack Γ hi (j_sack h7) (m4 (20 + b5.toNatClampNeg)))) (v_i hi (h_sack (j_sack h7))) rfl rfl rfl (Nat.le_of_ble_eq_true rfl) dX3_sumOf_40 (pc' := 43) rfl (fun r8 m9 => ?_)
        refine k_iadd C dX3_sumOf_43 (pc' := 44) rfl ?_
        refine k_topi (fun v10 => ?_)
        refine k_istore C (lv' := [(4, .int v10), (0, .ref (Γ.1 i 0)), (1, .int a1), (2, .int a2), (3, .int a3), (5, .int b5)]) dX3_sumOf_44 (by decide) rfl (pc' := 46) rfl ?_
        refine k_sub [1, 2, 3, 4, 0, 5] rfl ?_
        exact sX3_sumOf_b46 hL hi C hr a1 a2 a3 (fX3_sumOf_b6 a1 a2 a3 n) ih m9 v10 b5
def fX3_sumOf (m0 : kM1) (a1 : Int32) (a2 : Int32) (a3 : Int32) : Option (Int32 × kM1) :=
  fX3_sumOf_b6 a1 a2 a3 kFu m0 0 0
set_option maxRecDepth 100000 in
set_option maxHeartbeats 4000000 in
theorem qX3_sumOf (l : Launch) (Γ : kG) (hL : k_Lay Γ 314) (M : kM2) (i : Nat) (hi : i < 7) (m0 : kM1) (a1 : Int32) (a2 : Int32) (a3 : Int32) : CT l Γ (K1 Γ M i) yX3_sumOf cX3_sumOf 6 (some .int) (k_R 2) [.ref (Γ.1 i 0), .int a1, .int a2, .int a3] m0 (fX3_sumOf m0 a1 a2 a3) := by
  refine k_meth (own := RX3) (by decide) rfl (Nat.le_of_ble_eq_true rfl) (fun p e R s mid args below meth c C hr => ?_)
  show Sm Γ (K1 Γ M i) p l e R s mid args below meth c 6 (jM true Γ (K1 Γ M i) below args s) m0 [(0, .ref (Γ.1 i 0)), (1, .int a1), (2, .int a2), (3, .int a3)] [] 0 (fX3_sumOf m0 a1 a2 a3)
  unfold fX3_sumOf
  refine k_iconst C (v := 0) dX3_sumOf_0 (by decide) (pc' := 1) rfl ?_
  refine k_istore C (lv' := [(4, .int 0), (0, .ref (Γ.1 i 0)), (1, .int a1), (2, .int a2), (3, .int a3)]) dX3_sumOf_1 (by decide) rfl (pc' := 3) rfl ?_
  refine k_iconst C (v := 0) dX3_sumOf_3 (by decide) (pc' := 4) rfl ?_
  refine k_istore C (lv' := [(5, .int 0), (4, .int 0), (0, .ref (Γ.1 i 0)), (1, .int a1), (2, .int a2), (3, .int a3)]) dX3_sumOf_4 (by decide) rfl (pc' := 6) rfl ?_
  refine k_sub [2, 3, 4, 5, 1, 0] rfl ?_
  exact sX3_sumOf_b6 hL hi C hr a1 a2 a3 kFu m0 0 0
def fX3_tellKind (m0 : kM1) (a1 : Int32) (a2 : Int32) : Option (Int32 × kM1) :=
  if a2 = 0 then if ¬ a1 < 0 ∧ a1.toNatClampNeg < 6 then some (m0 (6 + a1.toNatClampNeg) 0, m0) else none else if a2 = 1 then if ¬ a1 < 0 ∧ a1.toNatClampNeg < 6 then some (m0 (6 + a1.toNatClampNeg) 1, m0) else none else if a2 = 2 then if ¬ a1 < 0 ∧ a1.toNatClampNeg < 6 then some (m0 (6 + a1.toNatClampNeg) 2, m0) else none else if a2 = 3 then bd (fX3_sacksBrought m0 (-1) a1) fun r8 m9 => some (r8, m9) else if a2 = 4 then bd (fX3_sumOf m0 (-1) a1 6) fun r11 m12 => some (r11, m12) else bd (fX3_sumOf m0 (-1) a1 9) fun r13 m14 => some (r13, m14)
set_option maxRecDepth 100000 in
set_option maxHeartbeats 4000000 in
theorem qX3_tellKind (l : Launch) (Γ : kG) (hL : k_Lay Γ 314) (M : kM2) (i : Nat) (hi : i < 7) (m0 : kM1) (a1 : Int32) (a2 : Int32) : CT l Γ (K1 Γ M i) yX3_tellKind cX3_tellKind 3 (some .int) (k_R 3) [.ref (Γ.1 i 0), .int a1, .int a2] m0 (fX3_tellKind m0 a1 a2) := by
  refine k_meth (own := RX3) (by decide) rfl (Nat.le_of_ble_eq_true rfl) (fun p e R s mid args below meth c C hr => ?_)
  show Sm Γ (K1 Γ M i) p l e R s mid args below meth c 3 (jM true Γ (K1 Γ M i) below args s) m0 [(0, .ref (Γ.1 i 0)), (1, .int a1), (2, .int a2)] [] 0 (fX3_tellKind m0 a1 a2)
  unfold fX3_tellKind
  refine k_iload_n C 2 dX3_tellKind_0 rfl rfl (pc' := 1) rfl ?_
  refine k_ite (fun h1 => ?_) (fun h1 => ?_)
  · refine k_tswIn C (35) dX3_tellKind_1 h1 (by decide) (by decide) rfl (pc' := 36) (by decide) ?_
    refine k_aload_n C 0 dX3_tellKind_36 rfl rfl (pc' := 37) rfl ?_
    refine k_getf C 2 (c1 Γ M i m0 0 (e_mill Γ hi (m0 0))) (v_i hi (by decide)) flX3_31 (v := .ref (Γ.1 i 3)) rfl dX3_tellKind_37 (pc' := 40) rfl ?_
    refine k_iload_n C 1 dX3_tellKind_40 rfl rfl (pc' := 41) rfl ?_
    refine k_aald C 2 (c1 Γ M i m0 3 (e_kinds Γ hi (m0 3))) (v_i hi (by decide)) rfl (b := Γ.1 i (6 + a1.toNatClampNeg)) rfl dX3_tellKind_41 (pc' := 42) rfl (fun h2 => ?_)
    refine k_getf C 0 (c1 Γ M i m0 (6 + a1.toNatClampNeg) (e_kind Γ hi (j_kind h2) (m0 (6 + a1.toNatClampNeg)))) (v_i hi (h_kind (j_kind h2))) flX3_123 (v := .int (m0 (6 + a1.toNatClampNeg) 0)) rfl dX3_tellKind_42 (pc' := 45) rfl ?_
    exact k_reti C rfl hr dX3_tellKind_45
  refine k_ite (fun h3 => ?_) (fun h3 => ?_)
  · refine k_tswIn C (45) dX3_tellKind_1 h3 (by decide) (by decide) rfl (pc' := 46) (by decide) ?_
    refine k_aload_n C 0 dX3_tellKind_46 rfl rfl (pc' := 47) rfl ?_
    refine k_getf C 2 (c1 Γ M i m0 0 (e_mill Γ hi (m0 0))) (v_i hi (by decide)) flX3_31 (v := .ref (Γ.1 i 3)) rfl dX3_tellKind_47 (pc' := 50) rfl ?_
    refine k_iload_n C 1 dX3_tellKind_50 rfl rfl (pc' := 51) rfl ?_
    refine k_aald C 2 (c1 Γ M i m0 3 (e_kinds Γ hi (m0 3))) (v_i hi (by decide)) rfl (b := Γ.1 i (6 + a1.toNatClampNeg)) rfl dX3_tellKind_51 (pc' := 52) rfl (fun h4 => ?_)
    refine k_getf C 1 (c1 Γ M i m0 (6 + a1.toNatClampNeg) (e_kind Γ hi (j_kind h4) (m0 (6 + a1.toNatClampNeg)))) (v_i hi (h_kind (j_kind h4))) flX3_126 (v := .int (m0 (6 + a1.toNatClampNeg) 1)) rfl dX3_tellKind_52 (pc' := 55) rfl ?_
    exact k_reti C rfl hr dX3_tellKind_55
  refine k_ite (fun h5 => ?_) (fun h5 => ?_)
  · refine k_tswIn C (55) dX3_tellKind_1 h5 (by decide) (by decide) rfl (pc' := 56) (by decide) ?_
    refine k_aload_n C 0 dX3_tellKind_56 rfl rfl (pc' := 57) rfl ?_
    refine k_getf C 2 (c1 Γ M i m0 0 (e_mill Γ hi (m0 0))) (v_i hi (by decide)) flX3_31 (v := .ref (Γ.1 i 3)) rfl dX3_tellKind_57 (pc' := 60) rfl ?_
    refine k_iload_n C 1 dX3_tellKind_60 rfl rfl (pc' := 61) rfl ?_
    refine k_aald C 2 (c1 Γ M i m0 3 (e_kinds Γ hi (m0 3))) (v_i hi (by decide)) rfl (b := Γ.1 i (6 + a1.toNatClampNeg)) rfl dX3_tellKind_61 (pc' := 62) rfl (fun h6 => ?_)
    refine k_getf C 2 (c1 Γ M i m0 (6 + a1.toNatClampNeg) (e_kind Γ hi (j_kind h6) (m0 (6 + a1.toNatClampNeg)))) (v_i hi (h_kind (j_kind h6))) flX3_129 (v := .int (m0 (6 + a1.toNatClampNeg) 2)) rfl dX3_tellKind_62 (pc' := 65) rfl ?_
    exact k_reti C rfl hr dX3_tellKind_65
  refine k_ite (fun h7 => ?_) (fun h7 => ?_)
  · refine k_tswIn C (65) dX3_tellKind_1 h7 (by decide) (by decide) rfl (pc' := 66) (by decide) ?_
    refine k_aload_n C 0 dX3_tellKind_66 rfl rfl (pc' := 67) rfl ?_
    refine k_iconst C (v := (-1)) dX3_tellKind_67 (by decide) (pc' := 68) rfl ?_
    refine k_iload_n C 1 dX3_tellKind_68 rfl rfl (pc' := 69) rfl ?_
    refine k_callVi C (rest := []) (qX3_sacksBrought l Γ hL M i hi m0 (-1) a1) mwX3_sacksBrought iwX3_sacksBrought mlX3_170 (k_rm_of (by decide) (by decide)) (c1 Γ M i m0 0 (e_mill Γ hi (m0 0))) (v_i hi (by decide)) rfl rfl rfl (Nat.le_of_ble_eq_true rfl) dX3_tellKind_69 (pc' := 72) rfl (fun r8 m9 => ?_)
    exact k_reti C rfl hr dX3_tellKind_72
  refine k_ite (fun h10 => ?_) (fun h10 => ?_)
  · refine k_tswIn C (72) dX3_tellKind_1 h10 (by decide) (by decide) rfl (pc' := 73) (by decide) ?_
    refine k_aload_n C 0 dX3_tellKind_73 rfl rfl (pc' := 74) rfl ?_
    refine k_iconst C (v := (-1)) dX3_tellKind_74 (by decide) (pc' := 75) rfl ?_
    refine k_iload_n C 1 dX3_tellKind_75 rfl rfl (pc' := 76) rfl ?_
    refine k_bipush C (v := 6) dX3_tellKind_76 (by decide) (pc' := 78) rfl ?_
    refine k_callVi C (rest := []) (qX3_sumOf l Γ hL M i hi m0 (-1) a1 6) mwX3_sumOf iwX3_sumOf mlX3_174 (k_rm_of (by decide) (by decide)) (c1 Γ M i m0 0 (e_mill Γ hi (m0 0))) (v_i hi (by decide)) rfl rfl rfl (Nat.le_of_ble_eq_true rfl) dX3_tellKind_78 (pc' := 81) rfl (fun r11 m12 => ?_)
    exact k_reti C rfl hr dX3_tellKind_81
  refine k_tswOut C dX3_tellKind_1 (by have z0 := lv_neT h1 (show (0 : Int32).toInt = 0 by decide); have z1 := lv_neT h3 (show (1 : Int32).toInt = 1 by decide); have z2 := lv_neT h5 (show (2 : Int32).toInt = 2 by decide); have z3 := lv_neT h7 (show (3 : Int32).toInt = 3 by decide); have z4 := lv_neT h10 (show (4 : Int32).toInt = 4 by decide); omega) (pc' := 82) (by decide) ?_
  refine k_aload_n C 0 dX3_tellKind_82 rfl rfl (pc' := 83) rfl ?_
  refine k_iconst C (v := (-1)) dX3_tellKind_83 (by decide) (pc' := 84) rfl ?_
  refine k_iload_n C 1 dX3_tellKind_84 rfl rfl (pc' := 85) rfl ?_
  refine k_bipush C (v := 9) dX3_tellKind_85 (by decide) (pc' := 87) rfl ?_
  refine k_callVi C (rest := []) (qX3_sumOf l Γ hL M i hi m0 (-1) a1 9) mwX3_sumOf iwX3_sumOf mlX3_174 (k_rm_of (by decide) (by decide)) (c1 Γ M i m0 0 (e_mill Γ hi (m0 0))) (v_i hi (by decide)) rfl rfl rfl (Nat.le_of_ble_eq_true rfl) dX3_tellKind_87 (pc' := 90) rfl (fun r13 m14 => ?_)
  exact k_reti C rfl hr dX3_tellKind_90
def fX3_pledgesOf_b41 (a1 : Int32) (rec4 : kM1 → Int32 → Int32 → Option (Int32 × kM1)) (m0 : kM1) (b2 : Int32) (b3 : Int32) : Option (Int32 × kM1) :=
  k_let (b3 + 1) fun v6 => rec4 m0 b2 v6
set_option maxRecDepth 100000 in
set_option maxHeartbeats 4000000 in
theorem sX3_pledgesOf_b41 {l : Launch} {Γ : kG} (hL : k_Lay Γ 314) {M : kM2} {i : Nat} (hi : i < 7) {p : Program} {e : Env} {R : Room} {s : State} {mid : MethodId} {args : Array Value} {below : List Frame} {meth : Method} {c : Code} (C : k_C Γ p R s mid args meth c cX3_pledgesOf 4 RX3 (k_R 1)) (hr : meth.sig.returnType = (some .int)) (a1 : Int32) (rec4 : kM1 → Int32 → Int32 → Option (Int32 × kM1)) (hrec4 : ∀ (m0 : kM1) (b2 : Int32) (b3 : Int32), Sm Γ (K1 Γ M i) p l e R s mid args below meth c 4 (jM true Γ (K1 Γ M i) below args s) m0 [(0, .ref (Γ.1 i 0)), (1, .int a1), (2, .int b2), (3, .int b3)] [] 4 (rec4 m0 b2 b3)) (m0 : kM1) (b2 : Int32) (b3 : Int32)  : Sm Γ (K1 Γ M i) p l e R s mid args below meth c 4 (jM true Γ (K1 Γ M i) below args s) m0 [(0, .ref (Γ.1 i 0)), (1, .int a1), (2, .int b2), (3, .int b3)] [] 41 (fX3_pledgesOf_b41 a1 rec4 m0 b2 b3) := by
  unfold fX3_pledgesOf_b41
  refine k_iinc (v := 1) (q := 3) (lv' := [(0, .ref (Γ.1 i 0)), (1, .int a1), (2, .int b2)]) C dX3_pledgesOf_41 rfl (by decide) (by decide) (pc' := 44) rfl (fun _ => rfl) (fun v6 => ?_)
  refine k_goto C (pc' := 4) dX3_pledgesOf_44 (by decide) ?_
  refine k_sub [1, 2, 3, 0] rfl ?_
  exact hrec4 m0 b2 v6
def fX3_pledgesOf_b4 (a1 : Int32) : Nat → kM1 → Int32 → Int32 → Option (Int32 × kM1)
  | 0, _, _, _ => none
  | n + 1, m0, b2, b3 =>
  if (m0 0 7) ≤ b3 then some (b2, m0) else if ¬ b3 < 0 ∧ b3.toNatClampNeg < 24 then bd (fX5_hasPledge m0 ((20 + b3.toNatClampNeg))) fun r3 m4 => if r3 = 0 then fX3_pledgesOf_b41 a1 (fX3_pledgesOf_b4 a1 n) m4 b2 b3 else if ¬ b3 < 0 ∧ b3.toNatClampNeg < 24 then bd (fX5_isOf m4 ((20 + b3.toNatClampNeg)) a1 (-1)) fun r8 m9 => if r8 = 0 then fX3_pledgesOf_b41 a1 (fX3_pledgesOf_b4 a1 n) m9 b2 b3 else k_let (b2 + 1) fun v11 => fX3_pledgesOf_b41 a1 (fX3_pledgesOf_b4 a1 n) m9 v11 b3 else none else none
set_option maxRecDepth 100000 in
set_option maxHeartbeats 4000000 in
theorem sX3_pledgesOf_b4 {l : Launch} {Γ : kG} (hL : k_Lay Γ 314) {M : kM2} {i : Nat} (hi : i < 7) {p : Program} {e : Env} {R : Room} {s : State} {mid : MethodId} {args : Array Value} {below : List Frame} {meth : Method} {c : Code} (C : k_C Γ p R s mid args meth c cX3_pledgesOf 4 RX3 (k_R 1)) (hr : meth.sig.returnType = (some .int)) (a1 : Int32)  (n : Nat) : ∀ (m0 : kM1) (b2 : Int32) (b3 : Int32), Sm Γ (K1 Γ M i) p l e R s mid args below meth c 4 (jM true Γ (K1 Γ M i) below args s) m0 [(0, .ref (Γ.1 i 0)), (1, .int a1), (2, .int b2), (3, .int b3)] [] 4 (fX3_pledgesOf_b4 a1 n m0 b2 b3) := by
  induction n with
  | zero => intros; exact k_none
  | succ n ih =>
    intro m0 b2 b3
    unfold fX3_pledgesOf_b4
    refine k_iload_n C 3 dX3_pledgesOf_4 rfl rfl (pc' := 5) rfl ?_
    refine k_aload_n C 0 dX3_pledgesOf_5 rfl rfl (pc' := 6) rfl ?_
    refine k_getf C 7 (c1 Γ M i m0 0 (e_mill Γ hi (m0 0))) (v_i hi (by decide)) flX3_97 (v := .int (m0 0 7)) rfl dX3_pledgesOf_6 (pc' := 9) rfl ?_
    refine k_ic_ge C (tgt := 47) dX3_pledgesOf_9 (by decide) (pc' := 12) rfl (fun h1 => ?_) (fun h1 => ?_)
    · refine k_iload_n C 2 dX3_pledgesOf_47 rfl rfl (pc' := 48) rfl ?_
      exact k_reti C rfl hr dX3_pledgesOf_48
    · refine k_aload_n C 0 dX3_pledgesOf_12 rfl rfl (pc' := 13) rfl ?_
      refine k_getf C 4 (c1 Γ M i m0 0 (e_mill Γ hi (m0 0))) (v_i hi (by decide)) flX3_43 (v := .ref (Γ.1 i 5)) rfl dX3_pledgesOf_13 (pc' := 16) rfl ?_
      refine k_iload_n C 3 dX3_pledgesOf_16 rfl rfl (pc' := 17) rfl ?_
      refine k_aald C 4 (c1 Γ M i m0 5 (e_sacks Γ hi (m0 5))) (v_i hi (by decide)) rfl (b := Γ.1 i (20 + b3.toNatClampNeg)) rfl dX3_pledgesOf_17 (pc' := 18) rfl (fun h2 => ?_)
      refine k_callVi C (rest := []) (qX5_hasPledge l Γ hL M i hi m0 ((20 + b3.toNatClampNeg)) (j_sack h2)) mwX5_hasPledge iwX5_hasPledge mlX3_163 (k_rm_of (by decide) (by decide)) (c1 Γ M i m0 (20 + b3.toNatClampNeg) (e_sack Γ hi (j_sack h2) (m0 (20 + b3.toNatClampNeg)))) (v_i hi (h_sack (j_sack h2))) rfl rfl rfl (Nat.le_of_ble_eq_true rfl) dX3_pledgesOf_18 (pc' := 21) rfl (fun r3 m4 => ?_)
      refine k_if_eq C (tgt := 41) dX3_pledgesOf_21 (by decide) (pc' := 24) rfl (fun h5 => ?_) (fun h5 => ?_)
      · exact sX3_pledgesOf_b41 hL hi C hr a1 (fX3_pledgesOf_b4 a1 n) ih m4 b2 b3
      · refine k_aload_n C 0 dX3_pledgesOf_24 rfl rfl (pc' := 25) rfl ?_
        refine k_getf C 4 (c1 Γ M i m4 0 (e_mill Γ hi (m4 0))) (v_i hi (by decide)) flX3_43 (v := .ref (Γ.1 i 5)) rfl dX3_pledgesOf_25 (pc' := 28) rfl ?_
        refine k_iload_n C 3 dX3_pledgesOf_28 rfl rfl (pc' := 29) rfl ?_
        refine k_aald C 4 (c1 Γ M i m4 5 (e_sacks Γ hi (m4 5))) (v_i hi (by decide)) rfl (b := Γ.1 i (20 + b3.toNatClampNeg)) rfl dX3_pledgesOf_29 (pc' := 30) rfl (fun h7 => ?_)
        refine k_iload_n C 1 dX3_pledgesOf_30 rfl rfl (pc' := 31) rfl ?_
        refine k_iconst C (v := (-1)) dX3_pledgesOf_31 (by decide) (pc' := 32) rfl ?_
        refine k_callVi C (rest := []) (qX5_isOf l Γ hL M i hi m4 ((20 + b3.toNatClampNeg)) a1 (-1) (j_sack h7)) mwX5_isOf iwX5_isOf mlX3_182 (k_rm_of (by decide) (by decide)) (c1 Γ M i m4 (20 + b3.toNatClampNeg) (e_sack Γ hi (j_sack h7) (m4 (20 + b3.toNatClampNeg)))) (v_i hi (h_sack (j_sack h7))) rfl rfl rfl (Nat.le_of_ble_eq_true rfl) dX3_pledgesOf_32 (pc' := 35) rfl (fun r8 m9 => ?_)
        refine k_if_eq C (tgt := 41) dX3_pledgesOf_35 (by decide) (pc' := 38) rfl (fun h10 => ?_) (fun h10 => ?_)
        · exact sX3_pledgesOf_b41 hL hi C hr a1 (fX3_pledgesOf_b4 a1 n) ih m9 b2 b3
        · refine k_iinc (v := 1) (q := 2) (lv' := [(0, .ref (Γ.1 i 0)), (1, .int a1), (3, .int b3)]) C dX3_pledgesOf_38 rfl (by decide) (by decide) (pc' := 41) rfl (fun _ => rfl) (fun v11 => ?_)
          refine k_sub [1, 2, 0, 3] rfl ?_
          exact sX3_pledgesOf_b41 hL hi C hr a1 (fX3_pledgesOf_b4 a1 n) ih m9 v11 b3
def fX3_pledgesOf (m0 : kM1) (a1 : Int32) : Option (Int32 × kM1) :=
  fX3_pledgesOf_b4 a1 kFu m0 0 0
set_option maxRecDepth 100000 in
set_option maxHeartbeats 4000000 in
theorem qX3_pledgesOf (l : Launch) (Γ : kG) (hL : k_Lay Γ 314) (M : kM2) (i : Nat) (hi : i < 7) (m0 : kM1) (a1 : Int32) : CT l Γ (K1 Γ M i) yX3_pledgesOf cX3_pledgesOf 4 (some .int) (k_R 1) [.ref (Γ.1 i 0), .int a1] m0 (fX3_pledgesOf m0 a1) := by
  refine k_meth (own := RX3) (by decide) rfl (Nat.le_of_ble_eq_true rfl) (fun p e R s mid args below meth c C hr => ?_)
  show Sm Γ (K1 Γ M i) p l e R s mid args below meth c 4 (jM true Γ (K1 Γ M i) below args s) m0 [(0, .ref (Γ.1 i 0)), (1, .int a1)] [] 0 (fX3_pledgesOf m0 a1)
  unfold fX3_pledgesOf
  refine k_iconst C (v := 0) dX3_pledgesOf_0 (by decide) (pc' := 1) rfl ?_
  refine k_istore_n C (lv' := [(2, .int 0), (0, .ref (Γ.1 i 0)), (1, .int a1)]) dX3_pledgesOf_1 rfl (by decide) rfl (pc' := 2) rfl ?_
  refine k_iconst C (v := 0) dX3_pledgesOf_2 (by decide) (pc' := 3) rfl ?_
  refine k_istore_n C (lv' := [(3, .int 0), (2, .int 0), (0, .ref (Γ.1 i 0)), (1, .int a1)]) dX3_pledgesOf_3 rfl (by decide) rfl (pc' := 4) rfl ?_
  refine k_sub [2, 3, 1, 0] rfl ?_
  exact sX3_pledgesOf_b4 hL hi C hr a1 kFu m0 0 0
def fX3_tellFarmer (m0 : kM1) (a1 : Int32) (a2 : Int32) : Option (Int32 × kM1) :=
  if a2 = 0 then if ¬ a1 < 0 ∧ a1.toNatClampNeg < 8 then some (m0 (12 + a1.toNatClampNeg) 0, m0) else none else if a2 = 1 then bd (fX3_sacksBrought m0 a1 (-1)) fun r4 m5 => some (r4, m5) else if a2 = 2 then if ¬ a1 < 0 ∧ a1.toNatClampNeg < 8 then some (m0 (12 + a1.toNatClampNeg) 1, m0) else none else if a2 = 3 then bd (fX3_pledgesOf m0 a1) fun r9 m10 => some (r9, m10) else if a2 = 4 then bd (fX3_sumOf m0 a1 (-1) 5) fun r12 m13 => some (r12, m13) else bd (fX3_sumOf m0 a1 (-1) 10) fun r14 m15 => some (r14, m15)
set_option maxRecDepth 100000 in
set_option maxHeartbeats 4000000 in
theorem qX3_tellFarmer (l : Launch) (Γ : kG) (hL : k_Lay Γ 314) (M : kM2) (i : Nat) (hi : i < 7) (m0 : kM1) (a1 : Int32) (a2 : Int32) : CT l Γ (K1 Γ M i) yX3_tellFarmer cX3_tellFarmer 3 (some .int) (k_R 3) [.ref (Γ.1 i 0), .int a1, .int a2] m0 (fX3_tellFarmer m0 a1 a2) := by
  refine k_meth (own := RX3) (by decide) rfl (Nat.le_of_ble_eq_true rfl) (fun p e R s mid args below meth c C hr => ?_)
  show Sm Γ (K1 Γ M i) p l e R s mid args below meth c 3 (jM true Γ (K1 Γ M i) below args s) m0 [(0, .ref (Γ.1 i 0)), (1, .int a1), (2, .int a2)] [] 0 (fX3_tellFarmer m0 a1 a2)
  unfold fX3_tellFarmer
  refine k_iload_n C 2 dX3_tellFarmer_0 rfl rfl (pc' := 1) rfl ?_
  refine k_ite (fun h1 => ?_) (fun h1 => ?_)
  · refine k_tswIn C (35) dX3_tellFarmer_1 h1 (by decide) (by decide) rfl (pc' := 36) (by decide) ?_
    refine k_aload_n C 0 dX3_tellFarmer_36 rfl rfl (pc' := 37) rfl ?_
    refine k_getf C 3 (c1 Γ M i m0 0 (e_mill Γ hi (m0 0))) (v_i hi (by decide)) flX3_37 (v := .ref (Γ.1 i 4)) rfl dX3_tellFarmer_37 (pc' := 40) rfl ?_
    refine k_iload_n C 1 dX3_tellFarmer_40 rfl rfl (pc' := 41) rfl ?_
    refine k_aald C 3 (c1 Γ M i m0 4 (e_farmers Γ hi (m0 4))) (v_i hi (by decide)) rfl (b := Γ.1 i (12 + a1.toNatClampNeg)) rfl dX3_tellFarmer_41 (pc' := 42) rfl (fun h2 => ?_)
    refine k_getf C 0 (c1 Γ M i m0 (12 + a1.toNatClampNeg) (e_farmer Γ hi (j_farmer h2) (m0 (12 + a1.toNatClampNeg)))) (v_i hi (h_farmer (j_farmer h2))) flX3_132 (v := .int (m0 (12 + a1.toNatClampNeg) 0)) rfl dX3_tellFarmer_42 (pc' := 45) rfl ?_
    exact k_reti C rfl hr dX3_tellFarmer_45
  refine k_ite (fun h3 => ?_) (fun h3 => ?_)
  · refine k_tswIn C (45) dX3_tellFarmer_1 h3 (by decide) (by decide) rfl (pc' := 46) (by decide) ?_
    refine k_aload_n C 0 dX3_tellFarmer_46 rfl rfl (pc' := 47) rfl ?_
    refine k_iload_n C 1 dX3_tellFarmer_47 rfl rfl (pc' := 48) rfl ?_
    refine k_iconst C (v := (-1)) dX3_tellFarmer_48 (by decide) (pc' := 49) rfl ?_
    refine k_callVi C (rest := []) (qX3_sacksBrought l Γ hL M i hi m0 a1 (-1)) mwX3_sacksBrought iwX3_sacksBrought mlX3_170 (k_rm_of (by decide) (by decide)) (c1 Γ M i m0 0 (e_mill Γ hi (m0 0))) (v_i hi (by decide)) rfl rfl rfl (Nat.le_of_ble_eq_true rfl) dX3_tellFarmer_49 (pc' := 52) rfl (fun r4 m5 => ?_)
    exact k_reti C rfl hr dX3_tellFarmer_52
  refine k_ite (fun h6 => ?_) (fun h6 => ?_)
  · refine k_tswIn C (52) dX3_tellFarmer_1 h6 (by decide) (by decide) rfl (pc' := 53) (by decide) ?_
    refine k_aload_n C 0 dX3_tellFarmer_53 rfl rfl (pc' := 54) rfl ?_
    refine k_getf C 3 (c1 Γ M i m0 0 (e_mill Γ hi (m0 0))) (v_i hi (by decide)) flX3_37 (v := .ref (Γ.1 i 4)) rfl dX3_tellFarmer_54 (pc' := 57) rfl ?_
    refine k_iload_n C 1 dX3_tellFarmer_57 rfl rfl (pc' := 58) rfl ?_
    refine k_aald C 3 (c1 Γ M i m0 4 (e_farmers Γ hi (m0 4))) (v_i hi (by decide)) rfl (b := Γ.1 i (12 + a1.toNatClampNeg)) rfl dX3_tellFarmer_58 (pc' := 59) rfl (fun h7 => ?_)
    refine k_getf C 1 (c1 Γ M i m0 (12 + a1.toNatClampNeg) (e_farmer Γ hi (j_farmer h7) (m0 (12 + a1.toNatClampNeg)))) (v_i hi (h_farmer (j_farmer h7))) flX3_135 (v := .int (m0 (12 + a1.toNatClampNeg) 1)) rfl dX3_tellFarmer_59 (pc' := 62) rfl ?_
    exact k_reti C rfl hr dX3_tellFarmer_62
  refine k_ite (fun h8 => ?_) (fun h8 => ?_)
  · refine k_tswIn C (62) dX3_tellFarmer_1 h8 (by decide) (by decide) rfl (pc' := 63) (by decide) ?_
    refine k_aload_n C 0 dX3_tellFarmer_63 rfl rfl (pc' := 64) rfl ?_
    refine k_iload_n C 1 dX3_tellFarmer_64 rfl rfl (pc' := 65) rfl ?_
    refine k_callVi C (rest := []) (qX3_pledgesOf l Γ hL M i hi m0 a1) mwX3_pledgesOf iwX3_pledgesOf mlX3_178 (k_rm_of (by decide) (by decide)) (c1 Γ M i m0 0 (e_mill Γ hi (m0 0))) (v_i hi (by decide)) rfl rfl rfl (Nat.le_of_ble_eq_true rfl) dX3_tellFarmer_65 (pc' := 68) rfl (fun r9 m10 => ?_)
    exact k_reti C rfl hr dX3_tellFarmer_68
  refine k_ite (fun h11 => ?_) (fun h11 => ?_)
  · refine k_tswIn C (68) dX3_tellFarmer_1 h11 (by decide) (by decide) rfl (pc' := 69) (by decide) ?_
    refine k_aload_n C 0 dX3_tellFarmer_69 rfl rfl (pc' := 70) rfl ?_
    refine k_iload_n C 1 dX3_tellFarmer_70 rfl rfl (pc' := 71) rfl ?_
    refine k_iconst C (v := (-1)) dX3_tellFarmer_71 (by decide) (pc' := 72) rfl ?_
    refine k_iconst C (v := 5) dX3_tellFarmer_72 (by decide) (pc' := 73) rfl ?_
    refine k_callVi C (rest := []) (qX3_sumOf l Γ hL M i hi m0 a1 (-1) 5) mwX3_sumOf iwX3_sumOf mlX3_174 (k_rm_of (by decide) (by decide)) (c1 Γ M i m0 0 (e_mill Γ hi (m0 0))) (v_i hi (by decide)) rfl rfl rfl (Nat.le_of_ble_eq_true rfl) dX3_tellFarmer_73 (pc' := 76) rfl (fun r12 m13 => ?_)
    exact k_reti C rfl hr dX3_tellFarmer_76
  refine k_tswOut C dX3_tellFarmer_1 (by have z0 := lv_neT h1 (show (0 : Int32).toInt = 0 by decide); have z1 := lv_neT h3 (show (1 : Int32).toInt = 1 by decide); have z2 := lv_neT h6 (show (2 : Int32).toInt = 2 by decide); have z3 := lv_neT h8 (show (3 : Int32).toInt = 3 by decide); have z4 := lv_neT h11 (show (4 : Int32).toInt = 4 by decide); omega) (pc' := 77) (by decide) ?_
  refine k_aload_n C 0 dX3_tellFarmer_77 rfl rfl (pc' := 78) rfl ?_
  refine k_iload_n C 1 dX3_tellFarmer_78 rfl rfl (pc' := 79) rfl ?_
  refine k_iconst C (v := (-1)) dX3_tellFarmer_79 (by decide) (pc' := 80) rfl ?_
  refine k_bipush C (v := 10) dX3_tellFarmer_80 (by decide) (pc' := 82) rfl ?_
  refine k_callVi C (rest := []) (qX3_sumOf l Γ hL M i hi m0 a1 (-1) 10) mwX3_sumOf iwX3_sumOf mlX3_174 (k_rm_of (by decide) (by decide)) (c1 Γ M i m0 0 (e_mill Γ hi (m0 0))) (v_i hi (by decide)) rfl rfl rfl (Nat.le_of_ble_eq_true rfl) dX3_tellFarmer_82 (pc' := 85) rfl (fun r14 m15 => ?_)
  exact k_reti C rfl hr dX3_tellFarmer_85
def fX3_sacksInStage_b28 (a1 : Int32) (rec4 : kM1 → Int32 → Int32 → Option (Int32 × kM1)) (m0 : kM1) (b2 : Int32) (b3 : Int32) : Option (Int32 × kM1) :=
  k_let (b3 + 1) fun v4 => rec4 m0 b2 v4
set_option maxRecDepth 100000 in
set_option maxHeartbeats 4000000 in
theorem sX3_sacksInStage_b28 {l : Launch} {Γ : kG} (hL : k_Lay Γ 314) {M : kM2} {i : Nat} (hi : i < 7) {p : Program} {e : Env} {R : Room} {s : State} {mid : MethodId} {args : Array Value} {below : List Frame} {meth : Method} {c : Code} (C : k_C Γ p R s mid args meth c cX3_sacksInStage 4 RX3 (k_R 0)) (hr : meth.sig.returnType = (some .int)) (a1 : Int32) (rec4 : kM1 → Int32 → Int32 → Option (Int32 × kM1)) (hrec4 : ∀ (m0 : kM1) (b2 : Int32) (b3 : Int32), Sm Γ (K1 Γ M i) p l e R s mid args below meth c 4 (jM true Γ (K1 Γ M i) below args s) m0 [(0, .ref (Γ.1 i 0)), (1, .int a1), (2, .int b2), (3, .int b3)] [] 4 (rec4 m0 b2 b3)) (m0 : kM1) (b2 : Int32) (b3 : Int32)  : Sm Γ (K1 Γ M i) p l e R s mid args below meth c 4 (jM true Γ (K1 Γ M i) below args s) m0 [(0, .ref (Γ.1 i 0)), (1, .int a1), (2, .int b2), (3, .int b3)] [] 28 (fX3_sacksInStage_b28 a1 rec4 m0 b2 b3) := by
  unfold fX3_sacksInStage_b28
  refine k_iinc (v := 1) (q := 3) (lv' := [(0, .ref (Γ.1 i 0)), (1, .int a1), (2, .int b2)]) C dX3_sacksInStage_28 rfl (by decide) (by decide) (pc' := 31) rfl (fun _ => rfl) (fun v4 => ?_)
  refine k_goto C (pc' := 4) dX3_sacksInStage_31 (by decide) ?_
  refine k_sub [1, 2, 3, 0] rfl ?_
  exact hrec4 m0 b2 v4
def fX3_sacksInStage_b4 (a1 : Int32) : Nat → kM1 → Int32 → Int32 → Option (Int32 × kM1)
  | 0, _, _, _ => none
  | n + 1, m0, b2, b3 =>
  if (m0 0 7) ≤ b3 then some (b2, m0) else if ¬ b3 < 0 ∧ b3.toNatClampNeg < 24 then if (m0 (20 + b3.toNatClampNeg) 6) = a1 then k_let (b2 + 1) fun v5 => fX3_sacksInStage_b28 a1 (fX3_sacksInStage_b4 a1 n) m0 v5 b3 else fX3_sacksInStage_b28 a1 (fX3_sacksInStage_b4 a1 n) m0 b2 b3 else none
set_option maxRecDepth 100000 in
set_option maxHeartbeats 4000000 in
theorem sX3_sacksInStage_b4 {l : Launch} {Γ : kG} (hL : k_Lay Γ 314) {M : kM2} {i : Nat} (hi : i < 7) {p : Program} {e : Env} {R : Room} {s : State} {mid : MethodId} {args : Array Value} {below : List Frame} {meth : Method} {c : Code} (C : k_C Γ p R s mid args meth c cX3_sacksInStage 4 RX3 (k_R 0)) (hr : meth.sig.returnType = (some .int)) (a1 : Int32)  (n : Nat) : ∀ (m0 : kM1) (b2 : Int32) (b3 : Int32), Sm Γ (K1 Γ M i) p l e R s mid args below meth c 4 (jM true Γ (K1 Γ M i) below args s) m0 [(0, .ref (Γ.1 i 0)), (1, .int a1), (2, .int b2), (3, .int b3)] [] 4 (fX3_sacksInStage_b4 a1 n m0 b2 b3) := by
  induction n with
  | zero => intros; exact k_none
  | succ n ih =>
    intro m0 b2 b3
    unfold fX3_sacksInStage_b4
    refine k_iload_n C 3 dX3_sacksInStage_4 rfl rfl (pc' := 5) rfl ?_
    refine k_aload_n C 0 dX3_sacksInStage_5 rfl rfl (pc' := 6) rfl ?_
    refine k_getf C 7 (c1 Γ M i m0 0 (e_mill Γ hi (m0 0))) (v_i hi (by decide)) flX3_97 (v := .int (m0 0 7)) rfl dX3_sacksInStage_6 (pc' := 9) rfl ?_
    refine k_ic_ge C (tgt := 34) dX3_sacksInStage_9 (by decide) (pc' := 12) rfl (fun h1 => ?_) (fun h1 => ?_)
    · refine k_iload_n C 2 dX3_sacksInStage_34 rfl rfl (pc' := 35) rfl ?_
      exact k_reti C rfl hr dX3_sacksInStage_35
    · refine k_aload_n C 0 dX3_sacksInStage_12 rfl rfl (pc' := 13) rfl ?_
      refine k_getf C 4 (c1 Γ M i m0 0 (e_mill Γ hi (m0 0))) (v_i hi (by decide)) flX3_43 (v := .ref (Γ.1 i 5)) rfl dX3_sacksInStage_13 (pc' := 16) rfl ?_
      refine k_iload_n C 3 dX3_sacksInStage_16 rfl rfl (pc' := 17) rfl ?_
      refine k_aald C 4 (c1 Γ M i m0 5 (e_sacks Γ hi (m0 5))) (v_i hi (by decide)) rfl (b := Γ.1 i (20 + b3.toNatClampNeg)) rfl dX3_sacksInStage_17 (pc' := 18) rfl (fun h2 => ?_)
      refine k_getf C 6 (c1 Γ M i m0 (20 + b3.toNatClampNeg) (e_sack Γ hi (j_sack h2) (m0 (20 + b3.toNatClampNeg)))) (v_i hi (h_sack (j_sack h2))) flX3_152 (v := .int (m0 (20 + b3.toNatClampNeg) 6)) rfl dX3_sacksInStage_18 (pc' := 21) rfl ?_
      refine k_iload_n C 1 dX3_sacksInStage_21 rfl rfl (pc' := 22) rfl ?_
      refine k_ic_ne C (tgt := 28) dX3_sacksInStage_22 (by decide) (pc' := 25) rfl (fun h3 => ?_) (fun h3 => ?_)
      · exact sX3_sacksInStage_b28 hL hi C hr a1 (fX3_sacksInStage_b4 a1 n) ih m0 b2 b3
      · refine k_iinc (v := 1) (q := 2) (lv' := [(0, .ref (Γ.1 i 0)), (1, .int a1), (3, .int b3)]) C dX3_sacksInStage_25 rfl (by decide) (by decide) (pc' := 28) rfl (fun _ => rfl) (fun v5 => ?_)
        refine k_sub [1, 2, 0, 3] rfl ?_
        exact sX3_sacksInStage_b28 hL hi C hr a1 (fX3_sacksInStage_b4 a1 n) ih m0 v5 b3
def fX3_sacksInStage (m0 : kM1) (a1 : Int32) : Option (Int32 × kM1) :=
  fX3_sacksInStage_b4 a1 kFu m0 0 0
set_option maxRecDepth 100000 in
set_option maxHeartbeats 4000000 in
theorem qX3_sacksInStage (l : Launch) (Γ : kG) (hL : k_Lay Γ 314) (M : kM2) (i : Nat) (hi : i < 7) (m0 : kM1) (a1 : Int32) : CT l Γ (K1 Γ M i) yX3_sacksInStage cX3_sacksInStage 4 (some .int) (k_R 0) [.ref (Γ.1 i 0), .int a1] m0 (fX3_sacksInStage m0 a1) := by
  refine k_meth (own := RX3) (by decide) rfl (Nat.le_of_ble_eq_true rfl) (fun p e R s mid args below meth c C hr => ?_)
  show Sm Γ (K1 Γ M i) p l e R s mid args below meth c 4 (jM true Γ (K1 Γ M i) below args s) m0 [(0, .ref (Γ.1 i 0)), (1, .int a1)] [] 0 (fX3_sacksInStage m0 a1)
  unfold fX3_sacksInStage
  refine k_iconst C (v := 0) dX3_sacksInStage_0 (by decide) (pc' := 1) rfl ?_
  refine k_istore_n C (lv' := [(2, .int 0), (0, .ref (Γ.1 i 0)), (1, .int a1)]) dX3_sacksInStage_1 rfl (by decide) rfl (pc' := 2) rfl ?_
  refine k_iconst C (v := 0) dX3_sacksInStage_2 (by decide) (pc' := 3) rfl ?_
  refine k_istore_n C (lv' := [(3, .int 0), (2, .int 0), (0, .ref (Γ.1 i 0)), (1, .int a1)]) dX3_sacksInStage_3 rfl (by decide) rfl (pc' := 4) rfl ?_
  refine k_sub [2, 3, 1, 0] rfl ?_
  exact sX3_sacksInStage_b4 hL hi C hr a1 kFu m0 0 0
def fX3_rankInQueue (m0 : kM1) (j1 : Nat) : Option (Int32 × kM1) :=
  if (m0 1 12) = 1 then some (m0 j1 5, m0) else if (m0 1 12) = 2 then bd (fX3_hasFarmer m0 (m0 j1 0)) fun r4 m5 => if r4 = 0 then some (0, m5) else if ¬ (m5 j1 0) < 0 ∧ (m5 j1 0).toNatClampNeg < 8 then some (m5 (12 + (m5 j1 0).toNatClampNeg) 1, m5) else none else if (m0 1 12) = 3 then if (m0 j1 1) = (m0 0 13) then some (0, m0) else some (m0 j1 2, m0) else some (0, m0)
set_option maxRecDepth 100000 in
set_option maxHeartbeats 4000000 in
theorem qX3_rankInQueue (l : Launch) (Γ : kG) (hL : k_Lay Γ 314) (M : kM2) (i : Nat) (hi : i < 7) (m0 : kM1) (j1 : Nat) (hj1 : 20 ≤ j1 ∧ j1 < 44) : CT l Γ (K1 Γ M i) yX3_rankInQueue cX3_rankInQueue 2 (some .int) (k_R 1) [.ref (Γ.1 i 0), .ref (Γ.1 i j1)] m0 (fX3_rankInQueue m0 j1) := by
  refine k_meth (own := RX3) (by decide) rfl (Nat.le_of_ble_eq_true rfl) (fun p e R s mid args below meth c C hr => ?_)
  show Sm Γ (K1 Γ M i) p l e R s mid args below meth c 2 (jM true Γ (K1 Γ M i) below args s) m0 [(0, .ref (Γ.1 i 0)), (1, .ref (Γ.1 i j1))] [] 0 (fX3_rankInQueue m0 j1)
  unfold fX3_rankInQueue
  refine k_aload_n C 0 dX3_rankInQueue_0 rfl rfl (pc' := 1) rfl ?_
  refine k_getf C 0 (c1 Γ M i m0 0 (e_mill Γ hi (m0 0))) (v_i hi (by decide)) flX3_18 (v := .ref (Γ.1 i 1)) rfl dX3_rankInQueue_1 (pc' := 4) rfl ?_
  refine k_bipush C (v := 12) dX3_rankInQueue_4 (by decide) (pc' := 6) rfl ?_
  refine k_ialdK C (n0 := 12) (c1 Γ M i m0 1 (e_sets Γ hi (m0 1))) (v_i hi (by decide)) (by decide) (by decide) dX3_rankInQueue_6 (pc' := 7) rfl ?_
  refine k_ite (fun h2 => ?_) (fun h2 => ?_)
  · refine k_tswIn C (25) dX3_rankInQueue_7 h2 (by decide) (by decide) rfl (pc' := 32) (by decide) ?_
    refine k_aload_n C 1 dX3_rankInQueue_32 rfl rfl (pc' := 33) rfl ?_
    refine k_getf C 5 (c1 Γ M i m0 j1 (e_sack Γ hi hj1 (m0 j1))) (v_i hi (h_sack hj1)) flX3_200 (v := .int (m0 j1 5)) rfl dX3_rankInQueue_33 (pc' := 36) rfl ?_
    exact k_reti C rfl hr dX3_rankInQueue_36
  refine k_ite (fun h3 => ?_) (fun h3 => ?_)
  · refine k_tswIn C (30) dX3_rankInQueue_7 h3 (by decide) (by decide) rfl (pc' := 37) (by decide) ?_
    refine k_aload_n C 0 dX3_rankInQueue_37 rfl rfl (pc' := 38) rfl ?_
    refine k_aload_n C 1 dX3_rankInQueue_38 rfl rfl (pc' := 39) rfl ?_
    refine k_getf C 0 (c1 Γ M i m0 j1 (e_sack Γ hi hj1 (m0 j1))) (v_i hi (h_sack hj1)) flX3_203 (v := .int (m0 j1 0)) rfl dX3_rankInQueue_39 (pc' := 42) rfl ?_
    refine k_callVi C (rest := []) (qX3_hasFarmer l Γ hL M i hi m0 (m0 j1 0)) mwX3_hasFarmer iwX3_hasFarmer mlX3_138 (k_rm_of (by decide) (by decide)) (c1 Γ M i m0 0 (e_mill Γ hi (m0 0))) (v_i hi (by decide)) rfl rfl rfl (Nat.le_of_ble_eq_true rfl) dX3_rankInQueue_42 (pc' := 45) rfl (fun r4 m5 => ?_)
    refine k_if_eq C (tgt := 63) dX3_rankInQueue_45 (by decide) (pc' := 48) rfl (fun h6 => ?_) (fun h6 => ?_)
    · refine k_iconst C (v := 0) dX3_rankInQueue_63 (by decide) (pc' := 64) rfl ?_
      exact k_reti C rfl hr dX3_rankInQueue_64
    · refine k_aload_n C 0 dX3_rankInQueue_48 rfl rfl (pc' := 49) rfl ?_
      refine k_getf C 3 (c1 Γ M i m5 0 (e_mill Γ hi (m5 0))) (v_i hi (by decide)) flX3_37 (v := .ref (Γ.1 i 4)) rfl dX3_rankInQueue_49 (pc' := 52) rfl ?_
      refine k_aload_n C 1 dX3_rankInQueue_52 rfl rfl (pc' := 53) rfl ?_
      refine k_getf C 0 (c1 Γ M i m5 j1 (e_sack Γ hi hj1 (m5 j1))) (v_i hi (h_sack hj1)) flX3_203 (v := .int (m5 j1 0)) rfl dX3_rankInQueue_53 (pc' := 56) rfl ?_
      refine k_aald C 3 (c1 Γ M i m5 4 (e_farmers Γ hi (m5 4))) (v_i hi (by decide)) rfl (b := Γ.1 i (12 + (m5 j1 0).toNatClampNeg)) rfl dX3_rankInQueue_56 (pc' := 57) rfl (fun h7 => ?_)
      refine k_getf C 1 (c1 Γ M i m5 (12 + (m5 j1 0).toNatClampNeg) (e_farmer Γ hi (j_farmer h7) (m5 (12 + (m5 j1 0).toNatClampNeg)))) (v_i hi (h_farmer (j_farmer h7))) flX3_135 (v := .int (m5 (12 + (m5 j1 0).toNatClampNeg) 1)) rfl dX3_rankInQueue_57 (pc' := 60) rfl ?_
      refine k_goto C (pc' := 64) dX3_rankInQueue_60 (by decide) ?_
      exact k_reti C rfl hr dX3_rankInQueue_64
  refine k_ite (fun h8 => ?_) (fun h8 => ?_)
  · refine k_tswIn C (58) dX3_rankInQueue_7 h8 (by decide) (by decide) rfl (pc' := 65) (by decide) ?_
    refine k_aload_n C 1 dX3_rankInQueue_65 rfl rfl (pc' := 66) rfl ?_
    refine k_getf C 1 (c1 Γ M i m0 j1 (e_sack Γ hi hj1 (m0 j1))) (v_i hi (h_sack hj1)) flX3_206 (v := .int (m0 j1 1)) rfl dX3_rankInQueue_66 (pc' := 69) rfl ?_
    refine k_aload_n C 0 dX3_rankInQueue_69 rfl rfl (pc' := 70) rfl ?_
    refine k_getf C 13 (c1 Γ M i m0 0 (e_mill Γ hi (m0 0))) (v_i hi (by decide)) flX3_51 (v := .int (m0 0 13)) rfl dX3_rankInQueue_70 (pc' := 73) rfl ?_
    refine k_ic_ne C (tgt := 80) dX3_rankInQueue_73 (by decide) (pc' := 76) rfl (fun h9 => ?_) (fun h9 => ?_)
    · refine k_aload_n C 1 dX3_rankInQueue_80 rfl rfl (pc' := 81) rfl ?_
      refine k_getf C 2 (c1 Γ M i m0 j1 (e_sack Γ hi hj1 (m0 j1))) (v_i hi (h_sack hj1)) flX3_209 (v := .int (m0 j1 2)) rfl dX3_rankInQueue_81 (pc' := 84) rfl ?_
      exact k_reti C rfl hr dX3_rankInQueue_84
    · refine k_iconst C (v := 0) dX3_rankInQueue_76 (by decide) (pc' := 77) rfl ?_
      refine k_goto C (pc' := 84) dX3_rankInQueue_77 (by decide) ?_
      exact k_reti C rfl hr dX3_rankInQueue_84
  refine k_tswOut C dX3_rankInQueue_7 (by have z0 := lv_neT h2 (show (1 : Int32).toInt = 1 by decide); have z1 := lv_neT h3 (show (2 : Int32).toInt = 2 by decide); have z2 := lv_neT h8 (show (3 : Int32).toInt = 3 by decide); omega) (pc' := 85) (by decide) ?_
  refine k_iconst C (v := 0) dX3_rankInQueue_85 (by decide) (pc' := 86) rfl ?_
  exact k_reti C rfl hr dX3_rankInQueue_86
def fX3_waitsAheadOf_b40 (a1 : Int32) (a2 : Int32)  (m0 : kM1) : Option (Int32 × kM1) :=
  some (1, m0)
set_option maxRecDepth 100000 in
set_option maxHeartbeats 4000000 in
theorem sX3_waitsAheadOf_b40 {l : Launch} {Γ : kG} (hL : k_Lay Γ 314) {M : kM2} {i : Nat} (hi : i < 7) {p : Program} {e : Env} {R : Room} {s : State} {mid : MethodId} {args : Array Value} {below : List Frame} {meth : Method} {c : Code} (C : k_C Γ p R s mid args meth c cX3_waitsAheadOf 5 RX3 (k_R 2)) (hr : meth.sig.returnType = (some .boolean)) (a1 : Int32) (a2 : Int32)  (m0 : kM1)   : Sm Γ (K1 Γ M i) p l e R s mid args below meth c 5 (jM true Γ (K1 Γ M i) below args s) m0 [] [] 40 (fX3_waitsAheadOf_b40 a1 a2 m0) := by
  unfold fX3_waitsAheadOf_b40
  refine k_iconst C (v := 1) dX3_waitsAheadOf_40 (by decide) (pc' := 41) rfl ?_
  refine k_goto C (pc' := 45) dX3_waitsAheadOf_41 (by decide) ?_
  exact k_retz C rfl hr (Or.inr rfl) dX3_waitsAheadOf_45
def fX3_waitsAheadOf (m0 : kM1) (a1 : Int32) (a2 : Int32) : Option (Int32 × kM1) :=
  if ¬ a1 < 0 ∧ a1.toNatClampNeg < 24 then bd (fX3_rankInQueue m0 ((20 + a1.toNatClampNeg))) fun r2 m3 => if ¬ a2 < 0 ∧ a2.toNatClampNeg < 24 then bd (fX3_rankInQueue m3 ((20 + a2.toNatClampNeg))) fun r5 m6 => if r2 < r5 then fX3_waitsAheadOf_b40 a1 a2 m6 else if r2 = r5 then if a2 ≤ a1 then some (0, m6) else fX3_waitsAheadOf_b40 a1 a2 m6 else some (0, m6) else none else none
set_option maxRecDepth 100000 in
set_option maxHeartbeats 4000000 in
theorem qX3_waitsAheadOf (l : Launch) (Γ : kG) (hL : k_Lay Γ 314) (M : kM2) (i : Nat) (hi : i < 7) (m0 : kM1) (a1 : Int32) (a2 : Int32) : CT l Γ (K1 Γ M i) yX3_waitsAheadOf cX3_waitsAheadOf 5 (some .boolean) (k_R 2) [.ref (Γ.1 i 0), .int a1, .int a2] m0 (fX3_waitsAheadOf m0 a1 a2) := by
  refine k_meth (own := RX3) (by decide) rfl (Nat.le_of_ble_eq_true rfl) (fun p e R s mid args below meth c C hr => ?_)
  show Sm Γ (K1 Γ M i) p l e R s mid args below meth c 5 (jM true Γ (K1 Γ M i) below args s) m0 [(0, .ref (Γ.1 i 0)), (1, .int a1), (2, .int a2)] [] 0 (fX3_waitsAheadOf m0 a1 a2)
  unfold fX3_waitsAheadOf
  refine k_aload_n C 0 dX3_waitsAheadOf_0 rfl rfl (pc' := 1) rfl ?_
  refine k_aload_n C 0 dX3_waitsAheadOf_1 rfl rfl (pc' := 2) rfl ?_
  refine k_getf C 4 (c1 Γ M i m0 0 (e_mill Γ hi (m0 0))) (v_i hi (by decide)) flX3_43 (v := .ref (Γ.1 i 5)) rfl dX3_waitsAheadOf_2 (pc' := 5) rfl ?_
  refine k_iload_n C 1 dX3_waitsAheadOf_5 rfl rfl (pc' := 6) rfl ?_
  refine k_aald C 4 (c1 Γ M i m0 5 (e_sacks Γ hi (m0 5))) (v_i hi (by decide)) rfl (b := Γ.1 i (20 + a1.toNatClampNeg)) rfl dX3_waitsAheadOf_6 (pc' := 7) rfl (fun h1 => ?_)
  refine k_callVi C (rest := []) (qX3_rankInQueue l Γ hL M i hi m0 ((20 + a1.toNatClampNeg)) (j_sack h1)) mwX3_rankInQueue iwX3_rankInQueue mlX3_196 (k_rm_of (by decide) (by decide)) (c1 Γ M i m0 0 (e_mill Γ hi (m0 0))) (v_i hi (by decide)) rfl rfl rfl (Nat.le_of_ble_eq_true rfl) dX3_waitsAheadOf_7 (pc' := 10) rfl (fun r2 m3 => ?_)
  refine k_istore_n C (lv' := [(3, .int r2), (0, .ref (Γ.1 i 0)), (1, .int a1), (2, .int a2)]) dX3_waitsAheadOf_10 rfl (by decide) rfl (pc' := 11) rfl ?_
  refine k_aload_n C 1 dX3_waitsAheadOf_11 rfl rfl (pc' := 12) rfl ?_
  refine k_aload_n C 1 dX3_waitsAheadOf_12 rfl rfl (pc' := 13) rfl ?_
  refine k_getf C 4 (c1 Γ M i m3 0 (e_mill Γ hi (m3 0))) (v_i hi (by decide)) flX3_43 (v := .ref (Γ.1 i 5)) rfl dX3_waitsAheadOf_13 (pc' := 16) rfl ?_
  refine k_iload_n C 3 dX3_waitsAheadOf_16 rfl rfl (pc' := 17) rfl ?_
  refine k_aald C 4 (c1 Γ M i m3 5 (e_sacks Γ hi (m3 5))) (v_i hi (by decide)) rfl (b := Γ.1 i (20 + a2.toNatClampNeg)) rfl dX3_waitsAheadOf_17 (pc' := 18) rfl (fun h4 => ?_)
  refine k_callVi C (rest := []) (qX3_rankInQueue l Γ hL M i hi m3 ((20 + a2.toNatClampNeg)) (j_sack h4)) mwX3_rankInQueue iwX3_rankInQueue mlX3_196 (k_rm_of (by decide) (by decide)) (c1 Γ M i m3 0 (e_mill Γ hi (m3 0))) (v_i hi (by decide)) rfl rfl rfl (Nat.le_of_ble_eq_true rfl) dX3_waitsAheadOf_18 (pc' := 21) rfl (fun r5 m6 => ?_)
  refine k_istore C (lv' := [(4, .int r5), (3, .int r2), (0, .ref (Γ.1 i 0)), (1, .int a1), (2, .int a2)]) dX3_waitsAheadOf_21 (by decide) rfl (pc' := 23) rfl ?_
  refine k_iload_n C 1 dX3_waitsAheadOf_23 rfl rfl (pc' := 24) rfl ?_
  refine k_iload C 0 dX3_waitsAheadOf_24 rfl (pc' := 26) rfl ?_
  refine k_ic_lt C (tgt := 40) dX3_waitsAheadOf_26 (by decide) (pc' := 29) rfl (fun h7 => ?_) (fun h7 => ?_)
  · refine k_sub [] rfl ?_
    exact sX3_waitsAheadOf_b40 hL hi C hr a1 a2 m6
  · refine k_iload_n C 1 dX3_waitsAheadOf_29 rfl rfl (pc' := 30) rfl ?_
    refine k_iload C 0 dX3_waitsAheadOf_30 rfl (pc' := 32) rfl ?_
    refine k_ic_ne C (tgt := 44) dX3_waitsAheadOf_32 (by decide) (pc' := 35) rfl (fun h8 => ?_) (fun h8 => ?_)
    · refine k_iconst C (v := 0) dX3_waitsAheadOf_44 (by decide) (pc' := 45) rfl ?_
      exact k_retz C rfl hr (Or.inl rfl) dX3_waitsAheadOf_45
    · refine k_iload_n C 3 dX3_waitsAheadOf_35 rfl rfl (pc' := 36) rfl ?_
      refine k_iload_n C 4 dX3_waitsAheadOf_36 rfl rfl (pc' := 37) rfl ?_
      refine k_ic_ge C (tgt := 44) dX3_waitsAheadOf_37 (by decide) (pc' := 40) rfl (fun h9 => ?_) (fun h9 => ?_)
      · refine k_iconst C (v := 0) dX3_waitsAheadOf_44 (by decide) (pc' := 45) rfl ?_
        exact k_retz C rfl hr (Or.inl rfl) dX3_waitsAheadOf_45
      · refine k_sub [] rfl ?_
        exact sX3_waitsAheadOf_b40 hL hi C hr a1 a2 m6
