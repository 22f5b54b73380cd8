def fX6_kind (M0 : kM2) (a1 : Int32) (a2 : Int32) (a3 : Int32) : Option (Int32 × kM2) :=
  bd (fX1_hold M0 0) fun r1 M2 => bd (k_on M2 0 (fX3_addKind (M2 0) a1 a2 a3)) fun r3 M4 => bd (k_on M4 7 (fX1_keepIfDone (M4 7) r3)) fun r5 M6 => some (r5, M6)
set_option maxRecDepth 100000 in
set_option maxHeartbeats 4000000 in
theorem qX6_kind (l : Launch) (Γ : kG) (hL : k_Lay Γ 314) (M0 : kM2) (a1 : Int32) (a2 : Int32) (a3 : Int32) : CT l Γ (K2 Γ) yX6_kind cX6_kind 4 (some .int) (k_R 4) [.ref (Γ.1 7 0), .int a1, .int a2, .int a3] M0 (fX6_kind M0 a1 a2 a3) := by
  refine k_meth (own := RX6) (by decide) rfl (Nat.le_of_ble_eq_true rfl) (fun p e R s mid args below meth c C hr => ?_)
  show Sm Γ (K2 Γ) p l e R s mid args below meth c 4 (jM true Γ (K2 Γ) below args s) M0 [(0, .ref (Γ.1 7 0)), (1, .int a1), (2, .int a2), (3, .int a3)] [] 0 (fX6_kind M0 a1 a2 a3)
  unfold fX6_kind
  refine k_aload_n C 0 dX6_kind_0 rfl rfl (pc' := 1) rfl ?_
  refine k_getf C 2 (c2 Γ M0 7 0 (e_sea Γ (M0 7 0))) (v_7 (by decide)) flX6_22 (v := .ref (Γ.1 7 1)) rfl dX6_kind_1 (pc' := 4) rfl ?_
  refine k_aload_n C 0 dX6_kind_4 rfl rfl (pc' := 5) rfl ?_
  refine k_getf C 0 (c2 Γ M0 7 0 (e_sea Γ (M0 7 0))) (v_7 (by decide)) flX6_10 (v := .ref (Γ.1 0 0)) rfl dX6_kind_5 (pc' := 8) rfl ?_
  refine k_callVv C (rest := []) (qX1_hold l Γ hL M0 0 (by decide)) mwX1_hold iwX1_hold mlX6_33 (k_rm_of (by decide) (by decide)) (c2 Γ M0 7 1 (e_hist Γ (M0 7 1))) (v_7 (by decide)) rfl rfl rfl (Nat.le_of_ble_eq_true rfl) dX6_kind_8 (pc' := 11) rfl (fun r1 M2 => ?_)
  refine k_aload_n C 0 dX6_kind_11 rfl rfl (pc' := 12) rfl ?_
  refine k_getf C 2 (c2 Γ M2 7 0 (e_sea Γ (M2 7 0))) (v_7 (by decide)) flX6_22 (v := .ref (Γ.1 7 1)) rfl dX6_kind_12 (pc' := 15) rfl ?_
  refine k_aload_n C 0 dX6_kind_15 rfl rfl (pc' := 16) rfl ?_
  refine k_getf C 0 (c2 Γ M2 7 0 (e_sea Γ (M2 7 0))) (v_7 (by decide)) flX6_10 (v := .ref (Γ.1 0 0)) rfl dX6_kind_16 (pc' := 19) rfl ?_
  refine k_iload_n C 1 dX6_kind_19 rfl rfl (pc' := 20) rfl ?_
  refine k_iload_n C 2 dX6_kind_20 rfl rfl (pc' := 21) rfl ?_
  refine k_iload_n C 3 dX6_kind_21 rfl rfl (pc' := 22) rfl ?_
  refine k_callVi C (rest := [.ref (Γ.1 7 1)]) (CT.lift2 (qX3_addKind l Γ hL M2 0 (by decide) (M2 0) a1 a2 a3)) mwX3_addKind iwX3_addKind mlX6_54 (k_rm_of (by decide) (by decide)) (c2 Γ M2 0 0 (e_mill Γ (by decide) (M2 0 0))) (v_i (by decide) (by decide)) rfl rfl rfl (Nat.le_of_ble_eq_true rfl) dX6_kind_22 (pc' := 25) rfl (fun r3 M4 => ?_)
  refine k_callVi C (rest := []) (CT.lift2 (qX1_keepIfDone l Γ hL M4 (M4 7) r3)) mwX1_keepIfDone iwX1_keepIfDone mlX6_41 (k_rm_of (by decide) (by decide)) (c2 Γ M4 7 1 (e_hist Γ (M4 7 1))) (v_7 (by decide)) rfl rfl rfl (Nat.le_of_ble_eq_true rfl) dX6_kind_25 (pc' := 28) rfl (fun r5 M6 => ?_)
  exact k_reti C rfl hr dX6_kind_28
def fX6_farmer (M0 : kM2) : Option (Int32 × kM2) :=
  bd (fX1_hold M0 0) fun r1 M2 => bd (k_on M2 0 (fX3_addFarmer (M2 0))) fun r3 M4 => bd (k_on M4 7 (fX1_keepIfDone (M4 7) r3)) fun r5 M6 => some (r5, M6)
set_option maxRecDepth 100000 in
set_option maxHeartbeats 4000000 in
theorem qX6_farmer (l : Launch) (Γ : kG) (hL : k_Lay Γ 314) (M0 : kM2) : CT l Γ (K2 Γ) yX6_farmer cX6_farmer 1 (some .int) (k_R 4) [.ref (Γ.1 7 0)] M0 (fX6_farmer M0 ) := by
  refine k_meth (own := RX6) (by decide) rfl (Nat.le_of_ble_eq_true rfl) (fun p e R s mid args below meth c C hr => ?_)
  show Sm Γ (K2 Γ) p l e R s mid args below meth c 1 (jM true Γ (K2 Γ) below args s) M0 [(0, .ref (Γ.1 7 0))] [] 0 (fX6_farmer M0 )
  unfold fX6_farmer
  refine k_aload_n C 0 dX6_farmer_0 rfl rfl (pc' := 1) rfl ?_
  refine k_getf C 2 (c2 Γ M0 7 0 (e_sea Γ (M0 7 0))) (v_7 (by decide)) flX6_22 (v := .ref (Γ.1 7 1)) rfl dX6_farmer_1 (pc' := 4) rfl ?_
  refine k_aload_n C 0 dX6_farmer_4 rfl rfl (pc' := 5) rfl ?_
  refine k_getf C 0 (c2 Γ M0 7 0 (e_sea Γ (M0 7 0))) (v_7 (by decide)) flX6_10 (v := .ref (Γ.1 0 0)) rfl dX6_farmer_5 (pc' := 8) rfl ?_
  refine k_callVv C (rest := []) (qX1_hold l Γ hL M0 0 (by decide)) mwX1_hold iwX1_hold mlX6_33 (k_rm_of (by decide) (by decide)) (c2 Γ M0 7 1 (e_hist Γ (M0 7 1))) (v_7 (by decide)) rfl rfl rfl (Nat.le_of_ble_eq_true rfl) dX6_farmer_8 (pc' := 11) rfl (fun r1 M2 => ?_)
  refine k_aload_n C 0 dX6_farmer_11 rfl rfl (pc' := 12) rfl ?_
  refine k_getf C 2 (c2 Γ M2 7 0 (e_sea Γ (M2 7 0))) (v_7 (by decide)) flX6_22 (v := .ref (Γ.1 7 1)) rfl dX6_farmer_12 (pc' := 15) rfl ?_
  refine k_aload_n C 0 dX6_farmer_15 rfl rfl (pc' := 16) rfl ?_
  refine k_getf C 0 (c2 Γ M2 7 0 (e_sea Γ (M2 7 0))) (v_7 (by decide)) flX6_10 (v := .ref (Γ.1 0 0)) rfl dX6_farmer_16 (pc' := 19) rfl ?_
  refine k_callVi C (rest := [.ref (Γ.1 7 1)]) (CT.lift2 (qX3_addFarmer l Γ hL M2 0 (by decide) (M2 0))) mwX3_addFarmer iwX3_addFarmer mlX6_58 (k_rm_of (by decide) (by decide)) (c2 Γ M2 0 0 (e_mill Γ (by decide) (M2 0 0))) (v_i (by decide) (by decide)) rfl rfl rfl (Nat.le_of_ble_eq_true rfl) dX6_farmer_19 (pc' := 22) rfl (fun r3 M4 => ?_)
  refine k_callVi C (rest := []) (CT.lift2 (qX1_keepIfDone l Γ hL M4 (M4 7) r3)) mwX1_keepIfDone iwX1_keepIfDone mlX6_41 (k_rm_of (by decide) (by decide)) (c2 Γ M4 7 1 (e_hist Γ (M4 7 1))) (v_7 (by decide)) rfl rfl rfl (Nat.le_of_ble_eq_true rfl) dX6_farmer_22 (pc' := 25) rfl (fun r5 M6 => ?_)
  exact k_reti C rfl hr dX6_farmer_25
def fX6_bring (M0 : kM2) (a1 : Int32) (a2 : Int32) (a3 : Int32) : Option (Int32 × kM2) :=
  bd (fX1_hold M0 0) fun r1 M2 => bd (k_on M2 0 (fX3_addSack (M2 0) a1 a2 a3)) fun r3 M4 => bd (k_on M4 7 (fX1_keepIfDone (M4 7) r3)) fun r5 M6 => some (r5, M6)
set_option maxRecDepth 100000 in
set_option maxHeartbeats 4000000 in
theorem qX6_bring (l : Launch) (Γ : kG) (hL : k_Lay Γ 314) (M0 : kM2) (a1 : Int32) (a2 : Int32) (a3 : Int32) : CT l Γ (K2 Γ) yX6_bring cX6_bring 4 (some .int) (k_R 4) [.ref (Γ.1 7 0), .int a1, .int a2, .int a3] M0 (fX6_bring M0 a1 a2 a3) := by
  refine k_meth (own := RX6) (by decide) rfl (Nat.le_of_ble_eq_true rfl) (fun p e R s mid args below meth c C hr => ?_)
  show Sm Γ (K2 Γ) p l e R s mid args below meth c 4 (jM true Γ (K2 Γ) below args s) M0 [(0, .ref (Γ.1 7 0)), (1, .int a1), (2, .int a2), (3, .int a3)] [] 0 (fX6_bring M0 a1 a2 a3)
  unfold fX6_bring
  refine k_aload_n C 0 dX6_bring_0 rfl rfl (pc' := 1) rfl ?_
  refine k_getf C 2 (c2 Γ M0 7 0 (e_sea Γ (M0 7 0))) (v_7 (by decide)) flX6_22 (v := .ref (Γ.1 7 1)) rfl dX6_bring_1 (pc' := 4) rfl ?_
  refine k_aload_n C 0 dX6_bring_4 rfl rfl (pc' := 5) rfl ?_
  refine k_getf C 0 (c2 Γ M0 7 0 (e_sea Γ (M0 7 0))) (v_7 (by decide)) flX6_10 (v := .ref (Γ.1 0 0)) rfl dX6_bring_5 (pc' := 8) rfl ?_
  refine k_callVv C (rest := []) (qX1_hold l Γ hL M0 0 (by decide)) mwX1_hold iwX1_hold mlX6_33 (k_rm_of (by decide) (by decide)) (c2 Γ M0 7 1 (e_hist Γ (M0 7 1))) (v_7 (by decide)) rfl rfl rfl (Nat.le_of_ble_eq_true rfl) dX6_bring_8 (pc' := 11) rfl (fun r1 M2 => ?_)
  refine k_aload_n C 0 dX6_bring_11 rfl rfl (pc' := 12) rfl ?_
  refine k_getf C 2 (c2 Γ M2 7 0 (e_sea Γ (M2 7 0))) (v_7 (by decide)) flX6_22 (v := .ref (Γ.1 7 1)) rfl dX6_bring_12 (pc' := 15) rfl ?_
  refine k_aload_n C 0 dX6_bring_15 rfl rfl (pc' := 16) rfl ?_
  refine k_getf C 0 (c2 Γ M2 7 0 (e_sea Γ (M2 7 0))) (v_7 (by decide)) flX6_10 (v := .ref (Γ.1 0 0)) rfl dX6_bring_16 (pc' := 19) rfl ?_
  refine k_iload_n C 1 dX6_bring_19 rfl rfl (pc' := 20) rfl ?_
  refine k_iload_n C 2 dX6_bring_20 rfl rfl (pc' := 21) rfl ?_
  refine k_iload_n C 3 dX6_bring_21 rfl rfl (pc' := 22) rfl ?_
  refine k_callVi C (rest := [.ref (Γ.1 7 1)]) (CT.lift2 (qX3_addSack l Γ hL M2 0 (by decide) (M2 0) a1 a2 a3)) mwX3_addSack iwX3_addSack mlX6_62 (k_rm_of (by decide) (by decide)) (c2 Γ M2 0 0 (e_mill Γ (by decide) (M2 0 0))) (v_i (by decide) (by decide)) rfl rfl rfl (Nat.le_of_ble_eq_true rfl) dX6_bring_22 (pc' := 25) rfl (fun r3 M4 => ?_)
  refine k_callVi C (rest := []) (CT.lift2 (qX1_keepIfDone l Γ hL M4 (M4 7) r3)) mwX1_keepIfDone iwX1_keepIfDone mlX6_41 (k_rm_of (by decide) (by decide)) (c2 Γ M4 7 1 (e_hist Γ (M4 7 1))) (v_7 (by decide)) rfl rfl rfl (Nat.le_of_ble_eq_true rfl) dX6_bring_25 (pc' := 28) rfl (fun r5 M6 => ?_)
  exact k_reti C rfl hr dX6_bring_28
def fX6_withdraw (M0 : kM2) (a1 : Int32) : Option (Int32 × kM2) :=
  bd (fX1_hold M0 0) fun r1 M2 => bd (k_on M2 0 (fX3_withdrawSack (M2 0) a1)) fun r3 M4 => bd (k_on M4 7 (fX1_keepIfDone (M4 7) r3)) fun r5 M6 => some (r5, M6)
set_option maxRecDepth 100000 in
set_option maxHeartbeats 4000000 in
theorem qX6_withdraw (l : Launch) (Γ : kG) (hL : k_Lay Γ 314) (M0 : kM2) (a1 : Int32) : CT l Γ (K2 Γ) yX6_withdraw cX6_withdraw 2 (some .int) (k_R 4) [.ref (Γ.1 7 0), .int a1] M0 (fX6_withdraw M0 a1) := by
  refine k_meth (own := RX6) (by decide) rfl (Nat.le_of_ble_eq_true rfl) (fun p e R s mid args below meth c C hr => ?_)
  show Sm Γ (K2 Γ) p l e R s mid args below meth c 2 (jM true Γ (K2 Γ) below args s) M0 [(0, .ref (Γ.1 7 0)), (1, .int a1)] [] 0 (fX6_withdraw M0 a1)
  unfold fX6_withdraw
  refine k_aload_n C 0 dX6_withdraw_0 rfl rfl (pc' := 1) rfl ?_
  refine k_getf C 2 (c2 Γ M0 7 0 (e_sea Γ (M0 7 0))) (v_7 (by decide)) flX6_22 (v := .ref (Γ.1 7 1)) rfl dX6_withdraw_1 (pc' := 4) rfl ?_
  refine k_aload_n C 0 dX6_withdraw_4 rfl rfl (pc' := 5) rfl ?_
  refine k_getf C 0 (c2 Γ M0 7 0 (e_sea Γ (M0 7 0))) (v_7 (by decide)) flX6_10 (v := .ref (Γ.1 0 0)) rfl dX6_withdraw_5 (pc' := 8) rfl ?_
  refine k_callVv C (rest := []) (qX1_hold l Γ hL M0 0 (by decide)) mwX1_hold iwX1_hold mlX6_33 (k_rm_of (by decide) (by decide)) (c2 Γ M0 7 1 (e_hist Γ (M0 7 1))) (v_7 (by decide)) rfl rfl rfl (Nat.le_of_ble_eq_true rfl) dX6_withdraw_8 (pc' := 11) rfl (fun r1 M2 => ?_)
  refine k_aload_n C 0 dX6_withdraw_11 rfl rfl (pc' := 12) rfl ?_
  refine k_getf C 2 (c2 Γ M2 7 0 (e_sea Γ (M2 7 0))) (v_7 (by decide)) flX6_22 (v := .ref (Γ.1 7 1)) rfl dX6_withdraw_12 (pc' := 15) rfl ?_
  refine k_aload_n C 0 dX6_withdraw_15 rfl rfl (pc' := 16) rfl ?_
  refine k_getf C 0 (c2 Γ M2 7 0 (e_sea Γ (M2 7 0))) (v_7 (by decide)) flX6_10 (v := .ref (Γ.1 0 0)) rfl dX6_withdraw_16 (pc' := 19) rfl ?_
  refine k_iload_n C 1 dX6_withdraw_19 rfl rfl (pc' := 20) rfl ?_
  refine k_callVi C (rest := [.ref (Γ.1 7 1)]) (CT.lift2 (qX3_withdrawSack l Γ hL M2 0 (by decide) (M2 0) a1)) mwX3_withdrawSack iwX3_withdrawSack mlX6_65 (k_rm_of (by decide) (by decide)) (c2 Γ M2 0 0 (e_mill Γ (by decide) (M2 0 0))) (v_i (by decide) (by decide)) rfl rfl rfl (Nat.le_of_ble_eq_true rfl) dX6_withdraw_20 (pc' := 23) rfl (fun r3 M4 => ?_)
  refine k_callVi C (rest := []) (CT.lift2 (qX1_keepIfDone l Γ hL M4 (M4 7) r3)) mwX1_keepIfDone iwX1_keepIfDone mlX6_41 (k_rm_of (by decide) (by decide)) (c2 Γ M4 7 1 (e_hist Γ (M4 7 1))) (v_7 (by decide)) rfl rfl rfl (Nat.le_of_ble_eq_true rfl) dX6_withdraw_23 (pc' := 26) rfl (fun r5 M6 => ?_)
  exact k_reti C rfl hr dX6_withdraw_26
def fX6_fetch (M0 : kM2) (a1 : Int32) : Option (Int32 × kM2) :=
  bd (fX1_hold M0 0) fun r1 M2 => bd (k_on M2 0 (fX3_fetchSack (M2 0) a1)) fun r3 M4 => bd (k_on M4 7 (fX1_keepIfDone (M4 7) r3)) fun r5 M6 => some (r5, M6)
set_option maxRecDepth 100000 in
set_option maxHeartbeats 4000000 in
theorem qX6_fetch (l : Launch) (Γ : kG) (hL : k_Lay Γ 314) (M0 : kM2) (a1 : Int32) : CT l Γ (K2 Γ) yX6_fetch cX6_fetch 2 (some .int) (k_R 4) [.ref (Γ.1 7 0), .int a1] M0 (fX6_fetch M0 a1) := by
  refine k_meth (own := RX6) (by decide) rfl (Nat.le_of_ble_eq_true rfl) (fun p e R s mid args below meth c C hr => ?_)
  show Sm Γ (K2 Γ) p l e R s mid args below meth c 2 (jM true Γ (K2 Γ) below args s) M0 [(0, .ref (Γ.1 7 0)), (1, .int a1)] [] 0 (fX6_fetch M0 a1)
  unfold fX6_fetch
  refine k_aload_n C 0 dX6_fetch_0 rfl rfl (pc' := 1) rfl ?_
  refine k_getf C 2 (c2 Γ M0 7 0 (e_sea Γ (M0 7 0))) (v_7 (by decide)) flX6_22 (v := .ref (Γ.1 7 1)) rfl dX6_fetch_1 (pc' := 4) rfl ?_
  refine k_aload_n C 0 dX6_fetch_4 rfl rfl (pc' := 5) rfl ?_
  refine k_getf C 0 (c2 Γ M0 7 0 (e_sea Γ (M0 7 0))) (v_7 (by decide)) flX6_10 (v := .ref (Γ.1 0 0)) rfl dX6_fetch_5 (pc' := 8) rfl ?_
  refine k_callVv C (rest := []) (qX1_hold l Γ hL M0 0 (by decide)) mwX1_hold iwX1_hold mlX6_33 (k_rm_of (by decide) (by decide)) (c2 Γ M0 7 1 (e_hist Γ (M0 7 1))) (v_7 (by decide)) rfl rfl rfl (Nat.le_of_ble_eq_true rfl) dX6_fetch_8 (pc' := 11) rfl (fun r1 M2 => ?_)
  refine k_aload_n C 0 dX6_fetch_11 rfl rfl (pc' := 12) rfl ?_
  refine k_getf C 2 (c2 Γ M2 7 0 (e_sea Γ (M2 7 0))) (v_7 (by decide)) flX6_22 (v := .ref (Γ.1 7 1)) rfl dX6_fetch_12 (pc' := 15) rfl ?_
  refine k_aload_n C 0 dX6_fetch_15 rfl rfl (pc' := 16) rfl ?_
  refine k_getf C 0 (c2 Γ M2 7 0 (e_sea Γ (M2 7 0))) (v_7 (by decide)) flX6_10 (v := .ref (Γ.1 0 0)) rfl dX6_fetch_16 (pc' := 19) rfl ?_
  refine k_iload_n C 1 dX6_fetch_19 rfl rfl (pc' := 20) rfl ?_
  refine k_callVi C (rest := [.ref (Γ.1 7 1)]) (CT.lift2 (qX3_fetchSack l Γ hL M2 0 (by decide) (M2 0) a1)) mwX3_fetchSack iwX3_fetchSack mlX6_68 (k_rm_of (by decide) (by decide)) (c2 Γ M2 0 0 (e_mill Γ (by decide) (M2 0 0))) (v_i (by decide) (by decide)) rfl rfl rfl (Nat.le_of_ble_eq_true rfl) dX6_fetch_20 (pc' := 23) rfl (fun r3 M4 => ?_)
  refine k_callVi C (rest := []) (CT.lift2 (qX1_keepIfDone l Γ hL M4 (M4 7) r3)) mwX1_keepIfDone iwX1_keepIfDone mlX6_41 (k_rm_of (by decide) (by decide)) (c2 Γ M4 7 1 (e_hist Γ (M4 7 1))) (v_7 (by decide)) rfl rfl rfl (Nat.le_of_ble_eq_true rfl) dX6_fetch_23 (pc' := 26) rfl (fun r5 M6 => ?_)
  exact k_reti C rfl hr dX6_fetch_26
def fX6_kindOf (M0 : kM2) (a1 : Int32) (a2 : Int32) : Option (Int32 × kM2) :=
  bd (k_on M0 0 (fX3_hasKind (M0 0) a1)) fun r1 M2 => if r1 = 0 then some ((-1000001), M2) else bd (fX6_within M2 a2 0 5) fun r4 M5 => if r4 = 0 then some ((-1000001), M5) else bd (k_on M5 0 (fX3_tellKind (M5 0) a1 a2)) fun r7 M8 => some (r7, M8)
set_option maxRecDepth 100000 in
set_option maxHeartbeats 4000000 in
theorem qX6_kindOf (l : Launch) (Γ : kG) (hL : k_Lay Γ 314) (M0 : kM2) (a1 : Int32) (a2 : Int32) : CT l Γ (K2 Γ) yX6_kindOf cX6_kindOf 3 (some .int) (k_R 4) [.ref (Γ.1 7 0), .int a1, .int a2] M0 (fX6_kindOf M0 a1 a2) := by
  refine k_meth (own := RX6) (by decide) rfl (Nat.le_of_ble_eq_true rfl) (fun p e R s mid args below meth c C hr => ?_)
  show Sm Γ (K2 Γ) p l e R s mid args below meth c 3 (jM true Γ (K2 Γ) below args s) M0 [(0, .ref (Γ.1 7 0)), (1, .int a1), (2, .int a2)] [] 0 (fX6_kindOf M0 a1 a2)
  unfold fX6_kindOf
  refine k_aload_n C 0 dX6_kindOf_0 rfl rfl (pc' := 1) rfl ?_
  refine k_getf C 0 (c2 Γ M0 7 0 (e_sea Γ (M0 7 0))) (v_7 (by decide)) flX6_10 (v := .ref (Γ.1 0 0)) rfl dX6_kindOf_1 (pc' := 4) rfl ?_
  refine k_iload_n C 1 dX6_kindOf_4 rfl rfl (pc' := 5) rfl ?_
  refine k_callVi C (rest := []) (CT.lift2 (qX3_hasKind l Γ hL M0 0 (by decide) (M0 0) a1)) mwX3_hasKind iwX3_hasKind mlX6_71 (k_rm_of (by decide) (by decide)) (c2 Γ M0 0 0 (e_mill Γ (by decide) (M0 0 0))) (v_i (by decide) (by decide)) rfl rfl rfl (Nat.le_of_ble_eq_true rfl) dX6_kindOf_5 (pc' := 8) rfl (fun r1 M2 => ?_)
  refine k_if_eq C (tgt := 20) dX6_kindOf_8 (by decide) (pc' := 11) rfl (fun h3 => ?_) (fun h3 => ?_)
  · refine k_ldc C (v := (-1000001)) dX6_kindOf_20 cnX6_79 (pc' := 22) rfl ?_
    exact k_reti C rfl hr dX6_kindOf_22
  · refine k_iload_n C 2 dX6_kindOf_11 rfl rfl (pc' := 12) rfl ?_
    refine k_iconst C (v := 0) dX6_kindOf_12 (by decide) (pc' := 13) rfl ?_
    refine k_iconst C (v := 5) dX6_kindOf_13 (by decide) (pc' := 14) rfl ?_
    refine k_callSi C (rest := []) (qX6_within l Γ (K2 Γ) M2 a2 0 5) mwX6_within swX6_within mlX6_75 (k_rm_of (by decide) (by decide)) rfl rfl (Nat.le_of_ble_eq_true rfl) dX6_kindOf_14 (pc' := 17) rfl (fun r4 M5 => ?_)
    refine k_if_ne C (tgt := 23) dX6_kindOf_17 (by decide) (pc' := 20) rfl (fun h6 => ?_) (fun h6 => ?_)
    · refine k_aload_n C 0 dX6_kindOf_23 rfl rfl (pc' := 24) rfl ?_
      refine k_getf C 0 (c2 Γ M5 7 0 (e_sea Γ (M5 7 0))) (v_7 (by decide)) flX6_10 (v := .ref (Γ.1 0 0)) rfl dX6_kindOf_24 (pc' := 27) rfl ?_
      refine k_iload_n C 1 dX6_kindOf_27 rfl rfl (pc' := 28) rfl ?_
      refine k_iload_n C 2 dX6_kindOf_28 rfl rfl (pc' := 29) rfl ?_
      refine k_callVi C (rest := []) (CT.lift2 (qX3_tellKind l Γ hL M5 0 (by decide) (M5 0) a1 a2)) mwX3_tellKind iwX3_tellKind mlX6_80 (k_rm_of (by decide) (by decide)) (c2 Γ M5 0 0 (e_mill Γ (by decide) (M5 0 0))) (v_i (by decide) (by decide)) rfl rfl rfl (Nat.le_of_ble_eq_true rfl) dX6_kindOf_29 (pc' := 32) rfl (fun r7 M8 => ?_)
      exact k_reti C rfl hr dX6_kindOf_32
    · refine k_ldc C (v := (-1000001)) dX6_kindOf_20 cnX6_79 (pc' := 22) rfl ?_
      exact k_reti C rfl hr dX6_kindOf_22
def fX6_farmerOf (M0 : kM2) (a1 : Int32) (a2 : Int32) : Option (Int32 × kM2) :=
  bd (k_on M0 0 (fX3_hasFarmer (M0 0) a1)) fun r1 M2 => if r1 = 0 then some ((-1000001), M2) else bd (fX6_within M2 a2 0 5) fun r4 M5 => if r4 = 0 then some ((-1000001), M5) else bd (k_on M5 0 (fX3_tellFarmer (M5 0) a1 a2)) fun r7 M8 => some (r7, M8)
set_option maxRecDepth 100000 in
set_option maxHeartbeats 4000000 in
theorem qX6_farmerOf (l : Launch) (Γ : kG) (hL : k_Lay Γ 314) (M0 : kM2) (a1 : Int32) (a2 : Int32) : CT l Γ (K2 Γ) yX6_farmerOf cX6_farmerOf 3 (some .int) (k_R 4) [.ref (Γ.1 7 0), .int a1, .int a2] M0 (fX6_farmerOf M0 a1 a2) := by
  refine k_meth (own := RX6) (by decide) rfl (Nat.le_of_ble_eq_true rfl) (fun p e R s mid args below meth c C hr => ?_)
  show Sm Γ (K2 Γ) p l e R s mid args below meth c 3 (jM true Γ (K2 Γ) below args s) M0 [(0, .ref (Γ.1 7 0)), (1, .int a1), (2, .int a2)] [] 0 (fX6_farmerOf M0 a1 a2)
  unfold fX6_farmerOf
  refine k_aload_n C 0 dX6_farmerOf_0 rfl rfl (pc' := 1) rfl ?_
  refine k_getf C 0 (c2 Γ M0 7 0 (e_sea Γ (M0 7 0))) (v_7 (by decide)) flX6_10 (v := .ref (Γ.1 0 0)) rfl dX6_farmerOf_1 (pc' := 4) rfl ?_
  refine k_iload_n C 1 dX6_farmerOf_4 rfl rfl (pc' := 5) rfl ?_
  refine k_callVi C (rest := []) (CT.lift2 (qX3_hasFarmer l Γ hL M0 0 (by decide) (M0 0) a1)) mwX3_hasFarmer iwX3_hasFarmer mlX6_83 (k_rm_of (by decide) (by decide)) (c2 Γ M0 0 0 (e_mill Γ (by decide) (M0 0 0))) (v_i (by decide) (by decide)) rfl rfl rfl (Nat.le_of_ble_eq_true rfl) dX6_farmerOf_5 (pc' := 8) rfl (fun r1 M2 => ?_)
  refine k_if_eq C (tgt := 20) dX6_farmerOf_8 (by decide) (pc' := 11) rfl (fun h3 => ?_) (fun h3 => ?_)
  · refine k_ldc C (v := (-1000001)) dX6_farmerOf_20 cnX6_79 (pc' := 22) rfl ?_
    exact k_reti C rfl hr dX6_farmerOf_22
  · refine k_iload_n C 2 dX6_farmerOf_11 rfl rfl (pc' := 12) rfl ?_
    refine k_iconst C (v := 0) dX6_farmerOf_12 (by decide) (pc' := 13) rfl ?_
    refine k_iconst C (v := 5) dX6_farmerOf_13 (by decide) (pc' := 14) rfl ?_
    refine k_callSi C (rest := []) (qX6_within l Γ (K2 Γ) M2 a2 0 5) mwX6_within swX6_within mlX6_75 (k_rm_of (by decide) (by decide)) rfl rfl (Nat.le_of_ble_eq_true rfl) dX6_farmerOf_14 (pc' := 17) rfl (fun r4 M5 => ?_)
    refine k_if_ne C (tgt := 23) dX6_farmerOf_17 (by decide) (pc' := 20) rfl (fun h6 => ?_) (fun h6 => ?_)
    · refine k_aload_n C 0 dX6_farmerOf_23 rfl rfl (pc' := 24) rfl ?_
      refine k_getf C 0 (c2 Γ M5 7 0 (e_sea Γ (M5 7 0))) (v_7 (by decide)) flX6_10 (v := .ref (Γ.1 0 0)) rfl dX6_farmerOf_24 (pc' := 27) rfl ?_
      refine k_iload_n C 1 dX6_farmerOf_27 rfl rfl (pc' := 28) rfl ?_
      refine k_iload_n C 2 dX6_farmerOf_28 rfl rfl (pc' := 29) rfl ?_
      refine k_callVi C (rest := []) (CT.lift2 (qX3_tellFarmer l Γ hL M5 0 (by decide) (M5 0) a1 a2)) mwX3_tellFarmer iwX3_tellFarmer mlX6_86 (k_rm_of (by decide) (by decide)) (c2 Γ M5 0 0 (e_mill Γ (by decide) (M5 0 0))) (v_i (by decide) (by decide)) rfl rfl rfl (Nat.le_of_ble_eq_true rfl) dX6_farmerOf_29 (pc' := 32) rfl (fun r7 M8 => ?_)
      exact k_reti C rfl hr dX6_farmerOf_32
    · refine k_ldc C (v := (-1000001)) dX6_farmerOf_20 cnX6_79 (pc' := 22) rfl ?_
      exact k_reti C rfl hr dX6_farmerOf_22
def fX6_sackOf (M0 : kM2) (a1 : Int32) (a2 : Int32) : Option (Int32 × kM2) :=
  bd (k_on M0 0 (fX3_hasSack (M0 0) a1)) fun r1 M2 => if r1 = 0 then some ((-1000001), M2) else bd (fX6_within M2 a2 0 11) fun r4 M5 => if r4 = 0 then some ((-1000001), M5) else if a2 = 11 then bd (k_on M5 0 (fX3_placeInQueue (M5 0) a1)) fun r11 M12 => some (r11, M12) else if ¬ a1 < 0 ∧ a1.toNatClampNeg < 24 then bd (k_on M5 0 (fX5_tell (M5 0) ((20 + a1.toNatClampNeg)) a2)) fun r9 M10 => some (r9, M10) else none
set_option maxRecDepth 100000 in
set_option maxHeartbeats 4000000 in
theorem qX6_sackOf (l : Launch) (Γ : kG) (hL : k_Lay Γ 314) (M0 : kM2) (a1 : Int32) (a2 : Int32) : CT l Γ (K2 Γ) yX6_sackOf cX6_sackOf 3 (some .int) (k_R 4) [.ref (Γ.1 7 0), .int a1, .int a2] M0 (fX6_sackOf M0 a1 a2) := by
  refine k_meth (own := RX6) (by decide) rfl (Nat.le_of_ble_eq_true rfl) (fun p e R s mid args below meth c C hr => ?_)
  show Sm Γ (K2 Γ) p l e R s mid args below meth c 3 (jM true Γ (K2 Γ) below args s) M0 [(0, .ref (Γ.1 7 0)), (1, .int a1), (2, .int a2)] [] 0 (fX6_sackOf M0 a1 a2)
  unfold fX6_sackOf
  refine k_aload_n C 0 dX6_sackOf_0 rfl rfl (pc' := 1) rfl ?_
  refine k_getf C 0 (c2 Γ M0 7 0 (e_sea Γ (M0 7 0))) (v_7 (by decide)) flX6_10 (v := .ref (Γ.1 0 0)) rfl dX6_sackOf_1 (pc' := 4) rfl ?_
  refine k_iload_n C 1 dX6_sackOf_4 rfl rfl (pc' := 5) rfl ?_
  refine k_callVi C (rest := []) (CT.lift2 (qX3_hasSack l Γ hL M0 0 (by decide) (M0 0) a1)) mwX3_hasSack iwX3_hasSack mlX6_89 (k_rm_of (by decide) (by decide)) (c2 Γ M0 0 0 (e_mill Γ (by decide) (M0 0 0))) (v_i (by decide) (by decide)) rfl rfl rfl (Nat.le_of_ble_eq_true rfl) dX6_sackOf_5 (pc' := 8) rfl (fun r1 M2 => ?_)
  refine k_if_eq C (tgt := 21) dX6_sackOf_8 (by decide) (pc' := 11) rfl (fun h3 => ?_) (fun h3 => ?_)
  · refine k_ldc C (v := (-1000001)) dX6_sackOf_21 cnX6_79 (pc' := 23) rfl ?_
    exact k_reti C rfl hr dX6_sackOf_23
  · refine k_iload_n C 2 dX6_sackOf_11 rfl rfl (pc' := 12) rfl ?_
    refine k_iconst C (v := 0) dX6_sackOf_12 (by decide) (pc' := 13) rfl ?_
    refine k_bipush C (v := 11) dX6_sackOf_13 (by decide) (pc' := 15) rfl ?_
    refine k_callSi C (rest := []) (qX6_within l Γ (K2 Γ) M2 a2 0 11) mwX6_within swX6_within mlX6_75 (k_rm_of (by decide) (by decide)) rfl rfl (Nat.le_of_ble_eq_true rfl) dX6_sackOf_15 (pc' := 18) rfl (fun r4 M5 => ?_)
    refine k_if_ne C (tgt := 24) dX6_sackOf_18 (by decide) (pc' := 21) rfl (fun h6 => ?_) (fun h6 => ?_)
    · refine k_iload_n C 2 dX6_sackOf_24 rfl rfl (pc' := 25) rfl ?_
      refine k_bipush C (v := 11) dX6_sackOf_25 (by decide) (pc' := 27) rfl ?_
      refine k_ic_ne C (tgt := 41) dX6_sackOf_27 (by decide) (pc' := 30) rfl (fun h7 => ?_) (fun h7 => ?_)
      · refine k_aload_n C 0 dX6_sackOf_41 rfl rfl (pc' := 42) rfl ?_
        refine k_getf C 0 (c2 Γ M5 7 0 (e_sea Γ (M5 7 0))) (v_7 (by decide)) flX6_10 (v := .ref (Γ.1 0 0)) rfl dX6_sackOf_42 (pc' := 45) rfl ?_
        refine k_getf C 4 (c2 Γ M5 0 0 (e_mill Γ (by decide) (M5 0 0))) (v_i (by decide) (by decide)) flX6_95 (v := .ref (Γ.1 0 5)) rfl dX6_sackOf_45 (pc' := 48) rfl ?_
        refine k_iload_n C 1 dX6_sackOf_48 rfl rfl (pc' := 49) rfl ?_
        refine k_aald C 4 (c2 Γ M5 0 5 (e_sacks Γ (by decide) (M5 0 5))) (v_i (by decide) (by decide)) rfl (b := Γ.1 0 (20 + a1.toNatClampNeg)) rfl dX6_sackOf_49 (pc' := 50) rfl (fun h8 => ?_)
        refine k_iload_n C 2 dX6_sackOf_50 rfl rfl (pc' := 51) rfl ?_
        refine k_callVi C (rest := []) (CT.lift2 (qX5_tell l Γ hL M5 0 (by decide) (M5 0) ((20 + a1.toNatClampNeg)) a2 (j_sack h8))) mwX5_tell iwX5_tell mlX6_99 (k_rm_of (by decide) (by decide)) (c2 Γ M5 0 (20 + a1.toNatClampNeg) (e_sack Γ (by decide) (j_sack h8) (M5 0 (20 + a1.toNatClampNeg)))) (v_i (by decide) (h_sack (j_sack h8))) rfl rfl rfl (Nat.le_of_ble_eq_true rfl) dX6_sackOf_51 (pc' := 54) rfl (fun r9 M10 => ?_)
        exact k_reti C rfl hr dX6_sackOf_54
      · refine k_aload_n C 0 dX6_sackOf_30 rfl rfl (pc' := 31) rfl ?_
        refine k_getf C 0 (c2 Γ M5 7 0 (e_sea Γ (M5 7 0))) (v_7 (by decide)) flX6_10 (v := .ref (Γ.1 0 0)) rfl dX6_sackOf_31 (pc' := 34) rfl ?_
        refine k_iload_n C 1 dX6_sackOf_34 rfl rfl (pc' := 35) rfl ?_
        refine k_callVi C (rest := []) (CT.lift2 (qX3_placeInQueue l Γ hL M5 0 (by decide) (M5 0) a1)) mwX3_placeInQueue iwX3_placeInQueue mlX6_92 (k_rm_of (by decide) (by decide)) (c2 Γ M5 0 0 (e_mill Γ (by decide) (M5 0 0))) (v_i (by decide) (by decide)) rfl rfl rfl (Nat.le_of_ble_eq_true rfl) dX6_sackOf_35 (pc' := 38) rfl (fun r11 M12 => ?_)
        refine k_goto C (pc' := 54) dX6_sackOf_38 (by decide) ?_
        exact k_reti C rfl hr dX6_sackOf_54
    · refine k_ldc C (v := (-1000001)) dX6_sackOf_21 cnX6_79 (pc' := 23) rfl ?_
      exact k_reti C rfl hr dX6_sackOf_23
def fX6_queueAt (M0 : kM2) (a1 : Int32) : Option (Int32 × kM2) :=
  if 0 ≤ a1 then bd (k_on M0 0 (fX3_sackAtPlace (M0 0) a1)) fun r2 M3 => some (r2, M3) else some ((-1000001), M0)
set_option maxRecDepth 100000 in
set_option maxHeartbeats 4000000 in
theorem qX6_queueAt (l : Launch) (Γ : kG) (hL : k_Lay Γ 314) (M0 : kM2) (a1 : Int32) : CT l Γ (K2 Γ) yX6_queueAt cX6_queueAt 2 (some .int) (k_R 5) [.ref (Γ.1 7 0), .int a1] M0 (fX6_queueAt M0 a1) := by
  refine k_meth (own := RX6) (by decide) rfl (Nat.le_of_ble_eq_true rfl) (fun p e R s mid args below meth c C hr => ?_)
  show Sm Γ (K2 Γ) p l e R s mid args below meth c 2 (jM true Γ (K2 Γ) below args s) M0 [(0, .ref (Γ.1 7 0)), (1, .int a1)] [] 0 (fX6_queueAt M0 a1)
  unfold fX6_queueAt
  refine k_iload_n C 1 dX6_queueAt_0 rfl rfl (pc' := 1) rfl ?_
  refine k_if_ge C (tgt := 7) dX6_queueAt_1 (by decide) (pc' := 4) rfl (fun h1 => ?_) (fun h1 => ?_)
  · refine k_aload_n C 0 dX6_queueAt_7 rfl rfl (pc' := 8) rfl ?_
    refine k_getf C 0 (c2 Γ M0 7 0 (e_sea Γ (M0 7 0))) (v_7 (by decide)) flX6_10 (v := .ref (Γ.1 0 0)) rfl dX6_queueAt_8 (pc' := 11) rfl ?_
    refine k_iload_n C 1 dX6_queueAt_11 rfl rfl (pc' := 12) rfl ?_
    refine k_callVi C (rest := []) (CT.lift2 (qX3_sackAtPlace l Γ hL M0 0 (by decide) (M0 0) a1)) mwX3_sackAtPlace iwX3_sackAtPlace mlX6_104 (k_rm_of (by decide) (by decide)) (c2 Γ M0 0 0 (e_mill Γ (by decide) (M0 0 0))) (v_i (by decide) (by decide)) rfl rfl rfl (Nat.le_of_ble_eq_true rfl) dX6_queueAt_12 (pc' := 15) rfl (fun r2 M3 => ?_)
    exact k_reti C rfl hr dX6_queueAt_15
  · refine k_ldc C (v := (-1000001)) dX6_queueAt_4 cnX6_79 (pc' := 6) rfl ?_
    exact k_reti C rfl hr dX6_queueAt_6
def fX6_account_b62 (a1 : Int32) (a2 : Int32) (a3 : Int32)  (M0 : kM2) : Option (Int32 × kM2) :=
  bd (k_on M0 0 (fX3_sumOf (M0 0) a1 a2 a3)) fun r5 M6 => some (r5, M6)
set_option maxRecDepth 100000 in
set_option maxHeartbeats 4000000 in
theorem sX6_account_b62 {l : Launch} {Γ : kG} (hL : k_Lay Γ 314) {p : Program} {e : Env} {R : Room} {s : State} {mid : MethodId} {args : Array Value} {below : List Frame} {meth : Method} {c : Code} (C : k_C Γ p R s mid args meth c cX6_account 5 RX6 (k_R 3)) (hr : meth.sig.returnType = (some .int)) (a1 : Int32) (a2 : Int32) (a3 : Int32)  (M0 : kM2)   : Sm Γ (K2 Γ) p l e R s mid args below meth c 5 (jM true Γ (K2 Γ) below args s) M0 [(0, .ref (Γ.1 7 0)), (1, .int a1), (2, .int a2), (3, .int a3)] [] 62 (fX6_account_b62 a1 a2 a3 M0) := by
  unfold fX6_account_b62
  refine k_aload_n C 0 dX6_account_62 rfl rfl (pc' := 63) rfl ?_
  refine k_getf C 0 (c2 Γ M0 7 0 (e_sea Γ (M0 7 0))) (v_7 (by decide)) flX6_10 (v := .ref (Γ.1 0 0)) rfl dX6_account_63 (pc' := 66) rfl ?_
  refine k_iload_n C 1 dX6_account_66 rfl rfl (pc' := 67) rfl ?_
  refine k_iload_n C 2 dX6_account_67 rfl rfl (pc' := 68) rfl ?_
  refine k_iload_n C 3 dX6_account_68 rfl rfl (pc' := 69) rfl ?_
  refine k_callVi C (rest := []) (CT.lift2 (qX3_sumOf l Γ hL M0 0 (by decide) (M0 0) a1 a2 a3)) mwX3_sumOf iwX3_sumOf mlX6_107 (k_rm_of (by decide) (by decide)) (c2 Γ M0 0 0 (e_mill Γ (by decide) (M0 0 0))) (v_i (by decide) (by decide)) rfl rfl rfl (Nat.le_of_ble_eq_true rfl) dX6_account_69 (pc' := 72) rfl (fun r5 M6 => ?_)
  exact k_reti C rfl hr dX6_account_72
def fX6_account_b37 (a1 : Int32) (a2 : Int32) (a3 : Int32)  (M0 : kM2) (t0 : Int32) : Option (Int32 × kM2) :=
  if t0 = 0 then some ((-1000001), M0) else if a3 = 2 then fX6_account_b62 a1 a2 a3 M0 else bd (fX6_within M0 a3 4 10) fun r7 M8 => if r7 = 0 then some ((-1000001), M8) else fX6_account_b62 a1 a2 a3 M8
set_option maxRecDepth 100000 in
set_option maxHeartbeats 4000000 in
theorem sX6_account_b37 {l : Launch} {Γ : kG} (hL : k_Lay Γ 314) {p : Program} {e : Env} {R : Room} {s : State} {mid : MethodId} {args : Array Value} {below : List Frame} {meth : Method} {c : Code} (C : k_C Γ p R s mid args meth c cX6_account 5 RX6 (k_R 3)) (hr : meth.sig.returnType = (some .int)) (a1 : Int32) (a2 : Int32) (a3 : Int32)  (M0 : kM2) (t0 : Int32)  : Sm Γ (K2 Γ) p l e R s mid args below meth c 5 (jM true Γ (K2 Γ) below args s) M0 [(0, .ref (Γ.1 7 0)), (1, .int a1), (2, .int a2), (3, .int a3)] [.int t0] 37 (fX6_account_b37 a1 a2 a3 M0 t0) := by
  unfold fX6_account_b37
  refine k_istore C (lv' := [(4, .int t0), (0, .ref (Γ.1 7 0)), (1, .int a1), (2, .int a2), (3, .int a3)]) dX6_account_37 (by decide) rfl (pc' := 39) rfl ?_
  refine k_iload C 0 dX6_account_39 rfl (pc' := 41) rfl ?_
  refine k_if_eq C (tgt := 59) dX6_account_41 (by decide) (pc' := 44) rfl (fun h3 => ?_) (fun h3 => ?_)
  · refine k_ldc C (v := (-1000001)) dX6_account_59 cnX6_79 (pc' := 61) rfl ?_
    exact k_reti C rfl hr dX6_account_61
  · refine k_iload_n C 4 dX6_account_44 rfl rfl (pc' := 45) rfl ?_
    refine k_iconst C (v := 2) dX6_account_45 (by decide) (pc' := 46) rfl ?_
    refine k_ic_eq C (tgt := 62) dX6_account_46 (by decide) (pc' := 49) rfl (fun h4 => ?_) (fun h4 => ?_)
    · refine k_sub [1, 2, 3, 4] rfl ?_
      exact sX6_account_b62 hL C hr a1 a2 a3 M0
    · refine k_iload_n C 4 dX6_account_49 rfl rfl (pc' := 50) rfl ?_
      refine k_iconst C (v := 4) dX6_account_50 (by decide) (pc' := 51) rfl ?_
      refine k_bipush C (v := 10) dX6_account_51 (by decide) (pc' := 53) rfl ?_
      refine k_callSi C (rest := []) (qX6_within l Γ (K2 Γ) M0 a3 4 10) mwX6_within swX6_within mlX6_75 (k_rm_of (by decide) (by decide)) rfl rfl (Nat.le_of_ble_eq_true rfl) dX6_account_53 (pc' := 56) rfl (fun r7 M8 => ?_)
      refine k_if_ne C (tgt := 62) dX6_account_56 (by decide) (pc' := 59) rfl (fun h9 => ?_) (fun h9 => ?_)
      · refine k_sub [1, 2, 3, 4] rfl ?_
        exact sX6_account_b62 hL C hr a1 a2 a3 M8
      · refine k_ldc C (v := (-1000001)) dX6_account_59 cnX6_79 (pc' := 61) rfl ?_
        exact k_reti C rfl hr dX6_account_61
def fX6_account_b32 (a1 : Int32) (a2 : Int32) (a3 : Int32)  (M0 : kM2) : Option (Int32 × kM2) :=
  fX6_account_b37 a1 a2 a3 M0 1
set_option maxRecDepth 100000 in
set_option maxHeartbeats 4000000 in
theorem sX6_account_b32 {l : Launch} {Γ : kG} (hL : k_Lay Γ 314) {p : Program} {e : Env} {R : Room} {s : State} {mid : MethodId} {args : Array Value} {below : List Frame} {meth : Method} {c : Code} (C : k_C Γ p R s mid args meth c cX6_account 5 RX6 (k_R 3)) (hr : meth.sig.returnType = (some .int)) (a1 : Int32) (a2 : Int32) (a3 : Int32)  (M0 : kM2)   : Sm Γ (K2 Γ) p l e R s mid args below meth c 5 (jM true Γ (K2 Γ) below args s) M0 [(0, .ref (Γ.1 7 0)), (1, .int a1), (2, .int a2), (3, .int a3)] [] 32 (fX6_account_b32 a1 a2 a3 M0) := by
  unfold fX6_account_b32
  refine k_iconst C (v := 1) dX6_account_32 (by decide) (pc' := 33) rfl ?_
  refine k_goto C (pc' := 37) dX6_account_33 (by decide) ?_
  exact sX6_account_b37 hL C hr a1 a2 a3 M0 1
def fX6_account_b36 (a1 : Int32) (a2 : Int32) (a3 : Int32)  (M0 : kM2) : Option (Int32 × kM2) :=
  fX6_account_b37 a1 a2 a3 M0 0
set_option maxRecDepth 100000 in
set_option maxHeartbeats 4000000 in
theorem sX6_account_b36 {l : Launch} {Γ : kG} (hL : k_Lay Γ 314) {p : Program} {e : Env} {R : Room} {s : State} {mid : MethodId} {args : Array Value} {below : List Frame} {meth : Method} {c : Code} (C : k_C Γ p R s mid args meth c cX6_account 5 RX6 (k_R 3)) (hr : meth.sig.returnType = (some .int)) (a1 : Int32) (a2 : Int32) (a3 : Int32)  (M0 : kM2)   : Sm Γ (K2 Γ) p l e R s mid args below meth c 5 (jM true Γ (K2 Γ) below args s) M0 [(0, .ref (Γ.1 7 0)), (1, .int a1), (2, .int a2), (3, .int a3)] [] 36 (fX6_account_b36 a1 a2 a3 M0) := by
  unfold fX6_account_b36
  refine k_iconst C (v := 0) dX6_account_36 (by decide) (pc' := 37) rfl ?_
  exact sX6_account_b37 hL C hr a1 a2 a3 M0 0
def fX6_account_b16 (a1 : Int32) (a2 : Int32) (a3 : Int32)  (M0 : kM2) : Option (Int32 × kM2) :=
  if a2 = (-1) then fX6_account_b32 a1 a2 a3 M0 else bd (k_on M0 0 (fX3_hasKind (M0 0) a2)) fun r10 M11 => if r10 = 0 then fX6_account_b36 a1 a2 a3 M11 else fX6_account_b32 a1 a2 a3 M11
set_option maxRecDepth 100000 in
set_option maxHeartbeats 4000000 in
theorem sX6_account_b16 {l : Launch} {Γ : kG} (hL : k_Lay Γ 314) {p : Program} {e : Env} {R : Room} {s : State} {mid : MethodId} {args : Array Value} {below : List Frame} {meth : Method} {c : Code} (C : k_C Γ p R s mid args meth c cX6_account 5 RX6 (k_R 3)) (hr : meth.sig.returnType = (some .int)) (a1 : Int32) (a2 : Int32) (a3 : Int32)  (M0 : kM2)   : Sm Γ (K2 Γ) p l e R s mid args below meth c 5 (jM true Γ (K2 Γ) below args s) M0 [(0, .ref (Γ.1 7 0)), (1, .int a1), (2, .int a2), (3, .int a3)] [] 16 (fX6_account_b16 a1 a2 a3 M0) := by
  unfold fX6_account_b16
  refine k_iload_n C 2 dX6_account_16 rfl rfl (pc' := 17) rfl ?_
  refine k_iconst C (v := (-1)) dX6_account_17 (by decide) (pc' := 18) rfl ?_
  refine k_ic_eq C (tgt := 32) dX6_account_18 (by decide) (pc' := 21) rfl (fun h2 => ?_) (fun h2 => ?_)
  · exact sX6_account_b32 hL C hr a1 a2 a3 M0
  · refine k_aload_n C 0 dX6_account_21 rfl rfl (pc' := 22) rfl ?_
    refine k_getf C 0 (c2 Γ M0 7 0 (e_sea Γ (M0 7 0))) (v_7 (by decide)) flX6_10 (v := .ref (Γ.1 0 0)) rfl dX6_account_22 (pc' := 25) rfl ?_
    refine k_iload_n C 2 dX6_account_25 rfl rfl (pc' := 26) rfl ?_
    refine k_callVi C (rest := []) (CT.lift2 (qX3_hasKind l Γ hL M0 0 (by decide) (M0 0) a2)) mwX3_hasKind iwX3_hasKind mlX6_71 (k_rm_of (by decide) (by decide)) (c2 Γ M0 0 0 (e_mill Γ (by decide) (M0 0 0))) (v_i (by decide) (by decide)) rfl rfl rfl (Nat.le_of_ble_eq_true rfl) dX6_account_26 (pc' := 29) rfl (fun r10 M11 => ?_)
    refine k_if_eq C (tgt := 36) dX6_account_29 (by decide) (pc' := 32) rfl (fun h12 => ?_) (fun h12 => ?_)
    · exact sX6_account_b36 hL C hr a1 a2 a3 M11
    · exact sX6_account_b32 hL C hr a1 a2 a3 M11
def fX6_account (M0 : kM2) (a1 : Int32) (a2 : Int32) (a3 : Int32) : Option (Int32 × kM2) :=
  if a1 = (-1) then fX6_account_b16 a1 a2 a3 M0 else bd (k_on M0 0 (fX3_hasFarmer (M0 0) a1)) fun r13 M14 => if r13 = 0 then fX6_account_b36 a1 a2 a3 M14 else fX6_account_b16 a1 a2 a3 M14
set_option maxRecDepth 100000 in
set_option maxHeartbeats 4000000 in
theorem qX6_account (l : Launch) (Γ : kG) (hL : k_Lay Γ 314) (M0 : kM2) (a1 : Int32) (a2 : Int32) (a3 : Int32) : CT l Γ (K2 Γ) yX6_account cX6_account 5 (some .int) (k_R 3) [.ref (Γ.1 7 0), .int a1, .int a2, .int a3] M0 (fX6_account M0 a1 a2 a3) := by
  refine k_meth (own := RX6) (by decide) rfl (Nat.le_of_ble_eq_true rfl) (fun p e R s mid args below meth c C hr => ?_)
  show Sm Γ (K2 Γ) p l e R s mid args below meth c 5 (jM true Γ (K2 Γ) below args s) M0 [(0, .ref (Γ.1 7 0)), (1, .int a1), (2, .int a2), (3, .int a3)] [] 0 (fX6_account M0 a1 a2 a3)
  unfold fX6_account
  refine k_iload_n C 1 dX6_account_0 rfl rfl (pc' := 1) rfl ?_
  refine k_iconst C (v := (-1)) dX6_account_1 (by decide) (pc' := 2) rfl ?_
  refine k_ic_eq C (tgt := 16) dX6_account_2 (by decide) (pc' := 5) rfl (fun h1 => ?_) (fun h1 => ?_)
  · exact sX6_account_b16 hL C hr a1 a2 a3 M0
  · refine k_aload_n C 0 dX6_account_5 rfl rfl (pc' := 6) rfl ?_
    refine k_getf C 0 (c2 Γ M0 7 0 (e_sea Γ (M0 7 0))) (v_7 (by decide)) flX6_10 (v := .ref (Γ.1 0 0)) rfl dX6_account_6 (pc' := 9) rfl ?_
    refine k_iload_n C 1 dX6_account_9 rfl rfl (pc' := 10) rfl ?_
    refine k_callVi C (rest := []) (CT.lift2 (qX3_hasFarmer l Γ hL M0 0 (by decide) (M0 0) a1)) mwX3_hasFarmer iwX3_hasFarmer mlX6_83 (k_rm_of (by decide) (by decide)) (c2 Γ M0 0 0 (e_mill Γ (by decide) (M0 0 0))) (v_i (by decide) (by decide)) rfl rfl rfl (Nat.le_of_ble_eq_true rfl) dX6_account_10 (pc' := 13) rfl (fun r13 M14 => ?_)
    refine k_if_eq C (tgt := 36) dX6_account_13 (by decide) (pc' := 16) rfl (fun h15 => ?_) (fun h15 => ?_)
    · exact sX6_account_b36 hL C hr a1 a2 a3 M14
    · exact sX6_account_b16 hL C hr a1 a2 a3 M14
def fX6_pledge (M0 : kM2) (a1 : Int32) (a2 : Int32) : Option (Int32 × kM2) :=
  bd (fX1_hold M0 0) fun r1 M2 => bd (k_on M2 0 (fX3_putInPledge (M2 0) a1 a2)) fun r3 M4 => bd (k_on M4 7 (fX1_keepIfDone (M4 7) r3)) fun r5 M6 => some (r5, M6)
set_option maxRecDepth 100000 in
set_option maxHeartbeats 4000000 in
theorem qX6_pledge (l : Launch) (Γ : kG) (hL : k_Lay Γ 314) (M0 : kM2) (a1 : Int32) (a2 : Int32) : CT l Γ (K2 Γ) yX6_pledge cX6_pledge 3 (some .int) (k_R 4) [.ref (Γ.1 7 0), .int a1, .int a2] M0 (fX6_pledge M0 a1 a2) := by
  refine k_meth (own := RX6) (by decide) rfl (Nat.le_of_ble_eq_true rfl) (fun p e R s mid args below meth c C hr => ?_)
  show Sm Γ (K2 Γ) p l e R s mid args below meth c 3 (jM true Γ (K2 Γ) below args s) M0 [(0, .ref (Γ.1 7 0)), (1, .int a1), (2, .int a2)] [] 0 (fX6_pledge M0 a1 a2)
  unfold fX6_pledge
  refine k_aload_n C 0 dX6_pledge_0 rfl rfl (pc' := 1) rfl ?_
  refine k_getf C 2 (c2 Γ M0 7 0 (e_sea Γ (M0 7 0))) (v_7 (by decide)) flX6_22 (v := .ref (Γ.1 7 1)) rfl dX6_pledge_1 (pc' := 4) rfl ?_
  refine k_aload_n C 0 dX6_pledge_4 rfl rfl (pc' := 5) rfl ?_
  refine k_getf C 0 (c2 Γ M0 7 0 (e_sea Γ (M0 7 0))) (v_7 (by decide)) flX6_10 (v := .ref (Γ.1 0 0)) rfl dX6_pledge_5 (pc' := 8) rfl ?_
  refine k_callVv C (rest := []) (qX1_hold l Γ hL M0 0 (by decide)) mwX1_hold iwX1_hold mlX6_33 (k_rm_of (by decide) (by decide)) (c2 Γ M0 7 1 (e_hist Γ (M0 7 1))) (v_7 (by decide)) rfl rfl rfl (Nat.le_of_ble_eq_true rfl) dX6_pledge_8 (pc' := 11) rfl (fun r1 M2 => ?_)
  refine k_aload_n C 0 dX6_pledge_11 rfl rfl (pc' := 12) rfl ?_
  refine k_getf C 2 (c2 Γ M2 7 0 (e_sea Γ (M2 7 0))) (v_7 (by decide)) flX6_22 (v := .ref (Γ.1 7 1)) rfl dX6_pledge_12 (pc' := 15) rfl ?_
  refine k_aload_n C 0 dX6_pledge_15 rfl rfl (pc' := 16) rfl ?_
  refine k_getf C 0 (c2 Γ M2 7 0 (e_sea Γ (M2 7 0))) (v_7 (by decide)) flX6_10 (v := .ref (Γ.1 0 0)) rfl dX6_pledge_16 (pc' := 19) rfl ?_
  refine k_iload_n C 1 dX6_pledge_19 rfl rfl (pc' := 20) rfl ?_
  refine k_iload_n C 2 dX6_pledge_20 rfl rfl (pc' := 21) rfl ?_
  refine k_callVi C (rest := [.ref (Γ.1 7 1)]) (CT.lift2 (qX3_putInPledge l Γ hL M2 0 (by decide) (M2 0) a1 a2)) mwX3_putInPledge iwX3_putInPledge mlX6_113 (k_rm_of (by decide) (by decide)) (c2 Γ M2 0 0 (e_mill Γ (by decide) (M2 0 0))) (v_i (by decide) (by decide)) rfl rfl rfl (Nat.le_of_ble_eq_true rfl) dX6_pledge_21 (pc' := 24) rfl (fun r3 M4 => ?_)
  refine k_callVi C (rest := []) (CT.lift2 (qX1_keepIfDone l Γ hL M4 (M4 7) r3)) mwX1_keepIfDone iwX1_keepIfDone mlX6_41 (k_rm_of (by decide) (by decide)) (c2 Γ M4 7 1 (e_hist Γ (M4 7 1))) (v_7 (by decide)) rfl rfl rfl (Nat.le_of_ble_eq_true rfl) dX6_pledge_24 (pc' := 27) rfl (fun r5 M6 => ?_)
  exact k_reti C rfl hr dX6_pledge_27
def fX6_owed (M0 : kM2) (a1 : Int32) : Option (Int32 × kM2) :=
  bd (k_on M0 0 (fX3_hasSack (M0 0) a1)) fun r1 M2 => if r1 = 0 then some ((-1000001), M2) else if ¬ a1 < 0 ∧ a1.toNatClampNeg < 24 then bd (k_on M2 0 (fX5_hasPledge (M2 0) ((20 + a1.toNatClampNeg)))) fun r5 M6 => if r5 = 0 then some ((-1000004), M6) else if ¬ a1 < 0 ∧ a1.toNatClampNeg < 24 then bd (k_on M6 0 (fX3_debtOf (M6 0) ((20 + a1.toNatClampNeg)))) fun r9 M10 => some (r9, M10) else none else none
set_option maxRecDepth 100000 in
set_option maxHeartbeats 4000000 in
theorem qX6_owed (l : Launch) (Γ : kG) (hL : k_Lay Γ 314) (M0 : kM2) (a1 : Int32) : CT l Γ (K2 Γ) yX6_owed cX6_owed 2 (some .int) (k_R 2) [.ref (Γ.1 7 0), .int a1] M0 (fX6_owed M0 a1) := by
  refine k_meth (own := RX6) (by decide) rfl (Nat.le_of_ble_eq_true rfl) (fun p e R s mid args below meth c C hr => ?_)
  show Sm Γ (K2 Γ) p l e R s mid args below meth c 2 (jM true Γ (K2 Γ) below args s) M0 [(0, .ref (Γ.1 7 0)), (1, .int a1)] [] 0 (fX6_owed M0 a1)
  unfold fX6_owed
  refine k_aload_n C 0 dX6_owed_0 rfl rfl (pc' := 1) rfl ?_
  refine k_getf C 0 (c2 Γ M0 7 0 (e_sea Γ (M0 7 0))) (v_7 (by decide)) flX6_10 (v := .ref (Γ.1 0 0)) rfl dX6_owed_1 (pc' := 4) rfl ?_
  refine k_iload_n C 1 dX6_owed_4 rfl rfl (pc' := 5) rfl ?_
  refine k_callVi C (rest := []) (CT.lift2 (qX3_hasSack l Γ hL M0 0 (by decide) (M0 0) a1)) mwX3_hasSack iwX3_hasSack mlX6_89 (k_rm_of (by decide) (by decide)) (c2 Γ M0 0 0 (e_mill Γ (by decide) (M0 0 0))) (v_i (by decide) (by decide)) rfl rfl rfl (Nat.le_of_ble_eq_true rfl) dX6_owed_5 (pc' := 8) rfl (fun r1 M2 => ?_)
  refine k_if_ne C (tgt := 14) dX6_owed_8 (by decide) (pc' := 11) rfl (fun h3 => ?_) (fun h3 => ?_)
  · refine k_aload_n C 0 dX6_owed_14 rfl rfl (pc' := 15) rfl ?_
    refine k_getf C 0 (c2 Γ M2 7 0 (e_sea Γ (M2 7 0))) (v_7 (by decide)) flX6_10 (v := .ref (Γ.1 0 0)) rfl dX6_owed_15 (pc' := 18) rfl ?_
    refine k_getf C 4 (c2 Γ M2 0 0 (e_mill Γ (by decide) (M2 0 0))) (v_i (by decide) (by decide)) flX6_95 (v := .ref (Γ.1 0 5)) rfl dX6_owed_18 (pc' := 21) rfl ?_
    refine k_iload_n C 1 dX6_owed_21 rfl rfl (pc' := 22) rfl ?_
    refine k_aald C 4 (c2 Γ M2 0 5 (e_sacks Γ (by decide) (M2 0 5))) (v_i (by decide) (by decide)) rfl (b := Γ.1 0 (20 + a1.toNatClampNeg)) rfl dX6_owed_22 (pc' := 23) rfl (fun h4 => ?_)
    refine k_callVi C (rest := []) (CT.lift2 (qX5_hasPledge l Γ hL M2 0 (by decide) (M2 0) ((20 + a1.toNatClampNeg)) (j_sack h4))) mwX5_hasPledge iwX5_hasPledge mlX6_116 (k_rm_of (by decide) (by decide)) (c2 Γ M2 0 (20 + a1.toNatClampNeg) (e_sack Γ (by decide) (j_sack h4) (M2 0 (20 + a1.toNatClampNeg)))) (v_i (by decide) (h_sack (j_sack h4))) rfl rfl rfl (Nat.le_of_ble_eq_true rfl) dX6_owed_23 (pc' := 26) rfl (fun r5 M6 => ?_)
    refine k_if_eq C (tgt := 48) dX6_owed_26 (by decide) (pc' := 29) rfl (fun h7 => ?_) (fun h7 => ?_)
    · refine k_ldc C (v := (-1000004)) dX6_owed_48 cnX6_124 (pc' := 50) rfl ?_
      exact k_reti C rfl hr dX6_owed_50
    · refine k_aload_n C 0 dX6_owed_29 rfl rfl (pc' := 30) rfl ?_
      refine k_getf C 0 (c2 Γ M6 7 0 (e_sea Γ (M6 7 0))) (v_7 (by decide)) flX6_10 (v := .ref (Γ.1 0 0)) rfl dX6_owed_30 (pc' := 33) rfl ?_
      refine k_aload_n C 0 dX6_owed_33 rfl rfl (pc' := 34) rfl ?_
      refine k_getf C 0 (c2 Γ M6 7 0 (e_sea Γ (M6 7 0))) (v_7 (by decide)) flX6_10 (v := .ref (Γ.1 0 0)) rfl dX6_owed_34 (pc' := 37) rfl ?_
      refine k_getf C 4 (c2 Γ M6 0 0 (e_mill Γ (by decide) (M6 0 0))) (v_i (by decide) (by decide)) flX6_95 (v := .ref (Γ.1 0 5)) rfl dX6_owed_37 (pc' := 40) rfl ?_
      refine k_iload_n C 1 dX6_owed_40 rfl rfl (pc' := 41) rfl ?_
      refine k_aald C 4 (c2 Γ M6 0 5 (e_sacks Γ (by decide) (M6 0 5))) (v_i (by decide) (by decide)) rfl (b := Γ.1 0 (20 + a1.toNatClampNeg)) rfl dX6_owed_41 (pc' := 42) rfl (fun h8 => ?_)
      refine k_callVi C (rest := []) (CT.lift2 (qX3_debtOf l Γ hL M6 0 (by decide) (M6 0) ((20 + a1.toNatClampNeg)) (j_sack h8))) mwX3_debtOf iwX3_debtOf mlX6_120 (k_rm_of (by decide) (by decide)) (c2 Γ M6 0 0 (e_mill Γ (by decide) (M6 0 0))) (v_i (by decide) (by decide)) rfl rfl rfl (Nat.le_of_ble_eq_true rfl) dX6_owed_42 (pc' := 45) rfl (fun r9 M10 => ?_)
      refine k_goto C (pc' := 50) dX6_owed_45 (by decide) ?_
      exact k_reti C rfl hr dX6_owed_50
  · refine k_ldc C (v := (-1000001)) dX6_owed_11 cnX6_79 (pc' := 13) rfl ?_
    exact k_reti C rfl hr dX6_owed_13
def fX6_redeem (M0 : kM2) (a1 : Int32) : Option (Int32 × kM2) :=
  bd (fX1_hold M0 0) fun r1 M2 => bd (k_on M2 0 (fX3_redeemPledge (M2 0) a1)) fun r3 M4 => bd (k_on M4 7 (fX1_keepIfDone (M4 7) r3)) fun r5 M6 => some (r5, M6)
set_option maxRecDepth 100000 in
set_option maxHeartbeats 4000000 in
theorem qX6_redeem (l : Launch) (Γ : kG) (hL : k_Lay Γ 314) (M0 : kM2) (a1 : Int32) : CT l Γ (K2 Γ) yX6_redeem cX6_redeem 2 (some .int) (k_R 4) [.ref (Γ.1 7 0), .int a1] M0 (fX6_redeem M0 a1) := by
  refine k_meth (own := RX6) (by decide) rfl (Nat.le_of_ble_eq_true rfl) (fun p e R s mid args below meth c C hr => ?_)
  show Sm Γ (K2 Γ) p l e R s mid args below meth c 2 (jM true Γ (K2 Γ) below args s) M0 [(0, .ref (Γ.1 7 0)), (1, .int a1)] [] 0 (fX6_redeem M0 a1)
  unfold fX6_redeem
  refine k_aload_n C 0 dX6_redeem_0 rfl rfl (pc' := 1) rfl ?_
  refine k_getf C 2 (c2 Γ M0 7 0 (e_sea Γ (M0 7 0))) (v_7 (by decide)) flX6_22 (v := .ref (Γ.1 7 1)) rfl dX6_redeem_1 (pc' := 4) rfl ?_
  refine k_aload_n C 0 dX6_redeem_4 rfl rfl (pc' := 5) rfl ?_
  refine k_getf C 0 (c2 Γ M0 7 0 (e_sea Γ (M0 7 0))) (v_7 (by decide)) flX6_10 (v := .ref (Γ.1 0 0)) rfl dX6_redeem_5 (pc' := 8) rfl ?_
  refine k_callVv C (rest := []) (qX1_hold l Γ hL M0 0 (by decide)) mwX1_hold iwX1_hold mlX6_33 (k_rm_of (by decide) (by decide)) (c2 Γ M0 7 1 (e_hist Γ (M0 7 1))) (v_7 (by decide)) rfl rfl rfl (Nat.le_of_ble_eq_true rfl) dX6_redeem_8 (pc' := 11) rfl (fun r1 M2 => ?_)
  refine k_aload_n C 0 dX6_redeem_11 rfl rfl (pc' := 12) rfl ?_
  refine k_getf C 2 (c2 Γ M2 7 0 (e_sea Γ (M2 7 0))) (v_7 (by decide)) flX6_22 (v := .ref (Γ.1 7 1)) rfl dX6_redeem_12 (pc' := 15) rfl ?_
  refine k_aload_n C 0 dX6_redeem_15 rfl rfl (pc' := 16) rfl ?_
  refine k_getf C 0 (c2 Γ M2 7 0 (e_sea Γ (M2 7 0))) (v_7 (by decide)) flX6_10 (v := .ref (Γ.1 0 0)) rfl dX6_redeem_16 (pc' := 19) rfl ?_
  refine k_iload_n C 1 dX6_redeem_19 rfl rfl (pc' := 20) rfl ?_
  refine k_callVi C (rest := [.ref (Γ.1 7 1)]) (CT.lift2 (qX3_redeemPledge l Γ hL M2 0 (by decide) (M2 0) a1)) mwX3_redeemPledge iwX3_redeemPledge mlX6_125 (k_rm_of (by decide) (by decide)) (c2 Γ M2 0 0 (e_mill Γ (by decide) (M2 0 0))) (v_i (by decide) (by decide)) rfl rfl rfl (Nat.le_of_ble_eq_true rfl) dX6_redeem_20 (pc' := 23) rfl (fun r3 M4 => ?_)
  refine k_callVi C (rest := []) (CT.lift2 (qX1_keepIfDone l Γ hL M4 (M4 7) r3)) mwX1_keepIfDone iwX1_keepIfDone mlX6_41 (k_rm_of (by decide) (by decide)) (c2 Γ M4 7 1 (e_hist Γ (M4 7 1))) (v_7 (by decide)) rfl rfl rfl (Nat.le_of_ble_eq_true rfl) dX6_redeem_23 (pc' := 26) rfl (fun r5 M6 => ?_)
  exact k_reti C rfl hr dX6_redeem_26
def fX6_pledgeAt (M0 : kM2) (a1 : Int32) (a2 : Int32) : Option (Int32 × kM2) :=
  if a1 < 0 then some ((-1000001), M0) else bd (fX6_within M0 a2 0 4) fun r2 M3 => if r2 = 0 then some ((-1000001), M3) else bd (k_on M3 0 (fX3_sackOfPledge (M3 0) a1)) fun r5 M6 => if r5 = (-1) then some ((-1000004), M6) else bd (k_on M6 0 (fX3_tellPledge (M6 0) r5 a2)) fun r8 M9 => some (r8, M9)
set_option maxRecDepth 100000 in
set_option maxHeartbeats 4000000 in
theorem qX6_pledgeAt (l : Launch) (Γ : kG) (hL : k_Lay Γ 314) (M0 : kM2) (a1 : Int32) (a2 : Int32) : CT l Γ (K2 Γ) yX6_pledgeAt cX6_pledgeAt 4 (some .int) (k_R 3) [.ref (Γ.1 7 0), .int a1, .int a2] M0 (fX6_pledgeAt M0 a1 a2) := by
  refine k_meth (own := RX6) (by decide) rfl (Nat.le_of_ble_eq_true rfl) (fun p e R s mid args below meth c C hr => ?_)
  show Sm Γ (K2 Γ) p l e R s mid args below meth c 4 (jM true Γ (K2 Γ) below args s) M0 [(0, .ref (Γ.1 7 0)), (1, .int a1), (2, .int a2)] [] 0 (fX6_pledgeAt M0 a1 a2)
  unfold fX6_pledgeAt
  refine k_iload_n C 1 dX6_pledgeAt_0 rfl rfl (pc' := 1) rfl ?_
  refine k_if_lt C (tgt := 13) dX6_pledgeAt_1 (by decide) (pc' := 4) rfl (fun h1 => ?_) (fun h1 => ?_)
  · refine k_ldc C (v := (-1000001)) dX6_pledgeAt_13 cnX6_79 (pc' := 15) rfl ?_
    exact k_reti C rfl hr dX6_pledgeAt_15
  · refine k_iload_n C 2 dX6_pledgeAt_4 rfl rfl (pc' := 5) rfl ?_
    refine k_iconst C (v := 0) dX6_pledgeAt_5 (by decide) (pc' := 6) rfl ?_
    refine k_iconst C (v := 4) dX6_pledgeAt_6 (by decide) (pc' := 7) rfl ?_
    refine k_callSi C (rest := []) (qX6_within l Γ (K2 Γ) M0 a2 0 4) mwX6_within swX6_within mlX6_75 (k_rm_of (by decide) (by decide)) rfl rfl (Nat.le_of_ble_eq_true rfl) dX6_pledgeAt_7 (pc' := 10) rfl (fun r2 M3 => ?_)
    refine k_if_ne C (tgt := 16) dX6_pledgeAt_10 (by decide) (pc' := 13) rfl (fun h4 => ?_) (fun h4 => ?_)
    · refine k_aload_n C 0 dX6_pledgeAt_16 rfl rfl (pc' := 17) rfl ?_
      refine k_getf C 0 (c2 Γ M3 7 0 (e_sea Γ (M3 7 0))) (v_7 (by decide)) flX6_10 (v := .ref (Γ.1 0 0)) rfl dX6_pledgeAt_17 (pc' := 20) rfl ?_
      refine k_iload_n C 1 dX6_pledgeAt_20 rfl rfl (pc' := 21) rfl ?_
      refine k_callVi C (rest := []) (CT.lift2 (qX3_sackOfPledge l Γ hL M3 0 (by decide) (M3 0) a1)) mwX3_sackOfPledge iwX3_sackOfPledge mlX6_128 (k_rm_of (by decide) (by decide)) (c2 Γ M3 0 0 (e_mill Γ (by decide) (M3 0 0))) (v_i (by decide) (by decide)) rfl rfl rfl (Nat.le_of_ble_eq_true rfl) dX6_pledgeAt_21 (pc' := 24) rfl (fun r5 M6 => ?_)
      refine k_istore_n C (lv' := [(3, .int r5), (0, .ref (Γ.1 7 0)), (1, .int a1), (2, .int a2)]) dX6_pledgeAt_24 rfl (by decide) rfl (pc' := 25) rfl ?_
      refine k_iload_n C 0 dX6_pledgeAt_25 rfl rfl (pc' := 26) rfl ?_
      refine k_iconst C (v := (-1)) dX6_pledgeAt_26 (by decide) (pc' := 27) rfl ?_
      refine k_ic_ne C (tgt := 35) dX6_pledgeAt_27 (by decide) (pc' := 30) rfl (fun h7 => ?_) (fun h7 => ?_)
      · refine k_aload_n C 1 dX6_pledgeAt_35 rfl rfl (pc' := 36) rfl ?_
        refine k_getf C 0 (c2 Γ M6 7 0 (e_sea Γ (M6 7 0))) (v_7 (by decide)) flX6_10 (v := .ref (Γ.1 0 0)) rfl dX6_pledgeAt_36 (pc' := 39) rfl ?_
        refine k_iload_n C 0 dX6_pledgeAt_39 rfl rfl (pc' := 40) rfl ?_
        refine k_iload_n C 3 dX6_pledgeAt_40 rfl rfl (pc' := 41) rfl ?_
        refine k_callVi C (rest := []) (CT.lift2 (qX3_tellPledge l Γ hL M6 0 (by decide) (M6 0) r5 a2)) mwX3_tellPledge iwX3_tellPledge mlX6_131 (k_rm_of (by decide) (by decide)) (c2 Γ M6 0 0 (e_mill Γ (by decide) (M6 0 0))) (v_i (by decide) (by decide)) rfl rfl rfl (Nat.le_of_ble_eq_true rfl) dX6_pledgeAt_41 (pc' := 44) rfl (fun r8 M9 => ?_)
        exact k_reti C rfl hr dX6_pledgeAt_44
      · refine k_ldc C (v := (-1000004)) dX6_pledgeAt_30 cnX6_124 (pc' := 32) rfl ?_
        refine k_goto C (pc' := 44) dX6_pledgeAt_32 (by decide) ?_
        exact k_reti C rfl hr dX6_pledgeAt_44
    · refine k_ldc C (v := (-1000001)) dX6_pledgeAt_13 cnX6_79 (pc' := 15) rfl ?_
      exact k_reti C rfl hr dX6_pledgeAt_15
def fX6_pass (M0 : kM2) (a1 : Int32) : Option (Int32 × kM2) :=
  bd (fX1_hold M0 0) fun r1 M2 => bd (k_on M2 0 (fX3_letPass (M2 0) a1)) fun r3 M4 => bd (k_on M4 7 (fX1_keepIfDone (M4 7) r3)) fun r5 M6 => some (r5, M6)
set_option maxRecDepth 100000 in
set_option maxHeartbeats 4000000 in
theorem qX6_pass (l : Launch) (Γ : kG) (hL : k_Lay Γ 314) (M0 : kM2) (a1 : Int32) : CT l Γ (K2 Γ) yX6_pass cX6_pass 2 (some .int) (k_R 6) [.ref (Γ.1 7 0), .int a1] M0 (fX6_pass M0 a1) := by
  refine k_meth (own := RX6) (by decide) rfl (Nat.le_of_ble_eq_true rfl) (fun p e R s mid args below meth c C hr => ?_)
  show Sm Γ (K2 Γ) p l e R s mid args below meth c 2 (jM true Γ (K2 Γ) below args s) M0 [(0, .ref (Γ.1 7 0)), (1, .int a1)] [] 0 (fX6_pass M0 a1)
  unfold fX6_pass
  refine k_aload_n C 0 dX6_pass_0 rfl rfl (pc' := 1) rfl ?_
  refine k_getf C 2 (c2 Γ M0 7 0 (e_sea Γ (M0 7 0))) (v_7 (by decide)) flX6_22 (v := .ref (Γ.1 7 1)) rfl dX6_pass_1 (pc' := 4) rfl ?_
  refine k_aload_n C 0 dX6_pass_4 rfl rfl (pc' := 5) rfl ?_
  refine k_getf C 0 (c2 Γ M0 7 0 (e_sea Γ (M0 7 0))) (v_7 (by decide)) flX6_10 (v := .ref (Γ.1 0 0)) rfl dX6_pass_5 (pc' := 8) rfl ?_
  refine k_callVv C (rest := []) (qX1_hold l Γ hL M0 0 (by decide)) mwX1_hold iwX1_hold mlX6_33 (k_rm_of (by decide) (by decide)) (c2 Γ M0 7 1 (e_hist Γ (M0 7 1))) (v_7 (by decide)) rfl rfl rfl (Nat.le_of_ble_eq_true rfl) dX6_pass_8 (pc' := 11) rfl (fun r1 M2 => ?_)
  refine k_aload_n C 0 dX6_pass_11 rfl rfl (pc' := 12) rfl ?_
  refine k_getf C 2 (c2 Γ M2 7 0 (e_sea Γ (M2 7 0))) (v_7 (by decide)) flX6_22 (v := .ref (Γ.1 7 1)) rfl dX6_pass_12 (pc' := 15) rfl ?_
  refine k_aload_n C 0 dX6_pass_15 rfl rfl (pc' := 16) rfl ?_
  refine k_getf C 0 (c2 Γ M2 7 0 (e_sea Γ (M2 7 0))) (v_7 (by decide)) flX6_10 (v := .ref (Γ.1 0 0)) rfl dX6_pass_16 (pc' := 19) rfl ?_
  refine k_iload_n C 1 dX6_pass_19 rfl rfl (pc' := 20) rfl ?_
  refine k_callVi C (rest := [.ref (Γ.1 7 1)]) (CT.lift2 (qX3_letPass l Γ hL M2 0 (by decide) (M2 0) a1)) mwX3_letPass iwX3_letPass mlX6_134 (k_rm_of (by decide) (by decide)) (c2 Γ M2 0 0 (e_mill Γ (by decide) (M2 0 0))) (v_i (by decide) (by decide)) rfl rfl rfl (Nat.le_of_ble_eq_true rfl) dX6_pass_20 (pc' := 23) rfl (fun r3 M4 => ?_)
  refine k_callVi C (rest := []) (CT.lift2 (qX1_keepIfDone l Γ hL M4 (M4 7) r3)) mwX1_keepIfDone iwX1_keepIfDone mlX6_41 (k_rm_of (by decide) (by decide)) (c2 Γ M4 7 1 (e_hist Γ (M4 7 1))) (v_7 (by decide)) rfl rfl rfl (Nat.le_of_ble_eq_true rfl) dX6_pass_23 (pc' := 26) rfl (fun r5 M6 => ?_)
  exact k_reti C rfl hr dX6_pass_26
def fX6_seaIn (M0 : kM2) (a1 : Int32) : Option (Int32 × kM2) :=
  bd (fX6_within M0 a1 0 5000) fun r1 M2 => if r1 = 0 then some ((-1000001), M2) else bd (k_on M2 0 (fX3_seaAt (M2 0) ((M2 0 0 8) + a1))) fun r4 M5 => some (r4, M5)
set_option maxRecDepth 100000 in
set_option maxHeartbeats 4000000 in
theorem qX6_seaIn (l : Launch) (Γ : kG) (hL : k_Lay Γ 314) (M0 : kM2) (a1 : Int32) : CT l Γ (K2 Γ) yX6_seaIn cX6_seaIn 2 (some .int) (k_R 2) [.ref (Γ.1 7 0), .int a1] M0 (fX6_seaIn M0 a1) := by
  refine k_meth (own := RX6) (by decide) rfl (Nat.le_of_ble_eq_true rfl) (fun p e R s mid args below meth c C hr => ?_)
  show Sm Γ (K2 Γ) p l e R s mid args below meth c 2 (jM true Γ (K2 Γ) below args s) M0 [(0, .ref (Γ.1 7 0)), (1, .int a1)] [] 0 (fX6_seaIn M0 a1)
  unfold fX6_seaIn
  refine k_iload_n C 1 dX6_seaIn_0 rfl rfl (pc' := 1) rfl ?_
  refine k_iconst C (v := 0) dX6_seaIn_1 (by decide) (pc' := 2) rfl ?_
  refine k_sipush C (v := 5000) dX6_seaIn_2 (by decide) (pc' := 5) rfl ?_
  refine k_callSi C (rest := []) (qX6_within l Γ (K2 Γ) M0 a1 0 5000) mwX6_within swX6_within mlX6_75 (k_rm_of (by decide) (by decide)) rfl rfl (Nat.le_of_ble_eq_true rfl) dX6_seaIn_5 (pc' := 8) rfl (fun r1 M2 => ?_)
  refine k_if_ne C (tgt := 14) dX6_seaIn_8 (by decide) (pc' := 11) rfl (fun h3 => ?_) (fun h3 => ?_)
  · refine k_aload_n C 0 dX6_seaIn_14 rfl rfl (pc' := 15) rfl ?_
    refine k_getf C 0 (c2 Γ M2 7 0 (e_sea Γ (M2 7 0))) (v_7 (by decide)) flX6_10 (v := .ref (Γ.1 0 0)) rfl dX6_seaIn_15 (pc' := 18) rfl ?_
    refine k_aload_n C 0 dX6_seaIn_18 rfl rfl (pc' := 19) rfl ?_
    refine k_getf C 0 (c2 Γ M2 7 0 (e_sea Γ (M2 7 0))) (v_7 (by decide)) flX6_10 (v := .ref (Γ.1 0 0)) rfl dX6_seaIn_19 (pc' := 22) rfl ?_
    refine k_getf C 8 (c2 Γ M2 0 0 (e_mill Γ (by decide) (M2 0 0))) (v_i (by decide) (by decide)) flX6_137 (v := .int (M2 0 0 8)) rfl dX6_seaIn_22 (pc' := 25) rfl ?_
    refine k_iload_n C 1 dX6_seaIn_25 rfl rfl (pc' := 26) rfl ?_
    refine k_iadd C dX6_seaIn_26 (pc' := 27) rfl ?_
    refine k_callVi C (rest := []) (CT.lift2 (qX3_seaAt l Γ hL M2 0 (by decide) (M2 0) ((M2 0 0 8) + a1))) mwX3_seaAt iwX3_seaAt mlX6_141 (k_rm_of (by decide) (by decide)) (c2 Γ M2 0 0 (e_mill Γ (by decide) (M2 0 0))) (v_i (by decide) (by decide)) rfl rfl rfl (Nat.le_of_ble_eq_true rfl) dX6_seaIn_27 (pc' := 30) rfl (fun r4 M5 => ?_)
    exact k_reti C rfl hr dX6_seaIn_30
  · refine k_ldc C (v := (-1000001)) dX6_seaIn_11 cnX6_79 (pc' := 13) rfl ?_
    exact k_reti C rfl hr dX6_seaIn_13
def fX6_pond (M0 : kM2) (a1 : Int32) : Option (Int32 × kM2) :=
  bd (fX6_within M0 a1 0 14) fun r1 M2 => if r1 = 0 then some ((-1000001), M2) else bd (k_on M2 0 (fX3_tellPond (M2 0) a1)) fun r4 M5 => some (r4, M5)
set_option maxRecDepth 100000 in
set_option maxHeartbeats 4000000 in
theorem qX6_pond (l : Launch) (Γ : kG) (hL : k_Lay Γ 314) (M0 : kM2) (a1 : Int32) : CT l Γ (K2 Γ) yX6_pond cX6_pond 2 (some .int) (k_R 3) [.ref (Γ.1 7 0), .int a1] M0 (fX6_pond M0 a1) := by
  refine k_meth (own := RX6) (by decide) rfl (Nat.le_of_ble_eq_true rfl) (fun p e R s mid args below meth c C hr => ?_)
  show Sm Γ (K2 Γ) p l e R s mid args below meth c 2 (jM true Γ (K2 Γ) below args s) M0 [(0, .ref (Γ.1 7 0)), (1, .int a1)] [] 0 (fX6_pond M0 a1)
  unfold fX6_pond
  refine k_iload_n C 1 dX6_pond_0 rfl rfl (pc' := 1) rfl ?_
  refine k_iconst C (v := 0) dX6_pond_1 (by decide) (pc' := 2) rfl ?_
  refine k_bipush C (v := 14) dX6_pond_2 (by decide) (pc' := 4) rfl ?_
  refine k_callSi C (rest := []) (qX6_within l Γ (K2 Γ) M0 a1 0 14) mwX6_within swX6_within mlX6_75 (k_rm_of (by decide) (by decide)) rfl rfl (Nat.le_of_ble_eq_true rfl) dX6_pond_4 (pc' := 7) rfl (fun r1 M2 => ?_)
  refine k_if_ne C (tgt := 13) dX6_pond_7 (by decide) (pc' := 10) rfl (fun h3 => ?_) (fun h3 => ?_)
  · refine k_aload_n C 0 dX6_pond_13 rfl rfl (pc' := 14) rfl ?_
    refine k_getf C 0 (c2 Γ M2 7 0 (e_sea Γ (M2 7 0))) (v_7 (by decide)) flX6_10 (v := .ref (Γ.1 0 0)) rfl dX6_pond_14 (pc' := 17) rfl ?_
    refine k_iload_n C 1 dX6_pond_17 rfl rfl (pc' := 18) rfl ?_
    refine k_callVi C (rest := []) (CT.lift2 (qX3_tellPond l Γ hL M2 0 (by decide) (M2 0) a1)) mwX3_tellPond iwX3_tellPond mlX6_147 (k_rm_of (by decide) (by decide)) (c2 Γ M2 0 0 (e_mill Γ (by decide) (M2 0 0))) (v_i (by decide) (by decide)) rfl rfl rfl (Nat.le_of_ble_eq_true rfl) dX6_pond_18 (pc' := 21) rfl (fun r4 M5 => ?_)
    exact k_reti C rfl hr dX6_pond_21
  · refine k_ldc C (v := (-1000001)) dX6_pond_10 cnX6_79 (pc' := 12) rfl ?_
    exact k_reti C rfl hr dX6_pond_12
def fX6_foresee_b46 (a1 : Int32) : Nat → kM2 → Int32 → Option (Int32 × kM2)
  | 0, _, _ => none
  | n + 1, M0, b2 =>
  if 1000 < b2 then some ((-1000004), M0) else bd (k_on M0 1 (fX3_step (M0 1))) fun r9 M10 => if ¬ a1 < 0 ∧ a1.toNatClampNeg < 24 then if (M10 1 (20 + a1.toNatClampNeg) 6) = 2 then some (b2, M10) else k_let (b2 + 1) fun v13 => fX6_foresee_b46 a1 n M10 v13 else none
set_option maxRecDepth 100000 in
set_option maxHeartbeats 4000000 in
theorem sX6_foresee_b46 {l : Launch} {Γ : kG} (hL : k_Lay Γ 314) {p : Program} {e : Env} {R : Room} {s : State} {mid : MethodId} {args : Array Value} {below : List Frame} {meth : Method} {c : Code} (C : k_C Γ p R s mid args meth c cX6_foresee 3 RX6 (k_R 5)) (hr : meth.sig.returnType = (some .int)) (a1 : Int32)  (n : Nat) : ∀ (M0 : kM2) (b2 : Int32), Sm Γ (K2 Γ) p l e R s mid args below meth c 3 (jM true Γ (K2 Γ) below args s) M0 [(0, .ref (Γ.1 7 0)), (1, .int a1), (2, .int b2)] [] 46 (fX6_foresee_b46 a1 n M0 b2) := by
  induction n with
  | zero => intros; exact k_none
  | succ n ih =>
    intro M0 b2
    unfold fX6_foresee_b46
    refine k_iload_n C 2 dX6_foresee_46 rfl rfl (pc' := 47) rfl ?_
    refine k_sipush C (v := 1000) dX6_foresee_47 (by decide) (pc' := 50) rfl ?_
    refine k_ic_gt C (tgt := 84) dX6_foresee_50 (by decide) (pc' := 53) rfl (fun h8 => ?_) (fun h8 => ?_)
    · refine k_ldc C (v := (-1000004)) dX6_foresee_84 cnX6_124 (pc' := 86) rfl ?_
      exact k_reti C rfl hr dX6_foresee_86
    · refine k_aload_n C 0 dX6_foresee_53 rfl rfl (pc' := 54) rfl ?_
      refine k_getf C 1 (c2 Γ M0 7 0 (e_sea Γ (M0 7 0))) (v_7 (by decide)) flX6_16 (v := .ref (Γ.1 1 0)) rfl dX6_foresee_54 (pc' := 57) rfl ?_
      refine k_callVv C (rest := []) (CT.lift2 (qX3_step l Γ hL M0 1 (by decide) (M0 1))) mwX3_step iwX3_step mlX6_157 (k_rm_of (by decide) (by decide)) (c2 Γ M0 1 0 (e_mill Γ (by decide) (M0 1 0))) (v_i (by decide) (by decide)) rfl rfl rfl (Nat.le_of_ble_eq_true rfl) dX6_foresee_57 (pc' := 60) rfl (fun r9 M10 => ?_)
      refine k_aload_n C 0 dX6_foresee_60 rfl rfl (pc' := 61) rfl ?_
      refine k_getf C 1 (c2 Γ M10 7 0 (e_sea Γ (M10 7 0))) (v_7 (by decide)) flX6_16 (v := .ref (Γ.1 1 0)) rfl dX6_foresee_61 (pc' := 64) rfl ?_
      refine k_getf C 4 (c2 Γ M10 1 0 (e_mill Γ (by decide) (M10 1 0))) (v_i (by decide) (by decide)) flX6_95 (v := .ref (Γ.1 1 5)) rfl dX6_foresee_64 (pc' := 67) rfl ?_
      refine k_iload_n C 1 dX6_foresee_67 rfl rfl (pc' := 68) rfl ?_
      refine k_aald C 4 (c2 Γ M10 1 5 (e_sacks Γ (by decide) (M10 1 5))) (v_i (by decide) (by decide)) rfl (b := Γ.1 1 (20 + a1.toNatClampNeg)) rfl dX6_foresee_68 (pc' := 69) rfl (fun h11 => ?_)
      refine k_getf C 6 (c2 Γ M10 1 (20 + a1.toNatClampNeg) (e_sack Γ (by decide) (j_sack h11) (M10 1 (20 + a1.toNatClampNeg)))) (v_i (by decide) (h_sack (j_sack h11))) flX6_150 (v := .int (M10 1 (20 + a1.toNatClampNeg) 6)) rfl dX6_foresee_69 (pc' := 72) rfl ?_
      refine k_iconst C (v := 2) dX6_foresee_72 (by decide) (pc' := 73) rfl ?_
      refine k_ic_ne C (tgt := 78) dX6_foresee_73 (by decide) (pc' := 76) rfl (fun h12 => ?_) (fun h12 => ?_)
      · refine k_iinc (v := 1) (q := 2) (lv' := [(0, .ref (Γ.1 7 0)), (1, .int a1)]) C dX6_foresee_78 rfl (by decide) (by decide) (pc' := 81) rfl (fun _ => rfl) (fun v13 => ?_)
        refine k_goto C (pc' := 46) dX6_foresee_81 (by decide) ?_
        refine k_sub [1, 2, 0] rfl ?_
        exact ih M10 v13
      · refine k_iload_n C 2 dX6_foresee_76 rfl rfl (pc' := 77) rfl ?_
        exact k_reti C rfl hr dX6_foresee_77
def fX6_foresee (M0 : kM2) (a1 : Int32) : Option (Int32 × kM2) :=
  bd (k_on M0 0 (fX3_hasSack (M0 0) a1)) fun r1 M2 => if r1 = 0 then some ((-1000001), M2) else if ¬ a1 < 0 ∧ a1.toNatClampNeg < 24 then if (M2 0 (20 + a1.toNatClampNeg) 6) < 2 then bd (fX3_copyFrom M2 1 0) fun r6 M7 => fX6_foresee_b46 a1 kFu M7 1 else some ((-1000002), M2) else none
set_option maxRecDepth 100000 in
set_option maxHeartbeats 4000000 in
theorem qX6_foresee (l : Launch) (Γ : kG) (hL : k_Lay Γ 314) (M0 : kM2) (a1 : Int32) : CT l Γ (K2 Γ) yX6_foresee cX6_foresee 3 (some .int) (k_R 5) [.ref (Γ.1 7 0), .int a1] M0 (fX6_foresee M0 a1) := by
  refine k_meth (own := RX6) (by decide) rfl (Nat.le_of_ble_eq_true rfl) (fun p e R s mid args below meth c C hr => ?_)
  show Sm Γ (K2 Γ) p l e R s mid args below meth c 3 (jM true Γ (K2 Γ) below args s) M0 [(0, .ref (Γ.1 7 0)), (1, .int a1)] [] 0 (fX6_foresee M0 a1)
  unfold fX6_foresee
  refine k_aload_n C 0 dX6_foresee_0 rfl rfl (pc' := 1) rfl ?_
  refine k_getf C 0 (c2 Γ M0 7 0 (e_sea Γ (M0 7 0))) (v_7 (by decide)) flX6_10 (v := .ref (Γ.1 0 0)) rfl dX6_foresee_1 (pc' := 4) rfl ?_
  refine k_iload_n C 1 dX6_foresee_4 rfl rfl (pc' := 5) rfl ?_
  refine k_callVi C (rest := []) (CT.lift2 (qX3_hasSack l Γ hL M0 0 (by decide) (M0 0) a1)) mwX3_hasSack iwX3_hasSack mlX6_89 (k_rm_of (by decide) (by decide)) (c2 Γ M0 0 0 (e_mill Γ (by decide) (M0 0 0))) (v_i (by decide) (by decide)) rfl rfl rfl (Nat.le_of_ble_eq_true rfl) dX6_foresee_5 (pc' := 8) rfl (fun r1 M2 => ?_)
  refine k_if_ne C (tgt := 14) dX6_foresee_8 (by decide) (pc' := 11) rfl (fun h3 => ?_) (fun h3 => ?_)
  · refine k_aload_n C 0 dX6_foresee_14 rfl rfl (pc' := 15) rfl ?_
    refine k_getf C 0 (c2 Γ M2 7 0 (e_sea Γ (M2 7 0))) (v_7 (by decide)) flX6_10 (v := .ref (Γ.1 0 0)) rfl dX6_foresee_15 (pc' := 18) rfl ?_
    refine k_getf C 4 (c2 Γ M2 0 0 (e_mill Γ (by decide) (M2 0 0))) (v_i (by decide) (by decide)) flX6_95 (v := .ref (Γ.1 0 5)) rfl dX6_foresee_18 (pc' := 21) rfl ?_
    refine k_iload_n C 1 dX6_foresee_21 rfl rfl (pc' := 22) rfl ?_
    refine k_aald C 4 (c2 Γ M2 0 5 (e_sacks Γ (by decide) (M2 0 5))) (v_i (by decide) (by decide)) rfl (b := Γ.1 0 (20 + a1.toNatClampNeg)) rfl dX6_foresee_22 (pc' := 23) rfl (fun h4 => ?_)
    refine k_getf C 6 (c2 Γ M2 0 (20 + a1.toNatClampNeg) (e_sack Γ (by decide) (j_sack h4) (M2 0 (20 + a1.toNatClampNeg)))) (v_i (by decide) (h_sack (j_sack h4))) flX6_150 (v := .int (M2 0 (20 + a1.toNatClampNeg) 6)) rfl dX6_foresee_23 (pc' := 26) rfl ?_
    refine k_iconst C (v := 2) dX6_foresee_26 (by decide) (pc' := 27) rfl ?_
    refine k_ic_lt C (tgt := 33) dX6_foresee_27 (by decide) (pc' := 30) rfl (fun h5 => ?_) (fun h5 => ?_)
    · refine k_aload_n C 0 dX6_foresee_33 rfl rfl (pc' := 34) rfl ?_
      refine k_getf C 1 (c2 Γ M2 7 0 (e_sea Γ (M2 7 0))) (v_7 (by decide)) flX6_16 (v := .ref (Γ.1 1 0)) rfl dX6_foresee_34 (pc' := 37) rfl ?_
      refine k_aload_n C 0 dX6_foresee_37 rfl rfl (pc' := 38) rfl ?_
      refine k_getf C 0 (c2 Γ M2 7 0 (e_sea Γ (M2 7 0))) (v_7 (by decide)) flX6_10 (v := .ref (Γ.1 0 0)) rfl dX6_foresee_38 (pc' := 41) rfl ?_
      refine k_callVv C (rest := []) (qX3_copyFrom l Γ hL M2 1 0 (by decide) (by decide)) mwX3_copyFrom iwX3_copyFrom mlX6_154 (k_rm_of (by decide) (by decide)) (c2 Γ M2 1 0 (e_mill Γ (by decide) (M2 1 0))) (v_i (by decide) (by decide)) rfl rfl rfl (Nat.le_of_ble_eq_true rfl) dX6_foresee_41 (pc' := 44) rfl (fun r6 M7 => ?_)
      refine k_iconst C (v := 1) dX6_foresee_44 (by decide) (pc' := 45) rfl ?_
      refine k_istore_n C (lv' := [(2, .int 1), (0, .ref (Γ.1 7 0)), (1, .int a1)]) dX6_foresee_45 rfl (by decide) rfl (pc' := 46) rfl ?_
      refine k_sub [1, 2, 0] rfl ?_
      exact sX6_foresee_b46 hL C hr a1 kFu M7 1
    · refine k_ldc C (v := (-1000002)) dX6_foresee_30 cnX6_153 (pc' := 32) rfl ?_
      exact k_reti C rfl hr dX6_foresee_32
  · refine k_ldc C (v := (-1000001)) dX6_foresee_11 cnX6_79 (pc' := 13) rfl ?_
    exact k_reti C rfl hr dX6_foresee_13
def fX6_groundBy_b21 (a1 : Int32) (a2 : Int32) : Nat → kM2 → Int32 → Option (Int32 × kM2)
  | 0, _, _ => none
  | n + 1, M0, b3 =>
  if a2 ≤ b3 then some ((M0 1 0 17) - (M0 0 0 17), M0) else bd (k_on M0 1 (fX3_step (M0 1))) fun r5 M6 => k_let (b3 + 1) fun v7 => fX6_groundBy_b21 a1 a2 n M6 v7
set_option maxRecDepth 100000 in
set_option maxHeartbeats 4000000 in
theorem sX6_groundBy_b21 {l : Launch} {Γ : kG} (hL : k_Lay Γ 314) {p : Program} {e : Env} {R : Room} {s : State} {mid : MethodId} {args : Array Value} {below : List Frame} {meth : Method} {c : Code} (C : k_C Γ p R s mid args meth c cX6_groundBy 4 RX6 (k_R 5)) (hr : meth.sig.returnType = (some .int)) (a1 : Int32) (a2 : Int32)  (n : Nat) : ∀ (M0 : kM2) (b3 : Int32), Sm Γ (K2 Γ) p l e R s mid args below meth c 4 (jM true Γ (K2 Γ) below args s) M0 [(0, .ref (Γ.1 7 0)), (2, .int a2), (3, .int b3)] [] 21 (fX6_groundBy_b21 a1 a2 n M0 b3) := by
  induction n with
  | zero => intros; exact k_none
  | succ n ih =>
    intro M0 b3
    unfold fX6_groundBy_b21
    refine k_iload_n C 2 dX6_groundBy_21 rfl rfl (pc' := 22) rfl ?_
    refine k_iload_n C 1 dX6_groundBy_22 rfl rfl (pc' := 23) rfl ?_
    refine k_ic_ge C (tgt := 39) dX6_groundBy_23 (by decide) (pc' := 26) rfl (fun h4 => ?_) (fun h4 => ?_)
    · refine k_aload_n C 0 dX6_groundBy_39 rfl rfl (pc' := 40) rfl ?_
      refine k_getf C 1 (c2 Γ M0 7 0 (e_sea Γ (M0 7 0))) (v_7 (by decide)) flX6_16 (v := .ref (Γ.1 1 0)) rfl dX6_groundBy_40 (pc' := 43) rfl ?_
      refine k_getf C 17 (c2 Γ M0 1 0 (e_mill Γ (by decide) (M0 1 0))) (v_i (by decide) (by decide)) flX6_202 (v := .int (M0 1 0 17)) rfl dX6_groundBy_43 (pc' := 46) rfl ?_
      refine k_aload_n C 0 dX6_groundBy_46 rfl rfl (pc' := 47) rfl ?_
      refine k_getf C 0 (c2 Γ M0 7 0 (e_sea Γ (M0 7 0))) (v_7 (by decide)) flX6_10 (v := .ref (Γ.1 0 0)) rfl dX6_groundBy_47 (pc' := 50) rfl ?_
      refine k_getf C 17 (c2 Γ M0 0 0 (e_mill Γ (by decide) (M0 0 0))) (v_i (by decide) (by decide)) flX6_202 (v := .int (M0 0 0 17)) rfl dX6_groundBy_50 (pc' := 53) rfl ?_
      refine k_isub C dX6_groundBy_53 (pc' := 54) rfl ?_
      exact k_reti C rfl hr dX6_groundBy_54
    · refine k_aload_n C 0 dX6_groundBy_26 rfl rfl (pc' := 27) rfl ?_
      refine k_getf C 1 (c2 Γ M0 7 0 (e_sea Γ (M0 7 0))) (v_7 (by decide)) flX6_16 (v := .ref (Γ.1 1 0)) rfl dX6_groundBy_27 (pc' := 30) rfl ?_
      refine k_callVv C (rest := []) (CT.lift2 (qX3_step l Γ hL M0 1 (by decide) (M0 1))) mwX3_step iwX3_step mlX6_157 (k_rm_of (by decide) (by decide)) (c2 Γ M0 1 0 (e_mill Γ (by decide) (M0 1 0))) (v_i (by decide) (by decide)) rfl rfl rfl (Nat.le_of_ble_eq_true rfl) dX6_groundBy_30 (pc' := 33) rfl (fun r5 M6 => ?_)
      refine k_iinc (v := 1) (q := 2) (lv' := [(0, .ref (Γ.1 7 0)), (2, .int a2)]) C dX6_groundBy_33 rfl (by decide) (by decide) (pc' := 36) rfl (fun _ => rfl) (fun v7 => ?_)
      refine k_goto C (pc' := 21) dX6_groundBy_36 (by decide) ?_
      refine k_sub [1, 2, 0] rfl ?_
      exact ih M6 v7
def fX6_groundBy (M0 : kM2) (a1 : Int32) (a2 : Int32) : Option (Int32 × kM2) :=
  bd (fX3_copyFrom M0 1 0) fun r1 M2 => k_let (mw M2 1 0 11 a1) fun M3 => fX6_groundBy_b21 a1 a2 kFu M3 0
set_option maxRecDepth 100000 in
set_option maxHeartbeats 4000000 in
theorem qX6_groundBy (l : Launch) (Γ : kG) (hL : k_Lay Γ 314) (M0 : kM2) (a1 : Int32) (a2 : Int32) : CT l Γ (K2 Γ) yX6_groundBy cX6_groundBy 4 (some .int) (k_R 5) [.ref (Γ.1 7 0), .int a1, .int a2] M0 (fX6_groundBy M0 a1 a2) := by
  refine k_meth (own := RX6) (by decide) rfl (Nat.le_of_ble_eq_true rfl) (fun p e R s mid args below meth c C hr => ?_)
  show Sm Γ (K2 Γ) p l e R s mid args below meth c 4 (jM true Γ (K2 Γ) below args s) M0 [(0, .ref (Γ.1 7 0)), (1, .int a1), (2, .int a2)] [] 0 (fX6_groundBy M0 a1 a2)
  unfold fX6_groundBy
  refine k_aload_n C 0 dX6_groundBy_0 rfl rfl (pc' := 1) rfl ?_
  refine k_getf C 1 (c2 Γ M0 7 0 (e_sea Γ (M0 7 0))) (v_7 (by decide)) flX6_16 (v := .ref (Γ.1 1 0)) rfl dX6_groundBy_1 (pc' := 4) rfl ?_
  refine k_aload_n C 0 dX6_groundBy_4 rfl rfl (pc' := 5) rfl ?_
  refine k_getf C 0 (c2 Γ M0 7 0 (e_sea Γ (M0 7 0))) (v_7 (by decide)) flX6_10 (v := .ref (Γ.1 0 0)) rfl dX6_groundBy_5 (pc' := 8) rfl ?_
  refine k_callVv C (rest := []) (qX3_copyFrom l Γ hL M0 1 0 (by decide) (by decide)) mwX3_copyFrom iwX3_copyFrom mlX6_154 (k_rm_of (by decide) (by decide)) (c2 Γ M0 1 0 (e_mill Γ (by decide) (M0 1 0))) (v_i (by decide) (by decide)) rfl rfl rfl (Nat.le_of_ble_eq_true rfl) dX6_groundBy_8 (pc' := 11) rfl (fun r1 M2 => ?_)
  refine k_aload_n C 0 dX6_groundBy_11 rfl rfl (pc' := 12) rfl ?_
  refine k_getf C 1 (c2 Γ M2 7 0 (e_sea Γ (M2 7 0))) (v_7 (by decide)) flX6_16 (v := .ref (Γ.1 1 0)) rfl dX6_groundBy_12 (pc' := 15) rfl ?_
  refine k_iload_n C 1 dX6_groundBy_15 rfl rfl (pc' := 16) rfl ?_
  refine k_putf C hL.k2 11 (c2 Γ M2 1 0 (e_mill Γ (by decide) (M2 1 0))) (v_i (by decide) (by decide)) flX6_199 fpX3_11 (Nat.le_of_ble_eq_true rfl) (s2 Γ M2 1 0 11 a1 ((e_mill Γ (by decide) _).trans (congrArg (fun z => Sum.inr (3, z)) (f_mill Γ 1 (M2 1 0) a1 11 (by decide))))) dX6_groundBy_16 (pc' := 19) rfl (fun M3 => ?_)
  refine k_iconst C (v := 0) dX6_groundBy_19 (by decide) (pc' := 20) rfl ?_
  refine k_istore_n C (lv' := [(3, .int 0), (0, .ref (Γ.1 7 0)), (1, .int a1), (2, .int a2)]) dX6_groundBy_20 rfl (by decide) rfl (pc' := 21) rfl ?_
  refine k_sub [1, 3, 0] rfl ?_
  exact sX6_groundBy_b21 hL C hr a1 a2 kFu M3 0
def fX6_bestGate_b48 (a1 : Int32) (rec21 : kM2 → Int32 → Int32 → Int32 → Option (Int32 × kM2)) (M0 : kM2) (b2 : Int32) (b3 : Int32) (b4 : Int32) : Option (Int32 × kM2) :=
  k_let (b4 + 1) fun v8 => rec21 M0 b2 b3 v8
set_option maxRecDepth 100000 in
set_option maxHeartbeats 4000000 in
theorem sX6_bestGate_b48 {l : Launch} {Γ : kG} (hL : k_Lay Γ 314) {p : Program} {e : Env} {R : Room} {s : State} {mid : MethodId} {args : Array Value} {below : List Frame} {meth : Method} {c : Code} (C : k_C Γ p R s mid args meth c cX6_bestGate 6 RX6 (k_R 6)) (hr : meth.sig.returnType = (some .int)) (a1 : Int32) (rec21 : kM2 → Int32 → Int32 → Int32 → Option (Int32 × kM2)) (hrec21 : ∀ (M0 : kM2) (b2 : Int32) (b3 : Int32) (b4 : Int32), Sm Γ (K2 Γ) p l e R s mid args below meth c 6 (jM true Γ (K2 Γ) below args s) M0 [(0, .ref (Γ.1 7 0)), (1, .int a1), (2, .int b2), (3, .int b3), (4, .int b4)] [] 21 (rec21 M0 b2 b3 b4)) (M0 : kM2) (b2 : Int32) (b3 : Int32) (b4 : Int32)  : Sm Γ (K2 Γ) p l e R s mid args below meth c 6 (jM true Γ (K2 Γ) below args s) M0 [(0, .ref (Γ.1 7 0)), (1, .int a1), (2, .int b2), (3, .int b3), (4, .int b4)] [] 48 (fX6_bestGate_b48 a1 rec21 M0 b2 b3 b4) := by
  unfold fX6_bestGate_b48
  refine k_iinc (v := 1) (q := 4) (lv' := [(0, .ref (Γ.1 7 0)), (1, .int a1), (2, .int b2), (3, .int b3)]) C dX6_bestGate_48 rfl (by decide) (by decide) (pc' := 51) rfl (fun _ => rfl) (fun v8 => ?_)
  refine k_goto C (pc' := 21) dX6_bestGate_51 (by decide) ?_
  refine k_sub [1, 2, 3, 4, 0] rfl ?_
  exact hrec21 M0 b2 b3 v8
def fX6_bestGate_b21 (a1 : Int32) : Nat → kM2 → Int32 → Int32 → Int32 → Option (Int32 × kM2)
  | 0, _, _, _, _ => none
  | n + 1, M0, b2, b3, b4 =>
  if 4 ≤ b4 then some (b2, M0) else bd (fX6_groundBy M0 b4 a1) fun r5 M6 => if r5 ≤ b3 then fX6_bestGate_b48 a1 (fX6_bestGate_b21 a1 n) M6 b2 b3 b4 else fX6_bestGate_b48 a1 (fX6_bestGate_b21 a1 n) M6 b4 r5 b4
set_option maxRecDepth 100000 in
set_option maxHeartbeats 4000000 in
theorem sX6_bestGate_b21 {l : Launch} {Γ : kG} (hL : k_Lay Γ 314) {p : Program} {e : Env} {R : Room} {s : State} {mid : MethodId} {args : Array Value} {below : List Frame} {meth : Method} {c : Code} (C : k_C Γ p R s mid args meth c cX6_bestGate 6 RX6 (k_R 6)) (hr : meth.sig.returnType = (some .int)) (a1 : Int32)  (n : Nat) : ∀ (M0 : kM2) (b2 : Int32) (b3 : Int32) (b4 : Int32), Sm Γ (K2 Γ) p l e R s mid args below meth c 6 (jM true Γ (K2 Γ) below args s) M0 [(0, .ref (Γ.1 7 0)), (1, .int a1), (2, .int b2), (3, .int b3), (4, .int b4)] [] 21 (fX6_bestGate_b21 a1 n M0 b2 b3 b4) := by
  induction n with
  | zero => intros; exact k_none
  | succ n ih =>
    intro M0 b2 b3 b4
    unfold fX6_bestGate_b21
    refine k_iload C 4 dX6_bestGate_21 rfl (pc' := 23) rfl ?_
    refine k_iconst C (v := 4) dX6_bestGate_23 (by decide) (pc' := 24) rfl ?_
    refine k_ic_ge C (tgt := 54) dX6_bestGate_24 (by decide) (pc' := 27) rfl (fun h4 => ?_) (fun h4 => ?_)
    · refine k_iload_n C 2 dX6_bestGate_54 rfl rfl (pc' := 55) rfl ?_
      exact k_reti C rfl hr dX6_bestGate_55
    · refine k_aload_n C 0 dX6_bestGate_27 rfl rfl (pc' := 28) rfl ?_
      refine k_iload C 4 dX6_bestGate_28 rfl (pc' := 30) rfl ?_
      refine k_iload_n C 1 dX6_bestGate_30 rfl rfl (pc' := 31) rfl ?_
      refine k_callVi C (rest := []) (qX6_groundBy l Γ hL M0 b4 a1) mwX6_groundBy iwX6_groundBy mlX6_160 (k_rm_of (by decide) (by decide)) (c2 Γ M0 7 0 (e_sea Γ (M0 7 0))) (v_7 (by decide)) rfl rfl rfl (Nat.le_of_ble_eq_true rfl) dX6_bestGate_31 (pc' := 34) rfl (fun r5 M6 => ?_)
      refine k_istore C (lv' := [(5, .int r5), (0, .ref (Γ.1 7 0)), (1, .int a1), (2, .int b2), (3, .int b3), (4, .int b4)]) dX6_bestGate_34 (by decide) rfl (pc' := 36) rfl ?_
      refine k_iload C 0 dX6_bestGate_36 rfl (pc' := 38) rfl ?_
      refine k_iload_n C 4 dX6_bestGate_38 rfl rfl (pc' := 39) rfl ?_
      refine k_ic_le C (tgt := 48) dX6_bestGate_39 (by decide) (pc' := 42) rfl (fun h7 => ?_) (fun h7 => ?_)
      · refine k_sub [1, 2, 3, 4, 5] rfl ?_
        exact sX6_bestGate_b48 hL C hr a1 (fX6_bestGate_b21 a1 n) ih M6 b2 b3 b4
      · refine k_iload C 0 dX6_bestGate_42 rfl (pc' := 44) rfl ?_
        refine k_istore_n C (lv' := [(3, .int r5), (5, .int r5), (0, .ref (Γ.1 7 0)), (1, .int a1), (2, .int b2), (4, .int b4)]) dX6_bestGate_44 rfl (by decide) rfl (pc' := 45) rfl ?_
        refine k_iload C 5 dX6_bestGate_45 rfl (pc' := 47) rfl ?_
        refine k_istore_n C (lv' := [(2, .int b4), (3, .int r5), (5, .int r5), (0, .ref (Γ.1 7 0)), (1, .int a1), (4, .int b4)]) dX6_bestGate_47 rfl (by decide) rfl (pc' := 48) rfl ?_
        refine k_sub [3, 4, 0, 1, 5] rfl ?_
        exact sX6_bestGate_b48 hL C hr a1 (fX6_bestGate_b21 a1 n) ih M6 b4 r5 b4
def fX6_bestGate (M0 : kM2) (a1 : Int32) : Option (Int32 × kM2) :=
  bd (fX6_within M0 a1 1 200) fun r1 M2 => if r1 = 0 then some ((-1000001), M2) else fX6_bestGate_b21 a1 kFu M2 0 (-1) 0
set_option maxRecDepth 100000 in
set_option maxHeartbeats 4000000 in
theorem qX6_bestGate (l : Launch) (Γ : kG) (hL : k_Lay Γ 314) (M0 : kM2) (a1 : Int32) : CT l Γ (K2 Γ) yX6_bestGate cX6_bestGate 6 (some .int) (k_R 6) [.ref (Γ.1 7 0), .int a1] M0 (fX6_bestGate M0 a1) := by
  refine k_meth (own := RX6) (by decide) rfl (Nat.le_of_ble_eq_true rfl) (fun p e R s mid args below meth c C hr => ?_)
  show Sm Γ (K2 Γ) p l e R s mid args below meth c 6 (jM true Γ (K2 Γ) below args s) M0 [(0, .ref (Γ.1 7 0)), (1, .int a1)] [] 0 (fX6_bestGate M0 a1)
  unfold fX6_bestGate
  refine k_iload_n C 1 dX6_bestGate_0 rfl rfl (pc' := 1) rfl ?_
  refine k_iconst C (v := 1) dX6_bestGate_1 (by decide) (pc' := 2) rfl ?_
  refine k_sipush C (v := 200) dX6_bestGate_2 (by decide) (pc' := 5) rfl ?_
  refine k_callSi C (rest := []) (qX6_within l Γ (K2 Γ) M0 a1 1 200) mwX6_within swX6_within mlX6_75 (k_rm_of (by decide) (by decide)) rfl rfl (Nat.le_of_ble_eq_true rfl) dX6_bestGate_5 (pc' := 8) rfl (fun r1 M2 => ?_)
  refine k_if_ne C (tgt := 14) dX6_bestGate_8 (by decide) (pc' := 11) rfl (fun h3 => ?_) (fun h3 => ?_)
  · refine k_iconst C (v := 0) dX6_bestGate_14 (by decide) (pc' := 15) rfl ?_
    refine k_istore_n C (lv' := [(2, .int 0), (0, .ref (Γ.1 7 0)), (1, .int a1)]) dX6_bestGate_15 rfl (by decide) rfl (pc' := 16) rfl ?_
    refine k_iconst C (v := (-1)) dX6_bestGate_16 (by decide) (pc' := 17) rfl ?_
    refine k_istore_n C (lv' := [(3, .int (-1)), (2, .int 0), (0, .ref (Γ.1 7 0)), (1, .int a1)]) dX6_bestGate_17 rfl (by decide) rfl (pc' := 18) rfl ?_
    refine k_iconst C (v := 0) dX6_bestGate_18 (by decide) (pc' := 19) rfl ?_
    refine k_istore C (lv' := [(4, .int 0), (3, .int (-1)), (2, .int 0), (0, .ref (Γ.1 7 0)), (1, .int a1)]) dX6_bestGate_19 (by decide) rfl (pc' := 21) rfl ?_
    refine k_sub [3, 4, 2, 1, 0] rfl ?_
    exact sX6_bestGate_b21 hL C hr a1 kFu M2 0 (-1) 0
  · refine k_ldc C (v := (-1000001)) dX6_bestGate_11 cnX6_79 (pc' := 13) rfl ?_
    exact k_reti C rfl hr dX6_bestGate_13
def fX6_count (M0 : kM2) (a1 : Int32) : Option (Int32 × kM2) :=
  bd (fX6_within M0 a1 20 32) fun r1 M2 => if r1 = 0 then if a1 = 9 then some (M2 7 1 2, M2) else if a1 = 10 then some (M2 7 3 2, M2) else bd (k_on M2 0 (fX3_countOf (M2 0) a1)) fun r6 M7 => some (r6, M7) else if ¬ (a1 - 20) < 0 ∧ (a1 - 20).toNatClampNeg < 13 then some (M2 0 1 (a1 - 20).toNatClampNeg, M2) else none
set_option maxRecDepth 100000 in
set_option maxHeartbeats 4000000 in
theorem qX6_count (l : Launch) (Γ : kG) (hL : k_Lay Γ 314) (M0 : kM2) (a1 : Int32) : CT l Γ (K2 Γ) yX6_count cX6_count 2 (some .int) (k_R 3) [.ref (Γ.1 7 0), .int a1] M0 (fX6_count M0 a1) := by
  refine k_meth (own := RX6) (by decide) rfl (Nat.le_of_ble_eq_true rfl) (fun p e R s mid args below meth c C hr => ?_)
  show Sm Γ (K2 Γ) p l e R s mid args below meth c 2 (jM true Γ (K2 Γ) below args s) M0 [(0, .ref (Γ.1 7 0)), (1, .int a1)] [] 0 (fX6_count M0 a1)
  unfold fX6_count
  refine k_iload_n C 1 dX6_count_0 rfl rfl (pc' := 1) rfl ?_
  refine k_bipush C (v := 20) dX6_count_1 (by decide) (pc' := 3) rfl ?_
  refine k_bipush C (v := 32) dX6_count_3 (by decide) (pc' := 5) rfl ?_
  refine k_callSi C (rest := []) (qX6_within l Γ (K2 Γ) M0 a1 20 32) mwX6_within swX6_within mlX6_75 (k_rm_of (by decide) (by decide)) rfl rfl (Nat.le_of_ble_eq_true rfl) dX6_count_5 (pc' := 8) rfl (fun r1 M2 => ?_)
  refine k_if_eq C (tgt := 24) dX6_count_8 (by decide) (pc' := 11) rfl (fun h3 => ?_) (fun h3 => ?_)
  · refine k_iload_n C 1 dX6_count_24 rfl rfl (pc' := 25) rfl ?_
    refine k_ite (fun h4 => ?_) (fun h4 => ?_)
    · refine k_lsw C (off := 27) dX6_count_25 (by decide) (by rw [h4]; rfl) (pc' := 52) (by decide) ?_
      refine k_aload_n C 0 dX6_count_52 rfl rfl (pc' := 53) rfl ?_
      refine k_getf C 2 (c2 Γ M2 7 0 (e_sea Γ (M2 7 0))) (v_7 (by decide)) flX6_22 (v := .ref (Γ.1 7 1)) rfl dX6_count_53 (pc' := 56) rfl ?_
      refine k_getf C 2 (c2 Γ M2 7 1 (e_hist Γ (M2 7 1))) (v_7 (by decide)) flX6_167 (v := .int (M2 7 1 2)) rfl dX6_count_56 (pc' := 59) rfl ?_
      exact k_reti C rfl hr dX6_count_59
    refine k_ite (fun h5 => ?_) (fun h5 => ?_)
    · refine k_lsw C (off := 35) dX6_count_25 (by decide) (by rw [h5]; rfl) (pc' := 60) (by decide) ?_
      refine k_aload_n C 0 dX6_count_60 rfl rfl (pc' := 61) rfl ?_
      refine k_getf C 3 (c2 Γ M2 7 0 (e_sea Γ (M2 7 0))) (v_7 (by decide)) flX6_29 (v := .ref (Γ.1 7 3)) rfl dX6_count_61 (pc' := 64) rfl ?_
      refine k_getf C 2 (c2 Γ M2 7 3 (e_ord Γ (M2 7 3))) (v_7 (by decide)) flX6_170 (v := .int (M2 7 3 2)) rfl dX6_count_64 (pc' := 67) rfl ?_
      exact k_reti C rfl hr dX6_count_67
    refine k_lsw C (off := 43) dX6_count_25 (by decide) ((lv_osw h4 (by decide)).trans ((lv_osw h5 (by decide)).trans rfl)) (pc' := 68) (by decide) ?_
    refine k_aload_n C 0 dX6_count_68 rfl rfl (pc' := 69) rfl ?_
    refine k_getf C 0 (c2 Γ M2 7 0 (e_sea Γ (M2 7 0))) (v_7 (by decide)) flX6_10 (v := .ref (Γ.1 0 0)) rfl dX6_count_69 (pc' := 72) rfl ?_
    refine k_iload_n C 1 dX6_count_72 rfl rfl (pc' := 73) rfl ?_
    refine k_callVi C (rest := []) (CT.lift2 (qX3_countOf l Γ hL M2 0 (by decide) (M2 0) a1)) mwX3_countOf iwX3_countOf mlX6_173 (k_rm_of (by decide) (by decide)) (c2 Γ M2 0 0 (e_mill Γ (by decide) (M2 0 0))) (v_i (by decide) (by decide)) rfl rfl rfl (Nat.le_of_ble_eq_true rfl) dX6_count_73 (pc' := 76) rfl (fun r6 M7 => ?_)
    exact k_reti C rfl hr dX6_count_76
  · refine k_aload_n C 0 dX6_count_11 rfl rfl (pc' := 12) rfl ?_
    refine k_getf C 0 (c2 Γ M2 7 0 (e_sea Γ (M2 7 0))) (v_7 (by decide)) flX6_10 (v := .ref (Γ.1 0 0)) rfl dX6_count_12 (pc' := 15) rfl ?_
    refine k_getf C 0 (c2 Γ M2 0 0 (e_mill Γ (by decide) (M2 0 0))) (v_i (by decide) (by decide)) flX6_163 (v := .ref (Γ.1 0 1)) rfl dX6_count_15 (pc' := 18) rfl ?_
    refine k_iload_n C 1 dX6_count_18 rfl rfl (pc' := 19) rfl ?_
    refine k_bipush C (v := 20) dX6_count_19 (by decide) (pc' := 21) rfl ?_
    refine k_isub C dX6_count_21 (pc' := 22) rfl ?_
    refine k_iald C (c2 Γ M2 0 1 (e_sets Γ (by decide) (M2 0 1))) (v_i (by decide) (by decide)) dX6_count_22 (pc' := 23) rfl (fun h8 => ?_)
    exact k_reti C rfl hr dX6_count_23
def fX6_undo (M0 : kM2) : Option (Int32 × kM2) :=
  bd (fX1_restore M0 0) fun r1 M2 => some (r1, M2)
set_option maxRecDepth 100000 in
set_option maxHeartbeats 4000000 in
theorem qX6_undo (l : Launch) (Γ : kG) (hL : k_Lay Γ 314) (M0 : kM2) : CT l Γ (K2 Γ) yX6_undo cX6_undo 1 (some .int) (k_R 4) [.ref (Γ.1 7 0)] M0 (fX6_undo M0 ) := by
  refine k_meth (own := RX6) (by decide) rfl (Nat.le_of_ble_eq_true rfl) (fun p e R s mid args below meth c C hr => ?_)
  show Sm Γ (K2 Γ) p l e R s mid args below meth c 1 (jM true Γ (K2 Γ) below args s) M0 [(0, .ref (Γ.1 7 0))] [] 0 (fX6_undo M0 )
  unfold fX6_undo
  refine k_aload_n C 0 dX6_undo_0 rfl rfl (pc' := 1) rfl ?_
  refine k_getf C 2 (c2 Γ M0 7 0 (e_sea Γ (M0 7 0))) (v_7 (by decide)) flX6_22 (v := .ref (Γ.1 7 1)) rfl dX6_undo_1 (pc' := 4) rfl ?_
  refine k_aload_n C 0 dX6_undo_4 rfl rfl (pc' := 5) rfl ?_
  refine k_getf C 0 (c2 Γ M0 7 0 (e_sea Γ (M0 7 0))) (v_7 (by decide)) flX6_10 (v := .ref (Γ.1 0 0)) rfl dX6_undo_5 (pc' := 8) rfl ?_
  refine k_callVi C (rest := []) (qX1_restore l Γ hL M0 0 (by decide)) mwX1_restore iwX1_restore mlX6_176 (k_rm_of (by decide) (by decide)) (c2 Γ M0 7 1 (e_hist Γ (M0 7 1))) (v_7 (by decide)) rfl rfl rfl (Nat.le_of_ble_eq_true rfl) dX6_undo_8 (pc' := 11) rfl (fun r1 M2 => ?_)
  exact k_reti C rfl hr dX6_undo_11
