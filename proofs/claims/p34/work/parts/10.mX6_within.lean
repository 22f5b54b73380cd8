def fX6_within {μ : Type} (x0 : μ) (a0 : Int32) (a1 : Int32) (a2 : Int32) : Option (Int32 × μ) :=
  if a0 < a1 then some (0, x0) else if a2 < a0 then some (0, x0) else some (1, x0)
set_option maxRecDepth 100000 in
set_option maxHeartbeats 4000000 in
theorem qX6_within {μ : Type} (l : Launch) (Γ : kG) (K : Nat × (μ → Nat → Nat → va_E)) (x0 : μ) (a0 : Int32) (a1 : Int32) (a2 : Int32) : CT l Γ K yX6_within cX6_within 3 (some .boolean) (k_R 0) [.int a0, .int a1, .int a2] x0 (fX6_within x0 a0 a1 a2) := by
  refine k_meth (own := RX6) (by decide) rfl (Nat.le_of_ble_eq_true rfl) (fun p e R s mid args below meth c C hr => ?_)
  show Sm Γ K p l e R s mid args below meth c 3 (jM true Γ K below args s) x0 [(0, .int a0), (1, .int a1), (2, .int a2)] [] 0 (fX6_within x0 a0 a1 a2)
  unfold fX6_within
  refine k_iload_n C 0 dX6_within_0 rfl rfl (pc' := 1) rfl ?_
  refine k_iload_n C 1 dX6_within_1 rfl rfl (pc' := 2) rfl ?_
  refine k_ic_lt C (tgt := 14) dX6_within_2 (by decide) (pc' := 5) rfl (fun h1 => ?_) (fun h1 => ?_)
  · refine k_iconst C (v := 0) dX6_within_14 (by decide) (pc' := 15) rfl ?_
    exact k_retz C rfl hr (Or.inl rfl) dX6_within_15
  · refine k_iload_n C 0 dX6_within_5 rfl rfl (pc' := 6) rfl ?_
    refine k_iload_n C 2 dX6_within_6 rfl rfl (pc' := 7) rfl ?_
    refine k_ic_gt C (tgt := 14) dX6_within_7 (by decide) (pc' := 10) rfl (fun h2 => ?_) (fun h2 => ?_)
    · refine k_iconst C (v := 0) dX6_within_14 (by decide) (pc' := 15) rfl ?_
      exact k_retz C rfl hr (Or.inl rfl) dX6_within_15
    · refine k_iconst C (v := 1) dX6_within_10 (by decide) (pc' := 11) rfl ?_
      refine k_goto C (pc' := 15) dX6_within_11 (by decide) ?_
      exact k_retz C rfl hr (Or.inr rfl) dX6_within_15
def fX6_quotient {μ : Type} (x0 : μ) (a0 : Int32) (a1 : Int32) : Option (Int32 × μ) :=
  if a1 ≤ 0 then some (0, x0) else if ¬ a1 = 0 then some (a0 / a1, x0) else none
set_option maxRecDepth 100000 in
set_option maxHeartbeats 4000000 in
theorem qX6_quotient {μ : Type} (l : Launch) (Γ : kG) (K : Nat × (μ → Nat → Nat → va_E)) (x0 : μ) (a0 : Int32) (a1 : Int32) : CT l Γ K yX6_quotient cX6_quotient 2 (some .int) (k_R 0) [.int a0, .int a1] x0 (fX6_quotient x0 a0 a1) := by
  refine k_meth (own := RX6) (by decide) rfl (Nat.le_of_ble_eq_true rfl) (fun p e R s mid args below meth c C hr => ?_)
  show Sm Γ K p l e R s mid args below meth c 2 (jM true Γ K below args s) x0 [(0, .int a0), (1, .int a1)] [] 0 (fX6_quotient x0 a0 a1)
  unfold fX6_quotient
  refine k_iload_n C 1 dX6_quotient_0 rfl rfl (pc' := 1) rfl ?_
  refine k_if_le C (tgt := 10) dX6_quotient_1 (by decide) (pc' := 4) rfl (fun h1 => ?_) (fun h1 => ?_)
  · refine k_iconst C (v := 0) dX6_quotient_10 (by decide) (pc' := 11) rfl ?_
    exact k_reti C rfl hr dX6_quotient_11
  · refine k_iload_n C 0 dX6_quotient_4 rfl rfl (pc' := 5) rfl ?_
    refine k_iload_n C 1 dX6_quotient_5 rfl rfl (pc' := 6) rfl ?_
    refine k_idiv C dX6_quotient_6 (pc' := 7) rfl ?_
    refine k_goto C (pc' := 11) dX6_quotient_7 (by decide) ?_
    exact k_reti C rfl hr dX6_quotient_11
def fX0_takeFrom (M0 : kM2) (i0 : Nat) (j0 : Nat) (i1 : Nat) (j1 : Nat) : Option (Int32 × kM2) :=
  k_let (mw M0 i0 j0 0 (M0 i1 j1 0)) fun M1 => k_let (mw M1 i0 j0 1 (M1 i1 j1 1)) fun M2 => some (0, M2)
set_option maxRecDepth 100000 in
set_option maxHeartbeats 4000000 in
theorem qX0_takeFrom (l : Launch) (Γ : kG) (hL : k_Lay Γ 314) (M0 : kM2) (i0 : Nat) (j0 : Nat) (i1 : Nat) (j1 : Nat) (hi0 : i0 < 7) (hj0 : 12 ≤ j0 ∧ j0 < 20) (hi1 : i1 < 7) (hj1 : 12 ≤ j1 ∧ j1 < 20) : CT l Γ (K2 Γ) yX0_takeFrom cX0_takeFrom 2 none (k_R 0) [.ref (Γ.1 i0 j0), .ref (Γ.1 i1 j1)] M0 (fX0_takeFrom M0 i0 j0 i1 j1) := by
  refine k_meth (own := RX0) (by decide) rfl (Nat.le_of_ble_eq_true rfl) (fun p e R s mid args below meth c C hr => ?_)
  show Sm Γ (K2 Γ) p l e R s mid args below meth c 2 (jM false Γ (K2 Γ) below args s) M0 [(0, .ref (Γ.1 i0 j0)), (1, .ref (Γ.1 i1 j1))] [] 0 (fX0_takeFrom M0 i0 j0 i1 j1)
  unfold fX0_takeFrom
  refine k_aload_n C 0 dX0_takeFrom_0 rfl rfl (pc' := 1) rfl ?_
  refine k_aload_n C 1 dX0_takeFrom_1 rfl rfl (pc' := 2) rfl ?_
  refine k_getf C 0 (c2 Γ M0 i1 j1 (e_farmer Γ hi1 hj1 (M0 i1 j1))) (v_i hi1 (h_farmer hj1)) flX0_7 (v := .int (M0 i1 j1 0)) rfl dX0_takeFrom_2 (pc' := 5) rfl ?_
  refine k_putf C hL.k2 0 (c2 Γ M0 i0 j0 (e_farmer Γ hi0 hj0 (M0 i0 j0))) (v_i hi0 (h_farmer hj0)) flX0_7 fpX0_0 (Nat.le_of_ble_eq_true rfl) (s2 Γ M0 i0 j0 0 (M0 i1 j1 0) ((e_farmer Γ hi0 hj0 _).trans (congrArg (fun z => Sum.inr (0, z)) (f_farmer (M0 i0 j0) (M0 i1 j1 0) 0 (by decide))))) dX0_takeFrom_5 (pc' := 8) rfl (fun M1 => ?_)
  refine k_aload_n C 0 dX0_takeFrom_8 rfl rfl (pc' := 9) rfl ?_
  refine k_aload_n C 1 dX0_takeFrom_9 rfl rfl (pc' := 10) rfl ?_
  refine k_getf C 1 (c2 Γ M1 i1 j1 (e_farmer Γ hi1 hj1 (M1 i1 j1))) (v_i hi1 (h_farmer hj1)) flX0_13 (v := .int (M1 i1 j1 1)) rfl dX0_takeFrom_10 (pc' := 13) rfl ?_
  refine k_putf C hL.k2 1 (c2 Γ M1 i0 j0 (e_farmer Γ hi0 hj0 (M1 i0 j0))) (v_i hi0 (h_farmer hj0)) flX0_13 fpX0_1 (Nat.le_of_ble_eq_true rfl) (s2 Γ M1 i0 j0 1 (M1 i1 j1 1) ((e_farmer Γ hi0 hj0 _).trans (congrArg (fun z => Sum.inr (0, z)) (f_farmer (M1 i0 j0) (M1 i1 j1 1) 1 (by decide))))) dX0_takeFrom_13 (pc' := 16) rfl (fun M2 => ?_)
  exact k_retv C rfl hr dX0_takeFrom_16
def fX2_takeFrom (M0 : kM2) (i0 : Nat) (j0 : Nat) (i1 : Nat) (j1 : Nat) : Option (Int32 × kM2) :=
  k_let (mw M0 i0 j0 0 (M0 i1 j1 0)) fun M1 => k_let (mw M1 i0 j0 1 (M1 i1 j1 1)) fun M2 => k_let (mw M2 i0 j0 2 (M2 i1 j1 2)) fun M3 => some (0, M3)
set_option maxRecDepth 100000 in
set_option maxHeartbeats 4000000 in
theorem qX2_takeFrom (l : Launch) (Γ : kG) (hL : k_Lay Γ 314) (M0 : kM2) (i0 : Nat) (j0 : Nat) (i1 : Nat) (j1 : Nat) (hi0 : i0 < 7) (hj0 : 6 ≤ j0 ∧ j0 < 12) (hi1 : i1 < 7) (hj1 : 6 ≤ j1 ∧ j1 < 12) : CT l Γ (K2 Γ) yX2_takeFrom cX2_takeFrom 2 none (k_R 0) [.ref (Γ.1 i0 j0), .ref (Γ.1 i1 j1)] M0 (fX2_takeFrom M0 i0 j0 i1 j1) := by
  refine k_meth (own := RX2) (by decide) rfl (Nat.le_of_ble_eq_true rfl) (fun p e R s mid args below meth c C hr => ?_)
  show Sm Γ (K2 Γ) p l e R s mid args below meth c 2 (jM false Γ (K2 Γ) below args s) M0 [(0, .ref (Γ.1 i0 j0)), (1, .ref (Γ.1 i1 j1))] [] 0 (fX2_takeFrom M0 i0 j0 i1 j1)
  unfold fX2_takeFrom
  refine k_aload_n C 0 dX2_takeFrom_0 rfl rfl (pc' := 1) rfl ?_
  refine k_aload_n C 1 dX2_takeFrom_1 rfl rfl (pc' := 2) rfl ?_
  refine k_getf C 0 (c2 Γ M0 i1 j1 (e_kind Γ hi1 hj1 (M0 i1 j1))) (v_i hi1 (h_kind hj1)) flX2_7 (v := .int (M0 i1 j1 0)) rfl dX2_takeFrom_2 (pc' := 5) rfl ?_
  refine k_putf C hL.k2 0 (c2 Γ M0 i0 j0 (e_kind Γ hi0 hj0 (M0 i0 j0))) (v_i hi0 (h_kind hj0)) flX2_7 fpX2_0 (Nat.le_of_ble_eq_true rfl) (s2 Γ M0 i0 j0 0 (M0 i1 j1 0) ((e_kind Γ hi0 hj0 _).trans (congrArg (fun z => Sum.inr (2, z)) (f_kind (M0 i0 j0) (M0 i1 j1 0) 0 (by decide))))) dX2_takeFrom_5 (pc' := 8) rfl (fun M1 => ?_)
  refine k_aload_n C 0 dX2_takeFrom_8 rfl rfl (pc' := 9) rfl ?_
  refine k_aload_n C 1 dX2_takeFrom_9 rfl rfl (pc' := 10) rfl ?_
  refine k_getf C 1 (c2 Γ M1 i1 j1 (e_kind Γ hi1 hj1 (M1 i1 j1))) (v_i hi1 (h_kind hj1)) flX2_13 (v := .int (M1 i1 j1 1)) rfl dX2_takeFrom_10 (pc' := 13) rfl ?_
  refine k_putf C hL.k2 1 (c2 Γ M1 i0 j0 (e_kind Γ hi0 hj0 (M1 i0 j0))) (v_i hi0 (h_kind hj0)) flX2_13 fpX2_1 (Nat.le_of_ble_eq_true rfl) (s2 Γ M1 i0 j0 1 (M1 i1 j1 1) ((e_kind Γ hi0 hj0 _).trans (congrArg (fun z => Sum.inr (2, z)) (f_kind (M1 i0 j0) (M1 i1 j1 1) 1 (by decide))))) dX2_takeFrom_13 (pc' := 16) rfl (fun M2 => ?_)
  refine k_aload_n C 0 dX2_takeFrom_16 rfl rfl (pc' := 17) rfl ?_
  refine k_aload_n C 1 dX2_takeFrom_17 rfl rfl (pc' := 18) rfl ?_
  refine k_getf C 2 (c2 Γ M2 i1 j1 (e_kind Γ hi1 hj1 (M2 i1 j1))) (v_i hi1 (h_kind hj1)) flX2_16 (v := .int (M2 i1 j1 2)) rfl dX2_takeFrom_18 (pc' := 21) rfl ?_
  refine k_putf C hL.k2 2 (c2 Γ M2 i0 j0 (e_kind Γ hi0 hj0 (M2 i0 j0))) (v_i hi0 (h_kind hj0)) flX2_16 fpX2_2 (Nat.le_of_ble_eq_true rfl) (s2 Γ M2 i0 j0 2 (M2 i1 j1 2) ((e_kind Γ hi0 hj0 _).trans (congrArg (fun z => Sum.inr (2, z)) (f_kind (M2 i0 j0) (M2 i1 j1 2) 2 (by decide))))) dX2_takeFrom_21 (pc' := 24) rfl (fun M3 => ?_)
  exact k_retv C rfl hr dX2_takeFrom_24
def fX5_takeFrom (M0 : kM2) (i0 : Nat) (j0 : Nat) (i1 : Nat) (j1 : Nat) : Option (Int32 × kM2) :=
  k_let (mw M0 i0 j0 0 (M0 i1 j1 0)) fun M1 => k_let (mw M1 i0 j0 1 (M1 i1 j1 1)) fun M2 => k_let (mw M2 i0 j0 2 (M2 i1 j1 2)) fun M3 => k_let (mw M3 i0 j0 3 (M3 i1 j1 3)) fun M4 => k_let (mw M4 i0 j0 4 (M4 i1 j1 4)) fun M5 => k_let (mw M5 i0 j0 5 (M5 i1 j1 5)) fun M6 => k_let (mw M6 i0 j0 6 (M6 i1 j1 6)) fun M7 => k_let (mw M7 i0 j0 7 (M7 i1 j1 7)) fun M8 => k_let (mw M8 i0 j0 8 (M8 i1 j1 8)) fun M9 => k_let (mw M9 i0 j0 9 (M9 i1 j1 9)) fun M10 => k_let (mw M10 i0 j0 10 (M10 i1 j1 10)) fun M11 => k_let (mw M11 i0 j0 11 (M11 i1 j1 11)) fun M12 => k_let (mw M12 i0 j0 12 (M12 i1 j1 12)) fun M13 => k_let (mw M13 i0 j0 13 (M13 i1 j1 13)) fun M14 => k_let (mw M14 i0 j0 14 (M14 i1 j1 14)) fun M15 => k_let (mw M15 i0 j0 15 (M15 i1 j1 15)) fun M16 => k_let (mw M16 i0 j0 16 (M16 i1 j1 16)) fun M17 => some (0, M17)
set_option maxRecDepth 100000 in
set_option maxHeartbeats 4000000 in
theorem qX5_takeFrom (l : Launch) (Γ : kG) (hL : k_Lay Γ 314) (M0 : kM2) (i0 : Nat) (j0 : Nat) (i1 : Nat) (j1 : Nat) (hi0 : i0 < 7) (hj0 : 20 ≤ j0 ∧ j0 < 44) (hi1 : i1 < 7) (hj1 : 20 ≤ j1 ∧ j1 < 44) : CT l Γ (K2 Γ) yX5_takeFrom cX5_takeFrom 2 none (k_R 0) [.ref (Γ.1 i0 j0), .ref (Γ.1 i1 j1)] M0 (fX5_takeFrom M0 i0 j0 i1 j1) := by
  refine k_meth (own := RX5) (by decide) rfl (Nat.le_of_ble_eq_true rfl) (fun p e R s mid args below meth c C hr => ?_)
  show Sm Γ (K2 Γ) p l e R s mid args below meth c 2 (jM false Γ (K2 Γ) below args s) M0 [(0, .ref (Γ.1 i0 j0)), (1, .ref (Γ.1 i1 j1))] [] 0 (fX5_takeFrom M0 i0 j0 i1 j1)
  unfold fX5_takeFrom
  refine k_aload_n C 0 dX5_takeFrom_0 rfl rfl (pc' := 1) rfl ?_
  refine k_aload_n C 1 dX5_takeFrom_1 rfl rfl (pc' := 2) rfl ?_
  refine k_getf C 0 (c2 Γ M0 i1 j1 (e_sack Γ hi1 hj1 (M0 i1 j1))) (v_i hi1 (h_sack hj1)) flX5_9 (v := .int (M0 i1 j1 0)) rfl dX5_takeFrom_2 (pc' := 5) rfl ?_
  refine k_putf C hL.k2 0 (c2 Γ M0 i0 j0 (e_sack Γ hi0 hj0 (M0 i0 j0))) (v_i hi0 (h_sack hj0)) flX5_9 fpX5_0 (Nat.le_of_ble_eq_true rfl) (s2 Γ M0 i0 j0 0 (M0 i1 j1 0) ((e_sack Γ hi0 hj0 _).trans (congrArg (fun z => Sum.inr (5, z)) (f_sack (M0 i0 j0) (M0 i1 j1 0) 0 (by decide))))) dX5_takeFrom_5 (pc' := 8) rfl (fun M1 => ?_)
  refine k_aload_n C 0 dX5_takeFrom_8 rfl rfl (pc' := 9) rfl ?_
  refine k_aload_n C 1 dX5_takeFrom_9 rfl rfl (pc' := 10) rfl ?_
  refine k_getf C 1 (c2 Γ M1 i1 j1 (e_sack Γ hi1 hj1 (M1 i1 j1))) (v_i hi1 (h_sack hj1)) flX5_15 (v := .int (M1 i1 j1 1)) rfl dX5_takeFrom_10 (pc' := 13) rfl ?_
  refine k_putf C hL.k2 1 (c2 Γ M1 i0 j0 (e_sack Γ hi0 hj0 (M1 i0 j0))) (v_i hi0 (h_sack hj0)) flX5_15 fpX5_1 (Nat.le_of_ble_eq_true rfl) (s2 Γ M1 i0 j0 1 (M1 i1 j1 1) ((e_sack Γ hi0 hj0 _).trans (congrArg (fun z => Sum.inr (5, z)) (f_sack (M1 i0 j0) (M1 i1 j1 1) 1 (by decide))))) dX5_takeFrom_13 (pc' := 16) rfl (fun M2 => ?_)
  refine k_aload_n C 0 dX5_takeFrom_16 rfl rfl (pc' := 17) rfl ?_
  refine k_aload_n C 1 dX5_takeFrom_17 rfl rfl (pc' := 18) rfl ?_
  refine k_getf C 2 (c2 Γ M2 i1 j1 (e_sack Γ hi1 hj1 (M2 i1 j1))) (v_i hi1 (h_sack hj1)) flX5_18 (v := .int (M2 i1 j1 2)) rfl dX5_takeFrom_18 (pc' := 21) rfl ?_
  refine k_putf C hL.k2 2 (c2 Γ M2 i0 j0 (e_sack Γ hi0 hj0 (M2 i0 j0))) (v_i hi0 (h_sack hj0)) flX5_18 fpX5_2 (Nat.le_of_ble_eq_true rfl) (s2 Γ M2 i0 j0 2 (M2 i1 j1 2) ((e_sack Γ hi0 hj0 _).trans (congrArg (fun z => Sum.inr (5, z)) (f_sack (M2 i0 j0) (M2 i1 j1 2) 2 (by decide))))) dX5_takeFrom_21 (pc' := 24) rfl (fun M3 => ?_)
  refine k_aload_n C 0 dX5_takeFrom_24 rfl rfl (pc' := 25) rfl ?_
  refine k_aload_n C 1 dX5_takeFrom_25 rfl rfl (pc' := 26) rfl ?_
  refine k_getf C 3 (c2 Γ M3 i1 j1 (e_sack Γ hi1 hj1 (M3 i1 j1))) (v_i hi1 (h_sack hj1)) flX5_21 (v := .int (M3 i1 j1 3)) rfl dX5_takeFrom_26 (pc' := 29) rfl ?_
  refine k_putf C hL.k2 3 (c2 Γ M3 i0 j0 (e_sack Γ hi0 hj0 (M3 i0 j0))) (v_i hi0 (h_sack hj0)) flX5_21 fpX5_3 (Nat.le_of_ble_eq_true rfl) (s2 Γ M3 i0 j0 3 (M3 i1 j1 3) ((e_sack Γ hi0 hj0 _).trans (congrArg (fun z => Sum.inr (5, z)) (f_sack (M3 i0 j0) (M3 i1 j1 3) 3 (by decide))))) dX5_takeFrom_29 (pc' := 32) rfl (fun M4 => ?_)
  refine k_aload_n C 0 dX5_takeFrom_32 rfl rfl (pc' := 33) rfl ?_
  refine k_aload_n C 1 dX5_takeFrom_33 rfl rfl (pc' := 34) rfl ?_
  refine k_getf C 4 (c2 Γ M4 i1 j1 (e_sack Γ hi1 hj1 (M4 i1 j1))) (v_i hi1 (h_sack hj1)) flX5_24 (v := .int (M4 i1 j1 4)) rfl dX5_takeFrom_34 (pc' := 37) rfl ?_
  refine k_putf C hL.k2 4 (c2 Γ M4 i0 j0 (e_sack Γ hi0 hj0 (M4 i0 j0))) (v_i hi0 (h_sack hj0)) flX5_24 fpX5_4 (Nat.le_of_ble_eq_true rfl) (s2 Γ M4 i0 j0 4 (M4 i1 j1 4) ((e_sack Γ hi0 hj0 _).trans (congrArg (fun z => Sum.inr (5, z)) (f_sack (M4 i0 j0) (M4 i1 j1 4) 4 (by decide))))) dX5_takeFrom_37 (pc' := 40) rfl (fun M5 => ?_)
  refine k_aload_n C 0 dX5_takeFrom_40 rfl rfl (pc' := 41) rfl ?_
  refine k_aload_n C 1 dX5_takeFrom_41 rfl rfl (pc' := 42) rfl ?_
  refine k_getf C 5 (c2 Γ M5 i1 j1 (e_sack Γ hi1 hj1 (M5 i1 j1))) (v_i hi1 (h_sack hj1)) flX5_27 (v := .int (M5 i1 j1 5)) rfl dX5_takeFrom_42 (pc' := 45) rfl ?_
  refine k_putf C hL.k2 5 (c2 Γ M5 i0 j0 (e_sack Γ hi0 hj0 (M5 i0 j0))) (v_i hi0 (h_sack hj0)) flX5_27 fpX5_5 (Nat.le_of_ble_eq_true rfl) (s2 Γ M5 i0 j0 5 (M5 i1 j1 5) ((e_sack Γ hi0 hj0 _).trans (congrArg (fun z => Sum.inr (5, z)) (f_sack (M5 i0 j0) (M5 i1 j1 5) 5 (by decide))))) dX5_takeFrom_45 (pc' := 48) rfl (fun M6 => ?_)
  refine k_aload_n C 0 dX5_takeFrom_48 rfl rfl (pc' := 49) rfl ?_
  refine k_aload_n C 1 dX5_takeFrom_49 rfl rfl (pc' := 50) rfl ?_
  refine k_getf C 6 (c2 Γ M6 i1 j1 (e_sack Γ hi1 hj1 (M6 i1 j1))) (v_i hi1 (h_sack hj1)) flX5_30 (v := .int (M6 i1 j1 6)) rfl dX5_takeFrom_50 (pc' := 53) rfl ?_
  refine k_putf C hL.k2 6 (c2 Γ M6 i0 j0 (e_sack Γ hi0 hj0 (M6 i0 j0))) (v_i hi0 (h_sack hj0)) flX5_30 fpX5_6 (Nat.le_of_ble_eq_true rfl) (s2 Γ M6 i0 j0 6 (M6 i1 j1 6) ((e_sack Γ hi0 hj0 _).trans (congrArg (fun z => Sum.inr (5, z)) (f_sack (M6 i0 j0) (M6 i1 j1 6) 6 (by decide))))) dX5_takeFrom_53 (pc' := 56) rfl (fun M7 => ?_)
  refine k_aload_n C 0 dX5_takeFrom_56 rfl rfl (pc' := 57) rfl ?_
  refine k_aload_n C 1 dX5_takeFrom_57 rfl rfl (pc' := 58) rfl ?_
  refine k_getf C 7 (c2 Γ M7 i1 j1 (e_sack Γ hi1 hj1 (M7 i1 j1))) (v_i hi1 (h_sack hj1)) flX5_33 (v := .int (M7 i1 j1 7)) rfl dX5_takeFrom_58 (pc' := 61) rfl ?_
  refine k_putf C hL.k2 7 (c2 Γ M7 i0 j0 (e_sack Γ hi0 hj0 (M7 i0 j0))) (v_i hi0 (h_sack hj0)) flX5_33 fpX5_7 (Nat.le_of_ble_eq_true rfl) (s2 Γ M7 i0 j0 7 (M7 i1 j1 7) ((e_sack Γ hi0 hj0 _).trans (congrArg (fun z => Sum.inr (5, z)) (f_sack (M7 i0 j0) (M7 i1 j1 7) 7 (by decide))))) dX5_takeFrom_61 (pc' := 64) rfl (fun M8 => ?_)
  refine k_aload_n C 0 dX5_takeFrom_64 rfl rfl (pc' := 65) rfl ?_
  refine k_aload_n C 1 dX5_takeFrom_65 rfl rfl (pc' := 66) rfl ?_
  refine k_getf C 8 (c2 Γ M8 i1 j1 (e_sack Γ hi1 hj1 (M8 i1 j1))) (v_i hi1 (h_sack hj1)) flX5_36 (v := .int (M8 i1 j1 8)) rfl dX5_takeFrom_66 (pc' := 69) rfl ?_
  refine k_putf C hL.k2 8 (c2 Γ M8 i0 j0 (e_sack Γ hi0 hj0 (M8 i0 j0))) (v_i hi0 (h_sack hj0)) flX5_36 fpX5_8 (Nat.le_of_ble_eq_true rfl) (s2 Γ M8 i0 j0 8 (M8 i1 j1 8) ((e_sack Γ hi0 hj0 _).trans (congrArg (fun z => Sum.inr (5, z)) (f_sack (M8 i0 j0) (M8 i1 j1 8) 8 (by decide))))) dX5_takeFrom_69 (pc' := 72) rfl (fun M9 => ?_)
  refine k_aload_n C 0 dX5_takeFrom_72 rfl rfl (pc' := 73) rfl ?_
  refine k_aload_n C 1 dX5_takeFrom_73 rfl rfl (pc' := 74) rfl ?_
  refine k_getf C 9 (c2 Γ M9 i1 j1 (e_sack Γ hi1 hj1 (M9 i1 j1))) (v_i hi1 (h_sack hj1)) flX5_39 (v := .int (M9 i1 j1 9)) rfl dX5_takeFrom_74 (pc' := 77) rfl ?_
  refine k_putf C hL.k2 9 (c2 Γ M9 i0 j0 (e_sack Γ hi0 hj0 (M9 i0 j0))) (v_i hi0 (h_sack hj0)) flX5_39 fpX5_9 (Nat.le_of_ble_eq_true rfl) (s2 Γ M9 i0 j0 9 (M9 i1 j1 9) ((e_sack Γ hi0 hj0 _).trans (congrArg (fun z => Sum.inr (5, z)) (f_sack (M9 i0 j0) (M9 i1 j1 9) 9 (by decide))))) dX5_takeFrom_77 (pc' := 80) rfl (fun M10 => ?_)
  refine k_aload_n C 0 dX5_takeFrom_80 rfl rfl (pc' := 81) rfl ?_
  refine k_aload_n C 1 dX5_takeFrom_81 rfl rfl (pc' := 82) rfl ?_
  refine k_getf C 10 (c2 Γ M10 i1 j1 (e_sack Γ hi1 hj1 (M10 i1 j1))) (v_i hi1 (h_sack hj1)) flX5_42 (v := .int (M10 i1 j1 10)) rfl dX5_takeFrom_82 (pc' := 85) rfl ?_
  refine k_putf C hL.k2 10 (c2 Γ M10 i0 j0 (e_sack Γ hi0 hj0 (M10 i0 j0))) (v_i hi0 (h_sack hj0)) flX5_42 fpX5_10 (Nat.le_of_ble_eq_true rfl) (s2 Γ M10 i0 j0 10 (M10 i1 j1 10) ((e_sack Γ hi0 hj0 _).trans (congrArg (fun z => Sum.inr (5, z)) (f_sack (M10 i0 j0) (M10 i1 j1 10) 10 (by decide))))) dX5_takeFrom_85 (pc' := 88) rfl (fun M11 => ?_)
  refine k_aload_n C 0 dX5_takeFrom_88 rfl rfl (pc' := 89) rfl ?_
  refine k_aload_n C 1 dX5_takeFrom_89 rfl rfl (pc' := 90) rfl ?_
  refine k_getf C 11 (c2 Γ M11 i1 j1 (e_sack Γ hi1 hj1 (M11 i1 j1))) (v_i hi1 (h_sack hj1)) flX5_45 (v := .int (M11 i1 j1 11)) rfl dX5_takeFrom_90 (pc' := 93) rfl ?_
  refine k_putf C hL.k2 11 (c2 Γ M11 i0 j0 (e_sack Γ hi0 hj0 (M11 i0 j0))) (v_i hi0 (h_sack hj0)) flX5_45 fpX5_11 (Nat.le_of_ble_eq_true rfl) (s2 Γ M11 i0 j0 11 (M11 i1 j1 11) ((e_sack Γ hi0 hj0 _).trans (congrArg (fun z => Sum.inr (5, z)) (f_sack (M11 i0 j0) (M11 i1 j1 11) 11 (by decide))))) dX5_takeFrom_93 (pc' := 96) rfl (fun M12 => ?_)
  refine k_aload_n C 0 dX5_takeFrom_96 rfl rfl (pc' := 97) rfl ?_
  refine k_aload_n C 1 dX5_takeFrom_97 rfl rfl (pc' := 98) rfl ?_
  refine k_getf C 12 (c2 Γ M12 i1 j1 (e_sack Γ hi1 hj1 (M12 i1 j1))) (v_i hi1 (h_sack hj1)) flX5_48 (v := .int (M12 i1 j1 12)) rfl dX5_takeFrom_98 (pc' := 101) rfl ?_
  refine k_putf C hL.k2 12 (c2 Γ M12 i0 j0 (e_sack Γ hi0 hj0 (M12 i0 j0))) (v_i hi0 (h_sack hj0)) flX5_48 fpX5_12 (Nat.le_of_ble_eq_true rfl) (s2 Γ M12 i0 j0 12 (M12 i1 j1 12) ((e_sack Γ hi0 hj0 _).trans (congrArg (fun z => Sum.inr (5, z)) (f_sack (M12 i0 j0) (M12 i1 j1 12) 12 (by decide))))) dX5_takeFrom_101 (pc' := 104) rfl (fun M13 => ?_)
  refine k_aload_n C 0 dX5_takeFrom_104 rfl rfl (pc' := 105) rfl ?_
  refine k_aload_n C 1 dX5_takeFrom_105 rfl rfl (pc' := 106) rfl ?_
  refine k_getf C 13 (c2 Γ M13 i1 j1 (e_sack Γ hi1 hj1 (M13 i1 j1))) (v_i hi1 (h_sack hj1)) flX5_51 (v := .int (M13 i1 j1 13)) rfl dX5_takeFrom_106 (pc' := 109) rfl ?_
  refine k_putf C hL.k2 13 (c2 Γ M13 i0 j0 (e_sack Γ hi0 hj0 (M13 i0 j0))) (v_i hi0 (h_sack hj0)) flX5_51 fpX5_13 (Nat.le_of_ble_eq_true rfl) (s2 Γ M13 i0 j0 13 (M13 i1 j1 13) ((e_sack Γ hi0 hj0 _).trans (congrArg (fun z => Sum.inr (5, z)) (f_sack (M13 i0 j0) (M13 i1 j1 13) 13 (by decide))))) dX5_takeFrom_109 (pc' := 112) rfl (fun M14 => ?_)
  refine k_aload_n C 0 dX5_takeFrom_112 rfl rfl (pc' := 113) rfl ?_
  refine k_aload_n C 1 dX5_takeFrom_113 rfl rfl (pc' := 114) rfl ?_
  refine k_getf C 14 (c2 Γ M14 i1 j1 (e_sack Γ hi1 hj1 (M14 i1 j1))) (v_i hi1 (h_sack hj1)) flX5_54 (v := .int (M14 i1 j1 14)) rfl dX5_takeFrom_114 (pc' := 117) rfl ?_
  refine k_putf C hL.k2 14 (c2 Γ M14 i0 j0 (e_sack Γ hi0 hj0 (M14 i0 j0))) (v_i hi0 (h_sack hj0)) flX5_54 fpX5_14 (Nat.le_of_ble_eq_true rfl) (s2 Γ M14 i0 j0 14 (M14 i1 j1 14) ((e_sack Γ hi0 hj0 _).trans (congrArg (fun z => Sum.inr (5, z)) (f_sack (M14 i0 j0) (M14 i1 j1 14) 14 (by decide))))) dX5_takeFrom_117 (pc' := 120) rfl (fun M15 => ?_)
  refine k_aload_n C 0 dX5_takeFrom_120 rfl rfl (pc' := 121) rfl ?_
  refine k_aload_n C 1 dX5_takeFrom_121 rfl rfl (pc' := 122) rfl ?_
  refine k_getf C 15 (c2 Γ M15 i1 j1 (e_sack Γ hi1 hj1 (M15 i1 j1))) (v_i hi1 (h_sack hj1)) flX5_57 (v := .int (M15 i1 j1 15)) rfl dX5_takeFrom_122 (pc' := 125) rfl ?_
  refine k_putf C hL.k2 15 (c2 Γ M15 i0 j0 (e_sack Γ hi0 hj0 (M15 i0 j0))) (v_i hi0 (h_sack hj0)) flX5_57 fpX5_15 (Nat.le_of_ble_eq_true rfl) (s2 Γ M15 i0 j0 15 (M15 i1 j1 15) ((e_sack Γ hi0 hj0 _).trans (congrArg (fun z => Sum.inr (5, z)) (f_sack (M15 i0 j0) (M15 i1 j1 15) 15 (by decide))))) dX5_takeFrom_125 (pc' := 128) rfl (fun M16 => ?_)
  refine k_aload_n C 0 dX5_takeFrom_128 rfl rfl (pc' := 129) rfl ?_
  refine k_aload_n C 1 dX5_takeFrom_129 rfl rfl (pc' := 130) rfl ?_
  refine k_getf C 16 (c2 Γ M16 i1 j1 (e_sack Γ hi1 hj1 (M16 i1 j1))) (v_i hi1 (h_sack hj1)) flX5_60 (v := .int (M16 i1 j1 16)) rfl dX5_takeFrom_130 (pc' := 133) rfl ?_
  refine k_putf C hL.k2 16 (c2 Γ M16 i0 j0 (e_sack Γ hi0 hj0 (M16 i0 j0))) (v_i hi0 (h_sack hj0)) flX5_60 fpX5_16 (Nat.le_of_ble_eq_true rfl) (s2 Γ M16 i0 j0 16 (M16 i1 j1 16) ((e_sack Γ hi0 hj0 _).trans (congrArg (fun z => Sum.inr (5, z)) (f_sack (M16 i0 j0) (M16 i1 j1 16) 16 (by decide))))) dX5_takeFrom_133 (pc' := 136) rfl (fun M17 => ?_)
  exact k_retv C rfl hr dX5_takeFrom_136
def fX5_endPledge (m0 : kM1) (j0 : Nat) : Option (Int32 × kM1) :=
  k_let (mu m0 j0 11 0) fun m1 => k_let (mu m1 j0 12 0) fun m2 => k_let (mu m2 j0 13 0) fun m3 => k_let (mu m3 j0 14 0) fun m4 => some (0, m4)
set_option maxRecDepth 100000 in
set_option maxHeartbeats 4000000 in
theorem qX5_endPledge (l : Launch) (Γ : kG) (hL : k_Lay Γ 314) (M : kM2) (i : Nat) (hi : i < 7) (m0 : kM1) (j0 : Nat) (hj0 : 20 ≤ j0 ∧ j0 < 44) : CT l Γ (K1 Γ M i) yX5_endPledge cX5_endPledge 1 none (k_R 0) [.ref (Γ.1 i j0)] m0 (fX5_endPledge m0 j0) := by
  refine k_meth (own := RX5) (by decide) rfl (Nat.le_of_ble_eq_true rfl) (fun p e R s mid args below meth c C hr => ?_)
  show Sm Γ (K1 Γ M i) p l e R s mid args below meth c 1 (jM false Γ (K1 Γ M i) below args s) m0 [(0, .ref (Γ.1 i j0))] [] 0 (fX5_endPledge m0 j0)
  unfold fX5_endPledge
  refine k_aload_n C 0 dX5_endPledge_0 rfl rfl (pc' := 1) rfl ?_
  refine k_iconst C (v := 0) dX5_endPledge_1 (by decide) (pc' := 2) rfl ?_
  refine k_putf C (hL.k1 M i) 11 (c1 Γ M i m0 j0 (e_sack Γ hi hj0 (m0 j0))) (v_i hi (h_sack hj0)) flX5_45 fpX5_11 (Nat.le_of_ble_eq_true rfl) (s1 Γ M i m0 j0 11 0 ((e_sack Γ hi hj0 _).trans (congrArg (fun z => Sum.inr (5, z)) (f_sack (m0 j0) 0 11 (by decide))))) dX5_endPledge_2 (pc' := 5) rfl (fun m1 => ?_)
  refine k_aload_n C 0 dX5_endPledge_5 rfl rfl (pc' := 6) rfl ?_
  refine k_iconst C (v := 0) dX5_endPledge_6 (by decide) (pc' := 7) rfl ?_
  refine k_putf C (hL.k1 M i) 12 (c1 Γ M i m1 j0 (e_sack Γ hi hj0 (m1 j0))) (v_i hi (h_sack hj0)) flX5_48 fpX5_12 (Nat.le_of_ble_eq_true rfl) (s1 Γ M i m1 j0 12 0 ((e_sack Γ hi hj0 _).trans (congrArg (fun z => Sum.inr (5, z)) (f_sack (m1 j0) 0 12 (by decide))))) dX5_endPledge_7 (pc' := 10) rfl (fun m2 => ?_)
  refine k_aload_n C 0 dX5_endPledge_10 rfl rfl (pc' := 11) rfl ?_
  refine k_iconst C (v := 0) dX5_endPledge_11 (by decide) (pc' := 12) rfl ?_
  refine k_putf C (hL.k1 M i) 13 (c1 Γ M i m2 j0 (e_sack Γ hi hj0 (m2 j0))) (v_i hi (h_sack hj0)) flX5_51 fpX5_13 (Nat.le_of_ble_eq_true rfl) (s1 Γ M i m2 j0 13 0 ((e_sack Γ hi hj0 _).trans (congrArg (fun z => Sum.inr (5, z)) (f_sack (m2 j0) 0 13 (by decide))))) dX5_endPledge_12 (pc' := 15) rfl (fun m3 => ?_)
  refine k_aload_n C 0 dX5_endPledge_15 rfl rfl (pc' := 16) rfl ?_
  refine k_iconst C (v := 0) dX5_endPledge_16 (by decide) (pc' := 17) rfl ?_
  refine k_putf C (hL.k1 M i) 14 (c1 Γ M i m3 j0 (e_sack Γ hi hj0 (m3 j0))) (v_i hi (h_sack hj0)) flX5_54 fpX5_14 (Nat.le_of_ble_eq_true rfl) (s1 Γ M i m3 j0 14 0 ((e_sack Γ hi hj0 _).trans (congrArg (fun z => Sum.inr (5, z)) (f_sack (m3 j0) 0 14 (by decide))))) dX5_endPledge_17 (pc' := 20) rfl (fun m4 => ?_)
  exact k_retv C rfl hr dX5_endPledge_20
def fX5_begin (m0 : kM1) (j0 : Nat) (a1 : Int32) (a2 : Int32) (j3 : Nat) (a4 : Int32) : Option (Int32 × kM1) :=
  k_let (mu m0 j0 0 a1) fun m1 => k_let (mu m1 j0 1 a2) fun m2 => k_let (mu m2 j0 2 (m2 j3 0)) fun m3 => k_let (mu m3 j0 3 (m3 j3 1)) fun m4 => k_let (mu m4 j0 4 (m4 j3 2)) fun m5 => k_let (mu m5 j0 5 a4) fun m6 => k_let (mu m6 j0 6 0) fun m7 => k_let (mu m7 j0 7 0) fun m8 => k_let (mu m8 j0 8 0) fun m9 => k_let (mu m9 j0 9 0) fun m10 => k_let (mu m10 j0 10 0) fun m11 => bd (fX5_endPledge m11 j0) fun r12 m13 => k_let (mu m13 j0 15 0) fun m14 => k_let (mu m14 j0 16 0) fun m15 => some (0, m15)
set_option maxRecDepth 100000 in
set_option maxHeartbeats 4000000 in
theorem qX5_begin (l : Launch) (Γ : kG) (hL : k_Lay Γ 314) (M : kM2) (i : Nat) (hi : i < 7) (m0 : kM1) (j0 : Nat) (a1 : Int32) (a2 : Int32) (j3 : Nat) (a4 : Int32) (hj0 : 20 ≤ j0 ∧ j0 < 44) (hj3 : 6 ≤ j3 ∧ j3 < 12) : CT l Γ (K1 Γ M i) yX5_begin cX5_begin 5 none (k_R 1) [.ref (Γ.1 i j0), .int a1, .int a2, .ref (Γ.1 i j3), .int a4] m0 (fX5_begin m0 j0 a1 a2 j3 a4) := by
  refine k_meth (own := RX5) (by decide) rfl (Nat.le_of_ble_eq_true rfl) (fun p e R s mid args below meth c C hr => ?_)
  show Sm Γ (K1 Γ M i) p l e R s mid args below meth c 5 (jM false Γ (K1 Γ M i) below args s) m0 [(0, .ref (Γ.1 i j0)), (1, .int a1), (2, .int a2), (3, .ref (Γ.1 i j3)), (4, .int a4)] [] 0 (fX5_begin m0 j0 a1 a2 j3 a4)
  unfold fX5_begin
  refine k_aload_n C 0 dX5_begin_0 rfl rfl (pc' := 1) rfl ?_
  refine k_iload_n C 1 dX5_begin_1 rfl rfl (pc' := 2) rfl ?_
  refine k_putf C (hL.k1 M i) 0 (c1 Γ M i m0 j0 (e_sack Γ hi hj0 (m0 j0))) (v_i hi (h_sack hj0)) flX5_9 fpX5_0 (Nat.le_of_ble_eq_true rfl) (s1 Γ M i m0 j0 0 a1 ((e_sack Γ hi hj0 _).trans (congrArg (fun z => Sum.inr (5, z)) (f_sack (m0 j0) a1 0 (by decide))))) dX5_begin_2 (pc' := 5) rfl (fun m1 => ?_)
  refine k_aload_n C 0 dX5_begin_5 rfl rfl (pc' := 6) rfl ?_
  refine k_iload_n C 2 dX5_begin_6 rfl rfl (pc' := 7) rfl ?_
  refine k_putf C (hL.k1 M i) 1 (c1 Γ M i m1 j0 (e_sack Γ hi hj0 (m1 j0))) (v_i hi (h_sack hj0)) flX5_15 fpX5_1 (Nat.le_of_ble_eq_true rfl) (s1 Γ M i m1 j0 1 a2 ((e_sack Γ hi hj0 _).trans (congrArg (fun z => Sum.inr (5, z)) (f_sack (m1 j0) a2 1 (by decide))))) dX5_begin_7 (pc' := 10) rfl (fun m2 => ?_)
  refine k_aload_n C 0 dX5_begin_10 rfl rfl (pc' := 11) rfl ?_
  refine k_aload_n C 3 dX5_begin_11 rfl rfl (pc' := 12) rfl ?_
  refine k_getf C 0 (c1 Γ M i m2 j3 (e_kind Γ hi hj3 (m2 j3))) (v_i hi (h_kind hj3)) flX5_63 (v := .int (m2 j3 0)) rfl dX5_begin_12 (pc' := 15) rfl ?_
  refine k_putf C (hL.k1 M i) 2 (c1 Γ M i m2 j0 (e_sack Γ hi hj0 (m2 j0))) (v_i hi (h_sack hj0)) flX5_18 fpX5_2 (Nat.le_of_ble_eq_true rfl) (s1 Γ M i m2 j0 2 (m2 j3 0) ((e_sack Γ hi hj0 _).trans (congrArg (fun z => Sum.inr (5, z)) (f_sack (m2 j0) (m2 j3 0) 2 (by decide))))) dX5_begin_15 (pc' := 18) rfl (fun m3 => ?_)
  refine k_aload_n C 0 dX5_begin_18 rfl rfl (pc' := 19) rfl ?_
  refine k_aload_n C 3 dX5_begin_19 rfl rfl (pc' := 20) rfl ?_
  refine k_getf C 1 (c1 Γ M i m3 j3 (e_kind Γ hi hj3 (m3 j3))) (v_i hi (h_kind hj3)) flX5_66 (v := .int (m3 j3 1)) rfl dX5_begin_20 (pc' := 23) rfl ?_
  refine k_putf C (hL.k1 M i) 3 (c1 Γ M i m3 j0 (e_sack Γ hi hj0 (m3 j0))) (v_i hi (h_sack hj0)) flX5_21 fpX5_3 (Nat.le_of_ble_eq_true rfl) (s1 Γ M i m3 j0 3 (m3 j3 1) ((e_sack Γ hi hj0 _).trans (congrArg (fun z => Sum.inr (5, z)) (f_sack (m3 j0) (m3 j3 1) 3 (by decide))))) dX5_begin_23 (pc' := 26) rfl (fun m4 => ?_)
  refine k_aload_n C 0 dX5_begin_26 rfl rfl (pc' := 27) rfl ?_
  refine k_aload_n C 3 dX5_begin_27 rfl rfl (pc' := 28) rfl ?_
  refine k_getf C 2 (c1 Γ M i m4 j3 (e_kind Γ hi hj3 (m4 j3))) (v_i hi (h_kind hj3)) flX5_67 (v := .int (m4 j3 2)) rfl dX5_begin_28 (pc' := 31) rfl ?_
  refine k_putf C (hL.k1 M i) 4 (c1 Γ M i m4 j0 (e_sack Γ hi hj0 (m4 j0))) (v_i hi (h_sack hj0)) flX5_24 fpX5_4 (Nat.le_of_ble_eq_true rfl) (s1 Γ M i m4 j0 4 (m4 j3 2) ((e_sack Γ hi hj0 _).trans (congrArg (fun z => Sum.inr (5, z)) (f_sack (m4 j0) (m4 j3 2) 4 (by decide))))) dX5_begin_31 (pc' := 34) rfl (fun m5 => ?_)
  refine k_aload_n C 0 dX5_begin_34 rfl rfl (pc' := 35) rfl ?_
  refine k_iload C 4 dX5_begin_35 rfl (pc' := 37) rfl ?_
  refine k_putf C (hL.k1 M i) 5 (c1 Γ M i m5 j0 (e_sack Γ hi hj0 (m5 j0))) (v_i hi (h_sack hj0)) flX5_27 fpX5_5 (Nat.le_of_ble_eq_true rfl) (s1 Γ M i m5 j0 5 a4 ((e_sack Γ hi hj0 _).trans (congrArg (fun z => Sum.inr (5, z)) (f_sack (m5 j0) a4 5 (by decide))))) dX5_begin_37 (pc' := 40) rfl (fun m6 => ?_)
  refine k_aload_n C 0 dX5_begin_40 rfl rfl (pc' := 41) rfl ?_
  refine k_iconst C (v := 0) dX5_begin_41 (by decide) (pc' := 42) rfl ?_
  refine k_putf C (hL.k1 M i) 6 (c1 Γ M i m6 j0 (e_sack Γ hi hj0 (m6 j0))) (v_i hi (h_sack hj0)) flX5_30 fpX5_6 (Nat.le_of_ble_eq_true rfl) (s1 Γ M i m6 j0 6 0 ((e_sack Γ hi hj0 _).trans (congrArg (fun z => Sum.inr (5, z)) (f_sack (m6 j0) 0 6 (by decide))))) dX5_begin_42 (pc' := 45) rfl (fun m7 => ?_)
  refine k_aload_n C 0 dX5_begin_45 rfl rfl (pc' := 46) rfl ?_
  refine k_iconst C (v := 0) dX5_begin_46 (by decide) (pc' := 47) rfl ?_
  refine k_putf C (hL.k1 M i) 7 (c1 Γ M i m7 j0 (e_sack Γ hi hj0 (m7 j0))) (v_i hi (h_sack hj0)) flX5_33 fpX5_7 (Nat.le_of_ble_eq_true rfl) (s1 Γ M i m7 j0 7 0 ((e_sack Γ hi hj0 _).trans (congrArg (fun z => Sum.inr (5, z)) (f_sack (m7 j0) 0 7 (by decide))))) dX5_begin_47 (pc' := 50) rfl (fun m8 => ?_)
  refine k_aload_n C 0 dX5_begin_50 rfl rfl (pc' := 51) rfl ?_
  refine k_iconst C (v := 0) dX5_begin_51 (by decide) (pc' := 52) rfl ?_
  refine k_putf C (hL.k1 M i) 8 (c1 Γ M i m8 j0 (e_sack Γ hi hj0 (m8 j0))) (v_i hi (h_sack hj0)) flX5_36 fpX5_8 (Nat.le_of_ble_eq_true rfl) (s1 Γ M i m8 j0 8 0 ((e_sack Γ hi hj0 _).trans (congrArg (fun z => Sum.inr (5, z)) (f_sack (m8 j0) 0 8 (by decide))))) dX5_begin_52 (pc' := 55) rfl (fun m9 => ?_)
  refine k_aload_n C 0 dX5_begin_55 rfl rfl (pc' := 56) rfl ?_
  refine k_iconst C (v := 0) dX5_begin_56 (by decide) (pc' := 57) rfl ?_
  refine k_putf C (hL.k1 M i) 9 (c1 Γ M i m9 j0 (e_sack Γ hi hj0 (m9 j0))) (v_i hi (h_sack hj0)) flX5_39 fpX5_9 (Nat.le_of_ble_eq_true rfl) (s1 Γ M i m9 j0 9 0 ((e_sack Γ hi hj0 _).trans (congrArg (fun z => Sum.inr (5, z)) (f_sack (m9 j0) 0 9 (by decide))))) dX5_begin_57 (pc' := 60) rfl (fun m10 => ?_)
  refine k_aload_n C 0 dX5_begin_60 rfl rfl (pc' := 61) rfl ?_
  refine k_iconst C (v := 0) dX5_begin_61 (by decide) (pc' := 62) rfl ?_
  refine k_putf C (hL.k1 M i) 10 (c1 Γ M i m10 j0 (e_sack Γ hi hj0 (m10 j0))) (v_i hi (h_sack hj0)) flX5_42 fpX5_10 (Nat.le_of_ble_eq_true rfl) (s1 Γ M i m10 j0 10 0 ((e_sack Γ hi hj0 _).trans (congrArg (fun z => Sum.inr (5, z)) (f_sack (m10 j0) 0 10 (by decide))))) dX5_begin_62 (pc' := 65) rfl (fun m11 => ?_)
  refine k_aload_n C 0 dX5_begin_65 rfl rfl (pc' := 66) rfl ?_
  refine k_callVv C (rest := []) (qX5_endPledge l Γ hL M i hi m11 j0 hj0) mwX5_endPledge iwX5_endPledge mlX5_68 (k_rm_of (by decide) (by decide)) (c1 Γ M i m11 j0 (e_sack Γ hi hj0 (m11 j0))) (v_i hi (h_sack hj0)) rfl rfl rfl (Nat.le_of_ble_eq_true rfl) dX5_begin_66 (pc' := 69) rfl (fun r12 m13 => ?_)
  refine k_aload_n C 0 dX5_begin_69 rfl rfl (pc' := 70) rfl ?_
  refine k_iconst C (v := 0) dX5_begin_70 (by decide) (pc' := 71) rfl ?_
  refine k_putf C (hL.k1 M i) 15 (c1 Γ M i m13 j0 (e_sack Γ hi hj0 (m13 j0))) (v_i hi (h_sack hj0)) flX5_57 fpX5_15 (Nat.le_of_ble_eq_true rfl) (s1 Γ M i m13 j0 15 0 ((e_sack Γ hi hj0 _).trans (congrArg (fun z => Sum.inr (5, z)) (f_sack (m13 j0) 0 15 (by decide))))) dX5_begin_71 (pc' := 74) rfl (fun m14 => ?_)
  refine k_aload_n C 0 dX5_begin_74 rfl rfl (pc' := 75) rfl ?_
  refine k_iconst C (v := 0) dX5_begin_75 (by decide) (pc' := 76) rfl ?_
  refine k_putf C (hL.k1 M i) 16 (c1 Γ M i m14 j0 (e_sack Γ hi hj0 (m14 j0))) (v_i hi (h_sack hj0)) flX5_60 fpX5_16 (Nat.le_of_ble_eq_true rfl) (s1 Γ M i m14 j0 16 0 ((e_sack Γ hi hj0 _).trans (congrArg (fun z => Sum.inr (5, z)) (f_sack (m14 j0) 0 16 (by decide))))) dX5_begin_76 (pc' := 79) rfl (fun m15 => ?_)
  exact k_retv C rfl hr dX5_begin_79
def fX5_addGround (m0 : kM1) (j0 : Nat) (a1 : Int32) : Option (Int32 × kM1) :=
  k_let (mu m0 j0 7 ((m0 j0 7) + a1)) fun m1 => k_let (mu m1 j0 9 (((m1 j0 7) * (m1 j0 8)) / 100)) fun m2 => k_let (mu m2 j0 10 ((((m2 j0 7) - (m2 j0 9)) * (m2 j0 3)) / 100)) fun m3 => if (m3 j0 7) < (m3 j0 5) then some (0, m3) else k_let (mu m3 j0 6 2) fun m5 => some (0, m5)
set_option maxRecDepth 100000 in
set_option maxHeartbeats 4000000 in
theorem qX5_addGround (l : Launch) (Γ : kG) (hL : k_Lay Γ 314) (M : kM2) (i : Nat) (hi : i < 7) (m0 : kM1) (j0 : Nat) (a1 : Int32) (hj0 : 20 ≤ j0 ∧ j0 < 44) : CT l Γ (K1 Γ M i) yX5_addGround cX5_addGround 2 none (k_R 0) [.ref (Γ.1 i j0), .int a1] m0 (fX5_addGround m0 j0 a1) := by
  refine k_meth (own := RX5) (by decide) rfl (Nat.le_of_ble_eq_true rfl) (fun p e R s mid args below meth c C hr => ?_)
  show Sm Γ (K1 Γ M i) p l e R s mid args below meth c 2 (jM false Γ (K1 Γ M i) below args s) m0 [(0, .ref (Γ.1 i j0)), (1, .int a1)] [] 0 (fX5_addGround m0 j0 a1)
  unfold fX5_addGround
  refine k_aload_n C 0 dX5_addGround_0 rfl rfl (pc' := 1) rfl ?_
  refine k_dup C dX5_addGround_1 rfl (pc' := 2) rfl ?_
  refine k_getf C 7 (c1 Γ M i m0 j0 (e_sack Γ hi hj0 (m0 j0))) (v_i hi (h_sack hj0)) flX5_33 (v := .int (m0 j0 7)) rfl dX5_addGround_2 (pc' := 5) rfl ?_
  refine k_iload_n C 1 dX5_addGround_5 rfl rfl (pc' := 6) rfl ?_
  refine k_iadd C dX5_addGround_6 (pc' := 7) rfl ?_
  refine k_putf C (hL.k1 M i) 7 (c1 Γ M i m0 j0 (e_sack Γ hi hj0 (m0 j0))) (v_i hi (h_sack hj0)) flX5_33 fpX5_7 (Nat.le_of_ble_eq_true rfl) (s1 Γ M i m0 j0 7 ((m0 j0 7) + a1) ((e_sack Γ hi hj0 _).trans (congrArg (fun z => Sum.inr (5, z)) (f_sack (m0 j0) ((m0 j0 7) + a1) 7 (by decide))))) dX5_addGround_7 (pc' := 10) rfl (fun m1 => ?_)
  refine k_aload_n C 0 dX5_addGround_10 rfl rfl (pc' := 11) rfl ?_
  refine k_aload_n C 0 dX5_addGround_11 rfl rfl (pc' := 12) rfl ?_
  refine k_getf C 7 (c1 Γ M i m1 j0 (e_sack Γ hi hj0 (m1 j0))) (v_i hi (h_sack hj0)) flX5_33 (v := .int (m1 j0 7)) rfl dX5_addGround_12 (pc' := 15) rfl ?_
  refine k_aload_n C 0 dX5_addGround_15 rfl rfl (pc' := 16) rfl ?_
  refine k_getf C 8 (c1 Γ M i m1 j0 (e_sack Γ hi hj0 (m1 j0))) (v_i hi (h_sack hj0)) flX5_36 (v := .int (m1 j0 8)) rfl dX5_addGround_16 (pc' := 19) rfl ?_
  refine k_imul C dX5_addGround_19 (pc' := 20) rfl ?_
  refine k_bipush C (v := 100) dX5_addGround_20 (by decide) (pc' := 22) rfl ?_
  refine k_idivK C dX5_addGround_22 (by decide) (pc' := 23) rfl ?_
  refine k_putf C (hL.k1 M i) 9 (c1 Γ M i m1 j0 (e_sack Γ hi hj0 (m1 j0))) (v_i hi (h_sack hj0)) flX5_39 fpX5_9 (Nat.le_of_ble_eq_true rfl) (s1 Γ M i m1 j0 9 (((m1 j0 7) * (m1 j0 8)) / 100) ((e_sack Γ hi hj0 _).trans (congrArg (fun z => Sum.inr (5, z)) (f_sack (m1 j0) (((m1 j0 7) * (m1 j0 8)) / 100) 9 (by decide))))) dX5_addGround_23 (pc' := 26) rfl (fun m2 => ?_)
  refine k_aload_n C 0 dX5_addGround_26 rfl rfl (pc' := 27) rfl ?_
  refine k_aload_n C 0 dX5_addGround_27 rfl rfl (pc' := 28) rfl ?_
  refine k_getf C 7 (c1 Γ M i m2 j0 (e_sack Γ hi hj0 (m2 j0))) (v_i hi (h_sack hj0)) flX5_33 (v := .int (m2 j0 7)) rfl dX5_addGround_28 (pc' := 31) rfl ?_
  refine k_aload_n C 0 dX5_addGround_31 rfl rfl (pc' := 32) rfl ?_
  refine k_getf C 9 (c1 Γ M i m2 j0 (e_sack Γ hi hj0 (m2 j0))) (v_i hi (h_sack hj0)) flX5_39 (v := .int (m2 j0 9)) rfl dX5_addGround_32 (pc' := 35) rfl ?_
  refine k_isub C dX5_addGround_35 (pc' := 36) rfl ?_
  refine k_aload_n C 0 dX5_addGround_36 rfl rfl (pc' := 37) rfl ?_
  refine k_getf C 3 (c1 Γ M i m2 j0 (e_sack Γ hi hj0 (m2 j0))) (v_i hi (h_sack hj0)) flX5_21 (v := .int (m2 j0 3)) rfl dX5_addGround_37 (pc' := 40) rfl ?_
  refine k_imul C dX5_addGround_40 (pc' := 41) rfl ?_
  refine k_bipush C (v := 100) dX5_addGround_41 (by decide) (pc' := 43) rfl ?_
  refine k_idivK C dX5_addGround_43 (by decide) (pc' := 44) rfl ?_
  refine k_putf C (hL.k1 M i) 10 (c1 Γ M i m2 j0 (e_sack Γ hi hj0 (m2 j0))) (v_i hi (h_sack hj0)) flX5_42 fpX5_10 (Nat.le_of_ble_eq_true rfl) (s1 Γ M i m2 j0 10 ((((m2 j0 7) - (m2 j0 9)) * (m2 j0 3)) / 100) ((e_sack Γ hi hj0 _).trans (congrArg (fun z => Sum.inr (5, z)) (f_sack (m2 j0) ((((m2 j0 7) - (m2 j0 9)) * (m2 j0 3)) / 100) 10 (by decide))))) dX5_addGround_44 (pc' := 47) rfl (fun m3 => ?_)
  refine k_aload_n C 0 dX5_addGround_47 rfl rfl (pc' := 48) rfl ?_
  refine k_getf C 7 (c1 Γ M i m3 j0 (e_sack Γ hi hj0 (m3 j0))) (v_i hi (h_sack hj0)) flX5_33 (v := .int (m3 j0 7)) rfl dX5_addGround_48 (pc' := 51) rfl ?_
  refine k_aload_n C 0 dX5_addGround_51 rfl rfl (pc' := 52) rfl ?_
  refine k_getf C 5 (c1 Γ M i m3 j0 (e_sack Γ hi hj0 (m3 j0))) (v_i hi (h_sack hj0)) flX5_27 (v := .int (m3 j0 5)) rfl dX5_addGround_52 (pc' := 55) rfl ?_
  refine k_ic_lt C (tgt := 63) dX5_addGround_55 (by decide) (pc' := 58) rfl (fun h4 => ?_) (fun h4 => ?_)
  · exact k_retv C rfl hr dX5_addGround_63
  · refine k_aload_n C 0 dX5_addGround_58 rfl rfl (pc' := 59) rfl ?_
    refine k_iconst C (v := 2) dX5_addGround_59 (by decide) (pc' := 60) rfl ?_
    refine k_putf C (hL.k1 M i) 6 (c1 Γ M i m3 j0 (e_sack Γ hi hj0 (m3 j0))) (v_i hi (h_sack hj0)) flX5_30 fpX5_6 (Nat.le_of_ble_eq_true rfl) (s1 Γ M i m3 j0 6 2 ((e_sack Γ hi hj0 _).trans (congrArg (fun z => Sum.inr (5, z)) (f_sack (m3 j0) 2 6 (by decide))))) dX5_addGround_60 (pc' := 63) rfl (fun m5 => ?_)
    exact k_retv C rfl hr dX5_addGround_63
def fX5_fall (m0 : kM1) (j0 : Nat) : Option (Int32 × kM1) :=
  k_let (mu m0 j0 15 ((m0 j0 15) + (m0 j0 11))) fun m1 => bd (fX5_endPledge m1 j0) fun r2 m3 => some (0, m3)
set_option maxRecDepth 100000 in
set_option maxHeartbeats 4000000 in
theorem qX5_fall (l : Launch) (Γ : kG) (hL : k_Lay Γ 314) (M : kM2) (i : Nat) (hi : i < 7) (m0 : kM1) (j0 : Nat) (hj0 : 20 ≤ j0 ∧ j0 < 44) : CT l Γ (K1 Γ M i) yX5_fall cX5_fall 1 none (k_R 1) [.ref (Γ.1 i j0)] m0 (fX5_fall m0 j0) := by
  refine k_meth (own := RX5) (by decide) rfl (Nat.le_of_ble_eq_true rfl) (fun p e R s mid args below meth c C hr => ?_)
  show Sm Γ (K1 Γ M i) p l e R s mid args below meth c 1 (jM false Γ (K1 Γ M i) below args s) m0 [(0, .ref (Γ.1 i j0))] [] 0 (fX5_fall m0 j0)
  unfold fX5_fall
  refine k_aload_n C 0 dX5_fall_0 rfl rfl (pc' := 1) rfl ?_
  refine k_dup C dX5_fall_1 rfl (pc' := 2) rfl ?_
  refine k_getf C 15 (c1 Γ M i m0 j0 (e_sack Γ hi hj0 (m0 j0))) (v_i hi (h_sack hj0)) flX5_57 (v := .int (m0 j0 15)) rfl dX5_fall_2 (pc' := 5) rfl ?_
  refine k_aload_n C 0 dX5_fall_5 rfl rfl (pc' := 6) rfl ?_
  refine k_getf C 11 (c1 Γ M i m0 j0 (e_sack Γ hi hj0 (m0 j0))) (v_i hi (h_sack hj0)) flX5_45 (v := .int (m0 j0 11)) rfl dX5_fall_6 (pc' := 9) rfl ?_
  refine k_iadd C dX5_fall_9 (pc' := 10) rfl ?_
  refine k_putf C (hL.k1 M i) 15 (c1 Γ M i m0 j0 (e_sack Γ hi hj0 (m0 j0))) (v_i hi (h_sack hj0)) flX5_57 fpX5_15 (Nat.le_of_ble_eq_true rfl) (s1 Γ M i m0 j0 15 ((m0 j0 15) + (m0 j0 11)) ((e_sack Γ hi hj0 _).trans (congrArg (fun z => Sum.inr (5, z)) (f_sack (m0 j0) ((m0 j0 15) + (m0 j0 11)) 15 (by decide))))) dX5_fall_10 (pc' := 13) rfl (fun m1 => ?_)
  refine k_aload_n C 0 dX5_fall_13 rfl rfl (pc' := 14) rfl ?_
  refine k_callVv C (rest := []) (qX5_endPledge l Γ hL M i hi m1 j0 hj0) mwX5_endPledge iwX5_endPledge mlX5_68 (k_rm_of (by decide) (by decide)) (c1 Γ M i m1 j0 (e_sack Γ hi hj0 (m1 j0))) (v_i hi (h_sack hj0)) rfl rfl rfl (Nat.le_of_ble_eq_true rfl) dX5_fall_14 (pc' := 17) rfl (fun r2 m3 => ?_)
  exact k_retv C rfl hr dX5_fall_17
def fX5_hasPledge (m0 : kM1) (j0 : Nat) : Option (Int32 × kM1) :=
  if (m0 j0 11) ≤ 0 then some (0, m0) else some (1, m0)
set_option maxRecDepth 100000 in
set_option maxHeartbeats 4000000 in
theorem qX5_hasPledge (l : Launch) (Γ : kG) (hL : k_Lay Γ 314) (M : kM2) (i : Nat) (hi : i < 7) (m0 : kM1) (j0 : Nat) (hj0 : 20 ≤ j0 ∧ j0 < 44) : CT l Γ (K1 Γ M i) yX5_hasPledge cX5_hasPledge 1 (some .boolean) (k_R 0) [.ref (Γ.1 i j0)] m0 (fX5_hasPledge m0 j0) := by
  refine k_meth (own := RX5) (by decide) rfl (Nat.le_of_ble_eq_true rfl) (fun p e R s mid args below meth c C hr => ?_)
  show Sm Γ (K1 Γ M i) p l e R s mid args below meth c 1 (jM true Γ (K1 Γ M i) below args s) m0 [(0, .ref (Γ.1 i j0))] [] 0 (fX5_hasPledge m0 j0)
  unfold fX5_hasPledge
  refine k_aload_n C 0 dX5_hasPledge_0 rfl rfl (pc' := 1) rfl ?_
  refine k_getf C 11 (c1 Γ M i m0 j0 (e_sack Γ hi hj0 (m0 j0))) (v_i hi (h_sack hj0)) flX5_45 (v := .int (m0 j0 11)) rfl dX5_hasPledge_1 (pc' := 4) rfl ?_
  refine k_if_le C (tgt := 11) dX5_hasPledge_4 (by decide) (pc' := 7) rfl (fun h1 => ?_) (fun h1 => ?_)
  · refine k_iconst C (v := 0) dX5_hasPledge_11 (by decide) (pc' := 12) rfl ?_
    exact k_retz C rfl hr (Or.inl rfl) dX5_hasPledge_12
  · refine k_iconst C (v := 1) dX5_hasPledge_7 (by decide) (pc' := 8) rfl ?_
    refine k_goto C (pc' := 12) dX5_hasPledge_8 (by decide) ?_
    exact k_retz C rfl hr (Or.inr rfl) dX5_hasPledge_12
def fX5_grain (m0 : kM1) (j0 : Nat) : Option (Int32 × kM1) :=
  if (m0 j0 6) = 3 then some (0, m0) else some ((m0 j0 5) - (m0 j0 7), m0)
set_option maxRecDepth 100000 in
set_option maxHeartbeats 4000000 in
theorem qX5_grain (l : Launch) (Γ : kG) (hL : k_Lay Γ 314) (M : kM2) (i : Nat) (hi : i < 7) (m0 : kM1) (j0 : Nat) (hj0 : 20 ≤ j0 ∧ j0 < 44) : CT l Γ (K1 Γ M i) yX5_grain cX5_grain 1 (some .int) (k_R 0) [.ref (Γ.1 i j0)] m0 (fX5_grain m0 j0) := by
  refine k_meth (own := RX5) (by decide) rfl (Nat.le_of_ble_eq_true rfl) (fun p e R s mid args below meth c C hr => ?_)
  show Sm Γ (K1 Γ M i) p l e R s mid args below meth c 1 (jM true Γ (K1 Γ M i) below args s) m0 [(0, .ref (Γ.1 i j0))] [] 0 (fX5_grain m0 j0)
  unfold fX5_grain
  refine k_aload_n C 0 dX5_grain_0 rfl rfl (pc' := 1) rfl ?_
  refine k_getf C 6 (c1 Γ M i m0 j0 (e_sack Γ hi hj0 (m0 j0))) (v_i hi (h_sack hj0)) flX5_30 (v := .int (m0 j0 6)) rfl dX5_grain_1 (pc' := 4) rfl ?_
  refine k_iconst C (v := 3) dX5_grain_4 (by decide) (pc' := 5) rfl ?_
  refine k_ic_ne C (tgt := 12) dX5_grain_5 (by decide) (pc' := 8) rfl (fun h1 => ?_) (fun h1 => ?_)
  · refine k_aload_n C 0 dX5_grain_12 rfl rfl (pc' := 13) rfl ?_
    refine k_getf C 5 (c1 Γ M i m0 j0 (e_sack Γ hi hj0 (m0 j0))) (v_i hi (h_sack hj0)) flX5_27 (v := .int (m0 j0 5)) rfl dX5_grain_13 (pc' := 16) rfl ?_
    refine k_aload_n C 0 dX5_grain_16 rfl rfl (pc' := 17) rfl ?_
    refine k_getf C 7 (c1 Γ M i m0 j0 (e_sack Γ hi hj0 (m0 j0))) (v_i hi (h_sack hj0)) flX5_33 (v := .int (m0 j0 7)) rfl dX5_grain_17 (pc' := 20) rfl ?_
    refine k_isub C dX5_grain_20 (pc' := 21) rfl ?_
    exact k_reti C rfl hr dX5_grain_21
  · refine k_iconst C (v := 0) dX5_grain_8 (by decide) (pc' := 9) rfl ?_
    refine k_goto C (pc' := 21) dX5_grain_9 (by decide) ?_
    exact k_reti C rfl hr dX5_grain_21
def fX5_flour (m0 : kM1) (j0 : Nat) : Option (Int32 × kM1) :=
  if (m0 j0 6) = 3 then some (0, m0) else some (((((m0 j0 7) - (m0 j0 9)) - (m0 j0 10)) - (m0 j0 11)) - (m0 j0 15), m0)
set_option maxRecDepth 100000 in
set_option maxHeartbeats 4000000 in
theorem qX5_flour (l : Launch) (Γ : kG) (hL : k_Lay Γ 314) (M : kM2) (i : Nat) (hi : i < 7) (m0 : kM1) (j0 : Nat) (hj0 : 20 ≤ j0 ∧ j0 < 44) : CT l Γ (K1 Γ M i) yX5_flour cX5_flour 1 (some .int) (k_R 0) [.ref (Γ.1 i j0)] m0 (fX5_flour m0 j0) := by
  refine k_meth (own := RX5) (by decide) rfl (Nat.le_of_ble_eq_true rfl) (fun p e R s mid args below meth c C hr => ?_)
  show Sm Γ (K1 Γ M i) p l e R s mid args below meth c 1 (jM true Γ (K1 Γ M i) below args s) m0 [(0, .ref (Γ.1 i j0))] [] 0 (fX5_flour m0 j0)
  unfold fX5_flour
  refine k_aload_n C 0 dX5_flour_0 rfl rfl (pc' := 1) rfl ?_
  refine k_getf C 6 (c1 Γ M i m0 j0 (e_sack Γ hi hj0 (m0 j0))) (v_i hi (h_sack hj0)) flX5_30 (v := .int (m0 j0 6)) rfl dX5_flour_1 (pc' := 4) rfl ?_
  refine k_iconst C (v := 3) dX5_flour_4 (by decide) (pc' := 5) rfl ?_
  refine k_ic_ne C (tgt := 12) dX5_flour_5 (by decide) (pc' := 8) rfl (fun h1 => ?_) (fun h1 => ?_)
  · refine k_aload_n C 0 dX5_flour_12 rfl rfl (pc' := 13) rfl ?_
    refine k_getf C 7 (c1 Γ M i m0 j0 (e_sack Γ hi hj0 (m0 j0))) (v_i hi (h_sack hj0)) flX5_33 (v := .int (m0 j0 7)) rfl dX5_flour_13 (pc' := 16) rfl ?_
    refine k_aload_n C 0 dX5_flour_16 rfl rfl (pc' := 17) rfl ?_
    refine k_getf C 9 (c1 Γ M i m0 j0 (e_sack Γ hi hj0 (m0 j0))) (v_i hi (h_sack hj0)) flX5_39 (v := .int (m0 j0 9)) rfl dX5_flour_17 (pc' := 20) rfl ?_
    refine k_isub C dX5_flour_20 (pc' := 21) rfl ?_
    refine k_aload_n C 0 dX5_flour_21 rfl rfl (pc' := 22) rfl ?_
    refine k_getf C 10 (c1 Γ M i m0 j0 (e_sack Γ hi hj0 (m0 j0))) (v_i hi (h_sack hj0)) flX5_42 (v := .int (m0 j0 10)) rfl dX5_flour_22 (pc' := 25) rfl ?_
    refine k_isub C dX5_flour_25 (pc' := 26) rfl ?_
    refine k_aload_n C 0 dX5_flour_26 rfl rfl (pc' := 27) rfl ?_
    refine k_getf C 11 (c1 Γ M i m0 j0 (e_sack Γ hi hj0 (m0 j0))) (v_i hi (h_sack hj0)) flX5_45 (v := .int (m0 j0 11)) rfl dX5_flour_27 (pc' := 30) rfl ?_
    refine k_isub C dX5_flour_30 (pc' := 31) rfl ?_
    refine k_aload_n C 0 dX5_flour_31 rfl rfl (pc' := 32) rfl ?_
    refine k_getf C 15 (c1 Γ M i m0 j0 (e_sack Γ hi hj0 (m0 j0))) (v_i hi (h_sack hj0)) flX5_57 (v := .int (m0 j0 15)) rfl dX5_flour_32 (pc' := 35) rfl ?_
    refine k_isub C dX5_flour_35 (pc' := 36) rfl ?_
    exact k_reti C rfl hr dX5_flour_36
  · refine k_iconst C (v := 0) dX5_flour_8 (by decide) (pc' := 9) rfl ?_
    refine k_goto C (pc' := 36) dX5_flour_9 (by decide) ?_
    exact k_reti C rfl hr dX5_flour_36
def fX5_isOf_b26 (j0 : Nat) (a1 : Int32) (a2 : Int32)  (m0 : kM1) : Option (Int32 × kM1) :=
  some (1, m0)
set_option maxRecDepth 100000 in
set_option maxHeartbeats 4000000 in
theorem sX5_isOf_b26 {l : Launch} {Γ : kG} (hL : k_Lay Γ 314) {M : kM2} {i : Nat} (hi : i < 7) {p : Program} {e : Env} {R : Room} {s : State} {mid : MethodId} {args : Array Value} {below : List Frame} {meth : Method} {c : Code} (C : k_C Γ p R s mid args meth c cX5_isOf 3 RX5 (k_R 0)) (hr : meth.sig.returnType = (some .boolean)) (j0 : Nat) (a1 : Int32) (a2 : Int32) (hj0 : 20 ≤ j0 ∧ j0 < 44)  (m0 : kM1)   : Sm Γ (K1 Γ M i) p l e R s mid args below meth c 3 (jM true Γ (K1 Γ M i) below args s) m0 [] [] 26 (fX5_isOf_b26 j0 a1 a2 m0) := by
  unfold fX5_isOf_b26
  refine k_iconst C (v := 1) dX5_isOf_26 (by decide) (pc' := 27) rfl ?_
  refine k_goto C (pc' := 31) dX5_isOf_27 (by decide) ?_
  exact k_retz C rfl hr (Or.inr rfl) dX5_isOf_31
def fX5_isOf_b13 (j0 : Nat) (a1 : Int32) (a2 : Int32)  (m0 : kM1) : Option (Int32 × kM1) :=
  if a2 = (-1) then fX5_isOf_b26 j0 a1 a2 m0 else if a2 = (m0 j0 1) then fX5_isOf_b26 j0 a1 a2 m0 else some (0, m0)
set_option maxRecDepth 100000 in
set_option maxHeartbeats 4000000 in
theorem sX5_isOf_b13 {l : Launch} {Γ : kG} (hL : k_Lay Γ 314) {M : kM2} {i : Nat} (hi : i < 7) {p : Program} {e : Env} {R : Room} {s : State} {mid : MethodId} {args : Array Value} {below : List Frame} {meth : Method} {c : Code} (C : k_C Γ p R s mid args meth c cX5_isOf 3 RX5 (k_R 0)) (hr : meth.sig.returnType = (some .boolean)) (j0 : Nat) (a1 : Int32) (a2 : Int32) (hj0 : 20 ≤ j0 ∧ j0 < 44)  (m0 : kM1)   : Sm Γ (K1 Γ M i) p l e R s mid args below meth c 3 (jM true Γ (K1 Γ M i) below args s) m0 [(0, .ref (Γ.1 i j0)), (2, .int a2)] [] 13 (fX5_isOf_b13 j0 a1 a2 m0) := by
  unfold fX5_isOf_b13
  refine k_iload_n C 1 dX5_isOf_13 rfl rfl (pc' := 14) rfl ?_
  refine k_iconst C (v := (-1)) dX5_isOf_14 (by decide) (pc' := 15) rfl ?_
  refine k_ic_eq C (tgt := 26) dX5_isOf_15 (by decide) (pc' := 18) rfl (fun h2 => ?_) (fun h2 => ?_)
  · refine k_sub [] rfl ?_
    exact sX5_isOf_b26 hL hi C hr j0 a1 a2 hj0 m0
  · refine k_iload_n C 1 dX5_isOf_18 rfl rfl (pc' := 19) rfl ?_
    refine k_aload_n C 0 dX5_isOf_19 rfl rfl (pc' := 20) rfl ?_
    refine k_getf C 1 (c1 Γ M i m0 j0 (e_sack Γ hi hj0 (m0 j0))) (v_i hi (h_sack hj0)) flX5_15 (v := .int (m0 j0 1)) rfl dX5_isOf_20 (pc' := 23) rfl ?_
    refine k_ic_ne C (tgt := 30) dX5_isOf_23 (by decide) (pc' := 26) rfl (fun h3 => ?_) (fun h3 => ?_)
    · refine k_iconst C (v := 0) dX5_isOf_30 (by decide) (pc' := 31) rfl ?_
      exact k_retz C rfl hr (Or.inl rfl) dX5_isOf_31
    · refine k_sub [] rfl ?_
      exact sX5_isOf_b26 hL hi C hr j0 a1 a2 hj0 m0
def fX5_isOf (m0 : kM1) (j0 : Nat) (a1 : Int32) (a2 : Int32) : Option (Int32 × kM1) :=
  if a1 = (-1) then fX5_isOf_b13 j0 a1 a2 m0 else if a1 = (m0 j0 0) then fX5_isOf_b13 j0 a1 a2 m0 else some (0, m0)
set_option maxRecDepth 100000 in
set_option maxHeartbeats 4000000 in
theorem qX5_isOf (l : Launch) (Γ : kG) (hL : k_Lay Γ 314) (M : kM2) (i : Nat) (hi : i < 7) (m0 : kM1) (j0 : Nat) (a1 : Int32) (a2 : Int32) (hj0 : 20 ≤ j0 ∧ j0 < 44) : CT l Γ (K1 Γ M i) yX5_isOf cX5_isOf 3 (some .boolean) (k_R 0) [.ref (Γ.1 i j0), .int a1, .int a2] m0 (fX5_isOf m0 j0 a1 a2) := by
  refine k_meth (own := RX5) (by decide) rfl (Nat.le_of_ble_eq_true rfl) (fun p e R s mid args below meth c C hr => ?_)
  show Sm Γ (K1 Γ M i) p l e R s mid args below meth c 3 (jM true Γ (K1 Γ M i) below args s) m0 [(0, .ref (Γ.1 i j0)), (1, .int a1), (2, .int a2)] [] 0 (fX5_isOf m0 j0 a1 a2)
  unfold fX5_isOf
  refine k_iload_n C 1 dX5_isOf_0 rfl rfl (pc' := 1) rfl ?_
  refine k_iconst C (v := (-1)) dX5_isOf_1 (by decide) (pc' := 2) rfl ?_
  refine k_ic_eq C (tgt := 13) dX5_isOf_2 (by decide) (pc' := 5) rfl (fun h1 => ?_) (fun h1 => ?_)
  · refine k_sub [0, 2] rfl ?_
    exact sX5_isOf_b13 hL hi C hr j0 a1 a2 hj0 m0
  · refine k_iload_n C 1 dX5_isOf_5 rfl rfl (pc' := 6) rfl ?_
    refine k_aload_n C 0 dX5_isOf_6 rfl rfl (pc' := 7) rfl ?_
    refine k_getf C 0 (c1 Γ M i m0 j0 (e_sack Γ hi hj0 (m0 j0))) (v_i hi (h_sack hj0)) flX5_9 (v := .int (m0 j0 0)) rfl dX5_isOf_7 (pc' := 10) rfl ?_
    refine k_ic_ne C (tgt := 30) dX5_isOf_10 (by decide) (pc' := 13) rfl (fun h4 => ?_) (fun h4 => ?_)
    · refine k_iconst C (v := 0) dX5_isOf_30 (by decide) (pc' := 31) rfl ?_
      exact k_retz C rfl hr (Or.inl rfl) dX5_isOf_31
    · refine k_sub [0, 2] rfl ?_
      exact sX5_isOf_b13 hL hi C hr j0 a1 a2 hj0 m0
def fX5_tell (m0 : kM1) (j0 : Nat) (a1 : Int32) : Option (Int32 × kM1) :=
  if a1 = 0 then some (m0 j0 0, m0) else if a1 = 1 then some (m0 j0 1, m0) else if a1 = 2 then some (m0 j0 5, m0) else if a1 = 3 then some (m0 j0 6, m0) else if a1 = 4 then bd (fX5_grain m0 j0) fun r6 m7 => some (r6, m7) else if a1 = 5 then bd (fX5_flour m0 j0) fun r9 m10 => some (r9, m10) else if a1 = 6 then some (m0 j0 9, m0) else if a1 = 7 then some (m0 j0 10, m0) else if a1 = 8 then some (m0 j0 11, m0) else if a1 = 9 then some (m0 j0 15, m0) else some (m0 j0 16, m0)
set_option maxRecDepth 100000 in
set_option maxHeartbeats 4000000 in
theorem qX5_tell (l : Launch) (Γ : kG) (hL : k_Lay Γ 314) (M : kM2) (i : Nat) (hi : i < 7) (m0 : kM1) (j0 : Nat) (a1 : Int32) (hj0 : 20 ≤ j0 ∧ j0 < 44) : CT l Γ (K1 Γ M i) yX5_tell cX5_tell 2 (some .int) (k_R 1) [.ref (Γ.1 i j0), .int a1] m0 (fX5_tell m0 j0 a1) := by
  refine k_meth (own := RX5) (by decide) rfl (Nat.le_of_ble_eq_true rfl) (fun p e R s mid args below meth c C hr => ?_)
  show Sm Γ (K1 Γ M i) p l e R s mid args below meth c 2 (jM true Γ (K1 Γ M i) below args s) m0 [(0, .ref (Γ.1 i j0)), (1, .int a1)] [] 0 (fX5_tell m0 j0 a1)
  unfold fX5_tell
  refine k_iload_n C 1 dX5_tell_0 rfl rfl (pc' := 1) rfl ?_
  refine k_ite (fun h1 => ?_) (fun h1 => ?_)
  · refine k_tswIn C (55) dX5_tell_1 h1 (by decide) (by decide) rfl (pc' := 56) (by decide) ?_
    refine k_aload_n C 0 dX5_tell_56 rfl rfl (pc' := 57) rfl ?_
    refine k_getf C 0 (c1 Γ M i m0 j0 (e_sack Γ hi hj0 (m0 j0))) (v_i hi (h_sack hj0)) flX5_9 (v := .int (m0 j0 0)) rfl dX5_tell_57 (pc' := 60) rfl ?_
    exact k_reti C rfl hr dX5_tell_60
  refine k_ite (fun h2 => ?_) (fun h2 => ?_)
  · refine k_tswIn C (60) dX5_tell_1 h2 (by decide) (by decide) rfl (pc' := 61) (by decide) ?_
    refine k_aload_n C 0 dX5_tell_61 rfl rfl (pc' := 62) rfl ?_
    refine k_getf C 1 (c1 Γ M i m0 j0 (e_sack Γ hi hj0 (m0 j0))) (v_i hi (h_sack hj0)) flX5_15 (v := .int (m0 j0 1)) rfl dX5_tell_62 (pc' := 65) rfl ?_
    exact k_reti C rfl hr dX5_tell_65
  refine k_ite (fun h3 => ?_) (fun h3 => ?_)
  · refine k_tswIn C (65) dX5_tell_1 h3 (by decide) (by decide) rfl (pc' := 66) (by decide) ?_
    refine k_aload_n C 0 dX5_tell_66 rfl rfl (pc' := 67) rfl ?_
    refine k_getf C 5 (c1 Γ M i m0 j0 (e_sack Γ hi hj0 (m0 j0))) (v_i hi (h_sack hj0)) flX5_27 (v := .int (m0 j0 5)) rfl dX5_tell_67 (pc' := 70) rfl ?_
    exact k_reti C rfl hr dX5_tell_70
  refine k_ite (fun h4 => ?_) (fun h4 => ?_)
  · refine k_tswIn C (70) dX5_tell_1 h4 (by decide) (by decide) rfl (pc' := 71) (by decide) ?_
    refine k_aload_n C 0 dX5_tell_71 rfl rfl (pc' := 72) rfl ?_
    refine k_getf C 6 (c1 Γ M i m0 j0 (e_sack Γ hi hj0 (m0 j0))) (v_i hi (h_sack hj0)) flX5_30 (v := .int (m0 j0 6)) rfl dX5_tell_72 (pc' := 75) rfl ?_
    exact k_reti C rfl hr dX5_tell_75
  refine k_ite (fun h5 => ?_) (fun h5 => ?_)
  · refine k_tswIn C (75) dX5_tell_1 h5 (by decide) (by decide) rfl (pc' := 76) (by decide) ?_
    refine k_aload_n C 0 dX5_tell_76 rfl rfl (pc' := 77) rfl ?_
    refine k_callVi C (rest := []) (qX5_grain l Γ hL M i hi m0 j0 hj0) mwX5_grain iwX5_grain mlX5_71 (k_rm_of (by decide) (by decide)) (c1 Γ M i m0 j0 (e_sack Γ hi hj0 (m0 j0))) (v_i hi (h_sack hj0)) rfl rfl rfl (Nat.le_of_ble_eq_true rfl) dX5_tell_77 (pc' := 80) rfl (fun r6 m7 => ?_)
    exact k_reti C rfl hr dX5_tell_80
  refine k_ite (fun h8 => ?_) (fun h8 => ?_)
  · refine k_tswIn C (80) dX5_tell_1 h8 (by decide) (by decide) rfl (pc' := 81) (by decide) ?_
    refine k_aload_n C 0 dX5_tell_81 rfl rfl (pc' := 82) rfl ?_
    refine k_callVi C (rest := []) (qX5_flour l Γ hL M i hi m0 j0 hj0) mwX5_flour iwX5_flour mlX5_75 (k_rm_of (by decide) (by decide)) (c1 Γ M i m0 j0 (e_sack Γ hi hj0 (m0 j0))) (v_i hi (h_sack hj0)) rfl rfl rfl (Nat.le_of_ble_eq_true rfl) dX5_tell_82 (pc' := 85) rfl (fun r9 m10 => ?_)
    exact k_reti C rfl hr dX5_tell_85
  refine k_ite (fun h11 => ?_) (fun h11 => ?_)
  · refine k_tswIn C (85) dX5_tell_1 h11 (by decide) (by decide) rfl (pc' := 86) (by decide) ?_
    refine k_aload_n C 0 dX5_tell_86 rfl rfl (pc' := 87) rfl ?_
    refine k_getf C 9 (c1 Γ M i m0 j0 (e_sack Γ hi hj0 (m0 j0))) (v_i hi (h_sack hj0)) flX5_39 (v := .int (m0 j0 9)) rfl dX5_tell_87 (pc' := 90) rfl ?_
    exact k_reti C rfl hr dX5_tell_90
  refine k_ite (fun h12 => ?_) (fun h12 => ?_)
  · refine k_tswIn C (90) dX5_tell_1 h12 (by decide) (by decide) rfl (pc' := 91) (by decide) ?_
    refine k_aload_n C 0 dX5_tell_91 rfl rfl (pc' := 92) rfl ?_
    refine k_getf C 10 (c1 Γ M i m0 j0 (e_sack Γ hi hj0 (m0 j0))) (v_i hi (h_sack hj0)) flX5_42 (v := .int (m0 j0 10)) rfl dX5_tell_92 (pc' := 95) rfl ?_
    exact k_reti C rfl hr dX5_tell_95
  refine k_ite (fun h13 => ?_) (fun h13 => ?_)
  · refine k_tswIn C (95) dX5_tell_1 h13 (by decide) (by decide) rfl (pc' := 96) (by decide) ?_
    refine k_aload_n C 0 dX5_tell_96 rfl rfl (pc' := 97) rfl ?_
    refine k_getf C 11 (c1 Γ M i m0 j0 (e_sack Γ hi hj0 (m0 j0))) (v_i hi (h_sack hj0)) flX5_45 (v := .int (m0 j0 11)) rfl dX5_tell_97 (pc' := 100) rfl ?_
    exact k_reti C rfl hr dX5_tell_100
  refine k_ite (fun h14 => ?_) (fun h14 => ?_)
  · refine k_tswIn C (100) dX5_tell_1 h14 (by decide) (by decide) rfl (pc' := 101) (by decide) ?_
    refine k_aload_n C 0 dX5_tell_101 rfl rfl (pc' := 102) rfl ?_
    refine k_getf C 15 (c1 Γ M i m0 j0 (e_sack Γ hi hj0 (m0 j0))) (v_i hi (h_sack hj0)) flX5_57 (v := .int (m0 j0 15)) rfl dX5_tell_102 (pc' := 105) rfl ?_
    exact k_reti C rfl hr dX5_tell_105
  refine k_tswOut C dX5_tell_1 (by have z0 := lv_neT h1 (show (0 : Int32).toInt = 0 by decide); have z1 := lv_neT h2 (show (1 : Int32).toInt = 1 by decide); have z2 := lv_neT h3 (show (2 : Int32).toInt = 2 by decide); have z3 := lv_neT h4 (show (3 : Int32).toInt = 3 by decide); have z4 := lv_neT h5 (show (4 : Int32).toInt = 4 by decide); have z5 := lv_neT h8 (show (5 : Int32).toInt = 5 by decide); have z6 := lv_neT h11 (show (6 : Int32).toInt = 6 by decide); have z7 := lv_neT h12 (show (7 : Int32).toInt = 7 by decide); have z8 := lv_neT h13 (show (8 : Int32).toInt = 8 by decide); have z9 := lv_neT h14 (show (9 : Int32).toInt = 9 by decide); omega) (pc' := 106) (by decide) ?_
  refine k_aload_n C 0 dX5_tell_106 rfl rfl (pc' := 107) rfl ?_
  refine k_getf C 16 (c1 Γ M i m0 j0 (e_sack Γ hi hj0 (m0 j0))) (v_i hi (h_sack hj0)) flX5_60 (v := .int (m0 j0 16)) rfl dX5_tell_107 (pc' := 110) rfl ?_
  exact k_reti C rfl hr dX5_tell_110
def fX3_copyGrainFrom_b88 (i0 : Nat) (i1 : Nat) : Nat → kM2 → Int32 → Option (Int32 × kM2)
  | 0, _, _ => none
  | n + 1, M0, b2 =>
  if (M0 i0 0 7) ≤ b2 then some (0, M0) else if ¬ b2 < 0 ∧ b2.toNatClampNeg < 24 then if ¬ b2 < 0 ∧ b2.toNatClampNeg < 24 then bd (fX5_takeFrom M0 i0 ((20 + b2.toNatClampNeg)) i1 ((20 + b2.toNatClampNeg))) fun r9 M10 => k_let (b2 + 1) fun v11 => fX3_copyGrainFrom_b88 i0 i1 n M10 v11 else none else none
set_option maxRecDepth 100000 in
set_option maxHeartbeats 4000000 in
theorem sX3_copyGrainFrom_b88 {l : Launch} {Γ : kG} (hL : k_Lay Γ 314) {p : Program} {e : Env} {R : Room} {s : State} {mid : MethodId} {args : Array Value} {below : List Frame} {meth : Method} {c : Code} (C : k_C Γ p R s mid args meth c cX3_copyGrainFrom 3 RX3 (k_R 1)) (hr : meth.sig.returnType = none) (i0 : Nat) (i1 : Nat) (hi0 : i0 < 7) (hi1 : i1 < 7)  (n : Nat) : ∀ (M0 : kM2) (b2 : Int32), Sm Γ (K2 Γ) p l e R s mid args below meth c 3 (jM false Γ (K2 Γ) below args s) M0 [(0, .ref (Γ.1 i0 0)), (1, .ref (Γ.1 i1 0)), (2, .int b2)] [] 88 (fX3_copyGrainFrom_b88 i0 i1 n M0 b2) := by
  induction n with
  | zero => intros; exact k_none
  | succ n ih =>
    intro M0 b2
    unfold fX3_copyGrainFrom_b88
    refine k_iload_n C 2 dX3_copyGrainFrom_88 rfl rfl (pc' := 89) rfl ?_
    refine k_aload_n C 0 dX3_copyGrainFrom_89 rfl rfl (pc' := 90) rfl ?_
    refine k_getf C 7 (c2 Γ M0 i0 0 (e_mill Γ hi0 (M0 i0 0))) (v_i hi0 (by decide)) flX3_97 (v := .int (M0 i0 0 7)) rfl dX3_copyGrainFrom_90 (pc' := 93) rfl ?_
    refine k_ic_ge C (tgt := 117) dX3_copyGrainFrom_93 (by decide) (pc' := 96) rfl (fun h6 => ?_) (fun h6 => ?_)
    · exact k_retv C rfl hr dX3_copyGrainFrom_117
    · refine k_aload_n C 0 dX3_copyGrainFrom_96 rfl rfl (pc' := 97) rfl ?_
      refine k_getf C 4 (c2 Γ M0 i0 0 (e_mill Γ hi0 (M0 i0 0))) (v_i hi0 (by decide)) flX3_43 (v := .ref (Γ.1 i0 5)) rfl dX3_copyGrainFrom_97 (pc' := 100) rfl ?_
      refine k_iload_n C 2 dX3_copyGrainFrom_100 rfl rfl (pc' := 101) rfl ?_
      refine k_aald C 4 (c2 Γ M0 i0 5 (e_sacks Γ hi0 (M0 i0 5))) (v_i hi0 (by decide)) rfl (b := Γ.1 i0 (20 + b2.toNatClampNeg)) rfl dX3_copyGrainFrom_101 (pc' := 102) rfl (fun h7 => ?_)
      refine k_aload_n C 1 dX3_copyGrainFrom_102 rfl rfl (pc' := 103) rfl ?_
      refine k_getf C 4 (c2 Γ M0 i1 0 (e_mill Γ hi1 (M0 i1 0))) (v_i hi1 (by decide)) flX3_43 (v := .ref (Γ.1 i1 5)) rfl dX3_copyGrainFrom_103 (pc' := 106) rfl ?_
      refine k_iload_n C 2 dX3_copyGrainFrom_106 rfl rfl (pc' := 107) rfl ?_
      refine k_aald C 4 (c2 Γ M0 i1 5 (e_sacks Γ hi1 (M0 i1 5))) (v_i hi1 (by decide)) rfl (b := Γ.1 i1 (20 + b2.toNatClampNeg)) rfl dX3_copyGrainFrom_107 (pc' := 108) rfl (fun h8 => ?_)
      refine k_callVv C (rest := []) (qX5_takeFrom l Γ hL M0 i0 ((20 + b2.toNatClampNeg)) i1 ((20 + b2.toNatClampNeg)) hi0 (j_sack h7) hi1 (j_sack h8)) mwX5_takeFrom iwX5_takeFrom mlX3_107 (k_rm_of (by decide) (by decide)) (c2 Γ M0 i0 (20 + b2.toNatClampNeg) (e_sack Γ hi0 (j_sack h7) (M0 i0 (20 + b2.toNatClampNeg)))) (v_i hi0 (h_sack (j_sack h7))) rfl rfl rfl (Nat.le_of_ble_eq_true rfl) dX3_copyGrainFrom_108 (pc' := 111) rfl (fun r9 M10 => ?_)
      refine k_iinc (v := 1) (q := 2) (lv' := [(0, .ref (Γ.1 i0 0)), (1, .ref (Γ.1 i1 0))]) C dX3_copyGrainFrom_111 rfl (by decide) (by decide) (pc' := 114) rfl (fun _ => rfl) (fun v11 => ?_)
      refine k_goto C (pc' := 88) dX3_copyGrainFrom_114 (by decide) ?_
      refine k_sub [1, 2, 0] rfl ?_
      exact ih M10 v11
def fX3_copyGrainFrom_b57 (i0 : Nat) (i1 : Nat) : Nat → kM2 → Int32 → Option (Int32 × kM2)
  | 0, _, _ => none
  | n + 1, M0, b2 =>
  if (M0 i0 0 6) ≤ b2 then fX3_copyGrainFrom_b88 i0 i1 kFu M0 0 else if ¬ b2 < 0 ∧ b2.toNatClampNeg < 8 then if ¬ b2 < 0 ∧ b2.toNatClampNeg < 8 then bd (fX0_takeFrom M0 i0 ((12 + b2.toNatClampNeg)) i1 ((12 + b2.toNatClampNeg))) fun r14 M15 => k_let (b2 + 1) fun v16 => fX3_copyGrainFrom_b57 i0 i1 n M15 v16 else none else none
set_option maxRecDepth 100000 in
set_option maxHeartbeats 4000000 in
theorem sX3_copyGrainFrom_b57 {l : Launch} {Γ : kG} (hL : k_Lay Γ 314) {p : Program} {e : Env} {R : Room} {s : State} {mid : MethodId} {args : Array Value} {below : List Frame} {meth : Method} {c : Code} (C : k_C Γ p R s mid args meth c cX3_copyGrainFrom 3 RX3 (k_R 1)) (hr : meth.sig.returnType = none) (i0 : Nat) (i1 : Nat) (hi0 : i0 < 7) (hi1 : i1 < 7)  (n : Nat) : ∀ (M0 : kM2) (b2 : Int32), Sm Γ (K2 Γ) p l e R s mid args below meth c 3 (jM false Γ (K2 Γ) below args s) M0 [(0, .ref (Γ.1 i0 0)), (1, .ref (Γ.1 i1 0)), (2, .int b2)] [] 57 (fX3_copyGrainFrom_b57 i0 i1 n M0 b2) := by
  induction n with
  | zero => intros; exact k_none
  | succ n ih =>
    intro M0 b2
    unfold fX3_copyGrainFrom_b57
    refine k_iload_n C 2 dX3_copyGrainFrom_57 rfl rfl (pc' := 58) rfl ?_
    refine k_aload_n C 0 dX3_copyGrainFrom_58 rfl rfl (pc' := 59) rfl ?_
    refine k_getf C 6 (c2 Γ M0 i0 0 (e_mill Γ hi0 (M0 i0 0))) (v_i hi0 (by decide)) flX3_94 (v := .int (M0 i0 0 6)) rfl dX3_copyGrainFrom_59 (pc' := 62) rfl ?_
    refine k_ic_ge C (tgt := 86) dX3_copyGrainFrom_62 (by decide) (pc' := 65) rfl (fun h5 => ?_) (fun h5 => ?_)
    · refine k_iconst C (v := 0) dX3_copyGrainFrom_86 (by decide) (pc' := 87) rfl ?_
      refine k_istore_n C (lv' := [(2, .int 0), (0, .ref (Γ.1 i0 0)), (1, .ref (Γ.1 i1 0))]) dX3_copyGrainFrom_87 rfl (by decide) rfl (pc' := 88) rfl ?_
      refine k_sub [1, 2, 0] rfl ?_
      exact sX3_copyGrainFrom_b88 hL C hr i0 i1 hi0 hi1 kFu M0 0
    · refine k_aload_n C 0 dX3_copyGrainFrom_65 rfl rfl (pc' := 66) rfl ?_
      refine k_getf C 3 (c2 Γ M0 i0 0 (e_mill Γ hi0 (M0 i0 0))) (v_i hi0 (by decide)) flX3_37 (v := .ref (Γ.1 i0 4)) rfl dX3_copyGrainFrom_66 (pc' := 69) rfl ?_
      refine k_iload_n C 2 dX3_copyGrainFrom_69 rfl rfl (pc' := 70) rfl ?_
      refine k_aald C 3 (c2 Γ M0 i0 4 (e_farmers Γ hi0 (M0 i0 4))) (v_i hi0 (by decide)) rfl (b := Γ.1 i0 (12 + b2.toNatClampNeg)) rfl dX3_copyGrainFrom_70 (pc' := 71) rfl (fun h12 => ?_)
      refine k_aload_n C 1 dX3_copyGrainFrom_71 rfl rfl (pc' := 72) rfl ?_
      refine k_getf C 3 (c2 Γ M0 i1 0 (e_mill Γ hi1 (M0 i1 0))) (v_i hi1 (by decide)) flX3_37 (v := .ref (Γ.1 i1 4)) rfl dX3_copyGrainFrom_72 (pc' := 75) rfl ?_
      refine k_iload_n C 2 dX3_copyGrainFrom_75 rfl rfl (pc' := 76) rfl ?_
      refine k_aald C 3 (c2 Γ M0 i1 4 (e_farmers Γ hi1 (M0 i1 4))) (v_i hi1 (by decide)) rfl (b := Γ.1 i1 (12 + b2.toNatClampNeg)) rfl dX3_copyGrainFrom_76 (pc' := 77) rfl (fun h13 => ?_)
      refine k_callVv C (rest := []) (qX0_takeFrom l Γ hL M0 i0 ((12 + b2.toNatClampNeg)) i1 ((12 + b2.toNatClampNeg)) hi0 (j_farmer h12) hi1 (j_farmer h13)) mwX0_takeFrom iwX0_takeFrom mlX3_104 (k_rm_of (by decide) (by decide)) (c2 Γ M0 i0 (12 + b2.toNatClampNeg) (e_farmer Γ hi0 (j_farmer h12) (M0 i0 (12 + b2.toNatClampNeg)))) (v_i hi0 (h_farmer (j_farmer h12))) rfl rfl rfl (Nat.le_of_ble_eq_true rfl) dX3_copyGrainFrom_77 (pc' := 80) rfl (fun r14 M15 => ?_)
      refine k_iinc (v := 1) (q := 2) (lv' := [(0, .ref (Γ.1 i0 0)), (1, .ref (Γ.1 i1 0))]) C dX3_copyGrainFrom_80 rfl (by decide) (by decide) (pc' := 83) rfl (fun _ => rfl) (fun v16 => ?_)
      refine k_goto C (pc' := 57) dX3_copyGrainFrom_83 (by decide) ?_
      refine k_sub [1, 2, 0] rfl ?_
      exact ih M15 v16
def fX3_copyGrainFrom_b26 (i0 : Nat) (i1 : Nat) : Nat → kM2 → Int32 → Option (Int32 × kM2)
  | 0, _, _ => none
  | n + 1, M0, b2 =>
  if (M0 i0 0 5) ≤ b2 then fX3_copyGrainFrom_b57 i0 i1 kFu M0 0 else if ¬ b2 < 0 ∧ b2.toNatClampNeg < 6 then if ¬ b2 < 0 ∧ b2.toNatClampNeg < 6 then bd (fX2_takeFrom M0 i0 ((6 + b2.toNatClampNeg)) i1 ((6 + b2.toNatClampNeg))) fun r19 M20 => k_let (b2 + 1) fun v21 => fX3_copyGrainFrom_b26 i0 i1 n M20 v21 else none else none
set_option maxRecDepth 100000 in
set_option maxHeartbeats 4000000 in
theorem sX3_copyGrainFrom_b26 {l : Launch} {Γ : kG} (hL : k_Lay Γ 314) {p : Program} {e : Env} {R : Room} {s : State} {mid : MethodId} {args : Array Value} {below : List Frame} {meth : Method} {c : Code} (C : k_C Γ p R s mid args meth c cX3_copyGrainFrom 3 RX3 (k_R 1)) (hr : meth.sig.returnType = none) (i0 : Nat) (i1 : Nat) (hi0 : i0 < 7) (hi1 : i1 < 7)  (n : Nat) : ∀ (M0 : kM2) (b2 : Int32), Sm Γ (K2 Γ) p l e R s mid args below meth c 3 (jM false Γ (K2 Γ) below args s) M0 [(0, .ref (Γ.1 i0 0)), (1, .ref (Γ.1 i1 0)), (2, .int b2)] [] 26 (fX3_copyGrainFrom_b26 i0 i1 n M0 b2) := by
  induction n with
  | zero => intros; exact k_none
  | succ n ih =>
    intro M0 b2
    unfold fX3_copyGrainFrom_b26
    refine k_iload_n C 2 dX3_copyGrainFrom_26 rfl rfl (pc' := 27) rfl ?_
    refine k_aload_n C 0 dX3_copyGrainFrom_27 rfl rfl (pc' := 28) rfl ?_
    refine k_getf C 5 (c2 Γ M0 i0 0 (e_mill Γ hi0 (M0 i0 0))) (v_i hi0 (by decide)) flX3_91 (v := .int (M0 i0 0 5)) rfl dX3_copyGrainFrom_28 (pc' := 31) rfl ?_
    refine k_ic_ge C (tgt := 55) dX3_copyGrainFrom_31 (by decide) (pc' := 34) rfl (fun h4 => ?_) (fun h4 => ?_)
    · refine k_iconst C (v := 0) dX3_copyGrainFrom_55 (by decide) (pc' := 56) rfl ?_
      refine k_istore_n C (lv' := [(2, .int 0), (0, .ref (Γ.1 i0 0)), (1, .ref (Γ.1 i1 0))]) dX3_copyGrainFrom_56 rfl (by decide) rfl (pc' := 57) rfl ?_
      refine k_sub [1, 2, 0] rfl ?_
      exact sX3_copyGrainFrom_b57 hL C hr i0 i1 hi0 hi1 kFu M0 0
    · refine k_aload_n C 0 dX3_copyGrainFrom_34 rfl rfl (pc' := 35) rfl ?_
      refine k_getf C 2 (c2 Γ M0 i0 0 (e_mill Γ hi0 (M0 i0 0))) (v_i hi0 (by decide)) flX3_31 (v := .ref (Γ.1 i0 3)) rfl dX3_copyGrainFrom_35 (pc' := 38) rfl ?_
      refine k_iload_n C 2 dX3_copyGrainFrom_38 rfl rfl (pc' := 39) rfl ?_
      refine k_aald C 2 (c2 Γ M0 i0 3 (e_kinds Γ hi0 (M0 i0 3))) (v_i hi0 (by decide)) rfl (b := Γ.1 i0 (6 + b2.toNatClampNeg)) rfl dX3_copyGrainFrom_39 (pc' := 40) rfl (fun h17 => ?_)
      refine k_aload_n C 1 dX3_copyGrainFrom_40 rfl rfl (pc' := 41) rfl ?_
      refine k_getf C 2 (c2 Γ M0 i1 0 (e_mill Γ hi1 (M0 i1 0))) (v_i hi1 (by decide)) flX3_31 (v := .ref (Γ.1 i1 3)) rfl dX3_copyGrainFrom_41 (pc' := 44) rfl ?_
      refine k_iload_n C 2 dX3_copyGrainFrom_44 rfl rfl (pc' := 45) rfl ?_
      refine k_aald C 2 (c2 Γ M0 i1 3 (e_kinds Γ hi1 (M0 i1 3))) (v_i hi1 (by decide)) rfl (b := Γ.1 i1 (6 + b2.toNatClampNeg)) rfl dX3_copyGrainFrom_45 (pc' := 46) rfl (fun h18 => ?_)
      refine k_callVv C (rest := []) (qX2_takeFrom l Γ hL M0 i0 ((6 + b2.toNatClampNeg)) i1 ((6 + b2.toNatClampNeg)) hi0 (j_kind h17) hi1 (j_kind h18)) mwX2_takeFrom iwX2_takeFrom mlX3_100 (k_rm_of (by decide) (by decide)) (c2 Γ M0 i0 (6 + b2.toNatClampNeg) (e_kind Γ hi0 (j_kind h17) (M0 i0 (6 + b2.toNatClampNeg)))) (v_i hi0 (h_kind (j_kind h17))) rfl rfl rfl (Nat.le_of_ble_eq_true rfl) dX3_copyGrainFrom_46 (pc' := 49) rfl (fun r19 M20 => ?_)
      refine k_iinc (v := 1) (q := 2) (lv' := [(0, .ref (Γ.1 i0 0)), (1, .ref (Γ.1 i1 0))]) C dX3_copyGrainFrom_49 rfl (by decide) (by decide) (pc' := 52) rfl (fun _ => rfl) (fun v21 => ?_)
      refine k_goto C (pc' := 26) dX3_copyGrainFrom_52 (by decide) ?_
      refine k_sub [1, 2, 0] rfl ?_
      exact ih M20 v21
def fX3_copyGrainFrom (M0 : kM2) (i0 : Nat) (i1 : Nat) : Option (Int32 × kM2) :=
  k_let (mw M0 i0 0 5 (M0 i1 0 5)) fun M1 => k_let (mw M1 i0 0 6 (M1 i1 0 6)) fun M2 => k_let (mw M2 i0 0 7 (M2 i1 0 7)) fun M3 => fX3_copyGrainFrom_b26 i0 i1 kFu M3 0
set_option maxRecDepth 100000 in
set_option maxHeartbeats 4000000 in
theorem qX3_copyGrainFrom (l : Launch) (Γ : kG) (hL : k_Lay Γ 314) (M0 : kM2) (i0 : Nat) (i1 : Nat) (hi0 : i0 < 7) (hi1 : i1 < 7) : CT l Γ (K2 Γ) yX3_copyGrainFrom cX3_copyGrainFrom 3 none (k_R 1) [.ref (Γ.1 i0 0), .ref (Γ.1 i1 0)] M0 (fX3_copyGrainFrom M0 i0 i1) := by
  refine k_meth (own := RX3) (by decide) rfl (Nat.le_of_ble_eq_true rfl) (fun p e R s mid args below meth c C hr => ?_)
  show Sm Γ (K2 Γ) p l e R s mid args below meth c 3 (jM false Γ (K2 Γ) below args s) M0 [(0, .ref (Γ.1 i0 0)), (1, .ref (Γ.1 i1 0))] [] 0 (fX3_copyGrainFrom M0 i0 i1)
  unfold fX3_copyGrainFrom
  refine k_aload_n C 0 dX3_copyGrainFrom_0 rfl rfl (pc' := 1) rfl ?_
  refine k_aload_n C 1 dX3_copyGrainFrom_1 rfl rfl (pc' := 2) rfl ?_
  refine k_getf C 5 (c2 Γ M0 i1 0 (e_mill Γ hi1 (M0 i1 0))) (v_i hi1 (by decide)) flX3_91 (v := .int (M0 i1 0 5)) rfl dX3_copyGrainFrom_2 (pc' := 5) rfl ?_
  refine k_putf C hL.k2 5 (c2 Γ M0 i0 0 (e_mill Γ hi0 (M0 i0 0))) (v_i hi0 (by decide)) flX3_91 fpX3_5 (Nat.le_of_ble_eq_true rfl) (s2 Γ M0 i0 0 5 (M0 i1 0 5) ((e_mill Γ hi0 _).trans (congrArg (fun z => Sum.inr (3, z)) (f_mill Γ i0 (M0 i0 0) (M0 i1 0 5) 5 (by decide))))) dX3_copyGrainFrom_5 (pc' := 8) rfl (fun M1 => ?_)
  refine k_aload_n C 0 dX3_copyGrainFrom_8 rfl rfl (pc' := 9) rfl ?_
  refine k_aload_n C 1 dX3_copyGrainFrom_9 rfl rfl (pc' := 10) rfl ?_
  refine k_getf C 6 (c2 Γ M1 i1 0 (e_mill Γ hi1 (M1 i1 0))) (v_i hi1 (by decide)) flX3_94 (v := .int (M1 i1 0 6)) rfl dX3_copyGrainFrom_10 (pc' := 13) rfl ?_
  refine k_putf C hL.k2 6 (c2 Γ M1 i0 0 (e_mill Γ hi0 (M1 i0 0))) (v_i hi0 (by decide)) flX3_94 fpX3_6 (Nat.le_of_ble_eq_true rfl) (s2 Γ M1 i0 0 6 (M1 i1 0 6) ((e_mill Γ hi0 _).trans (congrArg (fun z => Sum.inr (3, z)) (f_mill Γ i0 (M1 i0 0) (M1 i1 0 6) 6 (by decide))))) dX3_copyGrainFrom_13 (pc' := 16) rfl (fun M2 => ?_)
  refine k_aload_n C 0 dX3_copyGrainFrom_16 rfl rfl (pc' := 17) rfl ?_
  refine k_aload_n C 1 dX3_copyGrainFrom_17 rfl rfl (pc' := 18) rfl ?_
  refine k_getf C 7 (c2 Γ M2 i1 0 (e_mill Γ hi1 (M2 i1 0))) (v_i hi1 (by decide)) flX3_97 (v := .int (M2 i1 0 7)) rfl dX3_copyGrainFrom_18 (pc' := 21) rfl ?_
  refine k_putf C hL.k2 7 (c2 Γ M2 i0 0 (e_mill Γ hi0 (M2 i0 0))) (v_i hi0 (by decide)) flX3_97 fpX3_7 (Nat.le_of_ble_eq_true rfl) (s2 Γ M2 i0 0 7 (M2 i1 0 7) ((e_mill Γ hi0 _).trans (congrArg (fun z => Sum.inr (3, z)) (f_mill Γ i0 (M2 i0 0) (M2 i1 0 7) 7 (by decide))))) dX3_copyGrainFrom_21 (pc' := 24) rfl (fun M3 => ?_)
  refine k_iconst C (v := 0) dX3_copyGrainFrom_24 (by decide) (pc' := 25) rfl ?_
  refine k_istore_n C (lv' := [(2, .int 0), (0, .ref (Γ.1 i0 0)), (1, .ref (Γ.1 i1 0))]) dX3_copyGrainFrom_25 rfl (by decide) rfl (pc' := 26) rfl ?_
  refine k_sub [1, 2, 0] rfl ?_
  exact sX3_copyGrainFrom_b26 hL C hr i0 i1 hi0 hi1 kFu M3 0
def fX3_copyFrom (M0 : kM2) (i0 : Nat) (i1 : Nat) : Option (Int32 × kM2) :=
  k_let (k_cp M0 i0 i1 1 13) fun M1 => k_let (k_cp M1 i0 i1 2 4) fun M2 => bd (fX3_copyGrainFrom M2 i0 i1) fun r3 M4 => k_let (mw M4 i0 0 8 (M4 i1 0 8)) fun M5 => k_let (mw M5 i0 0 9 (M5 i1 0 9)) fun M6 => k_let (mw M6 i0 0 10 (M6 i1 0 10)) fun M7 => k_let (mw M7 i0 0 11 (M7 i1 0 11)) fun M8 => k_let (mw M8 i0 0 12 (M8 i1 0 12)) fun M9 => k_let (mw M9 i0 0 13 (M9 i1 0 13)) fun M10 => k_let (mw M10 i0 0 14 (M10 i1 0 14)) fun M11 => k_let (mw M11 i0 0 15 (M11 i1 0 15)) fun M12 => k_let (mw M12 i0 0 16 (M12 i1 0 16)) fun M13 => k_let (mw M13 i0 0 17 (M13 i1 0 17)) fun M14 => some (0, M14)
set_option maxRecDepth 100000 in
set_option maxHeartbeats 4000000 in
theorem qX3_copyFrom (l : Launch) (Γ : kG) (hL : k_Lay Γ 314) (M0 : kM2) (i0 : Nat) (i1 : Nat) (hi0 : i0 < 7) (hi1 : i1 < 7) : CT l Γ (K2 Γ) yX3_copyFrom cX3_copyFrom 2 none (k_R 2) [.ref (Γ.1 i0 0), .ref (Γ.1 i1 0)] M0 (fX3_copyFrom M0 i0 i1) := by
  refine k_meth (own := RX3) (by decide) rfl (Nat.le_of_ble_eq_true rfl) (fun p e R s mid args below meth c C hr => ?_)
  show Sm Γ (K2 Γ) p l e R s mid args below meth c 2 (jM false Γ (K2 Γ) below args s) M0 [(0, .ref (Γ.1 i0 0)), (1, .ref (Γ.1 i1 0))] [] 0 (fX3_copyFrom M0 i0 i1)
  unfold fX3_copyFrom
  refine k_aload_n C 1 dX3_copyFrom_0 rfl rfl (pc' := 1) rfl ?_
  refine k_getf C 0 (c2 Γ M0 i1 0 (e_mill Γ hi1 (M0 i1 0))) (v_i hi1 (by decide)) flX3_18 (v := .ref (Γ.1 i1 1)) rfl dX3_copyFrom_1 (pc' := 4) rfl ?_
  refine k_iconst C (v := 0) dX3_copyFrom_4 (by decide) (pc' := 5) rfl ?_
  refine k_aload_n C 0 dX3_copyFrom_5 rfl rfl (pc' := 6) rfl ?_
  refine k_getf C 0 (c2 Γ M0 i0 0 (e_mill Γ hi0 (M0 i0 0))) (v_i hi0 (by decide)) flX3_18 (v := .ref (Γ.1 i0 1)) rfl dX3_copyFrom_6 (pc' := 9) rfl ?_
  refine k_iconst C (v := 0) dX3_copyFrom_9 (by decide) (pc' := 10) rfl ?_
  refine k_bipush C (v := 13) dX3_copyFrom_10 (by decide) (pc' := 12) rfl ?_
  refine k_copy2 C hL dX3_copyFrom_12 hi1 hi0 (by decide) (fun r => e_sets Γ hi1 r) (fun r => e_sets Γ hi0 r) ⟨Nat.le_of_ble_eq_true rfl, Nat.le_of_ble_eq_true rfl⟩ (pc' := 15) rfl (fun M1 => ?_)
  refine k_aload_n C 1 dX3_copyFrom_15 rfl rfl (pc' := 16) rfl ?_
  refine k_getf C 1 (c2 Γ M1 i1 0 (e_mill Γ hi1 (M1 i1 0))) (v_i hi1 (by decide)) flX3_26 (v := .ref (Γ.1 i1 2)) rfl dX3_copyFrom_16 (pc' := 19) rfl ?_
  refine k_iconst C (v := 0) dX3_copyFrom_19 (by decide) (pc' := 20) rfl ?_
  refine k_aload_n C 0 dX3_copyFrom_20 rfl rfl (pc' := 21) rfl ?_
  refine k_getf C 1 (c2 Γ M1 i0 0 (e_mill Γ hi0 (M1 i0 0))) (v_i hi0 (by decide)) flX3_26 (v := .ref (Γ.1 i0 2)) rfl dX3_copyFrom_21 (pc' := 24) rfl ?_
  refine k_iconst C (v := 0) dX3_copyFrom_24 (by decide) (pc' := 25) rfl ?_
  refine k_iconst C (v := 4) dX3_copyFrom_25 (by decide) (pc' := 26) rfl ?_
  refine k_copy2 C hL dX3_copyFrom_26 hi1 hi0 (by decide) (fun r => e_leaks Γ hi1 r) (fun r => e_leaks Γ hi0 r) ⟨Nat.le_of_ble_eq_true rfl, Nat.le_of_ble_eq_true rfl⟩ (pc' := 29) rfl (fun M2 => ?_)
  refine k_aload_n C 0 dX3_copyFrom_29 rfl rfl (pc' := 30) rfl ?_
  refine k_aload_n C 1 dX3_copyFrom_30 rfl rfl (pc' := 31) rfl ?_
  refine k_callVv C (rest := []) (qX3_copyGrainFrom l Γ hL M2 i0 i1 hi0 hi1) mwX3_copyGrainFrom iwX3_copyGrainFrom mlX3_63 (k_rm_of (by decide) (by decide)) (c2 Γ M2 i0 0 (e_mill Γ hi0 (M2 i0 0))) (v_i hi0 (by decide)) rfl rfl rfl (Nat.le_of_ble_eq_true rfl) dX3_copyFrom_31 (pc' := 34) rfl (fun r3 M4 => ?_)
  refine k_aload_n C 0 dX3_copyFrom_34 rfl rfl (pc' := 35) rfl ?_
  refine k_aload_n C 1 dX3_copyFrom_35 rfl rfl (pc' := 36) rfl ?_
  refine k_getf C 8 (c2 Γ M4 i1 0 (e_mill Γ hi1 (M4 i1 0))) (v_i hi1 (by decide)) flX3_67 (v := .int (M4 i1 0 8)) rfl dX3_copyFrom_36 (pc' := 39) rfl ?_
  refine k_putf C hL.k2 8 (c2 Γ M4 i0 0 (e_mill Γ hi0 (M4 i0 0))) (v_i hi0 (by decide)) flX3_67 fpX3_8 (Nat.le_of_ble_eq_true rfl) (s2 Γ M4 i0 0 8 (M4 i1 0 8) ((e_mill Γ hi0 _).trans (congrArg (fun z => Sum.inr (3, z)) (f_mill Γ i0 (M4 i0 0) (M4 i1 0 8) 8 (by decide))))) dX3_copyFrom_39 (pc' := 42) rfl (fun M5 => ?_)
  refine k_aload_n C 0 dX3_copyFrom_42 rfl rfl (pc' := 43) rfl ?_
  refine k_aload_n C 1 dX3_copyFrom_43 rfl rfl (pc' := 44) rfl ?_
  refine k_getf C 9 (c2 Γ M5 i1 0 (e_mill Γ hi1 (M5 i1 0))) (v_i hi1 (by decide)) flX3_70 (v := .int (M5 i1 0 9)) rfl dX3_copyFrom_44 (pc' := 47) rfl ?_
  refine k_putf C hL.k2 9 (c2 Γ M5 i0 0 (e_mill Γ hi0 (M5 i0 0))) (v_i hi0 (by decide)) flX3_70 fpX3_9 (Nat.le_of_ble_eq_true rfl) (s2 Γ M5 i0 0 9 (M5 i1 0 9) ((e_mill Γ hi0 _).trans (congrArg (fun z => Sum.inr (3, z)) (f_mill Γ i0 (M5 i0 0) (M5 i1 0 9) 9 (by decide))))) dX3_copyFrom_47 (pc' := 50) rfl (fun M6 => ?_)
  refine k_aload_n C 0 dX3_copyFrom_50 rfl rfl (pc' := 51) rfl ?_
  refine k_aload_n C 1 dX3_copyFrom_51 rfl rfl (pc' := 52) rfl ?_
  refine k_getf C 10 (c2 Γ M6 i1 0 (e_mill Γ hi1 (M6 i1 0))) (v_i hi1 (by decide)) flX3_73 (v := .int (M6 i1 0 10)) rfl dX3_copyFrom_52 (pc' := 55) rfl ?_
  refine k_putf C hL.k2 10 (c2 Γ M6 i0 0 (e_mill Γ hi0 (M6 i0 0))) (v_i hi0 (by decide)) flX3_73 fpX3_10 (Nat.le_of_ble_eq_true rfl) (s2 Γ M6 i0 0 10 (M6 i1 0 10) ((e_mill Γ hi0 _).trans (congrArg (fun z => Sum.inr (3, z)) (f_mill Γ i0 (M6 i0 0) (M6 i1 0 10) 10 (by decide))))) dX3_copyFrom_55 (pc' := 58) rfl (fun M7 => ?_)
  refine k_aload_n C 0 dX3_copyFrom_58 rfl rfl (pc' := 59) rfl ?_
  refine k_aload_n C 1 dX3_copyFrom_59 rfl rfl (pc' := 60) rfl ?_
  refine k_getf C 11 (c2 Γ M7 i1 0 (e_mill Γ hi1 (M7 i1 0))) (v_i hi1 (by decide)) flX3_76 (v := .int (M7 i1 0 11)) rfl dX3_copyFrom_60 (pc' := 63) rfl ?_
  refine k_putf C hL.k2 11 (c2 Γ M7 i0 0 (e_mill Γ hi0 (M7 i0 0))) (v_i hi0 (by decide)) flX3_76 fpX3_11 (Nat.le_of_ble_eq_true rfl) (s2 Γ M7 i0 0 11 (M7 i1 0 11) ((e_mill Γ hi0 _).trans (congrArg (fun z => Sum.inr (3, z)) (f_mill Γ i0 (M7 i0 0) (M7 i1 0 11) 11 (by decide))))) dX3_copyFrom_63 (pc' := 66) rfl (fun M8 => ?_)
  refine k_aload_n C 0 dX3_copyFrom_66 rfl rfl (pc' := 67) rfl ?_
  refine k_aload_n C 1 dX3_copyFrom_67 rfl rfl (pc' := 68) rfl ?_
  refine k_getf C 12 (c2 Γ M8 i1 0 (e_mill Γ hi1 (M8 i1 0))) (v_i hi1 (by decide)) flX3_47 (v := .int (M8 i1 0 12)) rfl dX3_copyFrom_68 (pc' := 71) rfl ?_
  refine k_putf C hL.k2 12 (c2 Γ M8 i0 0 (e_mill Γ hi0 (M8 i0 0))) (v_i hi0 (by decide)) flX3_47 fpX3_12 (Nat.le_of_ble_eq_true rfl) (s2 Γ M8 i0 0 12 (M8 i1 0 12) ((e_mill Γ hi0 _).trans (congrArg (fun z => Sum.inr (3, z)) (f_mill Γ i0 (M8 i0 0) (M8 i1 0 12) 12 (by decide))))) dX3_copyFrom_71 (pc' := 74) rfl (fun M9 => ?_)
  refine k_aload_n C 0 dX3_copyFrom_74 rfl rfl (pc' := 75) rfl ?_
  refine k_aload_n C 1 dX3_copyFrom_75 rfl rfl (pc' := 76) rfl ?_
  refine k_getf C 13 (c2 Γ M9 i1 0 (e_mill Γ hi1 (M9 i1 0))) (v_i hi1 (by decide)) flX3_51 (v := .int (M9 i1 0 13)) rfl dX3_copyFrom_76 (pc' := 79) rfl ?_
  refine k_putf C hL.k2 13 (c2 Γ M9 i0 0 (e_mill Γ hi0 (M9 i0 0))) (v_i hi0 (by decide)) flX3_51 fpX3_13 (Nat.le_of_ble_eq_true rfl) (s2 Γ M9 i0 0 13 (M9 i1 0 13) ((e_mill Γ hi0 _).trans (congrArg (fun z => Sum.inr (3, z)) (f_mill Γ i0 (M9 i0 0) (M9 i1 0 13) 13 (by decide))))) dX3_copyFrom_79 (pc' := 82) rfl (fun M10 => ?_)
  refine k_aload_n C 0 dX3_copyFrom_82 rfl rfl (pc' := 83) rfl ?_
  refine k_aload_n C 1 dX3_copyFrom_83 rfl rfl (pc' := 84) rfl ?_
  refine k_getf C 14 (c2 Γ M10 i1 0 (e_mill Γ hi1 (M10 i1 0))) (v_i hi1 (by decide)) flX3_79 (v := .int (M10 i1 0 14)) rfl dX3_copyFrom_84 (pc' := 87) rfl ?_
  refine k_putf C hL.k2 14 (c2 Γ M10 i0 0 (e_mill Γ hi0 (M10 i0 0))) (v_i hi0 (by decide)) flX3_79 fpX3_14 (Nat.le_of_ble_eq_true rfl) (s2 Γ M10 i0 0 14 (M10 i1 0 14) ((e_mill Γ hi0 _).trans (congrArg (fun z => Sum.inr (3, z)) (f_mill Γ i0 (M10 i0 0) (M10 i1 0 14) 14 (by decide))))) dX3_copyFrom_87 (pc' := 90) rfl (fun M11 => ?_)
  refine k_aload_n C 0 dX3_copyFrom_90 rfl rfl (pc' := 91) rfl ?_
  refine k_aload_n C 1 dX3_copyFrom_91 rfl rfl (pc' := 92) rfl ?_
  refine k_getf C 15 (c2 Γ M11 i1 0 (e_mill Γ hi1 (M11 i1 0))) (v_i hi1 (by decide)) flX3_82 (v := .int (M11 i1 0 15)) rfl dX3_copyFrom_92 (pc' := 95) rfl ?_
  refine k_putf C hL.k2 15 (c2 Γ M11 i0 0 (e_mill Γ hi0 (M11 i0 0))) (v_i hi0 (by decide)) flX3_82 fpX3_15 (Nat.le_of_ble_eq_true rfl) (s2 Γ M11 i0 0 15 (M11 i1 0 15) ((e_mill Γ hi0 _).trans (congrArg (fun z => Sum.inr (3, z)) (f_mill Γ i0 (M11 i0 0) (M11 i1 0 15) 15 (by decide))))) dX3_copyFrom_95 (pc' := 98) rfl (fun M12 => ?_)
  refine k_aload_n C 0 dX3_copyFrom_98 rfl rfl (pc' := 99) rfl ?_
  refine k_aload_n C 1 dX3_copyFrom_99 rfl rfl (pc' := 100) rfl ?_
  refine k_getf C 16 (c2 Γ M12 i1 0 (e_mill Γ hi1 (M12 i1 0))) (v_i hi1 (by decide)) flX3_85 (v := .int (M12 i1 0 16)) rfl dX3_copyFrom_100 (pc' := 103) rfl ?_
  refine k_putf C hL.k2 16 (c2 Γ M12 i0 0 (e_mill Γ hi0 (M12 i0 0))) (v_i hi0 (by decide)) flX3_85 fpX3_16 (Nat.le_of_ble_eq_true rfl) (s2 Γ M12 i0 0 16 (M12 i1 0 16) ((e_mill Γ hi0 _).trans (congrArg (fun z => Sum.inr (3, z)) (f_mill Γ i0 (M12 i0 0) (M12 i1 0 16) 16 (by decide))))) dX3_copyFrom_103 (pc' := 106) rfl (fun M13 => ?_)
  refine k_aload_n C 0 dX3_copyFrom_106 rfl rfl (pc' := 107) rfl ?_
  refine k_aload_n C 1 dX3_copyFrom_107 rfl rfl (pc' := 108) rfl ?_
  refine k_getf C 17 (c2 Γ M13 i1 0 (e_mill Γ hi1 (M13 i1 0))) (v_i hi1 (by decide)) flX3_88 (v := .int (M13 i1 0 17)) rfl dX3_copyFrom_108 (pc' := 111) rfl ?_
  refine k_putf C hL.k2 17 (c2 Γ M13 i0 0 (e_mill Γ hi0 (M13 i0 0))) (v_i hi0 (by decide)) flX3_88 fpX3_17 (Nat.le_of_ble_eq_true rfl) (s2 Γ M13 i0 0 17 (M13 i1 0 17) ((e_mill Γ hi0 _).trans (congrArg (fun z => Sum.inr (3, z)) (f_mill Γ i0 (M13 i0 0) (M13 i1 0 17) 17 (by decide))))) dX3_copyFrom_111 (pc' := 114) rfl (fun M14 => ?_)
  exact k_retv C rfl hr dX3_copyFrom_114
def fX3_hasKind (m0 : kM1) (a1 : Int32) : Option (Int32 × kM1) :=
  if a1 < 0 then some (0, m0) else if (m0 0 5) ≤ a1 then some (0, m0) else some (1, m0)
set_option maxRecDepth 100000 in
set_option maxHeartbeats 4000000 in
theorem qX3_hasKind (l : Launch) (Γ : kG) (hL : k_Lay Γ 314) (M : kM2) (i : Nat) (hi : i < 7) (m0 : kM1) (a1 : Int32) : CT l Γ (K1 Γ M i) yX3_hasKind cX3_hasKind 2 (some .boolean) (k_R 0) [.ref (Γ.1 i 0), .int a1] m0 (fX3_hasKind m0 a1) := by
  refine k_meth (own := RX3) (by decide) rfl (Nat.le_of_ble_eq_true rfl) (fun p e R s mid args below meth c C hr => ?_)
  show Sm Γ (K1 Γ M i) p l e R s mid args below meth c 2 (jM true Γ (K1 Γ M i) below args s) m0 [(0, .ref (Γ.1 i 0)), (1, .int a1)] [] 0 (fX3_hasKind m0 a1)
  unfold fX3_hasKind
  refine k_iload_n C 1 dX3_hasKind_0 rfl rfl (pc' := 1) rfl ?_
  refine k_if_lt C (tgt := 16) dX3_hasKind_1 (by decide) (pc' := 4) rfl (fun h1 => ?_) (fun h1 => ?_)
  · refine k_iconst C (v := 0) dX3_hasKind_16 (by decide) (pc' := 17) rfl ?_
    exact k_retz C rfl hr (Or.inl rfl) dX3_hasKind_17
  · refine k_iload_n C 1 dX3_hasKind_4 rfl rfl (pc' := 5) rfl ?_
    refine k_aload_n C 0 dX3_hasKind_5 rfl rfl (pc' := 6) rfl ?_
    refine k_getf C 5 (c1 Γ M i m0 0 (e_mill Γ hi (m0 0))) (v_i hi (by decide)) flX3_91 (v := .int (m0 0 5)) rfl dX3_hasKind_6 (pc' := 9) rfl ?_
    refine k_ic_ge C (tgt := 16) dX3_hasKind_9 (by decide) (pc' := 12) rfl (fun h2 => ?_) (fun h2 => ?_)
    · refine k_iconst C (v := 0) dX3_hasKind_16 (by decide) (pc' := 17) rfl ?_
      exact k_retz C rfl hr (Or.inl rfl) dX3_hasKind_17
    · refine k_iconst C (v := 1) dX3_hasKind_12 (by decide) (pc' := 13) rfl ?_
      refine k_goto C (pc' := 17) dX3_hasKind_13 (by decide) ?_
      exact k_retz C rfl hr (Or.inr rfl) dX3_hasKind_17
def fX3_hasFarmer (m0 : kM1) (a1 : Int32) : Option (Int32 × kM1) :=
  if a1 < 0 then some (0, m0) else if (m0 0 6) ≤ a1 then some (0, m0) else some (1, m0)
set_option maxRecDepth 100000 in
set_option maxHeartbeats 4000000 in
theorem qX3_hasFarmer (l : Launch) (Γ : kG) (hL : k_Lay Γ 314) (M : kM2) (i : Nat) (hi : i < 7) (m0 : kM1) (a1 : Int32) : CT l Γ (K1 Γ M i) yX3_hasFarmer cX3_hasFarmer 2 (some .boolean) (k_R 0) [.ref (Γ.1 i 0), .int a1] m0 (fX3_hasFarmer m0 a1) := by
  refine k_meth (own := RX3) (by decide) rfl (Nat.le_of_ble_eq_true rfl) (fun p e R s mid args below meth c C hr => ?_)
  show Sm Γ (K1 Γ M i) p l e R s mid args below meth c 2 (jM true Γ (K1 Γ M i) below args s) m0 [(0, .ref (Γ.1 i 0)), (1, .int a1)] [] 0 (fX3_hasFarmer m0 a1)
  unfold fX3_hasFarmer
  refine k_iload_n C 1 dX3_hasFarmer_0 rfl rfl (pc' := 1) rfl ?_
  refine k_if_lt C (tgt := 16) dX3_hasFarmer_1 (by decide) (pc' := 4) rfl (fun h1 => ?_) (fun h1 => ?_)
  · refine k_iconst C (v := 0) dX3_hasFarmer_16 (by decide) (pc' := 17) rfl ?_
    exact k_retz C rfl hr (Or.inl rfl) dX3_hasFarmer_17
  · refine k_iload_n C 1 dX3_hasFarmer_4 rfl rfl (pc' := 5) rfl ?_
    refine k_aload_n C 0 dX3_hasFarmer_5 rfl rfl (pc' := 6) rfl ?_
    refine k_getf C 6 (c1 Γ M i m0 0 (e_mill Γ hi (m0 0))) (v_i hi (by decide)) flX3_94 (v := .int (m0 0 6)) rfl dX3_hasFarmer_6 (pc' := 9) rfl ?_
    refine k_ic_ge C (tgt := 16) dX3_hasFarmer_9 (by decide) (pc' := 12) rfl (fun h2 => ?_) (fun h2 => ?_)
    · refine k_iconst C (v := 0) dX3_hasFarmer_16 (by decide) (pc' := 17) rfl ?_
      exact k_retz C rfl hr (Or.inl rfl) dX3_hasFarmer_17
    · refine k_iconst C (v := 1) dX3_hasFarmer_12 (by decide) (pc' := 13) rfl ?_
      refine k_goto C (pc' := 17) dX3_hasFarmer_13 (by decide) ?_
      exact k_retz C rfl hr (Or.inr rfl) dX3_hasFarmer_17
def fX3_hasSack (m0 : kM1) (a1 : Int32) : Option (Int32 × kM1) :=
  if a1 < 0 then some (0, m0) else if (m0 0 7) ≤ a1 then some (0, m0) else some (1, m0)
set_option maxRecDepth 100000 in
set_option maxHeartbeats 4000000 in
theorem qX3_hasSack (l : Launch) (Γ : kG) (hL : k_Lay Γ 314) (M : kM2) (i : Nat) (hi : i < 7) (m0 : kM1) (a1 : Int32) : CT l Γ (K1 Γ M i) yX3_hasSack cX3_hasSack 2 (some .boolean) (k_R 0) [.ref (Γ.1 i 0), .int a1] m0 (fX3_hasSack m0 a1) := by
  refine k_meth (own := RX3) (by decide) rfl (Nat.le_of_ble_eq_true rfl) (fun p e R s mid args below meth c C hr => ?_)
  show Sm Γ (K1 Γ M i) p l e R s mid args below meth c 2 (jM true Γ (K1 Γ M i) below args s) m0 [(0, .ref (Γ.1 i 0)), (1, .int a1)] [] 0 (fX3_hasSack m0 a1)
  unfold fX3_hasSack
  refine k_iload_n C 1 dX3_hasSack_0 rfl rfl (pc' := 1) rfl ?_
  refine k_if_lt C (tgt := 16) dX3_hasSack_1 (by decide) (pc' := 4) rfl (fun h1 => ?_) (fun h1 => ?_)
  · refine k_iconst C (v := 0) dX3_hasSack_16 (by decide) (pc' := 17) rfl ?_
    exact k_retz C rfl hr (Or.inl rfl) dX3_hasSack_17
  · refine k_iload_n C 1 dX3_hasSack_4 rfl rfl (pc' := 5) rfl ?_
    refine k_aload_n C 0 dX3_hasSack_5 rfl rfl (pc' := 6) rfl ?_
    refine k_getf C 7 (c1 Γ M i m0 0 (e_mill Γ hi (m0 0))) (v_i hi (by decide)) flX3_97 (v := .int (m0 0 7)) rfl dX3_hasSack_6 (pc' := 9) rfl ?_
    refine k_ic_ge C (tgt := 16) dX3_hasSack_9 (by decide) (pc' := 12) rfl (fun h2 => ?_) (fun h2 => ?_)
    · refine k_iconst C (v := 0) dX3_hasSack_16 (by decide) (pc' := 17) rfl ?_
      exact k_retz C rfl hr (Or.inl rfl) dX3_hasSack_17
    · refine k_iconst C (v := 1) dX3_hasSack_12 (by decide) (pc' := 13) rfl ?_
      refine k_goto C (pc' := 17) dX3_hasSack_13 (by decide) ?_
      exact k_retz C rfl hr (Or.inr rfl) dX3_hasSack_17
def fX3_changeSetting (m0 : kM1) (a1 : Int32) (a2 : Int32) : Option (Int32 × kM1) :=
  bd (fX6_within m0 a1 0 12) fun r1 m2 => if r1 = 0 then some ((-1000001), m2) else if ¬ a1 < 0 ∧ a1.toNatClampNeg < 13 then if ¬ a1 < 0 ∧ a1.toNatClampNeg < 13 then bd (fX6_within m2 a2 (k_least a1.toNatClampNeg) (k_great a1.toNatClampNeg)) fun r10 m11 => if r10 = 0 then some ((-1000001), m11) else if ¬ a1 < 0 ∧ a1.toNatClampNeg < 13 then k_let (m11 1 a1.toNatClampNeg) fun v14 => if ¬ a1 < 0 ∧ a1.toNatClampNeg < 13 then k_let (mu m11 1 a1.toNatClampNeg a2) fun m16 => some (v14, m16) else none else none else none else none
set_option maxRecDepth 100000 in
set_option maxHeartbeats 4000000 in
theorem qX3_changeSetting (l : Launch) (Γ : kG) (hL : k_Lay Γ 314) (M : kM2) (i : Nat) (hi : i < 7) (m0 : kM1) (a1 : Int32) (a2 : Int32) : CT l Γ (K1 Γ M i) yX3_changeSetting cX3_changeSetting 4 (some .int) (k_R 1) [.ref (Γ.1 i 0), .int a1, .int a2] m0 (fX3_changeSetting m0 a1 a2) := by
  refine k_meth (own := RX3) (by decide) rfl (Nat.le_of_ble_eq_true rfl) (fun p e R s mid args below meth c C hr => ?_)
  show Sm Γ (K1 Γ M i) p l e R s mid args below meth c 4 (jM true Γ (K1 Γ M i) below args s) m0 [(0, .ref (Γ.1 i 0)), (1, .int a1), (2, .int a2)] [] 0 (fX3_changeSetting m0 a1 a2)
  unfold fX3_changeSetting
  refine k_iload_n C 1 dX3_changeSetting_0 rfl rfl (pc' := 1) rfl ?_
  refine k_iconst C (v := 0) dX3_changeSetting_1 (by decide) (pc' := 2) rfl ?_
  refine k_bipush C (v := 12) dX3_changeSetting_2 (by decide) (pc' := 4) rfl ?_
  refine k_callSNi C (rest := []) (qX6_within l Γ (K1 Γ M i) m0 a1 0 12) mwX6_within swX6_within (fun h => h.1) (k_rm_of (by decide) (by decide)) rfl rfl (Nat.le_of_ble_eq_true rfl) dX3_changeSetting_4 (pc' := 7) rfl (fun r1 m2 => ?_)
  refine k_if_eq C (tgt := 27) dX3_changeSetting_7 (by decide) (pc' := 10) rfl (fun h3 => ?_) (fun h3 => ?_)
  · refine k_ldc C (v := (-1000001)) dX3_changeSetting_27 cnX3_120 (pc' := 29) rfl ?_
    exact k_reti C rfl hr dX3_changeSetting_29
  · refine k_iload_n C 2 dX3_changeSetting_10 rfl rfl (pc' := 11) rfl ?_
    refine k_getsL C (fun h => h.2.2.1) dX3_changeSetting_11 (pc' := 14) rfl (fun t4 ht5 => ?_)
    refine k_iload_n C 1 dX3_changeSetting_14 rfl rfl (pc' := 15) rfl ?_
    refine k_tald C ht5 dX3_changeSetting_15 (pc' := 16) rfl (fun h6 => ?_)
    refine k_getsG C (fun h => h.2.2.2) dX3_changeSetting_16 (pc' := 19) rfl (fun t7 ht8 => ?_)
    refine k_iload_n C 1 dX3_changeSetting_19 rfl rfl (pc' := 20) rfl ?_
    refine k_tald C ht8 dX3_changeSetting_20 (pc' := 21) rfl (fun h9 => ?_)
    refine k_callSNi C (rest := []) (qX6_within l Γ (K1 Γ M i) m2 a2 (k_least a1.toNatClampNeg) (k_great a1.toNatClampNeg)) mwX6_within swX6_within (fun h => h.1) (k_rm_of (by decide) (by decide)) rfl rfl (Nat.le_of_ble_eq_true rfl) dX3_changeSetting_21 (pc' := 24) rfl (fun r10 m11 => ?_)
    refine k_if_ne C (tgt := 30) dX3_changeSetting_24 (by decide) (pc' := 27) rfl (fun h12 => ?_) (fun h12 => ?_)
    · refine k_aload_n C 0 dX3_changeSetting_30 rfl rfl (pc' := 31) rfl ?_
      refine k_getf C 0 (c1 Γ M i m11 0 (e_mill Γ hi (m11 0))) (v_i hi (by decide)) flX3_18 (v := .ref (Γ.1 i 1)) rfl dX3_changeSetting_31 (pc' := 34) rfl ?_
      refine k_iload_n C 1 dX3_changeSetting_34 rfl rfl (pc' := 35) rfl ?_
      refine k_iald C (c1 Γ M i m11 1 (e_sets Γ hi (m11 1))) (v_i hi (by decide)) dX3_changeSetting_35 (pc' := 36) rfl (fun h13 => ?_)
      refine k_topi (fun v14 => ?_)
      refine k_istore_n C (lv' := [(3, .int v14), (0, .ref (Γ.1 i 0)), (1, .int a1), (2, .int a2)]) dX3_changeSetting_36 rfl (by decide) rfl (pc' := 37) rfl ?_
      refine k_aload_n C 1 dX3_changeSetting_37 rfl rfl (pc' := 38) rfl ?_
      refine k_getf C 0 (c1 Γ M i m11 0 (e_mill Γ hi (m11 0))) (v_i hi (by decide)) flX3_18 (v := .ref (Γ.1 i 1)) rfl dX3_changeSetting_38 (pc' := 41) rfl ?_
      refine k_iload_n C 2 dX3_changeSetting_41 rfl rfl (pc' := 42) rfl ?_
      refine k_iload_n C 3 dX3_changeSetting_42 rfl rfl (pc' := 43) rfl ?_
      refine k_iast C (hL.k1 M i) (c1 Γ M i m11 1 (e_sets Γ hi (m11 1))) (v_i hi (by decide)) (s1 Γ M i m11 1 a1.toNatClampNeg a2 (e_sets Γ hi _)) dX3_changeSetting_43 (pc' := 44) rfl (fun h15 m16 => ?_)
      refine k_iload_n C 0 dX3_changeSetting_44 rfl rfl (pc' := 45) rfl ?_
      exact k_reti C rfl hr dX3_changeSetting_45
    · refine k_ldc C (v := (-1000001)) dX3_changeSetting_27 cnX3_120 (pc' := 29) rfl ?_
      exact k_reti C rfl hr dX3_changeSetting_29
