/-! the other constructors -/
def x_rO : Room := { frames := 1, cells := 2, slots := 63, locals := 12 }
def wO (aI : Nat → ClassId) (h0 q1 q2 : Nat) : va_W := [(h0, .inr (4, [.ref q1, .ref q2, .int 0, .int 0, .int 0, .int 0, .int 0])), (q1, .inl (aI 1, 60, .inl (fun _ => 0))), (q2, .inl (aI 0, 3, .inl (fun _ => 0)))]
def pOrd (aI : Nat → ClassId) (h0 : Nat) : va_W → Prop := fun w1 => ∃ q1 q2 : Nat, w1 = wO aI h0 q1 q2
abbrev eOrd : va_E := .inr (4, [.null, .null, .int 0, .int 0, .int 0, .int 0, .int 0])

theorem xacI : Cond.arrayClass .int ∈ lw_g := lw_gm (i := 79) (by decide +kernel) rfl
theorem xacC : Cond.arrayClass .char ∈ lw_g := lw_gm (i := 268) (by decide +kernel) rfl
set_option maxRecDepth 100000 in
set_option maxHeartbeats 4000000 in
theorem cxX4 (l : Launch) (D : va_G) (aI : Nat → ClassId) (h0 : Nat) : CX l D aI yX4_init cX4_init 1 x_rO h0 eOrd (pOrd aI h0) := by
  refine x_meth (by decide) rfl (by decide) (fun p e s m below meth c A hA C hr => ?_)
  have C : x_C D aI A p s m _ meth c cX4_init 1 RX4 := C
  refine x_aload C 0 dX4_init_0 rfl rfl rfl ?_
  refine x_obj C xoX4 xoI xoC dX4_init_1 ⟨by decide, by decide⟩ rfl ?_
  refine x_aload C 0 dX4_init_4 rfl rfl rfl ?_
  refine x_bipush C dX4_init_5 (v := 60) (by decide) rfl ?_
  refine x_newc C (N := 60) xacC ⟨by decide, by decide, by decide⟩ ⟨by decide, by decide⟩ dX4_init_7 rfl (fun q1 => ?_)
  refine x_putF C (ci := 4) (q0 := 0) (fs := [.null, .null, .int 0, .int 0, .int 0, .int 0, .int 0]) (ws' := [(h0, .inr (4, [.ref q1, .null, .int 0, .int 0, .int 0, .int 0, .int 0])), (q1, .inl (aI 1, 60, .inl (fun _ => 0)))]) (fty := .array .char) 0 tyX4 rfl hinX4 tyX4_ok nmX4 rfl (by decide) (lw_gm (i := 250) (by decide +kernel) rfl) rfl rfl (by decide +kernel) rfl rfl (Nat.le_of_ble_eq_true rfl) dX4_init_9 rfl rfl ?_
  refine x_aload C 0 dX4_init_12 rfl rfl rfl ?_
  refine x_iconst C dX4_init_13 (v := 3) (by decide) rfl ?_
  refine x_newi C (N := 3) xacI ⟨by decide, by decide, by decide⟩ ⟨by decide, by decide⟩ dX4_init_14 rfl (fun q2 => ?_)
  refine x_putF C (ci := 4) (q0 := 0) (fs := [.ref q1, .null, .int 0, .int 0, .int 0, .int 0, .int 0]) (ws' := wO aI h0 q1 q2) (fty := .array .int) 1 tyX4 rfl hinX4 tyX4_ok nmX4 rfl (by decide) (lw_gm (i := 251) (by decide +kernel) rfl) rfl rfl (by decide +kernel) rfl rfl (Nat.le_of_ble_eq_true rfl) dX4_init_16 rfl rfl ?_
  exact x_ret C hr dX4_init_19 ⟨q1, q2, rfl⟩

def mls (aI : Nat → ClassId) (adM : Nat → Nat → Nat) : Nat → va_W
  | 0 => []
  | k + 1 => mls aI adM k ++ wP aI (adM k) 44 6 8 24
theorem mls_len (aI : Nat → ClassId) (adM : Nat → Nat → Nat) (k : Nat) : (mls aI adM k).length = 44 * k := by
  induction k with
  | zero => rfl
  | succ k ih =>
    unfold mls
    rw [List.length_append, ih]
    unfold wP
    simp
    omega
theorem mls_cg (aI : Nat → ClassId) {adM adM' : Nat → Nat → Nat} {k : Nat} (h : ∀ i, i < k → adM' i = adM i) : mls aI adM' k = mls aI adM k := by
  induction k with
  | zero => rfl
  | succ k ih =>
    unfold mls
    rw [ih (fun i hi => h i (by omega)), h k (by omega)]
theorem mls_push (aI : Nat → ClassId) (adM : Nat → Nat → Nat) (k : Nat) (ad : Nat → Nat) : ∃ adM', mls aI adM k ++ wP aI ad 44 6 8 24 = mls aI adM' (k + 1) ∧ (∀ i, i < k → adM' i = adM i) ∧ adM' k = ad := by
  refine ⟨fun i => if i = k then ad else adM i, ?_, fun i hi => if_neg (by omega), if_pos rfl⟩
  show _ = mls aI (fun i => if i = k then ad else adM i) k ++ wP aI (if k = k then ad else adM k) 44 6 8 24
  rw [mls_cg aI (adM := adM) (adM' := fun i => if i = k then ad else adM i) (fun i hi => if_neg (by omega)), if_pos rfl]
theorem mls_at (aI : Nat → ClassId) (adM : Nat → Nat → Nat) : ∀ {k i j : Nat}, i < k → j < 44 → (mls aI adM k)[44 * i + j]? = some (adM i j, ceP aI (adM i) 6 8 24 j) := by
  intro k
  induction k with
  | zero => intro i j h1 h2; omega
  | succ k ih =>
    intro i j h1 h2
    unfold mls
    by_cases h : i < k
    · rw [List.getElem?_append_left (by rw [mls_len]; omega)]
      exact ih h h2
    · have hi : i = k := by omega
      subst hi
      rw [List.getElem?_append_right (by rw [mls_len]; omega), mls_len, show 44 * i + j - 44 * i = j by omega]
      exact wP_at h2
def wHg (aI : Nat → ClassId) (h0 q : Nat) (adM : Nat → Nat → Nat) (c k : Nat) : va_W := (h0, .inr (1, [.ref q, .int 0, .int 0])) :: (q, .inl (aI 5, 5, .inr (.inr (.inr (.inr (fun i => if i < c then some (adM i 0) else none)))))) :: mls aI adM k
def pHist (aI : Nat → ClassId) (h0 : Nat) : va_W → Prop := fun w1 => ∃ (q : Nat) (adM : Nat → Nat → Nat), w1 = wHg aI h0 q adM 5 5
abbrev eHist : va_E := .inr (1, [.null, .int 0, .int 0])
def x_rH : Room := { frames := 3, cells := 221, slots := 2580, locals := 70 }
theorem up_fill2 (adM : Nat → Nat → Nat) (k : Nat) : va_up (fun i => if i < k then some (adM i 0) else none) k (some (adM k 0)) = fun i => if i < k + 1 then some (adM i 0) else none := by
  funext q
  by_cases h : q = k
  · subst h
    rw [va_up_self, if_pos (by omega)]
  · rw [va_up_ne _ _ h]
    by_cases h2 : q < k
    · rw [if_pos h2, if_pos (by omega)]
    · rw [if_neg h2, if_neg (by omega)]

theorem hs_at (aI : Nat → ClassId) (a0 q0 : Nat) (adM : Nat → Nat → Nat) (k : Nat) : (wHg aI a0 q0 adM k (k + 1))[2 + 44 * k]? = some (adM k 0, ceP aI (adM k) 6 8 24 0) := by
  rw [show 2 + 44 * k = 44 * k + 0 + 1 + 1 by omega]
  exact mls_at aI adM (i := k) (j := 0) (Nat.lt_succ_self k) (by decide)
section XH
variable {p : Program} {l : Launch} {e : Env} {s : State} {m : MethodId} {args : Array Value} {below : List Frame} {meth : Method} {c : Code} {D : va_G} {aI : Nat → ClassId} {A : Nat → Prop} {Q : State → Prop} {a0 q0 : Nat}
theorem hs_lp (C : x_C D aI A p s m args meth c cX1_init 2 RX1) (after : ∀ adM : Nat → Nat → Nat, Xm D A Q p l e x_rH s m args below meth c 2 (wHg aI a0 q0 adM 5 5) [(1, .int (nI 5)), (0, .ref a0)] [] 38 221 2580) : ∀ (j k : Nat) (adM : Nat → Nat → Nat), k + j = 5 → Xm D A Q p l e x_rH s m args below meth c 2 (wHg aI a0 q0 adM k k) [(1, .int (nI k)), (0, .ref a0)] [] 14 (1 + 44 * k) (5 + 515 * k) := by
  intro j
  induction j with
  | zero =>
    intro k adM hk
    have hk : k = 5 := by omega
    subst hk
    refine x_iload C 0 dX1_init_14 rfl rfl rfl ?_
    refine x_iconst C dX1_init_15 (v := 4) (by decide) rfl ?_
    refine x_ic_gt C (tgt := 38) dX1_init_16 (by decide) rfl (fun h => ?_) (fun h => ?_)
    · exact after adM
    · exact absurd (nI_lt (a := 4) (b := 5) (by decide) (by decide)) h
  | succ j ih =>
    intro k adM hk
    refine x_iload C 0 dX1_init_14 rfl rfl rfl ?_
    refine x_iconst C dX1_init_15 (v := 4) (by decide) rfl ?_
    refine x_ic_gt C (tgt := 38) dX1_init_16 (by decide) rfl (fun h => ?_) (fun h => ?_)
    · exact absurd h (by rw [i_lt, t_nI (by omega)]; have : (4 : Int32).toInt = 4 := rfl; omega)
    · refine x_aload C 1 dX1_init_19 rfl rfl rfl ?_
      refine x_get C (ci := 1) (q0 := 0) 0 rfl hinX1 rfl (by decide) (lw_gm (i := 233) (by decide +kernel) rfl) (v := .ref q0) rfl dX1_init_20 rfl ?_
      refine x_iload C 0 dX1_init_23 rfl rfl rfl ?_
      refine x_new C (ci := 3) (fs := [.null, .null, .null, .null, .null, .int 0, .int 0, .int 0, .int 0, .int 0, .int 0, .int 0, .int 0, .int 0, .int 0, .int 0, .int 0, .int 0]) tyX3 rfl hinX3 tyX3_ok (lw_gm (i := 230) (by decide +kernel) rfl) (lw_gm (i := 36) (by decide +kernel) rfl) (lw_gm (i := 19) (by decide +kernel) rfl) (fun j hj => by
        rcases (show j = 0 ∨ j = 1 ∨ j = 2 ∨ j = 3 ∨ j = 4 ∨ j = 5 ∨ j = 6 ∨ j = 7 ∨ j = 8 ∨ j = 9 ∨ j = 10 ∨ j = 11 ∨ j = 12 ∨ j = 13 ∨ j = 14 ∨ j = 15 ∨ j = 16 ∨ j = 17 by omega) with rfl | rfl | rfl | rfl | rfl | rfl | rfl | rfl | rfl | rfl | rfl | rfl | rfl | rfl | rfl | rfl | rfl | rfl <;> rfl) ⟨by show _ ≤ 221; omega, by show _ ≤ 2580; omega⟩ dX1_init_24 rfl (fun qm => ?_)
      refine x_dup C dX1_init_27 rfl ?_
      refine x_call C (cxX3 l D aI qm) xmX3 (lw_gm (i := 232) (by decide +kernel) rfl) ⟨by decide, by decide⟩ (Nat.le_of_ble_eq_true rfl) ⟨by show _ + 43 ≤ 221; omega, by show _ + 497 ≤ 2580; omega⟩ dX1_init_28 rfl (fun ws1 hw => ?_)
      obtain ⟨ad, e0, hw⟩ := hw
      subst hw
      obtain ⟨adM', g1, g2, g3⟩ := mls_push aI adM k ad
      have gw : wHg aI a0 q0 adM k k ++ wP aI ad 44 6 8 24 = wHg aI a0 q0 adM' k (k + 1) := by
        unfold wHg
        rw [← g1]
        have f : (fun i => if i < k then some (adM' i 0) else none) = fun i => if i < k then some (adM i 0) else none := by
          funext i
          by_cases h : i < k
          · rw [if_pos h, if_pos h, g2 i h]
          · rw [if_neg h, if_neg h]
        rw [f]
        rfl
      rw [gw, ← e0, ← g3]
      refine x_astq C (q0 := 1) (t0 := 5) (qk := 2 + 44 * k) (ci := 3) (r := (RX3, TX3, 18)) (i0 := k) rfl rfl (hs_at aI a0 q0 adM' k) rfl (inb_nI (show k < 5 by omega) (by decide)) (c_nI (by omega)) dX1_init_31 (ws' := wHg aI a0 q0 adM' (k + 1) (k + 1)) (by
        rw [up_fill2]
        rfl) rfl ?_
      refine x_iinc C (q := 0) (v := nI (k + 1)) (lv' := [(1, .int (nI (k + 1))), (0, .ref a0)]) dX1_init_32 rfl (nI_1 k) (by decide) rfl rfl ?_
      refine x_goto C (tgt := 14) dX1_init_35 (by decide) ?_
      exact Xm.cn (by show 1 + 44 * k + 1 + 43 = _; omega) (by show 5 + 515 * k + 18 + 497 = _; omega) (ih (k + 1) adM' (by omega))
end XH
set_option maxRecDepth 100000 in
set_option maxHeartbeats 4000000 in
theorem cxX1 (l : Launch) (D : va_G) (aI : Nat → ClassId) (h0 : Nat) : CX l D aI yX1_init cX1_init 2 x_rH h0 eHist (pHist aI h0) := by
  refine x_meth (by decide) rfl (by decide) (fun p e s m below meth c A hA C hr => ?_)
  have C : x_C D aI A p s m _ meth c cX1_init 2 RX1 := C
  obtain ⟨⟨ao2, ao0, ao5, ao3⟩, -, -, nf, nl⟩ := C.2.2.2.2.2.2.2.2.2.1
  refine x_aload C 0 dX1_init_0 rfl rfl rfl ?_
  refine x_obj C xoX1 xoI xoC dX1_init_1 ⟨by decide, by decide⟩ rfl ?_
  refine x_aload C 0 dX1_init_4 rfl rfl rfl ?_
  refine x_iconst C dX1_init_5 (v := 5) (by decide) rfl ?_
  refine x_newq C (t0 := 5) (N := 5) (lw_gm (i := 230) (by decide +kernel) rfl) ao3 rfl ⟨by decide, by decide, by decide⟩ ⟨by decide, by decide⟩ dX1_init_6 rfl (fun q => ?_)
  refine x_putF C (ci := 1) (q0 := 0) (fs := [.null, .int 0, .int 0]) (ws' := wHg aI h0 q (fun _ _ => 0) 0 0) (fty := .array (.object RX3)) 0 tyX1 rfl hinX1 tyX1_ok nmX1 rfl (by decide) (lw_gm (i := 233) (by decide +kernel) rfl) rfl rfl (by decide +kernel) rfl rfl (Nat.le_of_ble_eq_true rfl) dX1_init_9 rfl rfl ?_
  refine x_iconst C dX1_init_12 (v := 0) (by decide) rfl ?_
  refine x_istore C (lv' := [(1, .int 0), (0, .ref h0)]) dX1_init_13 rfl (by decide) rfl rfl ?_
  have L := hs_lp (l := l) (e := e) (below := below) (Q := MQ below (x_q D A (pHist aI h0)) #[Value.ref h0] s x_rH.cells x_rH.slots A) (a0 := h0) (q0 := q) C (fun adM => x_ret C hr dX1_init_38 ⟨q, adM, rfl⟩) 5 0 (fun _ _ => 0) rfl
  rw [nI_0] at L
  exact L

def x_rS : Room := { frames := 4, cells := 313, slots := 3683, locals := 100 }
def wSea (aI : Nat → ClassId) (h0 : Nat) (ad0 ad1 : Nat → Nat) (qh q : Nat) (adM : Nat → Nat → Nat) (qo q1 q2 : Nat) : va_W := (h0, .inr (6, [.ref (ad0 0), .ref (ad1 0), .ref qh, .ref qo])) :: (((wP aI ad0 44 6 8 24 ++ wP aI ad1 44 6 8 24) ++ wHg aI qh q adM 5 5) ++ wO aI qo q1 q2)
def pSea (aI : Nat → ClassId) (h0 : Nat) : va_W → Prop := fun w1 => ∃ (ad0 ad1 : Nat → Nat) (qh q : Nat) (adM : Nat → Nat → Nat) (qo q1 q2 : Nat), w1 = wSea aI h0 ad0 ad1 qh q adM qo q1 q2
abbrev eSea : va_E := .inr (6, [.null, .null, .null, .null])
set_option maxRecDepth 100000 in
set_option maxHeartbeats 4000000 in
theorem cxX6 (l : Launch) (D : va_G) (aI : Nat → ClassId) (h0 : Nat) : CX l D aI yX6_init cX6_init 1 x_rS h0 eSea (pSea aI h0) := by
  refine x_meth (by decide) rfl (by decide) (fun p e s m below meth c A hA C hr => ?_)
  have C : x_C D aI A p s m _ meth c cX6_init 1 RX6 := C
  refine x_aload C 0 dX6_init_0 rfl rfl rfl ?_
  refine x_obj C xoX6 xoI xoC dX6_init_1 ⟨by decide, by decide⟩ rfl ?_
  refine x_aload C 0 dX6_init_4 rfl rfl rfl ?_
  refine x_new C (ci := 3) (fs := [.null, .null, .null, .null, .null, .int 0, .int 0, .int 0, .int 0, .int 0, .int 0, .int 0, .int 0, .int 0, .int 0, .int 0, .int 0, .int 0]) tyX3 rfl hinX3 tyX3_ok (lw_gm (i := 35) (by decide +kernel) rfl) (lw_gm (i := 36) (by decide +kernel) rfl) (lw_gm (i := 19) (by decide +kernel) rfl) (fun j hj => by
    rcases (show j = 0 ∨ j = 1 ∨ j = 2 ∨ j = 3 ∨ j = 4 ∨ j = 5 ∨ j = 6 ∨ j = 7 ∨ j = 8 ∨ j = 9 ∨ j = 10 ∨ j = 11 ∨ j = 12 ∨ j = 13 ∨ j = 14 ∨ j = 15 ∨ j = 16 ∨ j = 17 by omega) with rfl | rfl | rfl | rfl | rfl | rfl | rfl | rfl | rfl | rfl | rfl | rfl | rfl | rfl | rfl | rfl | rfl | rfl <;> rfl) ⟨by decide, by decide⟩ dX6_init_5 rfl (fun qm0 => ?_)
  refine x_dup C dX6_init_8 rfl ?_
  refine x_call C (cxX3 l D aI qm0) xmX3 (lw_gm (i := 37) (by decide +kernel) rfl) ⟨by decide, by decide⟩ (Nat.le_of_ble_eq_true rfl) ⟨by decide, by decide⟩ dX6_init_9 rfl (fun ws0 hw0 => ?_)
  obtain ⟨ad0, e0, hw0⟩ := hw0
  subst hw0
  rw [← e0]
  refine x_putF C (ci := 6) (q0 := 0) (fs := [.null, .null, .null, .null]) (ws' := ((h0, .inr (6, [.ref (ad0 0), .null, .null, .null])) :: wP aI ad0 44 6 8 24)) (fty := .object RX3) 0 tyX6 rfl hinX6 tyX6_ok nmX6 rfl (by decide) (lw_gm (i := 269) (by decide +kernel) rfl) rfl rfl (by decide +kernel) rfl rfl (Nat.le_of_ble_eq_true rfl) dX6_init_12 rfl rfl ?_
  refine x_aload C 0 dX6_init_15 rfl rfl rfl ?_
  refine x_new C (ci := 3) (fs := [.null, .null, .null, .null, .null, .int 0, .int 0, .int 0, .int 0, .int 0, .int 0, .int 0, .int 0, .int 0, .int 0, .int 0, .int 0, .int 0]) tyX3 rfl hinX3 tyX3_ok (lw_gm (i := 35) (by decide +kernel) rfl) (lw_gm (i := 36) (by decide +kernel) rfl) (lw_gm (i := 19) (by decide +kernel) rfl) (fun j hj => by
    rcases (show j = 0 ∨ j = 1 ∨ j = 2 ∨ j = 3 ∨ j = 4 ∨ j = 5 ∨ j = 6 ∨ j = 7 ∨ j = 8 ∨ j = 9 ∨ j = 10 ∨ j = 11 ∨ j = 12 ∨ j = 13 ∨ j = 14 ∨ j = 15 ∨ j = 16 ∨ j = 17 by omega) with rfl | rfl | rfl | rfl | rfl | rfl | rfl | rfl | rfl | rfl | rfl | rfl | rfl | rfl | rfl | rfl | rfl | rfl <;> rfl) ⟨by decide, by decide⟩ dX6_init_16 rfl (fun qm1 => ?_)
  refine x_dup C dX6_init_19 rfl ?_
  refine x_call C (cxX3 l D aI qm1) xmX3 (lw_gm (i := 37) (by decide +kernel) rfl) ⟨by decide, by decide⟩ (Nat.le_of_ble_eq_true rfl) ⟨by decide, by decide⟩ dX6_init_20 rfl (fun ws1 hw1 => ?_)
  obtain ⟨ad1, e1, hw1⟩ := hw1
  subst hw1
  rw [← e1]
  refine x_putF C (ci := 6) (q0 := 0) (fs := [.ref (ad0 0), .null, .null, .null]) (ws' := ((h0, .inr (6, [.ref (ad0 0), .ref (ad1 0), .null, .null])) :: (wP aI ad0 44 6 8 24 ++ wP aI ad1 44 6 8 24))) (fty := .object RX3) 1 tyX6 rfl hinX6 tyX6_ok nmX6 rfl (by decide) (lw_gm (i := 270) (by decide +kernel) rfl) rfl rfl (by decide +kernel) rfl rfl (Nat.le_of_ble_eq_true rfl) dX6_init_23 rfl rfl ?_
  refine x_aload C 0 dX6_init_26 rfl rfl rfl ?_
  refine x_new C (ci := 1) (fs := [.null, .int 0, .int 0]) tyX1 rfl hinX1 tyX1_ok (lw_gm (i := 224) (by decide +kernel) rfl) (lw_gm (i := 225) (by decide +kernel) rfl) (lw_gm (i := 23) (by decide +kernel) rfl) (fun j hj => by
    rcases (show j = 0 ∨ j = 1 ∨ j = 2 by omega) with rfl | rfl | rfl <;> rfl) ⟨by decide, by decide⟩ dX6_init_27 rfl (fun qh => ?_)
  refine x_dup C dX6_init_30 rfl ?_
  refine x_call C (cxX1 l D aI qh) xmX1 (lw_gm (i := 226) (by decide +kernel) rfl) ⟨by decide, by decide⟩ (Nat.le_of_ble_eq_true rfl) ⟨by decide, by decide⟩ dX6_init_31 rfl (fun ws2 hw2 => ?_)
  obtain ⟨q, adM, hw2⟩ := hw2
  subst hw2
  refine x_putF C (ci := 6) (q0 := 0) (fs := [.ref (ad0 0), .ref (ad1 0), .null, .null]) (ws' := ((h0, .inr (6, [.ref (ad0 0), .ref (ad1 0), .ref qh, .null])) :: ((wP aI ad0 44 6 8 24 ++ wP aI ad1 44 6 8 24) ++ wHg aI qh q adM 5 5))) (fty := .object RX1) 2 tyX6 rfl hinX6 tyX6_ok nmX6 rfl (by decide) (lw_gm (i := 271) (by decide +kernel) rfl) rfl rfl (by decide +kernel) rfl rfl (Nat.le_of_ble_eq_true rfl) dX6_init_34 rfl rfl ?_
  refine x_aload C 0 dX6_init_37 rfl rfl rfl ?_
  refine x_new C (ci := 4) (fs := [.null, .null, .int 0, .int 0, .int 0, .int 0, .int 0]) tyX4 rfl hinX4 tyX4_ok (lw_gm (i := 244) (by decide +kernel) rfl) (lw_gm (i := 245) (by decide +kernel) rfl) (lw_gm (i := 24) (by decide +kernel) rfl) (fun j hj => by
    rcases (show j = 0 ∨ j = 1 ∨ j = 2 ∨ j = 3 ∨ j = 4 ∨ j = 5 ∨ j = 6 by omega) with rfl | rfl | rfl | rfl | rfl | rfl | rfl <;> rfl) ⟨by decide, by decide⟩ dX6_init_38 rfl (fun qo => ?_)
  refine x_dup C dX6_init_41 rfl ?_
  refine x_callN C (cxX4 l D aI qo) xmX4 C.2.2.2.2.2.2.2.2.2.1.2.2.1.2.2.2 ⟨by decide, by decide⟩ (Nat.le_of_ble_eq_true rfl) ⟨by decide, by decide⟩ dX6_init_42 rfl (fun ws3 hw3 => ?_)
  obtain ⟨q1, q2, hw3⟩ := hw3
  subst hw3
  refine x_putF C (ci := 6) (q0 := 0) (fs := [.ref (ad0 0), .ref (ad1 0), .ref qh, .null]) (ws' := wSea aI h0 ad0 ad1 qh q adM qo q1 q2) (fty := .object RX4) 3 tyX6 rfl hinX6 tyX6_ok nmX6 rfl (by decide) (lw_gm (i := 272) (by decide +kernel) rfl) rfl rfl (by decide +kernel) rfl rfl (Nat.le_of_ble_eq_true rfl) dX6_init_45 rfl rfl ?_
  exact x_ret C hr dX6_init_48 ⟨ad0, ad1, qh, q, adM, qo, q1, q2, rfl⟩

