/-! a new mill -/
theorem lit_le {S k : Nat} {c : Int32} (hc : c = nI S) (h : S ≤ k) (h2 : k < 2147483648) : c ≤ nI k := by subst hc; exact nI_le h h2
theorem lit_nle {S k : Nat} {c : Int32} (hc : c = nI S) (h : k < S) (h2 : S < 2147483648) : ¬ c ≤ nI k := by subst hc; exact nI_ge h h2
theorem Xm.cn {D : va_G} {A : Nat → Prop} {Q : State → Prop} {p : Program} {l : Launch} {e : Env} {R : Room} {s : State} {m : MethodId} {args : Array Value} {below : List Frame} {meth : Method} {c : Code} {nL : Nat} {ws : va_W} {lv : List (Nat × Value)} {st : List Value} {pc nc ns nc' ns' : Nat} (h1 : nc = nc') (h2 : ns = ns') (k : Xm D A Q p l e R s m args below meth c nL ws lv st pc nc' ns') : Xm D A Q p l e R s m args below meth c nL ws lv st pc nc ns := by
  subst h1
  subst h2
  exact k
def x_r1 : Room := { frames := 1, cells := 0, slots := 0, locals := 12 }
def z0 (n : Nat) : List Value := List.replicate n (.int 0)

theorem cxX2 (l : Launch) (D : va_G) (aI : Nat → ClassId) (h0 : Nat) : CX l D aI yX2_init cX2_init 1 x_r1 h0 (.inr (2, z0 3)) (fun w1 => w1 = [(h0, .inr (2, z0 3))]) := by
  refine x_meth (by decide) rfl (by decide) (fun p e s m below meth c A hA C hr => ?_)
  have C : x_C D aI A p s m _ meth c cX2_init 1 RX2 := C
  refine x_aload C 0 dX2_init_0 rfl rfl rfl ?_
  refine x_obj C xoX2 xoI xoC dX2_init_1 ⟨Nat.le_refl _, Nat.le_refl _⟩ rfl ?_
  exact x_ret C hr dX2_init_4 rfl

theorem cxX0 (l : Launch) (D : va_G) (aI : Nat → ClassId) (h0 : Nat) : CX l D aI yX0_init cX0_init 1 x_r1 h0 (.inr (0, z0 2)) (fun w1 => w1 = [(h0, .inr (0, z0 2))]) := by
  refine x_meth (by decide) rfl (by decide) (fun p e s m below meth c A hA C hr => ?_)
  have C : x_C D aI A p s m _ meth c cX0_init 1 RX0 := C
  refine x_aload C 0 dX0_init_0 rfl rfl rfl ?_
  refine x_obj C xoX0 xoI xoC dX0_init_1 ⟨Nat.le_refl _, Nat.le_refl _⟩ rfl ?_
  exact x_ret C hr dX0_init_4 rfl

theorem cxX5 (l : Launch) (D : va_G) (aI : Nat → ClassId) (h0 : Nat) : CX l D aI yX5_init cX5_init 1 x_r1 h0 (.inr (5, z0 17)) (fun w1 => w1 = [(h0, .inr (5, z0 17))]) := by
  refine x_meth (by decide) rfl (by decide) (fun p e s m below meth c A hA C hr => ?_)
  have C : x_C D aI A p s m _ meth c cX5_init 1 RX5 := C
  refine x_aload C 0 dX5_init_0 rfl rfl rfl ?_
  refine x_obj C xoX5 xoI xoC dX5_init_1 ⟨Nat.le_refl _, Nat.le_refl _⟩ rfl ?_
  exact x_ret C hr dX5_init_4 rfl

/-- the cells of a mill that is being made: c1 kinds, c2 farmers, c3 sacks are in their rows -/
def ceP (aI : Nat → ClassId) (ad : Nat → Nat) (c1 c2 c3 : Nat) (j : Nat) : va_E :=
  if j = 0 then .inr (3, [.ref (ad 1), .ref (ad 2), .ref (ad 3), .ref (ad 4), .ref (ad 5), .int 0, .int 0, .int 0, .int 0, .int 0, .int 0, .int 0, .int (-1), .int (-1), .int 0, .int 0, .int 0, .int 0])
  else if j = 1 then .inl (aI 0, 13, .inl k_first) else if j = 2 then .inl (aI 0, 4, .inl k_fleak)
  else if j = 3 then .inl (aI 2, 6, .inr (.inr (.inr (.inr (fun q => if q < c1 then some (ad (6 + q)) else none)))))
  else if j = 4 then .inl (aI 3, 8, .inr (.inr (.inr (.inr (fun q => if q < c2 then some (ad (12 + q)) else none)))))
  else if j = 5 then .inl (aI 4, 24, .inr (.inr (.inr (.inr (fun q => if q < c3 then some (ad (20 + q)) else none)))))
  else if j < 12 then .inr (2, z0 3) else if j < 20 then .inr (0, z0 2) else .inr (5, z0 17)
def wP (aI : Nat → ClassId) (ad : Nat → Nat) (n c1 c2 c3 : Nat) : va_W := (List.range n).map fun j => (ad j, ceP aI ad c1 c2 c3 j)
theorem wP_at {aI : Nat → ClassId} {ad : Nat → Nat} {n c1 c2 c3 j : Nat} (h : j < n) : (wP aI ad n c1 c2 c3)[j]? = some (ad j, ceP aI ad c1 c2 c3 j) := by
  unfold wP
  rw [List.getElem?_map, List.getElem?_range h]
  rfl
theorem wP_push {aI : Nat → ClassId} {ad : Nat → Nat} {n c1 c2 c3 : Nat} (q : Nat) {e : va_E} (hn : 6 ≤ n) (h1 : c1 = 0 ∨ 6 + c1 ≤ n) (h2 : c2 = 0 ∨ 12 + c2 ≤ n) (h3 : c3 = 0 ∨ 20 + c3 ≤ n) (he : ∀ ad' : Nat → Nat, ceP aI ad' c1 c2 c3 n = e) : ∃ ad', wP aI ad n c1 c2 c3 ++ [(q, e)] = wP aI ad' (n + 1) c1 c2 c3 ∧ (∀ j, j < n → ad' j = ad j) ∧ ad' n = q := by
  refine ⟨fun j => if j = n then q else ad j, ?_, fun j hj => if_neg (by omega), if_pos rfl⟩
  unfold wP
  rw [List.range_succ, List.map_append, List.map_cons, List.map_nil, he]
  show _ ++ [(q, e)] = _ ++ [((if n = n then q else ad n), e)]
  rw [if_pos rfl]
  congr 1
  apply List.map_congr_left
  intro j hj
  have hj : j < n := List.mem_range.mp hj
  have e1 : ∀ i, i < n → (if i = n then q else ad i) = ad i := fun i hi => if_neg (by omega)
  show (ad j, ceP aI ad c1 c2 c3 j) = ((if j = n then q else ad j), ceP aI (fun j => if j = n then q else ad j) c1 c2 c3 j)
  rw [e1 j hj]
  congr 1
  unfold ceP
  simp only [e1 1 (by omega), e1 2 (by omega), e1 3 (by omega), e1 4 (by omega), e1 5 (by omega)]
  have f1 : (fun x => if x < c1 then some (if 6 + x = n then q else ad (6 + x)) else none) = fun x => if x < c1 then some (ad (6 + x)) else none := by
    funext x
    by_cases h : x < c1
    · rw [if_pos h, if_pos h, e1 _ (by omega)]
    · rw [if_neg h, if_neg h]
  have f2 : (fun x => if x < c2 then some (if 12 + x = n then q else ad (12 + x)) else none) = fun x => if x < c2 then some (ad (12 + x)) else none := by
    funext x
    by_cases h : x < c2
    · rw [if_pos h, if_pos h, e1 _ (by omega)]
    · rw [if_neg h, if_neg h]
  have f3 : (fun x => if x < c3 then some (if 20 + x = n then q else ad (20 + x)) else none) = fun x => if x < c3 then some (ad (20 + x)) else none := by
    funext x
    by_cases h : x < c3
    · rw [if_pos h, if_pos h, e1 _ (by omega)]
    · rw [if_neg h, if_neg h]
  rw [f1, f2, f3]
theorem wP_set {aI : Nat → ClassId} {ad : Nat → Nat} {n c1 c2 c3 d1 d2 d3 i : Nat} {e : va_E} (hi : i < n) (he : ceP aI ad d1 d2 d3 i = e) (ho : ∀ j, j ≠ i → ceP aI ad d1 d2 d3 j = ceP aI ad c1 c2 c3 j) : (wP aI ad n c1 c2 c3).set i (ad i, e) = wP aI ad n d1 d2 d3 := by
  apply List.ext_getElem?
  intro j
  by_cases h : j = i
  · subst h
    rw [List.getElem?_set_self (by unfold wP; simp; exact hi), wP_at hi, he]
  · rw [List.getElem?_set_ne (Ne.symm h)]
    by_cases hj : j < n
    · rw [wP_at hj, wP_at hj, ho j h]
    · rw [List.getElem?_eq_none (by unfold wP; simp; omega), List.getElem?_eq_none (by unfold wP; simp; omega)]
theorem up_fill (ad : Nat → Nat) (b k : Nat) : va_up (fun q => if q < k then some (ad (b + q)) else none) k (some (ad (b + k))) = fun q => if q < k + 1 then some (ad (b + q)) else none := by
  funext q
  by_cases h : q = k
  · subst h
    rw [va_up_self, if_pos (by omega)]
  · rw [va_up_ne _ _ h]
    by_cases h2 : q < k
    · rw [if_pos h2, if_pos (by omega)]
    · rw [if_neg h2, if_neg (by omega)]
def x_rM : Room := { frames := 2, cells := 43, slots := 497, locals := 40 }
section XM
variable {p : Program} {l : Launch} {e : Env} {s : State} {m : MethodId} {args : Array Value} {below : List Frame} {meth : Method} {c : Code} {D : va_G} {aI : Nat → ClassId} {A : Nat → Prop} {Q : State → Prop} {a0 : Nat}

theorem ml_K (C : x_C D aI A p s m args meth c cX3_init 2 RX3) (after : ∀ ad : Nat → Nat, ad 0 = a0 → Xm D A Q p l e x_rM s m args below meth c 2 (wP aI ad 12 6 0 0) [(1, .int (nI 6)), (0, .ref a0)] [] 94 11 73) : ∀ (j k : Nat) (ad : Nat → Nat), ad 0 = a0 → k + j = 6 → Xm D A Q p l e x_rM s m args below meth c 2 (wP aI ad (6 + k) k 0 0) [(1, .int (nI k)), (0, .ref a0)] [] 69 (5 + k) (55 + 3 * k) := by
  intro j
  induction j with
  | zero =>
    intro k ad h0 hk
    have hk : k = 6 := by omega
    subst hk
    refine x_iload C 0 dX3_init_69 rfl rfl rfl ?_
    refine x_bipush C dX3_init_70 (v := 6) (by decide) rfl ?_
    refine x_ic_ge C (tgt := 94) dX3_init_72 (by decide) rfl (fun h => ?_) (fun h => ?_)
    · exact after ad h0
    · exact absurd (lit_le (c := 6) (S := 6) (k := 6) rfl (Nat.le_refl _) (by decide)) h
  | succ j ih =>
    intro k ad h0 hk
    refine x_iload C 0 dX3_init_69 rfl rfl rfl ?_
    refine x_bipush C dX3_init_70 (v := 6) (by decide) rfl ?_
    refine x_ic_ge C (tgt := 94) dX3_init_72 (by decide) rfl (fun h => ?_) (fun h => ?_)
    · exact absurd h (lit_nle (c := 6) (S := 6) rfl (by omega) (by decide))
    · refine x_aload C 1 dX3_init_75 rfl rfl rfl ?_
      refine x_get C (ci := 3) (q0 := 0) 2 rfl hinX3 (by rw [wP_at (by omega), h0]; rfl) (by decide) (lw_gm (i := 167) (by decide +kernel) rfl) (v := .ref (ad 3)) rfl dX3_init_76 rfl ?_
      refine x_iload C 0 dX3_init_79 rfl rfl rfl ?_
      refine x_new C (ci := 2) (fs := z0 3) tyX2 rfl hinX2 tyX2_ok (lw_gm (i := 52) (by decide +kernel) rfl) (lw_gm (i := 58) (by decide +kernel) rfl) (lw_gm (i := 20) (by decide +kernel) rfl) (fun j hj => by
        rcases (show j = 0 ∨ j = 1 ∨ j = 2 by omega) with rfl | rfl | rfl <;> rfl) ⟨by show _ ≤ 43; omega, by show _ ≤ 497; omega⟩ dX3_init_80 rfl (fun q => ?_)
      refine x_dup C dX3_init_83 rfl ?_
      refine x_callN C (cxX2 l D aI q) xmX2 C.2.2.2.2.2.2.2.2.2.1.2.2.1.1 ⟨by decide, by decide⟩ (Nat.le_of_ble_eq_true rfl) ⟨by show _ ≤ 43; show _ + 0 ≤ 43; omega, by show _ + 0 ≤ 497; omega⟩ dX3_init_84 rfl (fun ws1 hw => ?_)
      subst hw
      obtain ⟨ad', g1, g2, g3⟩ := wP_push (aI := aI) (ad := ad) (n := 6 + k) (c1 := k) (c2 := 0) (c3 := 0) q (e := .inr (2, z0 3)) (by omega) (by omega) (by omega) (by omega) (fun ad' => by
        unfold ceP
        rw [if_neg (by omega), if_neg (by omega), if_neg (by omega), if_neg (by omega), if_neg (by omega), if_neg (by omega), if_pos (by omega)])
      rw [g1, ← g2 3 (by omega), ← g3]
      refine x_astq C (q0 := 3) (t0 := 2) (qk := 6 + k) (ci := 2) (r := (RX2, TX2, 3)) (i0 := k) (wP_at (by omega)) rfl (by rw [wP_at (by omega)]; unfold ceP; rw [if_neg (by omega), if_neg (by omega), if_neg (by omega), if_neg (by omega), if_neg (by omega), if_neg (by omega), if_pos (by omega)]) rfl (inb_nI (show k < 6 by omega) (by decide)) (c_nI (by omega)) dX3_init_87 (wP_set (d1 := (k + 1)) (d2 := 0) (d3 := 0) (by omega) (by rw [up_fill]; rfl) (fun j hj => by unfold ceP; by_cases z0 : j = 0 <;> by_cases z1 : j = 1 <;> by_cases z2 : j = 2 <;> by_cases z3 : j = 3 <;> by_cases z4 : j = 4 <;> by_cases z5 : j = 5 <;> first | omega | simp [z0, z1, z2, z3, z4, z5])) rfl ?_
      refine x_iinc C (q := 0) (v := nI (k + 1)) (lv' := [(1, .int (nI (k + 1))), (0, .ref a0)]) dX3_init_88 rfl (nI_1 k) (by decide) rfl rfl ?_
      refine x_goto C (tgt := 69) dX3_init_91 (by decide) ?_
      exact Xm.cn (by show 5 + k + 1 + 0 = _; omega) (by show 55 + 3 * k + 3 + 0 = _; omega) (ih (k + 1) ad' (by rw [g2 0 (by omega)]; exact h0) (by omega))

theorem ml_F (C : x_C D aI A p s m args meth c cX3_init 2 RX3) (after : ∀ ad : Nat → Nat, ad 0 = a0 → Xm D A Q p l e x_rM s m args below meth c 2 (wP aI ad 20 6 8 0) [(1, .int (nI 8)), (0, .ref a0)] [] 121 19 89) : ∀ (j k : Nat) (ad : Nat → Nat), ad 0 = a0 → k + j = 8 → Xm D A Q p l e x_rM s m args below meth c 2 (wP aI ad (12 + k) 6 k 0) [(1, .int (nI k)), (0, .ref a0)] [] 96 (11 + k) (73 + 2 * k) := by
  intro j
  induction j with
  | zero =>
    intro k ad h0 hk
    have hk : k = 8 := by omega
    subst hk
    refine x_iload C 0 dX3_init_96 rfl rfl rfl ?_
    refine x_bipush C dX3_init_97 (v := 8) (by decide) rfl ?_
    refine x_ic_ge C (tgt := 121) dX3_init_99 (by decide) rfl (fun h => ?_) (fun h => ?_)
    · exact after ad h0
    · exact absurd (lit_le (c := 8) (S := 8) (k := 8) rfl (Nat.le_refl _) (by decide)) h
  | succ j ih =>
    intro k ad h0 hk
    refine x_iload C 0 dX3_init_96 rfl rfl rfl ?_
    refine x_bipush C dX3_init_97 (v := 8) (by decide) rfl ?_
    refine x_ic_ge C (tgt := 121) dX3_init_99 (by decide) rfl (fun h => ?_) (fun h => ?_)
    · exact absurd h (lit_nle (c := 8) (S := 8) rfl (by omega) (by decide))
    · refine x_aload C 1 dX3_init_102 rfl rfl rfl ?_
      refine x_get C (ci := 3) (q0 := 0) 3 rfl hinX3 (by rw [wP_at (by omega), h0]; rfl) (by decide) (lw_gm (i := 168) (by decide +kernel) rfl) (v := .ref (ad 4)) rfl dX3_init_103 rfl ?_
      refine x_iload C 0 dX3_init_106 rfl rfl rfl ?_
      refine x_new C (ci := 0) (fs := z0 2) tyX0 rfl hinX0 tyX0_ok (lw_gm (i := 54) (by decide +kernel) rfl) (lw_gm (i := 80) (by decide +kernel) rfl) (lw_gm (i := 21) (by decide +kernel) rfl) (fun j hj => by
        rcases (show j = 0 ∨ j = 1 by omega) with rfl | rfl <;> rfl) ⟨by show _ ≤ 43; omega, by show _ ≤ 497; omega⟩ dX3_init_107 rfl (fun q => ?_)
      refine x_dup C dX3_init_110 rfl ?_
      refine x_callN C (cxX0 l D aI q) xmX0 C.2.2.2.2.2.2.2.2.2.1.2.2.1.2.1 ⟨by decide, by decide⟩ (Nat.le_of_ble_eq_true rfl) ⟨by show _ ≤ 43; show _ + 0 ≤ 43; omega, by show _ + 0 ≤ 497; omega⟩ dX3_init_111 rfl (fun ws1 hw => ?_)
      subst hw
      obtain ⟨ad', g1, g2, g3⟩ := wP_push (aI := aI) (ad := ad) (n := 12 + k) (c1 := 6) (c2 := k) (c3 := 0) q (e := .inr (0, z0 2)) (by omega) (by omega) (by omega) (by omega) (fun ad' => by
        unfold ceP
        rw [if_neg (by omega), if_neg (by omega), if_neg (by omega), if_neg (by omega), if_neg (by omega), if_neg (by omega), if_neg (by omega), if_pos (by omega)])
      rw [g1, ← g2 4 (by omega), ← g3]
      refine x_astq C (q0 := 4) (t0 := 3) (qk := 12 + k) (ci := 0) (r := (RX0, TX0, 2)) (i0 := k) (wP_at (by omega)) rfl (by rw [wP_at (by omega)]; unfold ceP; rw [if_neg (by omega), if_neg (by omega), if_neg (by omega), if_neg (by omega), if_neg (by omega), if_neg (by omega), if_neg (by omega), if_pos (by omega)]) rfl (inb_nI (show k < 8 by omega) (by decide)) (c_nI (by omega)) dX3_init_114 (wP_set (d1 := 6) (d2 := (k + 1)) (d3 := 0) (by omega) (by rw [up_fill]; rfl) (fun j hj => by unfold ceP; by_cases z0 : j = 0 <;> by_cases z1 : j = 1 <;> by_cases z2 : j = 2 <;> by_cases z3 : j = 3 <;> by_cases z4 : j = 4 <;> by_cases z5 : j = 5 <;> first | omega | simp [z0, z1, z2, z3, z4, z5])) rfl ?_
      refine x_iinc C (q := 0) (v := nI (k + 1)) (lv' := [(1, .int (nI (k + 1))), (0, .ref a0)]) dX3_init_115 rfl (nI_1 k) (by decide) rfl rfl ?_
      refine x_goto C (tgt := 96) dX3_init_118 (by decide) ?_
      exact Xm.cn (by show 11 + k + 1 + 0 = _; omega) (by show 73 + 2 * k + 2 + 0 = _; omega) (ih (k + 1) ad' (by rw [g2 0 (by omega)]; exact h0) (by omega))

theorem ml_S (C : x_C D aI A p s m args meth c cX3_init 2 RX3) (after : ∀ ad : Nat → Nat, ad 0 = a0 → Xm D A Q p l e x_rM s m args below meth c 2 (wP aI ad 44 6 8 24) [(1, .int (nI 24)), (0, .ref a0)] [] 148 43 497) : ∀ (j k : Nat) (ad : Nat → Nat), ad 0 = a0 → k + j = 24 → Xm D A Q p l e x_rM s m args below meth c 2 (wP aI ad (20 + k) 6 8 k) [(1, .int (nI k)), (0, .ref a0)] [] 123 (19 + k) (89 + 17 * k) := by
  intro j
  induction j with
  | zero =>
    intro k ad h0 hk
    have hk : k = 24 := by omega
    subst hk
    refine x_iload C 0 dX3_init_123 rfl rfl rfl ?_
    refine x_bipush C dX3_init_124 (v := 24) (by decide) rfl ?_
    refine x_ic_ge C (tgt := 148) dX3_init_126 (by decide) rfl (fun h => ?_) (fun h => ?_)
    · exact after ad h0
    · exact absurd (lit_le (c := 24) (S := 24) (k := 24) rfl (Nat.le_refl _) (by decide)) h
  | succ j ih =>
    intro k ad h0 hk
    refine x_iload C 0 dX3_init_123 rfl rfl rfl ?_
    refine x_bipush C dX3_init_124 (v := 24) (by decide) rfl ?_
    refine x_ic_ge C (tgt := 148) dX3_init_126 (by decide) rfl (fun h => ?_) (fun h => ?_)
    · exact absurd h (lit_nle (c := 24) (S := 24) rfl (by omega) (by decide))
    · refine x_aload C 1 dX3_init_129 rfl rfl rfl ?_
      refine x_get C (ci := 3) (q0 := 0) 4 rfl hinX3 (by rw [wP_at (by omega), h0]; rfl) (by decide) (lw_gm (i := 169) (by decide +kernel) rfl) (v := .ref (ad 5)) rfl dX3_init_130 rfl ?_
      refine x_iload C 0 dX3_init_133 rfl rfl rfl ?_
      refine x_new C (ci := 5) (fs := z0 17) tyX5 rfl hinX5 tyX5_ok (lw_gm (i := 56) (by decide +kernel) rfl) (lw_gm (i := 94) (by decide +kernel) rfl) (lw_gm (i := 22) (by decide +kernel) rfl) (fun j hj => by
        rcases (show j = 0 ∨ j = 1 ∨ j = 2 ∨ j = 3 ∨ j = 4 ∨ j = 5 ∨ j = 6 ∨ j = 7 ∨ j = 8 ∨ j = 9 ∨ j = 10 ∨ j = 11 ∨ j = 12 ∨ j = 13 ∨ j = 14 ∨ j = 15 ∨ j = 16 by omega) with rfl | rfl | rfl | rfl | rfl | rfl | rfl | rfl | rfl | rfl | rfl | rfl | rfl | rfl | rfl | rfl | rfl <;> rfl) ⟨by show _ ≤ 43; omega, by show _ ≤ 497; omega⟩ dX3_init_134 rfl (fun q => ?_)
      refine x_dup C dX3_init_137 rfl ?_
      refine x_callN C (cxX5 l D aI q) xmX5 C.2.2.2.2.2.2.2.2.2.1.2.2.1.2.2.1 ⟨by decide, by decide⟩ (Nat.le_of_ble_eq_true rfl) ⟨by show _ ≤ 43; show _ + 0 ≤ 43; omega, by show _ + 0 ≤ 497; omega⟩ dX3_init_138 rfl (fun ws1 hw => ?_)
      subst hw
      obtain ⟨ad', g1, g2, g3⟩ := wP_push (aI := aI) (ad := ad) (n := 20 + k) (c1 := 6) (c2 := 8) (c3 := k) q (e := .inr (5, z0 17)) (by omega) (by omega) (by omega) (by omega) (fun ad' => by
        unfold ceP
        rw [if_neg (by omega), if_neg (by omega), if_neg (by omega), if_neg (by omega), if_neg (by omega), if_neg (by omega), if_neg (by omega), if_neg (by omega)])
      rw [g1, ← g2 5 (by omega), ← g3]
      refine x_astq C (q0 := 5) (t0 := 4) (qk := 20 + k) (ci := 5) (r := (RX5, TX5, 17)) (i0 := k) (wP_at (by omega)) rfl (by rw [wP_at (by omega)]; unfold ceP; rw [if_neg (by omega), if_neg (by omega), if_neg (by omega), if_neg (by omega), if_neg (by omega), if_neg (by omega), if_neg (by omega), if_neg (by omega)]) rfl (inb_nI (show k < 24 by omega) (by decide)) (c_nI (by omega)) dX3_init_141 (wP_set (d1 := 6) (d2 := 8) (d3 := (k + 1)) (by omega) (by rw [up_fill]; rfl) (fun j hj => by unfold ceP; by_cases z0 : j = 0 <;> by_cases z1 : j = 1 <;> by_cases z2 : j = 2 <;> by_cases z3 : j = 3 <;> by_cases z4 : j = 4 <;> by_cases z5 : j = 5 <;> first | omega | simp [z0, z1, z2, z3, z4, z5])) rfl ?_
      refine x_iinc C (q := 0) (v := nI (k + 1)) (lv' := [(1, .int (nI (k + 1))), (0, .ref a0)]) dX3_init_142 rfl (nI_1 k) (by decide) rfl rfl ?_
      refine x_goto C (tgt := 123) dX3_init_145 (by decide) ?_
      exact Xm.cn (by show 19 + k + 1 + 0 = _; omega) (by show 89 + 17 * k + 17 + 0 = _; omega) (ih (k + 1) ad' (by rw [g2 0 (by omega)]; exact h0) (by omega))

end XM
/-- what a new mill is made of -/
def pMill (aI : Nat → ClassId) (h0 : Nat) : va_W → Prop := fun w1 => ∃ ad : Nat → Nat, ad 0 = h0 ∧ w1 = wP aI ad 44 6 8 24
abbrev eMill : va_E := .inr (3, [.null, .null, .null, .null, .null, .int 0, .int 0, .int 0, .int 0, .int 0, .int 0, .int 0, .int 0, .int 0, .int 0, .int 0, .int 0, .int 0])
set_option maxRecDepth 100000 in
set_option maxHeartbeats 4000000 in
theorem cxX3 (l : Launch) (D : va_G) (aI : Nat → ClassId) (h0 : Nat) : CX l D aI yX3_init cX3_init 2 x_rM h0 eMill (pMill aI h0) := by
  refine x_meth (by decide) rfl (by decide) (fun p e s m below meth c A hA C hr => ?_)
  have C : x_C D aI A p s m _ meth c cX3_init 2 RX3 := C
  obtain ⟨⟨t1, Z1, B1⟩, ⟨t2, Z2, B2⟩⟩ := C.2.2.2.2.2.2.2.2.1
  obtain ⟨⟨ao2, ao0, ao5, ao3⟩, -, -, nf, nl⟩ := C.2.2.2.2.2.2.2.2.2.1
  refine x_aload C 0 dX3_init_0 rfl rfl rfl ?_
  refine x_obj C xoX3 xoI xoC dX3_init_1 ⟨by decide, by decide⟩ rfl ?_
  refine x_aload C 0 dX3_init_4 rfl rfl rfl ?_
  refine x_gets C Z1 nf dX3_init_5 rfl ?_
  refine x_clone C B1 (lw_gm (i := 43) (by decide +kernel) rfl) (lw_gm (i := 44) (by decide +kernel) rfl) (lw_gm (i := 45) (by decide +kernel) rfl) (lw_gm (i := 46) (by decide +kernel) rfl) (lw_gm (i := 47) (by decide +kernel) rfl) ⟨by decide, Nat.le_of_ble_eq_true rfl, by decide, by decide⟩ dX3_init_8 rfl (fun q1 => ?_)
  refine x_castA C (q0 := 1) (lw_gm (i := 49) (by decide +kernel) rfl) rfl dX3_init_11 rfl ?_
  refine x_putF C (ci := 3) (q0 := 0) (fs := [.null, .null, .null, .null, .null, .int 0, .int 0, .int 0, .int 0, .int 0, .int 0, .int 0, .int 0, .int 0, .int 0, .int 0, .int 0, .int 0]) (ws' := [(h0, .inr (3, [.ref q1, .null, .null, .null, .null, .int 0, .int 0, .int 0, .int 0, .int 0, .int 0, .int 0, .int 0, .int 0, .int 0, .int 0, .int 0, .int 0])), (q1, .inl (aI 0, 13, .inl k_first))]) (fty := .array .int) 0 tyX3 rfl hinX3 tyX3_ok nmX3 rfl (by decide) (lw_gm (i := 164) (by decide +kernel) rfl) rfl rfl (by decide +kernel) rfl rfl (Nat.le_of_ble_eq_true rfl) dX3_init_14 rfl rfl ?_
  refine x_aload C 0 dX3_init_17 rfl rfl rfl ?_
  refine x_gets C Z2 nl dX3_init_18 rfl ?_
  refine x_clone C B2 (lw_gm (i := 43) (by decide +kernel) rfl) (lw_gm (i := 44) (by decide +kernel) rfl) (lw_gm (i := 45) (by decide +kernel) rfl) (lw_gm (i := 46) (by decide +kernel) rfl) (lw_gm (i := 47) (by decide +kernel) rfl) ⟨by decide, Nat.le_of_ble_eq_true rfl, by decide, by decide⟩ dX3_init_21 rfl (fun q2 => ?_)
  refine x_castA C (q0 := 2) (lw_gm (i := 49) (by decide +kernel) rfl) rfl dX3_init_24 rfl ?_
  refine x_putF C (ci := 3) (q0 := 0) (fs := [.ref q1, .null, .null, .null, .null, .int 0, .int 0, .int 0, .int 0, .int 0, .int 0, .int 0, .int 0, .int 0, .int 0, .int 0, .int 0, .int 0]) (ws' := [(h0, .inr (3, [.ref q1, .ref q2, .null, .null, .null, .int 0, .int 0, .int 0, .int 0, .int 0, .int 0, .int 0, .int 0, .int 0, .int 0, .int 0, .int 0, .int 0])), (q1, .inl (aI 0, 13, .inl k_first)), (q2, .inl (aI 0, 4, .inl k_fleak))]) (fty := .array .int) 1 tyX3 rfl hinX3 tyX3_ok nmX3 rfl (by decide) (lw_gm (i := 166) (by decide +kernel) rfl) rfl rfl (by decide +kernel) rfl rfl (Nat.le_of_ble_eq_true rfl) dX3_init_27 rfl rfl ?_
  refine x_aload C 0 dX3_init_30 rfl rfl rfl ?_
  refine x_bipush C dX3_init_31 (v := 6) (by decide) rfl ?_
  refine x_newq C (t0 := 2) (N := 6) (lw_gm (i := 52) (by decide +kernel) rfl) ao2 rfl ⟨by decide, by decide, by decide⟩ ⟨by decide, by decide⟩ dX3_init_33 rfl (fun q3 => ?_)
  refine x_putF C (ci := 3) (q0 := 0) (fs := [.ref q1, .ref q2, .null, .null, .null, .int 0, .int 0, .int 0, .int 0, .int 0, .int 0, .int 0, .int 0, .int 0, .int 0, .int 0, .int 0, .int 0]) (ws' := [(h0, .inr (3, [.ref q1, .ref q2, .ref q3, .null, .null, .int 0, .int 0, .int 0, .int 0, .int 0, .int 0, .int 0, .int 0, .int 0, .int 0, .int 0, .int 0, .int 0])), (q1, .inl (aI 0, 13, .inl k_first)), (q2, .inl (aI 0, 4, .inl k_fleak)), (q3, .inl (aI 2, 6, .inr (.inr (.inr (.inr (fun _ => none))))))]) (fty := .array (.object RX2)) 2 tyX3 rfl hinX3 tyX3_ok nmX3 rfl (by decide) (lw_gm (i := 167) (by decide +kernel) rfl) rfl rfl (by decide +kernel) rfl rfl (Nat.le_of_ble_eq_true rfl) dX3_init_36 rfl rfl ?_
  refine x_aload C 0 dX3_init_39 rfl rfl rfl ?_
  refine x_bipush C dX3_init_40 (v := 8) (by decide) rfl ?_
  refine x_newq C (t0 := 3) (N := 8) (lw_gm (i := 54) (by decide +kernel) rfl) ao0 rfl ⟨by decide, by decide, by decide⟩ ⟨by decide, by decide⟩ dX3_init_42 rfl (fun q4 => ?_)
  refine x_putF C (ci := 3) (q0 := 0) (fs := [.ref q1, .ref q2, .ref q3, .null, .null, .int 0, .int 0, .int 0, .int 0, .int 0, .int 0, .int 0, .int 0, .int 0, .int 0, .int 0, .int 0, .int 0]) (ws' := [(h0, .inr (3, [.ref q1, .ref q2, .ref q3, .ref q4, .null, .int 0, .int 0, .int 0, .int 0, .int 0, .int 0, .int 0, .int 0, .int 0, .int 0, .int 0, .int 0, .int 0])), (q1, .inl (aI 0, 13, .inl k_first)), (q2, .inl (aI 0, 4, .inl k_fleak)), (q3, .inl (aI 2, 6, .inr (.inr (.inr (.inr (fun _ => none)))))), (q4, .inl (aI 3, 8, .inr (.inr (.inr (.inr (fun _ => none))))))]) (fty := .array (.object RX0)) 3 tyX3 rfl hinX3 tyX3_ok nmX3 rfl (by decide) (lw_gm (i := 168) (by decide +kernel) rfl) rfl rfl (by decide +kernel) rfl rfl (Nat.le_of_ble_eq_true rfl) dX3_init_45 rfl rfl ?_
  refine x_aload C 0 dX3_init_48 rfl rfl rfl ?_
  refine x_bipush C dX3_init_49 (v := 24) (by decide) rfl ?_
  refine x_newq C (t0 := 4) (N := 24) (lw_gm (i := 56) (by decide +kernel) rfl) ao5 rfl ⟨by decide, by decide, by decide⟩ ⟨by decide, by decide⟩ dX3_init_51 rfl (fun q5 => ?_)
  refine x_putF C (ci := 3) (q0 := 0) (fs := [.ref q1, .ref q2, .ref q3, .ref q4, .null, .int 0, .int 0, .int 0, .int 0, .int 0, .int 0, .int 0, .int 0, .int 0, .int 0, .int 0, .int 0, .int 0]) (ws' := [(h0, .inr (3, [.ref q1, .ref q2, .ref q3, .ref q4, .ref q5, .int 0, .int 0, .int 0, .int 0, .int 0, .int 0, .int 0, .int 0, .int 0, .int 0, .int 0, .int 0, .int 0])), (q1, .inl (aI 0, 13, .inl k_first)), (q2, .inl (aI 0, 4, .inl k_fleak)), (q3, .inl (aI 2, 6, .inr (.inr (.inr (.inr (fun _ => none)))))), (q4, .inl (aI 3, 8, .inr (.inr (.inr (.inr (fun _ => none)))))), (q5, .inl (aI 4, 24, .inr (.inr (.inr (.inr (fun _ => none))))))]) (fty := .array (.object RX5)) 4 tyX3 rfl hinX3 tyX3_ok nmX3 rfl (by decide) (lw_gm (i := 169) (by decide +kernel) rfl) rfl rfl (by decide +kernel) rfl rfl (Nat.le_of_ble_eq_true rfl) dX3_init_54 rfl rfl ?_
  refine x_aload C 0 dX3_init_57 rfl rfl rfl ?_
  refine x_iconst C dX3_init_58 (v := -1) (by decide) rfl ?_
  refine x_put C (ci := 3) (q0 := 0) (fs := [.ref q1, .ref q2, .ref q3, .ref q4, .ref q5, .int 0, .int 0, .int 0, .int 0, .int 0, .int 0, .int 0, .int 0, .int 0, .int 0, .int 0, .int 0, .int 0]) (ws' := [(h0, .inr (3, [.ref q1, .ref q2, .ref q3, .ref q4, .ref q5, .int 0, .int 0, .int 0, .int 0, .int 0, .int 0, .int 0, .int (-1), .int 0, .int 0, .int 0, .int 0, .int 0])), (q1, .inl (aI 0, 13, .inl k_first)), (q2, .inl (aI 0, 4, .inl k_fleak)), (q3, .inl (aI 2, 6, .inr (.inr (.inr (.inr (fun _ => none)))))), (q4, .inl (aI 3, 8, .inr (.inr (.inr (.inr (fun _ => none)))))), (q5, .inl (aI 4, 24, .inr (.inr (.inr (.inr (fun _ => none))))))]) (fty := .int) 12 tyX3 rfl hinX3 tyX3_ok nmX3 rfl (by decide) (lw_gm (i := 180) (by decide +kernel) rfl) rfl (by decide +kernel) rfl rfl (Nat.le_of_ble_eq_true rfl) dX3_init_59 rfl rfl ?_
  refine x_aload C 0 dX3_init_62 rfl rfl rfl ?_
  refine x_iconst C dX3_init_63 (v := -1) (by decide) rfl ?_
  refine x_put C (ci := 3) (q0 := 0) (fs := [.ref q1, .ref q2, .ref q3, .ref q4, .ref q5, .int 0, .int 0, .int 0, .int 0, .int 0, .int 0, .int 0, .int (-1), .int 0, .int 0, .int 0, .int 0, .int 0]) (ws' := [(h0, .inr (3, [.ref q1, .ref q2, .ref q3, .ref q4, .ref q5, .int 0, .int 0, .int 0, .int 0, .int 0, .int 0, .int 0, .int (-1), .int (-1), .int 0, .int 0, .int 0, .int 0])), (q1, .inl (aI 0, 13, .inl k_first)), (q2, .inl (aI 0, 4, .inl k_fleak)), (q3, .inl (aI 2, 6, .inr (.inr (.inr (.inr (fun _ => none)))))), (q4, .inl (aI 3, 8, .inr (.inr (.inr (.inr (fun _ => none)))))), (q5, .inl (aI 4, 24, .inr (.inr (.inr (.inr (fun _ => none))))))]) (fty := .int) 13 tyX3 rfl hinX3 tyX3_ok nmX3 rfl (by decide) (lw_gm (i := 181) (by decide +kernel) rfl) rfl (by decide +kernel) rfl rfl (Nat.le_of_ble_eq_true rfl) dX3_init_64 rfl rfl ?_
  refine x_iconst C dX3_init_67 (v := 0) (by decide) rfl ?_
  refine x_istore C (lv' := [(1, .int 0), (0, .ref h0)]) dX3_init_68 rfl (by decide) rfl rfl ?_
  have L := ml_K (l := l) (e := e) (below := below) (Q := MQ below (x_q D A (pMill aI h0)) #[Value.ref h0] s x_rM.cells x_rM.slots A) (a0 := h0) C (fun ad e0 => ?_) 6 0 (fun j => if j = 0 then h0 else if j = 1 then q1 else if j = 2 then q2 else if j = 3 then q3 else if j = 4 then q4 else q5) rfl rfl
  · rw [nI_0] at L
    exact L
  · refine x_iconst C dX3_init_94 (v := 0) (by decide) rfl ?_
    refine x_istore C (lv' := [(1, .int 0), (0, .ref h0)]) dX3_init_95 rfl (by decide) rfl rfl ?_
    have L := ml_F (l := l) (e := e) (below := below) (Q := MQ below (x_q D A (pMill aI h0)) #[Value.ref h0] s x_rM.cells x_rM.slots A) (a0 := h0) C (fun ad e0 => ?_) 8 0 ad e0 rfl
    · rw [nI_0] at L
      exact L
    · refine x_iconst C dX3_init_121 (v := 0) (by decide) rfl ?_
      refine x_istore C (lv' := [(1, .int 0), (0, .ref h0)]) dX3_init_122 rfl (by decide) rfl rfl ?_
      have L := ml_S (l := l) (e := e) (below := below) (Q := MQ below (x_q D A (pMill aI h0)) #[Value.ref h0] s x_rM.cells x_rM.slots A) (a0 := h0) C (fun ad e0 => ?_) 24 0 ad e0 rfl
      · rw [nI_0] at L
        exact L
      · exact x_ret C hr dX3_init_148 ⟨ad, e0, rfl⟩
