/-! a judgement for constructors: the world grows -/
abbrev x_tys (aI : Nat → ClassId) : List (ClassId × FieldType) := [(aI 0, .int), (aI 1, .char), (aI 2, .object RX2), (aI 3, .object RX0), (aI 4, .object RX5), (aI 5, .object RX3)]
/-- an array of ints that nobody changes, exactly -/
def x_B (t N : Nat) (f : Nat → Int32) (A : Nat → Prop) (U : State) (H : Heap) : Prop := ∃ cell : Cell, H[t]? = some cell ∧ (∀ k, cell.vm ≠ .statics k) ∧ cell.vm ≠ .unknown ∧ U.vm.findClass "[I" = some cell.cls ∧ cell.slots.size = N ∧ (∀ j : Nat, j < N → cell.slots[j]? = some (.int (f j))) ∧ ¬ A t
theorem x_B.moved {t N : Nat} {f : Nat → Int32} {A : Nat → Prop} {u U : State} {H : Heap} (hvm : u.vm.Alike U.vm) (h : x_B t N f A u H) : x_B t N f A U H := by
  obtain ⟨cell, h1, h2, h3, h4, h5⟩ := h
  exact ⟨cell, h1, h2, h3, by rw [hvm.findClass]; exact h4, h5⟩
theorem x_B.kept {t N : Nat} {f : Nat → Int32} {A : Nat → Prop} {U : State} {H H1 : Heap} (h : x_B t N f A U H) (hq : ∀ a : Nat, a < H.size → ¬ A a → H1[a]? = H[a]?) : x_B t N f A U H1 := by
  obtain ⟨cell, h1, h2, h3, h4, h5, h6, h7⟩ := h
  exact ⟨cell, by rw [hq t (Array.getElem?_eq_some_iff.mp h1).1 h7]; exact h1, h2, h3, h4, h5, h6, h7⟩
theorem x_B.narrow {t N : Nat} {f : Nat → Int32} {A B : Nat → Prop} {U : State} {H : Heap} (h : x_B t N f A U H) (hAB : ∀ q, B q → A q) : x_B t N f B U H := by
  obtain ⟨cell, h1, h2, h3, h4, h5, h6, h7⟩ := h
  exact ⟨cell, h1, h2, h3, h4, h5, h6, fun z => h7 (hAB t z)⟩
def k_first : Nat → Int32 := fun j => if j = 0 then 100 else if j = 1 then 20 else if j = 2 then 100 else if j = 3 then 20 else if j = 4 then 50 else if j = 5 then 60 else if j = 6 then 10 else if j = 7 then 200 else if j = 8 then 10 else if j = 9 then 5 else if j = 10 then 10 else if j = 11 then 50 else 0
def k_fleak : Nat → Int32 := fun j => if j = 0 then 2 else if j = 1 then 1 else if j = 2 then 3 else 0
/-- the two arrays that a new mill clones -/
def x_st (A : Nat → Prop) (U : State) (H : Heap) : Prop := (∃ t : Nat, va_Z "SeaMill" "FIRST_SETTINGS" "[I" (.ref t) A U H ∧ x_B t 13 k_first A U H) ∧ ∃ t : Nat, va_Z "SeaMill" "FIRST_LEAKS" "[I" (.ref t) A U H ∧ x_B t 4 k_fleak A U H
theorem x_st.moved {A : Nat → Prop} {u U : State} {H : Heap} (hvm : u.vm.Alike U.vm) (h : x_st A u H) : x_st A U H := by
  obtain ⟨⟨t, h1, h2⟩, ⟨t', h3, h4⟩⟩ := h
  exact ⟨⟨t, h1.moved hvm, h2.moved hvm⟩, ⟨t', h3.moved hvm, h4.moved hvm⟩⟩
theorem x_st.kept {A : Nat → Prop} {U : State} {H H1 : Heap} (h : x_st A U H) (hq : ∀ a : Nat, a < H.size → ¬ A a → H1[a]? = H[a]?) : x_st A U H1 := by
  obtain ⟨⟨t, h1, h2⟩, ⟨t', h3, h4⟩⟩ := h
  exact ⟨⟨t, h1.kept hq, h2.kept hq⟩, ⟨t', h3.kept hq, h4.kept hq⟩⟩
theorem x_st.narrow {A B : Nat → Prop} {U : State} {H : Heap} (h : x_st A U H) (hAB : ∀ q, B q → A q) : x_st B U H := by
  obtain ⟨⟨t, h1, h2⟩, ⟨t', h3, h4⟩⟩ := h
  exact ⟨⟨t, h1.narrow hAB, h2.narrow hAB⟩, ⟨t', h3.narrow hAB, h4.narrow hAB⟩⟩
/-- array classes and nest links -/
def x_nw (U : State) : Prop := (va_AO RX2 U ∧ va_AO RX0 U ∧ va_AO RX5 U ∧ va_AO RX3 U) ∧ va_Nw (.castable "[I" "java/lang/Cloneable") U ∧ (va_Nw (.methodLinkNest RX3 54 yX2_init "SeaMill") U ∧ va_Nw (.methodLinkNest RX3 55 yX0_init "SeaMill") U ∧ va_Nw (.methodLinkNest RX3 56 yX5_init "SeaMill") U ∧ va_Nw (.methodLinkNest RX6 28 yX4_init "SeaMill") U) ∧ va_Nw (.fieldLinkNest RX3 9 "SeaMill" "FIRST_SETTINGS" "[I" "SeaMill") U ∧ va_Nw (.fieldLinkNest RX3 23 "SeaMill" "FIRST_LEAKS" "[I" "SeaMill") U
theorem x_nw.warm {s U : State} (hW : s.WarmedH U.vm) (h : x_nw s) : x_nw U := ⟨⟨h.1.1.moved hW.alike, h.1.2.1.moved hW.alike, h.1.2.2.1.moved hW.alike, h.1.2.2.2.moved hW.alike⟩, h.2.1.warmC hW, ⟨h.2.2.1.1.warmM hW, h.2.2.1.2.1.warmM hW, h.2.2.1.2.2.1.warmM hW, h.2.2.1.2.2.2.warmM hW⟩, h.2.2.2.1.warmF hW, h.2.2.2.2.warmF hW⟩
theorem x_nw.same {u U : State} (hW : u.vm = U.vm) (h : x_nw u) : x_nw U := ⟨⟨h.1.1.moved (hW ▸ Vm.Alike.refl u.vm), h.1.2.1.moved (hW ▸ Vm.Alike.refl u.vm), h.1.2.2.1.moved (hW ▸ Vm.Alike.refl u.vm), h.1.2.2.2.moved (hW ▸ Vm.Alike.refl u.vm)⟩, h.2.1.same rfl hW, ⟨h.2.2.1.1.same rfl hW, h.2.2.1.2.1.same rfl hW, h.2.2.1.2.2.1.same rfl hW, h.2.2.1.2.2.2.same rfl hW⟩, h.2.2.2.1.same rfl hW, h.2.2.2.2.same rfl hW⟩
def x_C (D : va_G) (aI : Nat → ClassId) (A : Nat → Prop) (p : Program) (s : State) (m : MethodId) (args : Array Value) (meth : Method) (c : Code) (cc : ByteArray) (nL : Nat) (own : String) : Prop :=
  p.tables.exec = Jvm.exec ∧ c.code = cc ∧ c.maxLocals = nL ∧ s.vm.findClass own = some m.cls ∧ meth.locks = false ∧ (∀ w ∈ lw_g, w.before args s = true) ∧ va_K D vwCl (x_tys aI) s ∧ (∀ q, s.heap.size ≤ q → A q) ∧ x_st A s s.heap ∧ x_nw s ∧ (own ≠ "SeaMillLaw" → meth.name = "<init>")
def Xm (D : va_G) (A : Nat → Prop) (Q : State → Prop) (p : Program) (l : Launch) (e : Env) (R : Room) (s : State) (m : MethodId) (args : Array Value) (below : List Frame) (meth : Method) (c : Code) (nL : Nat) (ws : va_W) (lv : List (Nat × Value)) (st : List Value) (pc nc ns : Nat) : Prop :=
  ∀ (H : Heap) (locs : List Loc) (ls : Array Slot), va_P D vwCl ws H → va_D A ws → va_S A s.heap H locs → lv_has ls nL lv → W p l e R s m args below meth c H locs nc ns Q (F0 m pc ls st)
/-- a constructor's contract: from the one cell, to the cells P -/
def x_pre (D : va_G) (aI : Nat → ClassId) (A : Nat → Prop) (ws : va_W) (sz : Nat) : State → Prop := fun U => U.heap.size = sz ∧ va_P D vwCl ws U.heap ∧ va_D (fun _ => True) ws ∧ va_K D vwCl (x_tys aI) U ∧ x_st A U U.heap ∧ x_nw U
def x_q (D : va_G) (A : Nat → Prop) (P : va_W → Prop) : Array Value → State → Outcome → State → Prop := fun _ st oc t => oc = .returned none ∧ (∃ ws1, P ws1 ∧ va_P D vwCl ws1 t.heap ∧ va_D A ws1) ∧ va_F A st t
def CX (l : Launch) (D : va_G) (aI : Nat → ClassId) (y : MethodName) (cc : ByteArray) (nL : Nat) (rm : Room) (h0 : Nat) (e0 : va_E) (P : va_W → Prop) : Prop := ∀ sz : Nat, Met l y (Cond.code y cc nL none :: lw_g) rm (va_Pc [.ref h0] (x_pre D aI (va_A [(h0, e0)] sz) [(h0, e0)] sz)) (x_q D (va_A [(h0, e0)] sz) P) rm.cells rm.slots (va_A [(h0, e0)] sz)
theorem x_join {A0 : Nat → Prop} {D : va_G} {cl : List vw_C} {ws w1 : va_W} {cx : Nat × va_E} {H H1 : Heap} (hP : va_P D cl (ws ++ [cx]) H) (hD : va_D A0 (ws ++ [cx])) (hA : ∀ q, va_A [cx] H.size q → A0 q) (hk : ∀ a : Nat, a < H.size → ¬ va_A [cx] H.size a → H1[a]? = H[a]?) (hP1 : va_P D cl w1 H1) (hD1 : va_D (va_A [cx] H.size) w1) : va_P D cl (ws ++ w1) H1 ∧ va_D A0 (ws ++ w1) := by
  have hin : ∀ (k : Nat) (q : Nat × va_E), ws[k]? = some q → (ws ++ [cx])[k]? = some q := fun k q hq => by rw [List.getElem?_append_left (List.getElem?_eq_some_iff.mp hq).1]; exact hq
  have hlast : (ws ++ [cx])[ws.length]? = some cx := by simp
  have hne : ∀ (k : Nat) (q : Nat × va_E), ws[k]? = some q → ¬ va_A [cx] H.size q.1 := by
    intro k q hq z
    rcases z with ⟨k', e', hk'⟩ | z
    · have hz : k' = 0 := by
        have := (List.getElem?_eq_some_iff.mp hk').1
        simp at this
        exact this
      subst hz
      have hc : cx = (q.1, e') := Option.some.inj hk'
      have := hD.1 k ws.length q cx (hin k q hq) hlast (by rw [hc])
      have h2 := (List.getElem?_eq_some_iff.mp hq).1
      omega
    · have := (hP k q (hin k q hq)).lt
      omega
  have hPs : va_P D cl ws H1 := fun k q hq => (hP k q (hin k q hq)).kept (hk q.1 ((hP k q (hin k q hq)).lt) (hne k q hq))
  have hDs : va_D A0 ws := ⟨fun i j a b ha hb => hD.1 i j a b (hin i a ha) (hin j b hb), fun k q hq => hD.2 k q (hin k q hq)⟩
  refine ⟨hPs.app hP1, hDs.app (hD1.weaken (fun k q _ hq => hA q.1 hq)) (fun i j a b ha hb z => ?_)⟩
  exact hne i a ha (by rw [z]; exact hD1.2 j b hb)

section XC
variable {p : Program} {l : Launch} {e : Env} {R : Room} {s : State} {m : MethodId} {args : Array Value} {below : List Frame} {meth : Method} {c : Code} {cc : ByteArray} {nL : Nat} {own : String} {D : va_G} {aI : Nat → ClassId} {A : Nat → Prop} {Q : State → Prop} {ws ws' : va_W} {lv : List (Nat × Value)} {st : List Value} {pc pc' nc ns : Nat}

theorem x_iconst (C : x_C D aI A p s m args meth c cc nL own) {n : Int} {v : Int32} (hd : decode cc pc = .ok (.iconst n, 1)) (hv : Int32.ofInt n = v) (hpc : pc + 1 = pc') (k : Xm D A Q p l e R s m args below meth c nL ws lv (.int v :: st) pc' nc ns) : Xm D A Q p l e R s m args below meth c nL ws lv st pc nc ns := by
  subst hpc
  intro H locs ls hP hD hS hl
  exact lv_iconst C.1 C.2.1 hd hv (k H locs ls hP hD hS hl)
theorem x_bipush (C : x_C D aI A p s m args meth c cc nL own) {n : Int} {v : Int32} (hd : decode cc pc = .ok (.bipush n, 2)) (hv : (Int8.ofInt n).toInt32 = v) (hpc : pc + 2 = pc') (k : Xm D A Q p l e R s m args below meth c nL ws lv (.int v :: st) pc' nc ns) : Xm D A Q p l e R s m args below meth c nL ws lv st pc nc ns := by
  subst hpc
  intro H locs ls hP hD hS hl
  exact lv_bipush C.1 C.2.1 hd hv (k H locs ls hP hD hS hl)
theorem x_sipush (C : x_C D aI A p s m args meth c cc nL own) {n : Int} {v : Int32} (hd : decode cc pc = .ok (.sipush n, 3)) (hv : (Int16.ofInt n).toInt32 = v) (hpc : pc + 3 = pc') (k : Xm D A Q p l e R s m args below meth c nL ws lv (.int v :: st) pc' nc ns) : Xm D A Q p l e R s m args below meth c nL ws lv st pc nc ns := by
  subst hpc
  intro H locs ls hP hD hS hl
  exact lv_sipush C.1 C.2.1 hd hv (k H locs ls hP hD hS hl)
theorem x_aload (C : x_C D aI A p s m args meth c cc nL own) {k0 : Fin 4} {i : Nat} {v : Nat} (q : Nat) (hd : decode cc pc = .ok (.aload_n k0, 1)) (hi : (k0 : Nat) = i) (hq : lv[q]? = some (i, .ref v)) (hpc : pc + 1 = pc') (k : Xm D A Q p l e R s m args below meth c nL ws lv (.ref v :: st) pc' nc ns) : Xm D A Q p l e R s m args below meth c nL ws lv st pc nc ns := by
  subst hpc
  intro H locs ls hP hD hS hl
  exact lv_aload_n C.1 C.2.1 hd hi (lv_at hl q hq) (k H locs ls hP hD hS hl)
theorem x_iload (C : x_C D aI A p s m args meth c cc nL own) {k0 : Fin 4} {i : Nat} {v : Int32} (q : Nat) (hd : decode cc pc = .ok (.iload_n k0, 1)) (hi : (k0 : Nat) = i) (hq : lv[q]? = some (i, .int v)) (hpc : pc + 1 = pc') (k : Xm D A Q p l e R s m args below meth c nL ws lv (.int v :: st) pc' nc ns) : Xm D A Q p l e R s m args below meth c nL ws lv st pc nc ns := by
  subst hpc
  intro H locs ls hP hD hS hl
  exact lv_iload_n C.1 C.2.1 hd hi (lv_at hl q hq) (k H locs ls hP hD hS hl)
theorem x_istore (C : x_C D aI A p s m args meth c cc nL own) {k0 : Fin 4} {i : Nat} {v : Int32} {lv' : List (Nat × Value)} (hd : decode cc pc = .ok (.istore_n k0, 1)) (hi : (k0 : Nat) = i) (hn : i < nL) (hl' : (i, Value.int v) :: lv.filter (fun q => !(q.1 == i) && !(q.1 + 1 == i && q.2.category == 2)) = lv') (hpc : pc + 1 = pc') (k : Xm D A Q p l e R s m args below meth c nL ws lv' st pc' nc ns) : Xm D A Q p l e R s m args below meth c nL ws lv (.int v :: st) pc nc ns := by
  subst hpc
  intro H locs ls hP hD hS hl
  exact lv_istore_n C.1 C.2.1 hd hi hl hn hl' (fun ls hl => (k H locs ls hP hD hS hl))
theorem x_iinc (C : x_C D aI A p s m args meth c cc nL own) {i q : Nat} {n : Int} {a v : Int32} {lv' : List (Nat × Value)} (hd : decode cc pc = .ok (.iinc i n, 3)) (hq : lv[q]? = some (i, .int a)) (hv : a + Int32.ofInt n = v) (hn : i < nL) (hpc : pc + 3 = pc') (hl' : (i, Value.int v) :: lv.filter (fun q => !(q.1 == i) && !(q.1 + 1 == i && q.2.category == 2)) = lv') (k : Xm D A Q p l e R s m args below meth c nL ws lv' st pc' nc ns) : Xm D A Q p l e R s m args below meth c nL ws lv st pc nc ns := by
  subst hpc
  intro H locs ls hP hD hS hl
  exact lv_iinc C.1 C.2.1 hd hl hq hv hn hl' (fun ls hl => (k H locs ls hP hD hS hl))
theorem x_dup (C : x_C D aI A p s m args meth c cc nL own) {a : Nat} (hd : decode cc pc = .ok (.dup, 1)) (hpc : pc + 1 = pc') (k : Xm D A Q p l e R s m args below meth c nL ws lv (.ref a :: .ref a :: st) pc' nc ns) : Xm D A Q p l e R s m args below meth c nL ws lv (.ref a :: st) pc nc ns := by
  subst hpc
  intro H locs ls hP hD hS hl
  exact lv_dup C.1 C.2.1 hd rfl (k H locs ls hP hD hS hl)
theorem x_goto (C : x_C D aI A p s m args meth c cc nL own) {off : Int} {tgt : Nat} (hd : decode cc pc = .ok (.goto off, 3)) (ht : (pc : Int) + off = tgt) (k : Xm D A Q p l e R s m args below meth c nL ws lv st tgt nc ns) : Xm D A Q p l e R s m args below meth c nL ws lv st pc nc ns := by
  intro H locs ls hP hD hS hl
  exact lv_goto (tgt := tgt) C.1 C.2.1 hd ht (k H locs ls hP hD hS hl)
theorem x_ic_ge (C : x_C D aI A p s m args meth c cc nL own) {a b : Int32} {off : Int} {tgt : Nat} (hd : decode cc pc = .ok (.if_icmp .ge off, 3)) (ht : (pc : Int) + off = tgt) (hpc : pc + 3 = pc') (k1 : b ≤ a → Xm D A Q p l e R s m args below meth c nL ws lv st tgt nc ns) (k2 : ¬ b ≤ a → Xm D A Q p l e R s m args below meth c nL ws lv st pc' nc ns) : Xm D A Q p l e R s m args below meth c nL ws lv (.int b :: .int a :: st) pc nc ns := by
  subst hpc
  intro H locs ls hP hD hS hl
  exact lv_icmp_ge (tgt := tgt) C.1 C.2.1 hd ht (fun h => k1 h H locs ls hP hD hS hl) (fun h => k2 h H locs ls hP hD hS hl)
theorem x_ic_gt (C : x_C D aI A p s m args meth c cc nL own) {a b : Int32} {off : Int} {tgt : Nat} (hd : decode cc pc = .ok (.if_icmp .gt off, 3)) (ht : (pc : Int) + off = tgt) (hpc : pc + 3 = pc') (k1 : b < a → Xm D A Q p l e R s m args below meth c nL ws lv st tgt nc ns) (k2 : ¬ b < a → Xm D A Q p l e R s m args below meth c nL ws lv st pc' nc ns) : Xm D A Q p l e R s m args below meth c nL ws lv (.int b :: .int a :: st) pc nc ns := by
  subst hpc
  intro H locs ls hP hD hS hl
  exact lv_icmp_gt (tgt := tgt) C.1 C.2.1 hd ht (fun h => k1 h H locs ls hP hD hS hl) (fun h => k2 h H locs ls hP hD hS hl)
theorem x_obj (C : x_C D aI A p s m args meth c cc nL own) {idx a : Nat} (hlk : Cond.methodLink own idx Lib.objectInit ∈ lw_g) (hi : Cond.instanceMethod Lib.objectInit ∈ lw_g) (hc : Cond.code Lib.objectInit ⟨#[0xb1]⟩ 1 none ∈ lw_g) (hd : decode cc pc = .ok (.invokespecial idx, 3)) (hR : 1 ≤ R.frames ∧ (st.map fun v => v.category).sum + 12 ≤ R.locals) (hpc : pc + 3 = pc') (k : Xm D A Q p l e R s m args below meth c nL ws lv st pc' nc ns) : Xm D A Q p l e R s m args below meth c nL ws lv (.ref a :: st) pc nc ns := by
  subst hpc
  intro H locs ls hP hD hS hl
  refine W.objInit C.1 C.2.1 C.2.2.2.1 (C.2.2.2.2.2.1 _ hlk) (C.2.2.2.2.2.1 _ hi) (C.2.2.2.2.2.1 _ hc) rfl (by rw [C.2.2.1]; exact hl.1) rfl hd hR.1 (by show 2 * 0 + _ + 12 ≤ _; omega) ?_
  exact W.eq (g2 := F0 m (pc + 3) ls st) rfl (k H locs ls hP hD hS hl)
theorem x_new (C : x_C D aI A p s m args meth c cc nL own) {idx ci N : Nat} {Cn : String} {T : u_T} {fs : List Value} (ty : Nat → FieldType) (hc : vwCl[ci]? = some (Cn, T, N)) (hin : ∀ w ∈ u_ws Cn T N, w ∈ lw_g) (hty : ∀ k, k < N → parseFieldDescriptor (T k).2.2.1 = some (ty k)) (hcl : Cond.classLink own idx Cn ∈ lw_g) (hinst : Cond.instantiable Cn N ∈ lw_g) (hini : Cond.initialized Cn ∈ lw_g) (hfs : ∀ j, j < N → defaultValue (ty j) = vp_V fs j) (hR : nc + 1 ≤ R.cells ∧ ns + N ≤ R.slots) (hd : decode cc pc = .ok (.new idx, 3)) (hpc : pc + 3 = pc') (k : ∀ q : Nat, Xm D A Q p l e R s m args below meth c nL (ws ++ [(q, .inr (ci, fs))]) lv (.ref q :: st) pc' (nc + 1) (ns + N)) : Xm D A Q p l e R s m args below meth c nL ws lv st pc nc ns := by
  subst hpc
  intro H locs ls hP hD hS hl
  exact va_new C.1 C.2.1 C.2.2.2.2.2.1 hin ty hty C.2.2.2.1 (C.2.2.2.2.2.1 _ hcl) (C.2.2.2.2.2.1 _ hinst) (C.2.2.2.2.2.1 _ hini) C.2.2.2.2.2.2.1 hP hD hS C.2.2.2.2.2.2.2.1 hc hfs hR.1 hR.2 hd (fun q H1 hP1 hD1 hS1 => k q H1 locs ls hP1 hD1 hS1 hl)
theorem x_putF (C : x_C D aI A p s m args meth c cc nL own) {idx ci N q0 a : Nat} {Cn : String} {T : u_T} {fs : List Value} {v : Value} {fty : FieldType} (kk : Nat) (ty : Nat → FieldType) (hc : vwCl[ci]? = some (Cn, T, N)) (hin : ∀ w ∈ u_ws Cn T N, w ∈ lw_g) (hty : ∀ k, k < N → parseFieldDescriptor (T k).2.2.1 = some (ty k)) (hnm : ∀ a, a < N → ∀ b, b < N → a ≠ b → (T a).2.1 ≠ (T b).2.1) (he : ws[q0]? = some (a, .inr (ci, fs))) (hk : kk < N) (hlk : Cond.fieldLink own idx (T kk).1 (T kk).2.1 (T kk).2.2.1 ∈ lw_g) (hfin : (T kk).2.2.2 = true) (hdecl : (T kk).1 = own) (hd2 : parseFieldDescriptor (T kk).2.2.1 = some fty) (hn : narrow fty v = v) (hfit : fits fty v = true) (hlen : kk < fs.length) (hd : decode cc pc = .ok (.putfield idx, 3)) (hws : ws.set q0 (a, .inr (ci, fs.set kk v)) = ws') (hpc : pc + 3 = pc') (k : Xm D A Q p l e R s m args below meth c nL ws' lv st pc' nc ns) (hne : own ≠ "SeaMillLaw" := by decide +kernel) : Xm D A Q p l e R s m args below meth c nL ws lv (v :: .ref a :: st) pc nc ns := by
  subst hpc
  subst hws
  intro H locs ls hP hD hS hl
  exact va_putF C.1 C.2.1 C.2.2.2.2.2.1 hin ty hty hnm C.2.2.2.1 C.2.2.2.2.2.2.1 hP hD hS q0 he hc kk hk (C.2.2.2.2.2.1 _ hlk) (fun _ h => h) hfin (C.2.2.2.2.2.2.2.2.2.2 hne) hdecl hd2 hn hfit hlen hd (fun H1 locs1 hP1 hD1 hS1 => k H1 locs1 ls hP1 hD1 hS1 hl)
theorem x_put (C : x_C D aI A p s m args meth c cc nL own) {idx ci N q0 a : Nat} {Cn : String} {T : u_T} {fs : List Value} {v : Value} {fty : FieldType} (kk : Nat) (ty : Nat → FieldType) (hc : vwCl[ci]? = some (Cn, T, N)) (hin : ∀ w ∈ u_ws Cn T N, w ∈ lw_g) (hty : ∀ k, k < N → parseFieldDescriptor (T k).2.2.1 = some (ty k)) (hnm : ∀ a, a < N → ∀ b, b < N → a ≠ b → (T a).2.1 ≠ (T b).2.1) (he : ws[q0]? = some (a, .inr (ci, fs))) (hk : kk < N) (hlk : Cond.fieldLink own idx (T kk).1 (T kk).2.1 (T kk).2.2.1 ∈ lw_g) (hfin : (T kk).2.2.2 = false) (hd2 : parseFieldDescriptor (T kk).2.2.1 = some fty) (hn : narrow fty v = v) (hfit : fits fty v = true) (hlen : kk < fs.length) (hd : decode cc pc = .ok (.putfield idx, 3)) (hws : ws.set q0 (a, .inr (ci, fs.set kk v)) = ws') (hpc : pc + 3 = pc') (k : Xm D A Q p l e R s m args below meth c nL ws' lv st pc' nc ns) : Xm D A Q p l e R s m args below meth c nL ws lv (v :: .ref a :: st) pc nc ns := by
  subst hpc
  subst hws
  intro H locs ls hP hD hS hl
  exact va_put C.1 C.2.1 C.2.2.2.2.2.1 hin ty hty hnm C.2.2.2.1 C.2.2.2.2.2.2.1 hP hD hS q0 he hc kk hk (C.2.2.2.2.2.1 _ hlk) (fun _ h => h) hfin hd2 hn hfit hlen hd (fun H1 locs1 hP1 hD1 hS1 => k H1 locs1 ls hP1 hD1 hS1 hl)
theorem x_get (C : x_C D aI A p s m args meth c cc nL own) {idx ci N q0 a : Nat} {Cn : String} {T : u_T} {fs : List Value} {v : Value} (kk : Nat) (hc : vwCl[ci]? = some (Cn, T, N)) (hin : ∀ w ∈ u_ws Cn T N, w ∈ lw_g) (he : ws[q0]? = some (a, .inr (ci, fs))) (hk : kk < N) (hlk : Cond.fieldLink own idx (T kk).1 (T kk).2.1 (T kk).2.2.1 ∈ lw_g) (hv : fs[kk]? = some v) (hd : decode cc pc = .ok (.getfield idx, 3)) (hpc : pc + 3 = pc') (k : Xm D A Q p l e R s m args below meth c nL ws lv (v :: st) pc' nc ns) : Xm D A Q p l e R s m args below meth c nL ws lv (.ref a :: st) pc nc ns := by
  subst hpc
  intro H locs ls hP hD hS hl
  exact va_get C.1 C.2.1 C.2.2.2.2.2.1 hin C.2.2.2.1 C.2.2.2.2.2.2.1 hP q0 he hc kk hk (C.2.2.2.2.2.1 _ hlk) (fun _ h => h) hv hd (k H locs ls hP hD hS hl)
theorem x_newq (C : x_C D aI A p s m args meth c cc nL own) {idx N t0 : Nat} {Cn : String} {cA : ClassId} {n : Int32} (hcl : Cond.classLink own idx Cn ∈ lw_g) (hao : va_AO Cn s) (ht : (x_tys aI)[t0]? = some (cA, .object Cn)) (hn : ¬ n < 0 ∧ n.toNatClampNeg = N ∧ N * 4 ≤ 536870912) (hR : nc + 1 ≤ R.cells ∧ ns + N ≤ R.slots) (hd : decode cc pc = .ok (.anewarray idx, 3)) (hpc : pc + 3 = pc') (k : ∀ q : Nat, Xm D A Q p l e R s m args below meth c nL (ws ++ [(q, .inl (cA, N, .inr (.inr (.inr (.inr (fun _ => none))))))]) lv (.ref q :: st) pc' (nc + 1) (ns + N)) : Xm D A Q p l e R s m args below meth c nL ws lv (.int n :: st) pc nc ns := by
  subst hpc
  intro H locs ls hP hD hS hl
  refine va_newq C.1 C.2.1 C.2.2.2.1 (C.2.2.2.2.2.1 _ hcl) hao C.2.2.2.2.2.2.1 hP hD hS C.2.2.2.2.2.2.2.1 hn.1 hn.2.1 hn.2.2 hR.1 hR.2 hd (fun q cB H1 hK1 hP1 hD1 hS1 => ?_)
  have h1 := (hK1.2 (x_tys aI).length (cB, .object Cn) (by simp)).2
  have h2 := (C.2.2.2.2.2.2.1.2 t0 _ ht).2
  obtain ⟨_, _, _, _, _, h3⟩ := h1
  obtain ⟨_, _, _, _, _, h4⟩ := h2
  have h5 : cB = cA := Option.some.inj (h3.symm.trans h4)
  subst h5
  exact k q H1 locs ls hP1 hD1 hS1 hl
theorem x_newi (C : x_C D aI A p s m args meth c cc nL own) {N : Nat} {n : Int32} (harr : Cond.arrayClass .int ∈ lw_g) (hn : ¬ n < 0 ∧ n.toNatClampNeg = N ∧ N * 4 ≤ 536870912) (hR : nc + 1 ≤ R.cells ∧ ns + N ≤ R.slots) (hd : decode cc pc = .ok (.newarray .int, 2)) (hpc : pc + 2 = pc') (k : ∀ q : Nat, Xm D A Q p l e R s m args below meth c nL (ws ++ [(q, .inl (aI 0, N, .inl (fun _ => 0)))]) lv (.ref q :: st) pc' (nc + 1) (ns + N)) : Xm D A Q p l e R s m args below meth c nL ws lv (.int n :: st) pc nc ns := by
  subst hpc
  intro H locs ls hP hD hS hl
  refine va_newa (atype := .int) (ty := .int) (a0 := (N, .inl (fun _ => 0))) C.1 C.2.1 (C.2.2.2.2.2.1 _ harr) rfl C.2.2.2.2.2.2.1 hP hD hS C.2.2.2.2.2.2.2.1 (fun _ => rfl) hn.1 hn.2.1 hn.2.2 hR.1 hR.2 hd (fun q cB H1 hK1 hP1 hD1 hS1 => ?_)
  have h1 : va_RA s cB .int := (hK1.2 (x_tys aI).length (cB, .int) (by simp)).2
  have h2 : va_RA s (aI 0) .int := (C.2.2.2.2.2.2.1.2 0 _ rfl).2
  have h5 : cB = aI 0 := Option.some.inj ((va_nm_int h1).symm.trans (va_nm_int h2))
  subst h5
  exact k q H1 locs ls hP1 hD1 hS1 hl
theorem x_newc (C : x_C D aI A p s m args meth c cc nL own) {N : Nat} {n : Int32} (harr : Cond.arrayClass .char ∈ lw_g) (hn : ¬ n < 0 ∧ n.toNatClampNeg = N ∧ N * 2 ≤ 536870912) (hR : nc + 1 ≤ R.cells ∧ ns + N ≤ R.slots) (hd : decode cc pc = .ok (.newarray .char, 2)) (hpc : pc + 2 = pc') (k : ∀ q : Nat, Xm D A Q p l e R s m args below meth c nL (ws ++ [(q, .inl (aI 1, N, .inl (fun _ => 0)))]) lv (.ref q :: st) pc' (nc + 1) (ns + N)) : Xm D A Q p l e R s m args below meth c nL ws lv (.int n :: st) pc nc ns := by
  subst hpc
  intro H locs ls hP hD hS hl
  refine va_newa (atype := .char) (ty := .char) (a0 := (N, .inl (fun _ => 0))) C.1 C.2.1 (C.2.2.2.2.2.1 _ harr) rfl C.2.2.2.2.2.2.1 hP hD hS C.2.2.2.2.2.2.2.1 (fun _ => rfl) hn.1 hn.2.1 hn.2.2 hR.1 hR.2 hd (fun q cB H1 hK1 hP1 hD1 hS1 => ?_)
  have h1 : va_RA s cB .char := (hK1.2 (x_tys aI).length (cB, .char) (by simp)).2
  have h2 : va_RA s (aI 1) .char := (C.2.2.2.2.2.2.1.2 1 _ rfl).2
  have h5 : cB = aI 1 := Option.some.inj ((va_nm_char h1).symm.trans (va_nm_char h2))
  subst h5
  exact k q H1 locs ls hP1 hD1 hS1 hl
theorem x_astq (C : x_C D aI A p s m args meth c cc nL own) {q0 t0 qk ci a n v i0 : Nat} {cA : ClassId} {r : vw_C} {vs : List Value} {f : Nat → Option Nat} {i : Int32} (ha : ws[q0]? = some (a, .inl (cA, n, .inr (.inr (.inr (.inr f)))))) (ht : (x_tys aI)[t0]? = some (cA, .object r.1)) (hv : ws[qk]? = some (v, .inr (ci, vs))) (hc : vwCl[ci]? = some r) (hi : ¬ i < 0 ∧ i.toNatClampNeg < n) (hi0 : i.toNatClampNeg = i0) (hd : decode cc pc = .ok (.aastore, 1)) (hws : ws.set q0 (a, .inl (cA, n, .inr (.inr (.inr (.inr (va_up f i0 (some v))))))) = ws') (hpc : pc + 1 = pc') (k : Xm D A Q p l e R s m args below meth c nL ws' lv st pc' nc ns) : Xm D A Q p l e R s m args below meth c nL ws lv (.ref v :: .int i :: .ref a :: st) pc nc ns := by
  subst hpc
  subst hi0
  subst hws
  intro H locs ls hP hD hS hl
  exact va_astq C.1 C.2.1 C.2.2.2.2.2.2.1 hP hD hS q0 t0 qk ci ha ht hv hc (k_inb hi) hd (fun H1 locs1 hP1 hD1 hS1 => k H1 locs1 ls hP1 hD1 hS1 hl)
theorem x_iast (C : x_C D aI A p s m args meth c cc nL own) {q0 a n i0 : Nat} {f : Nat → Int32} {i v : Int32} (ha : ws[q0]? = some (a, .inl (aI 0, n, .inl f))) (hi : ¬ i < 0 ∧ i.toNatClampNeg < n) (hi0 : i.toNatClampNeg = i0) (hd : decode cc pc = .ok (.iastore, 1)) (hws : ws.set q0 (a, .inl (aI 0, n, .inl (upd f i0 v))) = ws') (hpc : pc + 1 = pc') (k : Xm D A Q p l e R s m args below meth c nL ws' lv st pc' nc ns) : Xm D A Q p l e R s m args below meth c nL ws lv (.int v :: .int i :: .ref a :: st) pc nc ns := by
  subst hpc
  subst hi0
  subst hws
  intro H locs ls hP hD hS hl
  exact va_iast C.1 C.2.1 C.2.2.2.2.2.2.1 hP hD hS q0 0 ha rfl (k_inb hi) hd (fun H1 locs1 hP1 hD1 hS1 => k H1 locs1 ls hP1 hD1 hS1 hl)
theorem x_gets (C : x_C D aI A p s m args meth c cc nL own) {n host : String} {idx t : Nat} (hZ : va_Z "SeaMill" n "[I" (.ref t) A s s.heap) (hlk : va_Nw (.fieldLinkNest own idx "SeaMill" n "[I" host) s) (hd : decode cc pc = .ok (.getstatic idx, 3)) (hpc : pc + 3 = pc') (k : Xm D A Q p l e R s m args below meth c nL ws lv (.ref t :: st) pc' nc ns) : Xm D A Q p l e R s m args below meth c nL ws lv st pc nc ns := by
  subst hpc
  intro H locs ls hP hD hS hl
  exact va_getsN C.1 C.2.1 hZ hS C.2.2.2.1 (va_Nw.use rfl hlk) (fun _ h => h) hd (k H locs ls hP hD hS hl)
theorem x_castA (C : x_C D aI A p s m args meth c cc nL own) {idx q0 a n : Nat} {f : Nat → Int32} (hlk : Cond.classLink own idx "[I" ∈ lw_g) (ha : ws[q0]? = some (a, .inl (aI 0, n, .inl f))) (hd : decode cc pc = .ok (.checkcast idx, 3)) (hpc : pc + 3 = pc') (k : Xm D A Q p l e R s m args below meth c nL ws lv (.ref a :: st) pc' nc ns) : Xm D A Q p l e R s m args below meth c nL ws lv (.ref a :: st) pc nc ns := by
  subst hpc
  intro H locs ls hP hD hS hl
  exact va_castA C.1 C.2.1 C.2.2.2.1 (C.2.2.2.2.2.1 _ hlk) hP q0 ha (va_nm_int (C.2.2.2.2.2.2.1.2 0 _ rfl).2) hd (k H locs ls hP hD hS hl)
def x_cl : MethodName := ⟨"[I", "clone", "()Ljava/lang/Object;"⟩
def x_clO : MethodName := ⟨"java/lang/Object", "clone", "()Ljava/lang/Object;"⟩
theorem x_clone (C : x_C D aI A p s m args meth c cc nL own) {idx t N : Nat} {f : Nat → Int32} (hB : x_B t N f A s s.heap) (hlk : Cond.methodLink own idx x_cl ∈ lw_g) (hsame : Cond.sameMethod "[I" "java/lang/Object" "clone" "()Ljava/lang/Object;" ∈ lw_g) (hnat : Cond.native x_clO ∈ lw_g) (hinst : Cond.instanceMethod x_clO ∈ lw_g) (hsel : Cond.selects "[I" x_cl x_clO ∈ lw_g) (hR : 1 ≤ R.frames ∧ (st.map fun v => v.category).sum + 14 ≤ R.locals ∧ nc + 1 ≤ R.cells ∧ ns + N ≤ R.slots) (hd : decode cc pc = .ok (.invokevirtual idx, 3)) (hpc : pc + 3 = pc') (k : ∀ q : Nat, Xm D A Q p l e R s m args below meth c nL (ws ++ [(q, .inl (aI 0, N, .inl f))]) lv (.ref q :: st) pc' (nc + 1) (ns + N)) : Xm D A Q p l e R s m args below meth c nL ws lv (.ref t :: st) pc nc ns := by
  subst hpc
  intro H locs ls hP hD hS hl
  obtain ⟨hexec, hb, hml, hown, -, hts, hK, hA, -, hnw, -⟩ := id C
  obtain ⟨cell, g1, g2, g3, g4, g5, g6, g7⟩ := hB
  have hnm : s.vm.findClass "[I" = some (aI 0) := va_nm_int (hK.2 0 _ rfl).2
  have ecl : cell.cls = aI 0 := Option.some.inj (g4.symm.trans hnm)
  have hcellH : H[t]? = some cell := by rw [hS.2.1 t (Array.getElem?_eq_some_iff.mp g1).1 g7]; exact g1
  have hcellE : ({ cls := cell.cls, slots := cell.slots } : Cell) = arrV (aI 0) N (fun j => .int (f j)) := by
    rw [ecl]
    unfold arrV
    congr 1
    apply Array.ext_getElem?
    intro j
    by_cases hj : j < N
    · rw [g6 j hj]
      have := arrV_read (aI 0) (fun j => Value.int (f j)) hj
      exact this.symm
    · rw [Array.getElem?_eq_none (by omega), Array.getElem?_eq_none (by simp; omega)]
  obtain ⟨c0, t0', f1, f2, f3⟩ := Cond.castable_spec (va_Nw.use (A := args) rfl hnw.2.1)
  cases g4.symm.trans f1
  intro T hT X
  have hcellT : T.heap[t]? = some cell := by rw [hT]; exact hcellH
  obtain ⟨-, kA, hkA, comp, hkind⟩ := State.isArrayOf_alike X.warmed.alike ((hK.2 0 _ rfl).1 0 (fun _ => .null))
  obtain ⟨-, kS, hkS, compS, hkindS⟩ := (hK.2 0 _ rfl).1 0 (fun _ => .null)
  have hkA : T.vm.classes[aI 0]? = some kA := hkA
  have hkS : s.vm.classes[aI 0]? = some kS := hkS
  obtain ⟨vm', X', stp⟩ := X.cloneArray hexec hown (hts _ hlk) (hts _ hsame) (hts _ hnat) (hts _ hinst) (hts _ hsel) (a := t) (cell := cell) hcellT g2 g3 g4 f2 f3
    (fun i v hv => by
      have hi : i < N := by
        have := (Array.getElem?_eq_some_iff.mp hv).1
        omega
      have hv2 := g6 i hi
      rw [hv] at hv2
      cases hv2
      rw [ecl]
      simp [State.fitsSlot, State.slotType?, hkA, hkind]
      rfl)
    (g := F0 m pc ls (.ref t :: st)) rfl (by rw [hml]; exact hl.1) rfl (by rw [hb]; exact hd) hR.1 (by show 2 * 0 + _ + 14 ≤ _; omega) hR.2.2.1 (by rw [g5]; exact hR.2.2.2) (hloader := by rw [ecl]; exact Vm.clonesLoader_of_array hkS hkindS)
  rw [hcellE, g5] at X'
  generalize hH1 : H.push (arrV (aI 0) N (fun j => .int (f j))) = H1
  have z1 : H1.size = H.size + 1 := by rw [← hH1, Array.size_push]
  have e1 : H1[H.size]? = some (arrV (aI 0) N (fun j => .int (f j))) := by rw [← hH1, Array.getElem?_push_size]
  have o1 : ∀ q : Nat, q < H.size → H1[q]? = H[q]? := fun q hq => by rw [← hH1, Array.getElem?_push, if_neg (Nat.ne_of_lt hq)]
  have hk : ∀ (k : Nat) (y : Nat × va_E), ws[k]? = some y → H1[y.1]? = H[y.1]? := fun k y hy => o1 y.1 ((hP k y hy).lt)
  obtain ⟨t', b1, b2⟩ := k H.size H1 locs ls ((hP.kept hk).app (fun k y hy => by
      have hz : k < 1 := (List.getElem?_eq_some_iff.mp hy).1
      rw [show k = 0 by omega] at hy
      cases hy
      exact e1)) (hD.push hP rfl (hA _ hS.1)) ⟨Nat.le_trans hS.1 (by omega), fun y h1 h2 => (o1 y (Nat.lt_of_lt_of_le h1 hS.1)).trans (hS.2.1 y h1 h2), hS.2.2⟩ hl
    ((T.setVm vm').pushCell (arrV (aI 0) N (fun j => .int (f j)))) (by rw [← hH1, ← hT]; rfl) X'
  refine ⟨t', stp t' ?_, b2⟩
  rw [hcellE, hT]
  exact b1
theorem x_ret (C : x_C D aI A p s m args meth c cc nL own) {P : va_W → Prop} (hr : meth.sig.returnType = none) (hd : decode cc pc = .ok (.return_, 1)) (hP0 : P ws) : Xm D A (MQ below (x_q D A P) args s nc ns A) p l e R s m args below meth c nL ws lv [] pc nc ns := by
  intro H locs ls hP hD hS hl
  exact W.vret C.1 C.2.1 hr (fun t ht hW => ⟨rfl, ⟨ws, hP0, by rw [ht]; exact hP, hD⟩, hS.F ht⟩) hS.2.2 hd C.2.2.2.2.1
/-- a call of a constructor on the newest cell -/
theorem x_pre.blind {cx : Nat × va_E} {As : List Value} {A1 : Nat → Prop} {sz : Nat} : FrameBlind (va_Pc As (x_pre D aI A1 [cx] sz)) := fun a U g mk q => ⟨q.1, q.2.1, q.2.2.1, q.2.2.2.1, va_K.moved (u := U) (U := U.calling g mk a) (Vm.Alike.refl U.vm) q.2.2.2.2.1, x_st.moved (u := U) (U := U.calling g mk a) (Vm.Alike.refl U.vm) q.2.2.2.2.2.1, x_nw.same (u := U) (U := U.calling g mk a) rfl q.2.2.2.2.2.2⟩
theorem x_last {cx : Nat × va_E} : (ws ++ [cx])[ws.length]? = some cx := by simp
theorem x_go (C : x_C D aI A p s m args meth c cc nL own) {h0 : Nat} {e0 : va_E} {H : Heap} {locs : List Loc} (hP : va_P D vwCl (ws ++ [(h0, e0)]) H) (hD : va_D A (ws ++ [(h0, e0)])) (hS : va_S A s.heap H locs) {U : State} (hU : U.heap = H) (hW : s.WarmedH U.vm) : x_pre D aI (va_A [(h0, e0)] H.size) [(h0, e0)] H.size U := by
  have hAA : ∀ q, va_A [(h0, e0)] H.size q → A q := by
    rintro q (⟨k, e', hk⟩ | z)
    · have hz : k = 0 := by
        have := (List.getElem?_eq_some_iff.mp hk).1
        simp at this
        exact this
      subst hz
      cases hk
      exact hD.2 _ _ x_last
    · exact C.2.2.2.2.2.2.2.1 q (Nat.le_trans hS.1 z)
  refine ⟨by rw [hU], fun k q hk => ?_, ⟨fun i j a b hi hj _ => ?_, fun _ _ _ => trivial⟩, va_K.moved hW.alike C.2.2.2.2.2.2.1, ?_, C.2.2.2.2.2.2.2.2.2.1.warm hW⟩
  · have hz : k = 0 := by
      have := (List.getElem?_eq_some_iff.mp hk).1
      simp at this
      exact this
    subst hz
    cases hk
    rw [hU]
    exact hP _ _ x_last
  · have h1 := (List.getElem?_eq_some_iff.mp hi).1
    have h2 := (List.getElem?_eq_some_iff.mp hj).1
    simp at h1 h2
    omega
  · rw [hU]
    exact ((C.2.2.2.2.2.2.2.2.1.moved hW.alike).kept (fun a h1 h2 => hS.2.1 a h1 h2)).narrow hAA
theorem x_after (C : x_C D aI A p s m args meth c cc nL own) {rm : Room} {h0 : Nat} {e0 : va_E} {P : va_W → Prop} {H : Heap} {locs : List Loc} {ls : Array Slot} {st0 : List Value} {aa : Array Value} (hP : va_P D vwCl (ws ++ [(h0, e0)]) H) (hD : va_D A (ws ++ [(h0, e0)])) (hS : va_S A s.heap H locs) (hl : lv_has ls nL lv)
    (hr : va_Run p l e R s m args below meth c H locs nc ns rm.cells rm.slots (F0 m pc ls st0) st (x_q D (va_A [(h0, e0)] H.size) P aa) (va_A [(h0, e0)] H.size))
    (k : ∀ ws1, P ws1 → Xm D A Q p l e R s m args below meth c nL (ws ++ ws1) lv st (pc + 3) (nc + rm.cells) (ns + rm.slots)) : W p l e R s m args below meth c H locs nc ns Q (F0 m pc ls st0) := by
  have hAA : ∀ q, va_A [(h0, e0)] H.size q → A q := by
    rintro q (⟨k, e', hk⟩ | z)
    · have hz : k = 0 := by
        have := (List.getElem?_eq_some_iff.mp hk).1
        simp at this
        exact this
      subst hz
      cases hk
      exact hD.2 _ _ x_last
    · exact C.2.2.2.2.2.2.2.1 q (Nat.le_trans hS.1 z)
  refine va_callv (S := va_W) (post := P) (B := fun w1 t => va_P D vwCl w1 t.heap ∧ va_D (va_A [(h0, e0)] H.size) w1) (A1 := va_A [(h0, e0)] H.size) (free := va_A [(h0, e0)] H.size) (a := aa) (mc := rm.cells) (ms := rm.slots) (rest := st) ?_ hS (fun q _ h => hAA q h) hAA (fun u t H1 locs1 ht hvm hu hB hz hk1 hS1 => ?_)
  · intro T hT X
    obtain ⟨v, st₀, t, T', L, h0', X', hL, e1, e2, hQ, stp⟩ := hr T hT X
    obtain ⟨hv, ⟨w1, q1, q2, q3⟩, hF⟩ := hQ
    exact ⟨v, st₀, t, T', L, h0', X', hL, e1, e2, ⟨⟨w1, hv, q1, q2, q3⟩, hF⟩, stp⟩
  · obtain ⟨hP1, hD1⟩ := hB
    rw [ht] at hP1
    obtain ⟨j1, j2⟩ := x_join hP hD hAA hk1 hP1 hD1
    exact k u hu H1 locs1 ls j1 j2 hS1 hl
def x_mw (y : MethodName) (cc : ByteArray) (nL : Nat) : Prop := Cond.code y cc nL none ∈ lw_g ∧ Cond.initialized y.cls ∈ lw_g ∧ (y.cls ≠ "java/lang/invoke/MethodHandle" ∧ y.cls ≠ "java/lang/invoke/VarHandle") ∧ (parseMethodDescriptor y.desc).map (fun d => d.parameters.length) = some 0 ∧ Cond.instanceMethod y ∈ lw_g ∧ y.name = "<init>"
theorem x_mw.sig {y : MethodName} {cc : ByteArray} {nL : Nat} (h : x_mw y cc nL) : ∀ sig, parseMethodDescriptor y.desc = some sig → 0 = sig.parameters.length := fun sig hs => by
  have h2 := h.2.2.2.1
  rw [hs] at h2
  exact (Option.some.inj h2).symm
theorem x_call (C : x_C D aI A p s m args meth c cc nL own) {y : MethodName} {cc' : ByteArray} {nL' idx h0 : Nat} {e0 : va_E} {rm : Room} {P : va_W → Prop} (hC : CX l D aI y cc' nL' rm h0 e0 P) (F : x_mw y cc' nL') (hlk : Cond.methodLink own idx y ∈ lw_g) (hrm : rm.frames + 1 ≤ R.frames ∧ 8 + (nL' + 11) + rm.locals ≤ R.locals) (hcat : (st.map fun v => v.category).sum ≤ 8) (hR : nc + rm.cells ≤ R.cells ∧ ns + rm.slots ≤ R.slots) (hd : decode cc pc = .ok (.invokespecial idx, 3)) (hpc : pc + 3 = pc') (k : ∀ ws1, P ws1 → Xm D A Q p l e R s m args below meth c nL (ws ++ ws1) lv st pc' (nc + rm.cells) (ns + rm.slots)) : Xm D A Q p l e R s m args below meth c nL (ws ++ [(h0, e0)]) lv (.ref h0 :: st) pc nc ns := by
  subst hpc
  intro H locs ls hP hD hS hl
  obtain ⟨hx, hb, hml, hown, hlocks, hts, hK, hA, hst', hnw, hin⟩ := id C
  exact x_after C hP hD hS hl (va_runI (Ts := lw_g) (own := own) (As := []) (rest := st) ⟨hx, hb, hml, hown, hts⟩ (hC H.size) ⟨⟨rfl, rfl, hrm.1, hrm.2, pay_in hts (tbl_in F.1), List.mem_cons_self, hts _ F.1, hts _ F.2.1, F.2.2.1, F.sig, hts _ hlk⟩, F.2.2.2.2.2, hts _ F.2.2.2.2.1⟩ ⟨x_pre.blind, fun U hU hW => ⟨rfl, x_go C hP hD hS hU hW⟩⟩ rfl rfl hl.1 rfl (lv_room hcat) hd hR) k
theorem x_callN (C : x_C D aI A p s m args meth c cc nL own) {y : MethodName} {host : String} {cc' : ByteArray} {nL' idx h0 : Nat} {e0 : va_E} {rm : Room} {P : va_W → Prop} (hC : CX l D aI y cc' nL' rm h0 e0 P) (F : x_mw y cc' nL') (hlk : va_Nw (.methodLinkNest own idx y host) s) (hrm : rm.frames + 1 ≤ R.frames ∧ 8 + (nL' + 11) + rm.locals ≤ R.locals) (hcat : (st.map fun v => v.category).sum ≤ 8) (hR : nc + rm.cells ≤ R.cells ∧ ns + rm.slots ≤ R.slots) (hd : decode cc pc = .ok (.invokespecial idx, 3)) (hpc : pc + 3 = pc') (k : ∀ ws1, P ws1 → Xm D A Q p l e R s m args below meth c nL (ws ++ ws1) lv st pc' (nc + rm.cells) (ns + rm.slots)) : Xm D A Q p l e R s m args below meth c nL (ws ++ [(h0, e0)]) lv (.ref h0 :: st) pc nc ns := by
  subst hpc
  intro H locs ls hP hD hS hl
  obtain ⟨hx, hb, hml, hown, hlocks, hts, hK, hA, hst', hnw, hin⟩ := id C
  exact x_after C hP hD hS hl (va_runIN (Ts := lw_g) (own := own) (host := host) (As := []) (rest := st) ⟨hx, hb, hml, hown, hts⟩ (hC H.size) ⟨⟨⟨rfl, rfl, hrm.1, hrm.2, pay_in hts (tbl_in F.1), List.mem_cons_self⟩, hts _ F.1, hts _ F.2.1, F.2.2.1, F.sig, va_Nw.use rfl hlk⟩, F.2.2.2.2.2, hts _ F.2.2.2.2.1⟩ ⟨x_pre.blind, fun U hU hW => ⟨rfl, x_go C hP hD hS hU hW⟩⟩ rfl rfl hl.1 rfl (lv_room hcat) hd hR) k
theorem x_meth {y : MethodName} {rm : Room} {h0 : Nat} {e0 : va_E} {P : va_W → Prop} (hy : plainName y.cls = true) (hn : y.name = "<init>") (hnL : 1 ≤ nL) (body : ∀ (p : Program) (e : Env) (s : State) (m : MethodId) (below : List Frame) (meth : Method) (c : Code) (A : Nat → Prop), (∀ q, va_A [(h0, e0)] s.heap.size q → A q) → x_C D aI A p s m #[Value.ref h0] meth c cc nL y.cls → meth.sig.returnType = none → Xm D A (MQ below (x_q D A P) #[Value.ref h0] s rm.cells rm.slots A) p l e rm s m #[Value.ref h0] below meth c nL [(h0, e0)] [(0, .ref h0)] [] 0 0 0) : CX l D aI y cc nL rm h0 e0 P := by
  intro sz
  refine Met.ofW (cc := cc) (maxL := nL) (ret := none) hy rfl ?_
  intro p e s m args below meth c s₁ B hml hv
  obtain ⟨rfl, hsz, hP, hD0, hK, hst, hnw⟩ := hv
  subst hsz
  have hts := atoms_spec (ws := Cond.code y cc nL none :: lw_g) B.pre
  have hfc : s.vm.findClass y.cls = some m.cls := findClass_of_methodNamed B.named
  have hinit : meth.name = "<init>" := (name_of_methodNamed B.named B.method).1.trans hn
  have C : x_C D aI (va_A [(h0, e0)] s.heap.size) p s m #[Value.ref h0] meth c cc nL y.cls := ⟨B.exec, B.bytes, hml, hfc, B.notSynchronized, fun w hw => hts w (List.mem_cons_of_mem _ hw), hK, fun q hq => Or.inr hq, hst, hnw, fun _ => hinit⟩
  rw [lg_entry_eq]
  exact body p e s m below meth c _ (fun q h => h) C B.returns s.heap [] _ hP hD0.self va_S.rf (lv_entry [.ref h0] hnL)
end XC

theorem xmX0 : x_mw yX0_init cX0_init 1 := ⟨lw_gm (i := 83) (by decide +kernel) rfl, lw_gm (i := 21) (by decide +kernel) rfl, by decide +kernel, by decide +kernel, lw_gm (i := 82) (by decide +kernel) rfl, rfl⟩
theorem xmX1 : x_mw yX1_init cX1_init 2 := ⟨lw_gm (i := 228) (by decide +kernel) rfl, lw_gm (i := 23) (by decide +kernel) rfl, by decide +kernel, by decide +kernel, lw_gm (i := 227) (by decide +kernel) rfl, rfl⟩
theorem xmX2 : x_mw yX2_init cX2_init 1 := ⟨lw_gm (i := 61) (by decide +kernel) rfl, lw_gm (i := 20) (by decide +kernel) rfl, by decide +kernel, by decide +kernel, lw_gm (i := 60) (by decide +kernel) rfl, rfl⟩
theorem xmX3 : x_mw yX3_init cX3_init 2 := ⟨lw_gm (i := 39) (by decide +kernel) rfl, lw_gm (i := 19) (by decide +kernel) rfl, by decide +kernel, by decide +kernel, lw_gm (i := 38) (by decide +kernel) rfl, rfl⟩
theorem xmX4 : x_mw yX4_init cX4_init 1 := ⟨lw_gm (i := 248) (by decide +kernel) rfl, lw_gm (i := 24) (by decide +kernel) rfl, by decide +kernel, by decide +kernel, lw_gm (i := 247) (by decide +kernel) rfl, rfl⟩
theorem xmX5 : x_mw yX5_init cX5_init 1 := ⟨lw_gm (i := 97) (by decide +kernel) rfl, lw_gm (i := 22) (by decide +kernel) rfl, by decide +kernel, by decide +kernel, lw_gm (i := 96) (by decide +kernel) rfl, rfl⟩
theorem xmX6 : x_mw yX6_init cX6_init 1 := ⟨lw_gm (i := 31) (by decide +kernel) rfl, lw_gm (i := 18) (by decide +kernel) rfl, by decide +kernel, by decide +kernel, lw_gm (i := 30) (by decide +kernel) rfl, rfl⟩
theorem xoI : Cond.instanceMethod Lib.objectInit ∈ lw_g := lw_gm (i := 33) (by decide +kernel) rfl
theorem xoC : Cond.code Lib.objectInit ⟨#[0xb1]⟩ 1 none ∈ lw_g := lw_gm (i := 34) (by decide +kernel) rfl
theorem xoX0 : Cond.methodLink RX0 1 Lib.objectInit ∈ lw_g := lw_gm (i := 84) (by decide +kernel) rfl
theorem xoX1 : Cond.methodLink RX1 3 Lib.objectInit ∈ lw_g := lw_gm (i := 229) (by decide +kernel) rfl
theorem xoX2 : Cond.methodLink RX2 1 Lib.objectInit ∈ lw_g := lw_gm (i := 62) (by decide +kernel) rfl
theorem xoX3 : Cond.methodLink RX3 3 Lib.objectInit ∈ lw_g := lw_gm (i := 40) (by decide +kernel) rfl
theorem xoX4 : Cond.methodLink RX4 3 Lib.objectInit ∈ lw_g := lw_gm (i := 249) (by decide +kernel) rfl
theorem xoX5 : Cond.methodLink RX5 3 Lib.objectInit ∈ lw_g := lw_gm (i := 98) (by decide +kernel) rfl
theorem xoX6 : Cond.methodLink RX6 1 Lib.objectInit ∈ lw_g := lw_gm (i := 32) (by decide +kernel) rfl