/-! a judgement for method bodies over a fixed layout of cells -/
/-- the tables' words that a callee keeps -/
def lw_g : List Cond := lw_tbl.filter goodWord
theorem lw_gm {w : Cond} {i : Nat} (h : lw_tbl[i]? = some w) (hg : goodWord w = true) : w ∈ lw_g := List.mem_filter.mpr ⟨List.mem_of_getElem? h, hg⟩
/-- a layout: addresses by group and place, classes and slots, array classes, which cells are its own -/
abbrev kG : Type := (Nat → Nat → Nat) × va_G × (Nat → ClassId) × (Nat → Prop) × Nat × Nat × (Nat → Int32)
/-- the script: its cell, its length, its numbers -/
abbrev sB (Γ : kG) : Nat := Γ.2.2.2.2.1
abbrev sL (Γ : kG) : Nat := Γ.2.2.2.2.2.1
abbrev sX (Γ : kG) : Nat → Int32 := Γ.2.2.2.2.2.2
/-- how a body is left: the cells and slots that are made, what holds then -/
def kJ (μ : Type) : Type := (Nat × Nat) × (Int32 → μ → State → Prop)
/-- the rest of a division -/
def irm (a b : Int32) : Int32 := a - a / b * b
abbrev k_tys (Γ : kG) : List (ClassId × FieldType) := [(Γ.2.2.1 0, .int), (Γ.2.2.1 1, .char), (Γ.2.2.1 2, .object RX2), (Γ.2.2.1 3, .object RX0), (Γ.2.2.1 4, .object RX5), (Γ.2.2.1 5, .object RX3)]
def k_wl {μ : Type} (Γ : kG) (K : Nat × (μ → Nat → Nat → va_E)) (x : μ) : va_W := (List.range K.1).map fun q => (Γ.1 (q / 44) (q % 44), K.2 x (q / 44) (q % 44))
def k_least : Nat → Int32 := fun j => if j = 0 then 10 else if j = 4 then 4 else if j = 10 then 1 else if j = 11 then 1 else 0
def k_great : Nat → Int32 := fun j => if j = 0 then 1000 else if j = 1 then 100 else if j = 2 then 300 else if j = 3 then 100 else if j = 4 then 100 else if j = 5 then 200 else if j = 6 then 100 else if j = 7 then 2000 else if j = 8 then 50 else if j = 9 then 100 else if j = 10 then 60 else if j = 11 then 100 else 3
/-- the class's two arrays of bounds, outside the layout's cells -/
def k_st (Γ : kG) (U : State) (H : Heap) : Prop := (∃ t : Nat, va_Z "SeaMill" "LEAST_SETTINGS" "[I" (.ref t) Γ.2.2.2.1 U H ∧ va_T .int t 13 (fun j => .int (k_least j)) Γ.2.2.2.1 U H) ∧ (∃ t : Nat, va_Z "SeaMill" "GREATEST_SETTINGS" "[I" (.ref t) Γ.2.2.2.1 U H ∧ va_T .int t 13 (fun j => .int (k_great j)) Γ.2.2.2.1 U H) ∧ va_X (sB Γ) (sL Γ) (sX Γ) U H ∧ ¬ Γ.2.2.2.1 (sB Γ) ∧ sL Γ ≤ 260
/-- the cells are apart and the layout's own -/
def k_L {μ : Type} (Γ : kG) (K : Nat × (μ → Nat → Nat → va_E)) : Prop := ∀ x : μ, va_D Γ.2.2.2.1 (k_wl Γ K x)
/-- the links of nest mates' private members -/
def k_nw (U : State) : Prop := va_Nw (.methodLinkNest RX3 110 yX6_within "SeaMill") U ∧ va_Nw (.methodLinkNest RX3 269 yX6_quotient "SeaMill") U ∧ va_Nw (.fieldLinkNest RX3 114 "SeaMill" "LEAST_SETTINGS" "[I" "SeaMill") U ∧ va_Nw (.fieldLinkNest RX3 117 "SeaMill" "GREATEST_SETTINGS" "[I" "SeaMill") U
theorem k_nw.warm {s U : State} (hW : s.WarmedH U.vm) (h : k_nw s) : k_nw U := ⟨h.1.warmM hW, h.2.1.warmM hW, h.2.2.1.warmF hW, h.2.2.2.warmF hW⟩
theorem k_nw.same {u U : State} (hW : u.vm = U.vm) (h : k_nw u) : k_nw U := ⟨h.1.same rfl hW, h.2.1.same rfl hW, h.2.2.1.same rfl hW, h.2.2.2.same rfl hW⟩
/-- what holds in a method's body all the time -/
def k_C (Γ : kG) (p : Program) (R : Room) (s : State) (m : MethodId) (args : Array Value) (meth : Method) (c : Code) (cc : ByteArray) (nL : Nat) (own : String) (rm : Room) : Prop :=
  p.tables.exec = Jvm.exec ∧ c.code = cc ∧ c.maxLocals = nL ∧ s.vm.findClass own = some m.cls ∧ meth.locks = false ∧ (∀ w ∈ lw_g, w.before args s = true) ∧ va_K Γ.2.1 vwCl (k_tys Γ) s ∧ k_st Γ s s.heap ∧ R = rm ∧ k_nw s
def k_q {μ : Type} (rt : Bool) (Γ : kG) (K : Nat × (μ → Nat → Nat → va_E)) (x' : μ) (r : Int32) : Array Value → State → Outcome → State → Prop := fun _ st o t => o = .returned (if rt then some (.int r) else none) ∧ va_P Γ.2.1 vwCl (k_wl Γ K x') t.heap ∧ va_F Γ.2.2.2.1 st t
def k_w {μ : Type} (Γ : kG) (K : Nat × (μ → Nat → Nat → va_E)) (x : μ) : State → Prop := fun U => va_P Γ.2.1 vwCl (k_wl Γ K x) U.heap ∧ va_K Γ.2.1 vwCl (k_tys Γ) U ∧ k_st Γ U U.heap ∧ k_nw U
/-- a method's own way to be left -/
def jM {μ : Type} (rt : Bool) (Γ : kG) (K : Nat × (μ → Nat → Nat → va_E)) (below : List Frame) (args : Array Value) (s : State) : kJ μ := ((0, 0), fun r x' => MQ below (k_q rt Γ K x' r) args s 0 0 Γ.2.2.2.1)
/-- the judgement: with cells x, locals lv, stack st at pc, the body answers what o says -/
def Sm {μ : Type} (Γ : kG) (K : Nat × (μ → Nat → Nat → va_E)) (p : Program) (l : Launch) (e : Env) (R : Room) (s : State) (m : MethodId) (args : Array Value) (below : List Frame) (meth : Method) (c : Code) (nL : Nat) (rt : kJ μ) (x : μ) (lv : List (Nat × Value)) (st : List Value) (pc : Nat) (o : Option (Int32 × μ)) : Prop :=
  ∀ (r : Int32) (x' : μ), (o = some (r, x') ∧ rt.1.1 ≤ R.cells ∧ rt.1.2 ≤ R.slots) → ∀ (H : Heap) (locs : List Loc) (ls : Array Slot), va_P Γ.2.1 vwCl (k_wl Γ K x) H → va_S Γ.2.2.2.1 s.heap H locs → lv_has ls nL lv → W p l e R s m args below meth c H locs rt.1.1 rt.1.2 (rt.2 r x') (F0 m pc ls st)
/-- a method's contract: wherever o answers, the method does -/
def CT {μ : Type} (l : Launch) (Γ : kG) (K : Nat × (μ → Nat → Nat → va_E)) (y : MethodName) (cc : ByteArray) (nL : Nat) (ret : Option FieldType) (rm : Room) (As : List Value) (x : μ) (o : Option (Int32 × μ)) : Prop :=
  ∀ (r : Int32) (x' : μ), o = some (r, x') → Met l y (Cond.code y cc nL ret :: lw_g) rm (va_Pc As (k_w Γ K x)) (k_q ret.isSome Γ K x' r) 0 0 Γ.2.2.2.1
def k_let {α : Type} {β : Type} (a : α) (f : α → β) : β := f a
def bd {μ : Type} {ν : Type} (o : Option (Int32 × μ)) (k : Int32 → μ → Option (Int32 × ν)) : Option (Int32 × ν) := match o with
  | none => none
  | some q => k q.1 q.2
theorem bd_some {μ : Type} {ν : Type} {o : Option (Int32 × μ)} {k : Int32 → μ → Option (Int32 × ν)} {q : Int32 × ν} (h : bd o k = some q) : ∃ r x, o = some (r, x) ∧ k r x = some q := by
  cases o with
  | none => cases h
  | some z => exact ⟨z.1, z.2, rfl, h⟩
theorem tbl_good : lw_g.all goodWord = true := List.all_eq_true.mpr fun _ hw => (List.mem_filter.mp hw).2
theorem tbl_in {y : MethodName} {cc : ByteArray} {nL : Nat} {ret : Option FieldType} (h : Cond.code y cc nL ret ∈ lw_g) : GoodIn lw_g (Cond.code y cc nL ret :: lw_g) := by
  intro w hw
  have hw : w ∈ lw_g := by
    rcases List.mem_cons.mp hw with rfl | q
    · exact h
    · exact q
  exact ⟨hw, good_of_word (List.all_eq_true.mp tbl_good w hw)⟩
theorem k_wl_at {μ : Type} {Γ : kG} {K : Nat × (μ → Nat → Nat → va_E)} {x : μ} {i j : Nat} (h : 44 * i + j < K.1 ∧ j < 44) : (k_wl Γ K x)[44 * i + j]? = some (Γ.1 i j, K.2 x i j) := by
  have h1 : (44 * i + j) / 44 = i := by omega
  have h2 : (44 * i + j) % 44 = j := by omega
  unfold k_wl
  rw [List.getElem?_map, List.getElem?_range h.1]
  simp only [Option.map_some, h1, h2]
theorem k_wl_set {μ : Type} {Γ : kG} {K : Nat × (μ → Nat → Nat → va_E)} {x x1 : μ} {i j : Nat} {E : va_E} (h : 44 * i + j < K.1 ∧ j < 44) (hs : ∀ i' j', K.2 x1 i' j' = if i' = i ∧ j' = j then E else K.2 x i' j') : (k_wl Γ K x).set (44 * i + j) (Γ.1 i j, E) = k_wl Γ K x1 := by
  apply List.ext_getElem?
  intro q
  by_cases hq : q < K.1
  · have e1 : (k_wl Γ K x1)[q]? = some (Γ.1 (q / 44) (q % 44), K.2 x1 (q / 44) (q % 44)) := by
      unfold k_wl
      rw [List.getElem?_map, List.getElem?_range hq]
      rfl
    have e0 : (k_wl Γ K x)[q]? = some (Γ.1 (q / 44) (q % 44), K.2 x (q / 44) (q % 44)) := by
      unfold k_wl
      rw [List.getElem?_map, List.getElem?_range hq]
      rfl
    rw [e1, hs]
    by_cases hc : q = 44 * i + j
    · have h1 : q / 44 = i := by omega
      have h2 : q % 44 = j := by omega
      rw [if_pos ⟨h1, h2⟩, h1, h2]
      subst hc
      rw [List.getElem?_set_self (by unfold k_wl; simp; exact h.1)]
    · rw [List.getElem?_set_ne (fun z => hc z.symm), e0, if_neg]
      rintro ⟨h1, h2⟩
      omega
  · have l0 : (k_wl Γ K x).length = K.1 := by unfold k_wl; simp
    have l1 : (k_wl Γ K x1).length = K.1 := by unfold k_wl; simp
    rw [List.getElem?_eq_none (by rw [List.length_set, l0]; omega), List.getElem?_eq_none (by rw [l1]; omega)]
theorem k_st.moved {Γ : kG} {u U : State} {H : Heap} (hvm : u.vm.Alike U.vm) (h : k_st Γ u H) : k_st Γ U H := by
  obtain ⟨⟨t, h1, h2⟩, ⟨t', h3, h4⟩, h5, h6⟩ := h
  exact ⟨⟨t, h1.moved hvm, h2.moved hvm⟩, ⟨t', h3.moved hvm, h4.moved hvm⟩, h5.moved hvm, h6⟩
theorem k_st.kept {Γ : kG} {U : State} {H H1 : Heap} (h : k_st Γ U H) (hq : ∀ a : Nat, a < H.size → ¬ Γ.2.2.2.1 a → H1[a]? = H[a]?) : k_st Γ U H1 := by
  obtain ⟨⟨t, h1, h2⟩, ⟨t', h3, h4⟩, h5, h6⟩ := h
  refine ⟨⟨t, h1.kept hq, h2.kept hq⟩, ⟨t', h3.kept hq, h4.kept hq⟩, h5.kept ?_, h6⟩
  obtain ⟨scr, g1, -⟩ := h5
  exact hq _ (Array.getElem?_eq_some_iff.mp g1).1 h6.1

section KC
variable {μ : Type} {Γ : kG} {K : Nat × (μ → Nat → Nat → va_E)} {p : Program} {l : Launch} {e : Env} {R : Room} {s : State} {m : MethodId} {args : Array Value} {below : List Frame} {meth : Method} {c : Code} {cc : ByteArray} {nL : Nat} {own : String} {rm : Room} {rt : kJ μ} {x : μ} {lv : List (Nat × Value)} {st : List Value} {pc pc' : Nat} {o o1 o2 : Option (Int32 × μ)}

theorem k_meth {y : MethodName} {ret : Option FieldType} {As : List Value} (hy : plainName y.cls = true) (hown : own = y.cls) (hAs : (lg_sl As).length ≤ nL)
    (body : ∀ (p : Program) (e : Env) (R : Room) (s : State) (m : MethodId) (args : Array Value) (below : List Frame) (meth : Method) (c : Code), k_C Γ p R s m args meth c cc nL own rm → meth.sig.returnType = ret → Sm Γ K p l e R s m args below meth c nL (jM ret.isSome Γ K below args s) x (lv_args 0 As) [] 0 o) : CT l Γ K y cc nL ret rm As x o := by
  intro r x' ho
  refine Met.ofW (cc := cc) (maxL := nL) (ret := ret) hy rfl ?_
  intro p e s m args below meth c s₁ B hml hv
  obtain ⟨rfl, hP, hK, hst, hnw⟩ := hv
  have hts := atoms_spec (ws := Cond.code y cc nL ret :: lw_g) B.pre
  have hfc : s.vm.findClass own = some m.cls := by rw [hown]; exact findClass_of_methodNamed B.named
  have C : k_C Γ p rm s m As.toArray meth c cc nL own rm := ⟨B.exec, B.bytes, hml, hfc, B.notSynchronized, fun w hw => hts w (List.mem_cons_of_mem _ hw), hK, hst, rfl, hnw⟩
  rw [lg_entry_eq]
  exact body p e rm s m As.toArray below meth c C B.returns r x' ⟨ho, Nat.zero_le _, Nat.zero_le _⟩ s.heap [] _ hP va_S.rf (lv_entry As hAs)
theorem k_none : Sm Γ K p l e R s m args below meth c nL rt x lv st pc none := fun _ _ h => by cases h.1
theorem k_gd {P : Prop} [Decidable P] (k : P → Sm Γ K p l e R s m args below meth c nL rt x lv st pc o) : Sm Γ K p l e R s m args below meth c nL rt x lv st pc (if P then o else none) := by
  by_cases h : P
  · rw [if_pos h]; exact k h
  · rw [if_neg h]; exact k_none
theorem k_ite {P : Prop} [Decidable P] (k1 : P → Sm Γ K p l e R s m args below meth c nL rt x lv st pc o1) (k2 : ¬ P → Sm Γ K p l e R s m args below meth c nL rt x lv st pc o2) : Sm Γ K p l e R s m args below meth c nL rt x lv st pc (if P then o1 else o2) := by
  by_cases h : P
  · rw [if_pos h]; exact k1 h
  · rw [if_neg h]; exact k2 h
theorem k_sub {lv' : List (Nat × Value)} (ks : List Nat) (hl : lv_pick lv ks = lv') (k : Sm Γ K p l e R s m args below meth c nL rt x lv' st pc o) : Sm Γ K p l e R s m args below meth c nL rt x lv st pc o :=
  fun r x' ho H locs ls hP hS h => k r x' ho H locs ls hP hS (lv_sub h ks hl)
theorem k_topi {v : Int32} {f : Int32 → Option (Int32 × μ)} (k : ∀ v : Int32, Sm Γ K p l e R s m args below meth c nL rt x lv (.int v :: st) pc (f v)) : Sm Γ K p l e R s m args below meth c nL rt x lv (.int v :: st) pc (k_let v f) := k v
theorem k_topl {v : Int64} {f : Int64 → Option (Int32 × μ)} (k : ∀ v : Int64, Sm Γ K p l e R s m args below meth c nL rt x lv (.long v :: st) pc (f v)) : Sm Γ K p l e R s m args below meth c nL rt x lv (.long v :: st) pc (k_let v f) := k v

theorem k_iconst (C : k_C Γ p R s m args meth c cc nL own rm) {n : Int} {v : Int32} (hd : decode cc pc = .ok (.iconst n, 1)) (hv : Int32.ofInt n = v) (hpc : pc + 1 = pc') (k : Sm Γ K p l e R s m args below meth c nL rt x lv (.int v :: st) pc' o) : Sm Γ K p l e R s m args below meth c nL rt x lv st pc o := by
  subst hpc
  intro r x' ho H locs ls hP hS hl
  exact lv_iconst C.1 C.2.1 hd hv (k r x' ho H locs ls hP hS hl)
theorem k_bipush (C : k_C Γ p R s m args meth c cc nL own rm) {n : Int} {v : Int32} (hd : decode cc pc = .ok (.bipush n, 2)) (hv : (Int8.ofInt n).toInt32 = v) (hpc : pc + 2 = pc') (k : Sm Γ K p l e R s m args below meth c nL rt x lv (.int v :: st) pc' o) : Sm Γ K p l e R s m args below meth c nL rt x lv st pc o := by
  subst hpc
  intro r x' ho H locs ls hP hS hl
  exact lv_bipush C.1 C.2.1 hd hv (k r x' ho H locs ls hP hS hl)
theorem k_sipush (C : k_C Γ p R s m args meth c cc nL own rm) {n : Int} {v : Int32} (hd : decode cc pc = .ok (.sipush n, 3)) (hv : (Int16.ofInt n).toInt32 = v) (hpc : pc + 3 = pc') (k : Sm Γ K p l e R s m args below meth c nL rt x lv (.int v :: st) pc' o) : Sm Γ K p l e R s m args below meth c nL rt x lv st pc o := by
  subst hpc
  intro r x' ho H locs ls hP hS hl
  exact lv_sipush C.1 C.2.1 hd hv (k r x' ho H locs ls hP hS hl)
theorem k_ldc (C : k_C Γ p R s m args meth c cc nL own rm) {index : Nat} {v : Int32} (hd : decode cc pc = .ok (.ldc index, 2)) (hw : Cond.constant own index v ∈ lw_g) (hpc : pc + 2 = pc') (k : Sm Γ K p l e R s m args below meth c nL rt x lv (.int v :: st) pc' o) : Sm Γ K p l e R s m args below meth c nL rt x lv st pc o := by
  subst hpc
  intro r x' ho H locs ls hP hS hl
  exact lv_ldc C.1 C.2.1 C.2.2.2.1 (C.2.2.2.2.2.1 _ hw) hd (k r x' ho H locs ls hP hS hl)
theorem k_ldc2 (C : k_C Γ p R s m args meth c cc nL own rm) {index : Nat} {v : Int64} (hd : decode cc pc = .ok (.ldc2_w index, 3)) (hw : Cond.constantLong own index v ∈ lw_g) (hpc : pc + 3 = pc') (k : Sm Γ K p l e R s m args below meth c nL rt x lv (.long v :: st) pc' o) : Sm Γ K p l e R s m args below meth c nL rt x lv st pc o := by
  subst hpc
  intro r x' ho H locs ls hP hS hl
  exact lv_ldc2 C.1 C.2.1 C.2.2.2.1 (C.2.2.2.2.2.1 _ hw) hd (k r x' ho H locs ls hP hS hl)
theorem k_iload_n (C : k_C Γ p R s m args meth c cc nL own rm) {k0 : Fin 4} {i : Nat} {v : Int32} (q : Nat) (hd : decode cc pc = .ok (.iload_n k0, 1)) (hi : (k0 : Nat) = i) (hq : lv[q]? = some (i, .int v)) (hpc : pc + 1 = pc') (k : Sm Γ K p l e R s m args below meth c nL rt x lv (.int v :: st) pc' o) : Sm Γ K p l e R s m args below meth c nL rt x lv st pc o := by
  subst hpc
  intro r x' ho H locs ls hP hS hl
  exact lv_iload_n C.1 C.2.1 hd hi (lv_at hl q hq) (k r x' ho H locs ls hP hS hl)
theorem k_iload (C : k_C Γ p R s m args meth c cc nL own rm) {i : Nat} {v : Int32} (q : Nat) (hd : decode cc pc = .ok (.iload i, 2)) (hq : lv[q]? = some (i, .int v)) (hpc : pc + 2 = pc') (k : Sm Γ K p l e R s m args below meth c nL rt x lv (.int v :: st) pc' o) : Sm Γ K p l e R s m args below meth c nL rt x lv st pc o := by
  subst hpc
  intro r x' ho H locs ls hP hS hl
  exact lv_iload C.1 C.2.1 hd (lv_at hl q hq) (k r x' ho H locs ls hP hS hl)
theorem k_istore_n (C : k_C Γ p R s m args meth c cc nL own rm) {k0 : Fin 4} {i : Nat} {v : Int32} {lv' : List (Nat × Value)} (hd : decode cc pc = .ok (.istore_n k0, 1)) (hi : (k0 : Nat) = i) (hn : i < nL) (hl' : (i, Value.int v) :: lv.filter (fun q => !(q.1 == i) && !(q.1 + 1 == i && q.2.category == 2)) = lv') (hpc : pc + 1 = pc') (k : Sm Γ K p l e R s m args below meth c nL rt x lv' st pc' o) : Sm Γ K p l e R s m args below meth c nL rt x lv (.int v :: st) pc o := by
  subst hpc
  intro r x' ho H locs ls hP hS hl
  exact lv_istore_n C.1 C.2.1 hd hi hl hn hl' (fun ls hl => k r x' ho H locs ls hP hS hl)
theorem k_istore (C : k_C Γ p R s m args meth c cc nL own rm) {i : Nat} {v : Int32} {lv' : List (Nat × Value)} (hd : decode cc pc = .ok (.istore i, 2)) (hn : i < nL) (hl' : (i, Value.int v) :: lv.filter (fun q => !(q.1 == i) && !(q.1 + 1 == i && q.2.category == 2)) = lv') (hpc : pc + 2 = pc') (k : Sm Γ K p l e R s m args below meth c nL rt x lv' st pc' o) : Sm Γ K p l e R s m args below meth c nL rt x lv (.int v :: st) pc o := by
  subst hpc
  intro r x' ho H locs ls hP hS hl
  exact lv_istore C.1 C.2.1 hd hl hn hl' (fun ls hl => k r x' ho H locs ls hP hS hl)
theorem k_lload_n (C : k_C Γ p R s m args meth c cc nL own rm) {k0 : Fin 4} {i : Nat} {v : Int64} (q : Nat) (hd : decode cc pc = .ok (.lload_n k0, 1)) (hi : (k0 : Nat) = i) (hq : lv[q]? = some (i, .long v)) (hpc : pc + 1 = pc') (k : Sm Γ K p l e R s m args below meth c nL rt x lv (.long v :: st) pc' o) : Sm Γ K p l e R s m args below meth c nL rt x lv st pc o := by
  subst hpc
  intro r x' ho H locs ls hP hS hl
  exact lv_lload_n C.1 C.2.1 hd hi (lv_at hl q hq) (k r x' ho H locs ls hP hS hl)
theorem k_lload (C : k_C Γ p R s m args meth c cc nL own rm) {i : Nat} {v : Int64} (q : Nat) (hd : decode cc pc = .ok (.lload i, 2)) (hq : lv[q]? = some (i, .long v)) (hpc : pc + 2 = pc') (k : Sm Γ K p l e R s m args below meth c nL rt x lv (.long v :: st) pc' o) : Sm Γ K p l e R s m args below meth c nL rt x lv st pc o := by
  subst hpc
  intro r x' ho H locs ls hP hS hl
  exact lv_lload C.1 C.2.1 hd (lv_at hl q hq) (k r x' ho H locs ls hP hS hl)
theorem k_lstore_n (C : k_C Γ p R s m args meth c cc nL own rm) {k0 : Fin 4} {i : Nat} {v : Int64} {lv' : List (Nat × Value)} (hd : decode cc pc = .ok (.lstore_n k0, 1)) (hi : (k0 : Nat) = i) (hn : i + 1 < nL) (hl' : (i, Value.long v) :: lv.filter (fun q => !(q.1 == i) && (!(q.1 == i + 1) && !(q.1 + 1 == i && q.2.category == 2))) = lv') (hpc : pc + 1 = pc') (k : Sm Γ K p l e R s m args below meth c nL rt x lv' st pc' o) : Sm Γ K p l e R s m args below meth c nL rt x lv (.long v :: st) pc o := by
  subst hpc
  intro r x' ho H locs ls hP hS hl
  exact lv_lstore_n C.1 C.2.1 hd hi hl hn hl' (fun ls hl => k r x' ho H locs ls hP hS hl)
theorem k_lstore (C : k_C Γ p R s m args meth c cc nL own rm) {i : Nat} {v : Int64} {lv' : List (Nat × Value)} (hd : decode cc pc = .ok (.lstore i, 2)) (hn : i + 1 < nL) (hl' : (i, Value.long v) :: lv.filter (fun q => !(q.1 == i) && (!(q.1 == i + 1) && !(q.1 + 1 == i && q.2.category == 2))) = lv') (hpc : pc + 2 = pc') (k : Sm Γ K p l e R s m args below meth c nL rt x lv' st pc' o) : Sm Γ K p l e R s m args below meth c nL rt x lv (.long v :: st) pc o := by
  subst hpc
  intro r x' ho H locs ls hP hS hl
  exact lv_lstore C.1 C.2.1 hd hl hn hl' (fun ls hl => k r x' ho H locs ls hP hS hl)
theorem k_aload_n (C : k_C Γ p R s m args meth c cc nL own rm) {k0 : Fin 4} {i : Nat} {v : Nat} (q : Nat) (hd : decode cc pc = .ok (.aload_n k0, 1)) (hi : (k0 : Nat) = i) (hq : lv[q]? = some (i, .ref v)) (hpc : pc + 1 = pc') (k : Sm Γ K p l e R s m args below meth c nL rt x lv (.ref v :: st) pc' o) : Sm Γ K p l e R s m args below meth c nL rt x lv st pc o := by
  subst hpc
  intro r x' ho H locs ls hP hS hl
  exact lv_aload_n C.1 C.2.1 hd hi (lv_at hl q hq) (k r x' ho H locs ls hP hS hl)
theorem k_aload (C : k_C Γ p R s m args meth c cc nL own rm) {i : Nat} {v : Nat} (q : Nat) (hd : decode cc pc = .ok (.aload i, 2)) (hq : lv[q]? = some (i, .ref v)) (hpc : pc + 2 = pc') (k : Sm Γ K p l e R s m args below meth c nL rt x lv (.ref v :: st) pc' o) : Sm Γ K p l e R s m args below meth c nL rt x lv st pc o := by
  subst hpc
  intro r x' ho H locs ls hP hS hl
  exact lv_aload C.1 C.2.1 hd (lv_at hl q hq) (k r x' ho H locs ls hP hS hl)
theorem k_astore_n (C : k_C Γ p R s m args meth c cc nL own rm) {k0 : Fin 4} {i : Nat} {v : Nat} {lv' : List (Nat × Value)} (hd : decode cc pc = .ok (.astore_n k0, 1)) (hi : (k0 : Nat) = i) (hn : i < nL) (hl' : (i, Value.ref v) :: lv.filter (fun q => !(q.1 == i) && !(q.1 + 1 == i && q.2.category == 2)) = lv') (hpc : pc + 1 = pc') (k : Sm Γ K p l e R s m args below meth c nL rt x lv' st pc' o) : Sm Γ K p l e R s m args below meth c nL rt x lv (.ref v :: st) pc o := by
  subst hpc
  intro r x' ho H locs ls hP hS hl
  exact lv_astore_n C.1 C.2.1 hd hi hl hn hl' (fun ls hl => k r x' ho H locs ls hP hS hl)
theorem k_astore (C : k_C Γ p R s m args meth c cc nL own rm) {i : Nat} {v : Nat} {lv' : List (Nat × Value)} (hd : decode cc pc = .ok (.astore i, 2)) (hn : i < nL) (hl' : (i, Value.ref v) :: lv.filter (fun q => !(q.1 == i) && !(q.1 + 1 == i && q.2.category == 2)) = lv') (hpc : pc + 2 = pc') (k : Sm Γ K p l e R s m args below meth c nL rt x lv' st pc' o) : Sm Γ K p l e R s m args below meth c nL rt x lv (.ref v :: st) pc o := by
  subst hpc
  intro r x' ho H locs ls hP hS hl
  exact lv_astore C.1 C.2.1 hd hl hn hl' (fun ls hl => k r x' ho H locs ls hP hS hl)
theorem k_iinc (C : k_C Γ p R s m args meth c cc nL own rm) {i q : Nat} {n : Int} {a v : Int32} {lv' : List (Nat × Value)} {f : Int32 → Option (Int32 × μ)} (hd : decode cc pc = .ok (.iinc i n, 3)) (hq : lv[q]? = some (i, .int a)) (hv : Int32.ofInt n = v) (hn : i < nL) (hpc : pc + 3 = pc') (hl' : ∀ z : Int32, (i, Value.int z) :: lv.filter (fun q => !(q.1 == i) && !(q.1 + 1 == i && q.2.category == 2)) = (i, Value.int z) :: lv') (k : ∀ z : Int32, Sm Γ K p l e R s m args below meth c nL rt x ((i, .int z) :: lv') st pc' (f z)) : Sm Γ K p l e R s m args below meth c nL rt x lv st pc (k_let (a + v) f) := by
  subst hpc
  subst hv
  intro r x' ho H locs ls hP hS hl
  exact lv_iinc C.1 C.2.1 hd hl hq rfl hn (hl' _) (fun ls hl => k _ r x' ho H locs ls hP hS hl)
theorem k_iadd (C : k_C Γ p R s m args meth c cc nL own rm) {a b : Int32} (hd : decode cc pc = .ok (.iadd, 1)) (hpc : pc + 1 = pc') (k : Sm Γ K p l e R s m args below meth c nL rt x lv (.int (a + b) :: st) pc' o) : Sm Γ K p l e R s m args below meth c nL rt x lv (.int b :: .int a :: st) pc o := by
  subst hpc
  intro r x' ho H locs ls hP hS hl
  exact lv_iadd C.1 C.2.1 hd (k r x' ho H locs ls hP hS hl)
theorem k_isub (C : k_C Γ p R s m args meth c cc nL own rm) {a b : Int32} (hd : decode cc pc = .ok (.isub, 1)) (hpc : pc + 1 = pc') (k : Sm Γ K p l e R s m args below meth c nL rt x lv (.int (a - b) :: st) pc' o) : Sm Γ K p l e R s m args below meth c nL rt x lv (.int b :: .int a :: st) pc o := by
  subst hpc
  intro r x' ho H locs ls hP hS hl
  exact lv_isub C.1 C.2.1 hd (k r x' ho H locs ls hP hS hl)
theorem k_imul (C : k_C Γ p R s m args meth c cc nL own rm) {a b : Int32} (hd : decode cc pc = .ok (.imul, 1)) (hpc : pc + 1 = pc') (k : Sm Γ K p l e R s m args below meth c nL rt x lv (.int (a * b) :: st) pc' o) : Sm Γ K p l e R s m args below meth c nL rt x lv (.int b :: .int a :: st) pc o := by
  subst hpc
  intro r x' ho H locs ls hP hS hl
  exact lv_imul C.1 C.2.1 hd (k r x' ho H locs ls hP hS hl)
theorem k_iand (C : k_C Γ p R s m args meth c cc nL own rm) {a b : Int32} (hd : decode cc pc = .ok (.iand, 1)) (hpc : pc + 1 = pc') (k : Sm Γ K p l e R s m args below meth c nL rt x lv (.int (a &&& b) :: st) pc' o) : Sm Γ K p l e R s m args below meth c nL rt x lv (.int b :: .int a :: st) pc o := by
  subst hpc
  intro r x' ho H locs ls hP hS hl
  exact lv_iand C.1 C.2.1 hd (k r x' ho H locs ls hP hS hl)
theorem k_ladd (C : k_C Γ p R s m args meth c cc nL own rm) {a b : Int64} (hd : decode cc pc = .ok (.ladd, 1)) (hpc : pc + 1 = pc') (k : Sm Γ K p l e R s m args below meth c nL rt x lv (.long (a + b) :: st) pc' o) : Sm Γ K p l e R s m args below meth c nL rt x lv (.long b :: .long a :: st) pc o := by
  subst hpc
  intro r x' ho H locs ls hP hS hl
  exact lv_ladd C.1 C.2.1 hd (k r x' ho H locs ls hP hS hl)
theorem k_lsub (C : k_C Γ p R s m args meth c cc nL own rm) {a b : Int64} (hd : decode cc pc = .ok (.lsub, 1)) (hpc : pc + 1 = pc') (k : Sm Γ K p l e R s m args below meth c nL rt x lv (.long (a - b) :: st) pc' o) : Sm Γ K p l e R s m args below meth c nL rt x lv (.long b :: .long a :: st) pc o := by
  subst hpc
  intro r x' ho H locs ls hP hS hl
  exact lv_lsub C.1 C.2.1 hd (k r x' ho H locs ls hP hS hl)
theorem k_lmul (C : k_C Γ p R s m args meth c cc nL own rm) {a b : Int64} (hd : decode cc pc = .ok (.lmul, 1)) (hpc : pc + 1 = pc') (k : Sm Γ K p l e R s m args below meth c nL rt x lv (.long (a * b) :: st) pc' o) : Sm Γ K p l e R s m args below meth c nL rt x lv (.long b :: .long a :: st) pc o := by
  subst hpc
  intro r x' ho H locs ls hP hS hl
  exact lv_lmul C.1 C.2.1 hd (k r x' ho H locs ls hP hS hl)
theorem k_idivK (C : k_C Γ p R s m args meth c cc nL own rm) {a b : Int32} (hd : decode cc pc = .ok (.idiv, 1)) (hne : ¬ b = 0) (hpc : pc + 1 = pc') (k : Sm Γ K p l e R s m args below meth c nL rt x lv (.int (a / b) :: st) pc' o) : Sm Γ K p l e R s m args below meth c nL rt x lv (.int b :: .int a :: st) pc o := by
  subst hpc
  intro r x' ho H locs ls hP hS hl
  exact lv_idiv C.1 C.2.1 hd hne (k r x' ho H locs ls hP hS hl)
theorem k_idiv (C : k_C Γ p R s m args meth c cc nL own rm) {a b : Int32} (hd : decode cc pc = .ok (.idiv, 1)) (hpc : pc + 1 = pc') (k : Sm Γ K p l e R s m args below meth c nL rt x lv (.int (a / b) :: st) pc' o) : Sm Γ K p l e R s m args below meth c nL rt x lv (.int b :: .int a :: st) pc (if ¬ b = 0 then o else none) := k_gd fun h => k_idivK C hd h hpc k
theorem k_iremK (C : k_C Γ p R s m args meth c cc nL own rm) {a b : Int32} (hd : decode cc pc = .ok (.irem, 1)) (hne : ¬ b = 0) (hpc : pc + 1 = pc') (k : Sm Γ K p l e R s m args below meth c nL rt x lv (.int (irm a b) :: st) pc' o) : Sm Γ K p l e R s m args below meth c nL rt x lv (.int b :: .int a :: st) pc o := by
  subst hpc
  intro r x' ho H locs ls hP hS hl
  exact lv_irem C.1 C.2.1 hd hne (k r x' ho H locs ls hP hS hl)
theorem k_irem (C : k_C Γ p R s m args meth c cc nL own rm) {a b : Int32} (hd : decode cc pc = .ok (.irem, 1)) (hpc : pc + 1 = pc') (k : Sm Γ K p l e R s m args below meth c nL rt x lv (.int (irm a b) :: st) pc' o) : Sm Γ K p l e R s m args below meth c nL rt x lv (.int b :: .int a :: st) pc (if ¬ b = 0 then o else none) := k_gd fun h => k_iremK C hd h hpc k
theorem k_ldivK (C : k_C Γ p R s m args meth c cc nL own rm) {a b : Int64} (hd : decode cc pc = .ok (.ldiv, 1)) (hne : ¬ b = 0) (hpc : pc + 1 = pc') (k : Sm Γ K p l e R s m args below meth c nL rt x lv (.long (a / b) :: st) pc' o) : Sm Γ K p l e R s m args below meth c nL rt x lv (.long b :: .long a :: st) pc o := by
  subst hpc
  intro r x' ho H locs ls hP hS hl
  exact lv_ldiv C.1 C.2.1 hd hne (k r x' ho H locs ls hP hS hl)
theorem k_ineg (C : k_C Γ p R s m args meth c cc nL own rm) {a : Int32} (hd : decode cc pc = .ok (.ineg, 1)) (hpc : pc + 1 = pc') (k : Sm Γ K p l e R s m args below meth c nL rt x lv (.int (-a) :: st) pc' o) : Sm Γ K p l e R s m args below meth c nL rt x lv (.int a :: st) pc o := by
  subst hpc
  intro r x' ho H locs ls hP hS hl
  exact lv_ineg C.1 C.2.1 hd (k r x' ho H locs ls hP hS hl)
theorem k_i2l (C : k_C Γ p R s m args meth c cc nL own rm) {a : Int32} (hd : decode cc pc = .ok (.i2l, 1)) (hpc : pc + 1 = pc') (k : Sm Γ K p l e R s m args below meth c nL rt x lv (.long a.toInt64 :: st) pc' o) : Sm Γ K p l e R s m args below meth c nL rt x lv (.int a :: st) pc o := by
  subst hpc
  intro r x' ho H locs ls hP hS hl
  exact lv_i2l C.1 C.2.1 hd rfl (k r x' ho H locs ls hP hS hl)
theorem k_l2i (C : k_C Γ p R s m args meth c cc nL own rm) {a : Int64} (hd : decode cc pc = .ok (.l2i, 1)) (hpc : pc + 1 = pc') (k : Sm Γ K p l e R s m args below meth c nL rt x lv (.int a.toInt32 :: st) pc' o) : Sm Γ K p l e R s m args below meth c nL rt x lv (.long a :: st) pc o := by
  subst hpc
  intro r x' ho H locs ls hP hS hl
  exact lv_l2i C.1 C.2.1 hd rfl (k r x' ho H locs ls hP hS hl)
theorem k_i2c (C : k_C Γ p R s m args meth c cc nL own rm) {a : Int32} (hd : decode cc pc = .ok (.i2c, 1)) (hpc : pc + 1 = pc') (k : Sm Γ K p l e R s m args below meth c nL rt x lv (.int (a.toUInt32 % 65536).toInt32 :: st) pc' o) : Sm Γ K p l e R s m args below meth c nL rt x lv (.int a :: st) pc o := by
  subst hpc
  intro r x' ho H locs ls hP hS hl
  exact lv_i2c C.1 C.2.1 hd rfl (k r x' ho H locs ls hP hS hl)
theorem k_lcmp (C : k_C Γ p R s m args meth c cc nL own rm) {a b : Int64} (hd : decode cc pc = .ok (.lcmp, 1)) (hpc : pc + 1 = pc') (k : Sm Γ K p l e R s m args below meth c nL rt x lv (.int (lg_cmp a b) :: st) pc' o) : Sm Γ K p l e R s m args below meth c nL rt x lv (.long b :: .long a :: st) pc o := by
  subst hpc
  intro r x' ho H locs ls hP hS hl
  exact W.lcmp C.1 C.2.1 hd (k r x' ho H locs ls hP hS hl)
theorem k_dup (C : k_C Γ p R s m args meth c cc nL own rm) {v : Value} (hd : decode cc pc = .ok (.dup, 1)) (hva : v.category = 1) (hpc : pc + 1 = pc') (k : Sm Γ K p l e R s m args below meth c nL rt x lv (v :: v :: st) pc' o) : Sm Γ K p l e R s m args below meth c nL rt x lv (v :: st) pc o := by
  subst hpc
  intro r x' ho H locs ls hP hS hl
  exact lv_dup C.1 C.2.1 hd hva (k r x' ho H locs ls hP hS hl)
theorem k_pop (C : k_C Γ p R s m args meth c cc nL own rm) {v : Value} (hd : decode cc pc = .ok (.pop, 1)) (hva : v.category = 1) (hpc : pc + 1 = pc') (k : Sm Γ K p l e R s m args below meth c nL rt x lv st pc' o) : Sm Γ K p l e R s m args below meth c nL rt x lv (v :: st) pc o := by
  subst hpc
  intro r x' ho H locs ls hP hS hl
  exact lv_pop C.1 C.2.1 hd hva (k r x' ho H locs ls hP hS hl)
theorem k_dup2 (C : k_C Γ p R s m args meth c cc nL own rm) {v w : Value} (hd : decode cc pc = .ok (.dup2, 1)) (hva : v.category = 1) (hvb : w.category = 1) (hpc : pc + 1 = pc') (k : Sm Γ K p l e R s m args below meth c nL rt x lv (v :: w :: v :: w :: st) pc' o) : Sm Γ K p l e R s m args below meth c nL rt x lv (v :: w :: st) pc o := by
  subst hpc
  intro r x' ho H locs ls hP hS hl
  exact lv_dup2_11 C.1 C.2.1 hd hva hvb (k r x' ho H locs ls hP hS hl)
theorem k_dup_x1 (C : k_C Γ p R s m args meth c cc nL own rm) {v w : Value} (hd : decode cc pc = .ok (.dup_x1, 1)) (hva : v.category = 1) (hvb : w.category = 1) (hpc : pc + 1 = pc') (k : Sm Γ K p l e R s m args below meth c nL rt x lv (v :: w :: v :: st) pc' o) : Sm Γ K p l e R s m args below meth c nL rt x lv (v :: w :: st) pc o := by
  subst hpc
  intro r x' ho H locs ls hP hS hl
  exact lv_dup_x1 C.1 C.2.1 hd hva hvb (k r x' ho H locs ls hP hS hl)
theorem k_goto (C : k_C Γ p R s m args meth c cc nL own rm) {off : Int} (hd : decode cc pc = .ok (.goto off, 3)) (ht : (pc : Int) + off = (pc' : Int)) (k : Sm Γ K p l e R s m args below meth c nL rt x lv st pc' o) : Sm Γ K p l e R s m args below meth c nL rt x lv st pc o := fun r x' ho H locs ls hP hS hl => lv_goto C.1 C.2.1 hd ht (k r x' ho H locs ls hP hS hl)
theorem k_if_eq (C : k_C Γ p R s m args meth c cc nL own rm) {a : Int32} {off : Int} {tgt : Nat} (hd : decode cc pc = .ok (.ifCond .eq off, 3)) (ht : (pc : Int) + off = (tgt : Int)) (hpc : pc + 3 = pc') (kt : a = 0 → Sm Γ K p l e R s m args below meth c nL rt x lv st tgt o1) (kf : ¬ a = 0 → Sm Γ K p l e R s m args below meth c nL rt x lv st pc' o2) : Sm Γ K p l e R s m args below meth c nL rt x lv (.int a :: st) pc (if a = 0 then o1 else o2) := by
  subst hpc
  intro r x' ho H locs ls hP hS hl
  exact lv_if_eq C.1 C.2.1 hd ht (fun h => kt h r x' (by rw [if_pos h] at ho; exact ho) H locs ls hP hS hl) (fun h => kf h r x' (by rw [if_neg h] at ho; exact ho) H locs ls hP hS hl)
theorem k_if_ne (C : k_C Γ p R s m args meth c cc nL own rm) {a : Int32} {off : Int} {tgt : Nat} (hd : decode cc pc = .ok (.ifCond .ne off, 3)) (ht : (pc : Int) + off = (tgt : Int)) (hpc : pc + 3 = pc') (kt : ¬ a = 0 → Sm Γ K p l e R s m args below meth c nL rt x lv st tgt o1) (kf : a = 0 → Sm Γ K p l e R s m args below meth c nL rt x lv st pc' o2) : Sm Γ K p l e R s m args below meth c nL rt x lv (.int a :: st) pc (if a = 0 then o2 else o1) := by
  subst hpc
  intro r x' ho H locs ls hP hS hl
  exact lv_if_ne C.1 C.2.1 hd ht (fun h => kt h r x' (by rw [if_neg h] at ho; exact ho) H locs ls hP hS hl) (fun h => kf h r x' (by rw [if_pos h] at ho; exact ho) H locs ls hP hS hl)
theorem k_if_lt (C : k_C Γ p R s m args meth c cc nL own rm) {a : Int32} {off : Int} {tgt : Nat} (hd : decode cc pc = .ok (.ifCond .lt off, 3)) (ht : (pc : Int) + off = (tgt : Int)) (hpc : pc + 3 = pc') (kt : a < 0 → Sm Γ K p l e R s m args below meth c nL rt x lv st tgt o1) (kf : ¬ a < 0 → Sm Γ K p l e R s m args below meth c nL rt x lv st pc' o2) : Sm Γ K p l e R s m args below meth c nL rt x lv (.int a :: st) pc (if a < 0 then o1 else o2) := by
  subst hpc
  intro r x' ho H locs ls hP hS hl
  exact lv_if_lt C.1 C.2.1 hd ht (fun h => kt h r x' (by rw [if_pos h] at ho; exact ho) H locs ls hP hS hl) (fun h => kf h r x' (by rw [if_neg h] at ho; exact ho) H locs ls hP hS hl)
theorem k_if_ge (C : k_C Γ p R s m args meth c cc nL own rm) {a : Int32} {off : Int} {tgt : Nat} (hd : decode cc pc = .ok (.ifCond .ge off, 3)) (ht : (pc : Int) + off = (tgt : Int)) (hpc : pc + 3 = pc') (kt : 0 ≤ a → Sm Γ K p l e R s m args below meth c nL rt x lv st tgt o1) (kf : ¬ 0 ≤ a → Sm Γ K p l e R s m args below meth c nL rt x lv st pc' o2) : Sm Γ K p l e R s m args below meth c nL rt x lv (.int a :: st) pc (if 0 ≤ a then o1 else o2) := by
  subst hpc
  intro r x' ho H locs ls hP hS hl
  exact lv_if_ge C.1 C.2.1 hd ht (fun h => kt h r x' (by rw [if_pos h] at ho; exact ho) H locs ls hP hS hl) (fun h => kf h r x' (by rw [if_neg h] at ho; exact ho) H locs ls hP hS hl)
theorem k_if_gt (C : k_C Γ p R s m args meth c cc nL own rm) {a : Int32} {off : Int} {tgt : Nat} (hd : decode cc pc = .ok (.ifCond .gt off, 3)) (ht : (pc : Int) + off = (tgt : Int)) (hpc : pc + 3 = pc') (kt : 0 < a → Sm Γ K p l e R s m args below meth c nL rt x lv st tgt o1) (kf : ¬ 0 < a → Sm Γ K p l e R s m args below meth c nL rt x lv st pc' o2) : Sm Γ K p l e R s m args below meth c nL rt x lv (.int a :: st) pc (if 0 < a then o1 else o2) := by
  subst hpc
  intro r x' ho H locs ls hP hS hl
  exact lv_if_gt C.1 C.2.1 hd ht (fun h => kt h r x' (by rw [if_pos h] at ho; exact ho) H locs ls hP hS hl) (fun h => kf h r x' (by rw [if_neg h] at ho; exact ho) H locs ls hP hS hl)
theorem k_if_le (C : k_C Γ p R s m args meth c cc nL own rm) {a : Int32} {off : Int} {tgt : Nat} (hd : decode cc pc = .ok (.ifCond .le off, 3)) (ht : (pc : Int) + off = (tgt : Int)) (hpc : pc + 3 = pc') (kt : a ≤ 0 → Sm Γ K p l e R s m args below meth c nL rt x lv st tgt o1) (kf : ¬ a ≤ 0 → Sm Γ K p l e R s m args below meth c nL rt x lv st pc' o2) : Sm Γ K p l e R s m args below meth c nL rt x lv (.int a :: st) pc (if a ≤ 0 then o1 else o2) := by
  subst hpc
  intro r x' ho H locs ls hP hS hl
  exact lv_if_le C.1 C.2.1 hd ht (fun h => kt h r x' (by rw [if_pos h] at ho; exact ho) H locs ls hP hS hl) (fun h => kf h r x' (by rw [if_neg h] at ho; exact ho) H locs ls hP hS hl)
theorem k_ic_eq (C : k_C Γ p R s m args meth c cc nL own rm) {a b : Int32} {off : Int} {tgt : Nat} (hd : decode cc pc = .ok (.if_icmp .eq off, 3)) (ht : (pc : Int) + off = (tgt : Int)) (hpc : pc + 3 = pc') (kt : a = b → Sm Γ K p l e R s m args below meth c nL rt x lv st tgt o1) (kf : ¬ a = b → Sm Γ K p l e R s m args below meth c nL rt x lv st pc' o2) : Sm Γ K p l e R s m args below meth c nL rt x lv (.int b :: .int a :: st) pc (if a = b then o1 else o2) := by
  subst hpc
  intro r x' ho H locs ls hP hS hl
  exact lv_icmp_eq C.1 C.2.1 hd ht (fun h => kt h r x' (by rw [if_pos h] at ho; exact ho) H locs ls hP hS hl) (fun h => kf h r x' (by rw [if_neg h] at ho; exact ho) H locs ls hP hS hl)
theorem k_ic_ne (C : k_C Γ p R s m args meth c cc nL own rm) {a b : Int32} {off : Int} {tgt : Nat} (hd : decode cc pc = .ok (.if_icmp .ne off, 3)) (ht : (pc : Int) + off = (tgt : Int)) (hpc : pc + 3 = pc') (kt : ¬ a = b → Sm Γ K p l e R s m args below meth c nL rt x lv st tgt o1) (kf : a = b → Sm Γ K p l e R s m args below meth c nL rt x lv st pc' o2) : Sm Γ K p l e R s m args below meth c nL rt x lv (.int b :: .int a :: st) pc (if a = b then o2 else o1) := by
  subst hpc
  intro r x' ho H locs ls hP hS hl
  exact lv_icmp_ne C.1 C.2.1 hd ht (fun h => kt h r x' (by rw [if_neg h] at ho; exact ho) H locs ls hP hS hl) (fun h => kf h r x' (by rw [if_pos h] at ho; exact ho) H locs ls hP hS hl)
theorem k_ic_lt (C : k_C Γ p R s m args meth c cc nL own rm) {a b : Int32} {off : Int} {tgt : Nat} (hd : decode cc pc = .ok (.if_icmp .lt off, 3)) (ht : (pc : Int) + off = (tgt : Int)) (hpc : pc + 3 = pc') (kt : a < b → Sm Γ K p l e R s m args below meth c nL rt x lv st tgt o1) (kf : ¬ a < b → Sm Γ K p l e R s m args below meth c nL rt x lv st pc' o2) : Sm Γ K p l e R s m args below meth c nL rt x lv (.int b :: .int a :: st) pc (if a < b then o1 else o2) := by
  subst hpc
  intro r x' ho H locs ls hP hS hl
  exact lv_icmp_lt C.1 C.2.1 hd ht (fun h => kt h r x' (by rw [if_pos h] at ho; exact ho) H locs ls hP hS hl) (fun h => kf h r x' (by rw [if_neg h] at ho; exact ho) H locs ls hP hS hl)
theorem k_ic_ge (C : k_C Γ p R s m args meth c cc nL own rm) {a b : Int32} {off : Int} {tgt : Nat} (hd : decode cc pc = .ok (.if_icmp .ge off, 3)) (ht : (pc : Int) + off = (tgt : Int)) (hpc : pc + 3 = pc') (kt : b ≤ a → Sm Γ K p l e R s m args below meth c nL rt x lv st tgt o1) (kf : ¬ b ≤ a → Sm Γ K p l e R s m args below meth c nL rt x lv st pc' o2) : Sm Γ K p l e R s m args below meth c nL rt x lv (.int b :: .int a :: st) pc (if b ≤ a then o1 else o2) := by
  subst hpc
  intro r x' ho H locs ls hP hS hl
  exact lv_icmp_ge C.1 C.2.1 hd ht (fun h => kt h r x' (by rw [if_pos h] at ho; exact ho) H locs ls hP hS hl) (fun h => kf h r x' (by rw [if_neg h] at ho; exact ho) H locs ls hP hS hl)
theorem k_ic_gt (C : k_C Γ p R s m args meth c cc nL own rm) {a b : Int32} {off : Int} {tgt : Nat} (hd : decode cc pc = .ok (.if_icmp .gt off, 3)) (ht : (pc : Int) + off = (tgt : Int)) (hpc : pc + 3 = pc') (kt : b < a → Sm Γ K p l e R s m args below meth c nL rt x lv st tgt o1) (kf : ¬ b < a → Sm Γ K p l e R s m args below meth c nL rt x lv st pc' o2) : Sm Γ K p l e R s m args below meth c nL rt x lv (.int b :: .int a :: st) pc (if b < a then o1 else o2) := by
  subst hpc
  intro r x' ho H locs ls hP hS hl
  exact lv_icmp_gt C.1 C.2.1 hd ht (fun h => kt h r x' (by rw [if_pos h] at ho; exact ho) H locs ls hP hS hl) (fun h => kf h r x' (by rw [if_neg h] at ho; exact ho) H locs ls hP hS hl)
theorem k_ic_le (C : k_C Γ p R s m args meth c cc nL own rm) {a b : Int32} {off : Int} {tgt : Nat} (hd : decode cc pc = .ok (.if_icmp .le off, 3)) (ht : (pc : Int) + off = (tgt : Int)) (hpc : pc + 3 = pc') (kt : a ≤ b → Sm Γ K p l e R s m args below meth c nL rt x lv st tgt o1) (kf : ¬ a ≤ b → Sm Γ K p l e R s m args below meth c nL rt x lv st pc' o2) : Sm Γ K p l e R s m args below meth c nL rt x lv (.int b :: .int a :: st) pc (if a ≤ b then o1 else o2) := by
  subst hpc
  intro r x' ho H locs ls hP hS hl
  exact lv_icmp_le C.1 C.2.1 hd ht (fun h => kt h r x' (by rw [if_pos h] at ho; exact ho) H locs ls hP hS hl) (fun h => kf h r x' (by rw [if_neg h] at ho; exact ho) H locs ls hP hS hl)
theorem k_tswIn (C : k_C Γ p R s m args meth c cc nL own rm) {dflt lo hi : Int} {offs : Array Int} {len : Nat} {a v : Int32} (off : Int) (hd : decode cc pc = .ok (.tableswitch dflt lo hi offs, len)) (ha : a = v) (h1 : ¬ v.toInt < lo) (h2 : ¬ hi < v.toInt) (hf : offs[(v.toInt - lo).toNat]? = some off) (ht : (pc : Int) + off = (pc' : Int)) (k : Sm Γ K p l e R s m args below meth c nL rt x lv st pc' o) : Sm Γ K p l e R s m args below meth c nL rt x lv (.int a :: st) pc o := by
  subst ha
  exact fun r x' ho H locs ls hP hS hl => lv_tableIn C.1 C.2.1 hd h1 h2 hf ht (k r x' ho H locs ls hP hS hl)
theorem k_tswOut (C : k_C Γ p R s m args meth c cc nL own rm) {dflt lo hi : Int} {offs : Array Int} {len : Nat} {a : Int32} (hd : decode cc pc = .ok (.tableswitch dflt lo hi offs, len)) (h : a.toInt < lo ∨ hi < a.toInt) (ht : (pc : Int) + dflt = (pc' : Int)) (k : Sm Γ K p l e R s m args below meth c nL rt x lv st pc' o) : Sm Γ K p l e R s m args below meth c nL rt x lv (.int a :: st) pc o :=
  fun r x' ho H locs ls hP hS hl => lv_tableOut C.1 C.2.1 hd h ht (k r x' ho H locs ls hP hS hl)
theorem k_lsw (C : k_C Γ p R s m args meth c cc nL own rm) {dflt off : Int} {ps : Array (Int × Int)} {len : Nat} {a : Int32} (hd : decode cc pc = .ok (.lookupswitch dflt ps, len)) (hp : (ps.toList.zip (ps.toList.drop 1)).all (fun (a, next) => a.1 < next.1) = true) (hf : Op.lookupswitch.offset ps.toList dflt a.toInt = off) (ht : (pc : Int) + off = (pc' : Int)) (k : Sm Γ K p l e R s m args below meth c nL rt x lv st pc' o) : Sm Γ K p l e R s m args below meth c nL rt x lv (.int a :: st) pc o :=
  fun r x' ho H locs ls hP hS hl => lv_lookup C.1 C.2.1 hd hp hf ht (k r x' ho H locs ls hP hS hl)
theorem k_reti (C : k_C Γ p R s m args meth c cc nL own rm) (hrt : rt = jM true Γ K below args s) (hr : meth.sig.returnType = some .int) {v : Int32} (hd : decode cc pc = .ok (.ireturn, 1)) : Sm Γ K p l e R s m args below meth c nL rt x lv [.int v] pc (some (v, x)) := by
  subst hrt
  intro r x' ho H locs ls hP hS hl
  obtain ⟨ho, -⟩ := ho
  cases ho
  exact W.iret C.1 C.2.1 hr (fun t ht hW => ⟨rfl, by rw [ht]; exact hP, hS.F ht⟩) hS.2.2 hd C.2.2.2.2.1
theorem k_retz (C : k_C Γ p R s m args meth c cc nL own rm) (hrt : rt = jM true Γ K below args s) (hr : meth.sig.returnType = some .boolean) {v : Int32} (hv : v = 0 ∨ v = 1) (hd : decode cc pc = .ok (.ireturn, 1)) : Sm Γ K p l e R s m args below meth c nL rt x lv [.int v] pc (some (v, x)) := by
  subst hrt
  intro r x' ho H locs ls hP hS hl
  obtain ⟨ho, -⟩ := ho
  cases ho
  exact W.zret C.1 C.2.1 hr (by rcases hv with rfl | rfl <;> rfl) (fun t ht hW => ⟨rfl, by rw [ht]; exact hP, hS.F ht⟩) hS.2.2 hd C.2.2.2.2.1
theorem k_retv (C : k_C Γ p R s m args meth c cc nL own rm) (hrt : rt = jM false Γ K below args s) (hr : meth.sig.returnType = none) (hd : decode cc pc = .ok (.return_, 1)) : Sm Γ K p l e R s m args below meth c nL rt x lv [] pc (some (0, x)) := by
  subst hrt
  intro r x' ho H locs ls hP hS hl
  obtain ⟨ho, -⟩ := ho
  cases ho
  exact W.vret C.1 C.2.1 hr (fun t ht hW => ⟨rfl, by rw [ht]; exact hP, hS.F ht⟩) hS.2.2 hd C.2.2.2.2.1
/-- what a class's field is, by number: its link from a class, its lays -/
def k_fld (own : String) (idx ci kk : Nat) : Prop := ∃ q : vw_C, vwCl[ci]? = some q ∧ kk < q.2.2 ∧ Cond.fieldLink own idx (q.2.1 kk).1 (q.2.1 kk).2.1 (q.2.1 kk).2.2.1 ∈ lw_g ∧ ∀ w ∈ u_ws q.1 q.2.1 q.2.2, w ∈ lw_g
def k_fldp (ci kk : Nat) : Prop := ∃ (q : vw_C) (ty0 : Nat → FieldType), vwCl[ci]? = some q ∧ (∀ k, k < q.2.2 → parseFieldDescriptor (q.2.1 k).2.2.1 = some (ty0 k)) ∧ (∀ a, a < q.2.2 → ∀ b, b < q.2.2 → a ≠ b → (q.2.1 a).2.1 ≠ (q.2.1 b).2.1) ∧ (q.2.1 kk).2.2.2 = false ∧ parseFieldDescriptor (q.2.1 kk).2.2.1 = some .int
theorem k_getf (C : k_C Γ p R s m args meth c cc nL own rm) {i j ci idx : Nat} {fs : List Value} {v : Value} (kk : Nat) (hce : K.2 x i j = .inr (ci, fs)) (hij : 44 * i + j < K.1 ∧ j < 44) (F : k_fld own idx ci kk) (hv : fs[kk]? = some v) (hd : decode cc pc = .ok (.getfield idx, 3)) (hpc : pc + 3 = pc') (k : Sm Γ K p l e R s m args below meth c nL rt x lv (v :: st) pc' o) : Sm Γ K p l e R s m args below meth c nL rt x lv (.ref (Γ.1 i j) :: st) pc o := by
  subst hpc
  obtain ⟨⟨Cn, T, N⟩, f1, f2, f3, f4⟩ := F
  intro r x' ho H locs ls hP hS hl
  have he := k_wl_at (Γ := Γ) (x := x) hij
  rw [hce] at he
  exact va_get C.1 C.2.1 C.2.2.2.2.2.1 f4 C.2.2.2.1 C.2.2.2.2.2.2.1 hP (44 * i + j) he f1 kk f2 (C.2.2.2.2.2.1 _ f3) (fun _ h => h) hv hd (k r x' ho H locs ls hP hS hl)
theorem k_putf (C : k_C Γ p R s m args meth c cc nL own rm) (hL : k_L Γ K) {i j ci idx : Nat} {fs : List Value} {v : Int32} {x1 : μ} {f : μ → Option (Int32 × μ)} (kk : Nat) (hce : K.2 x i j = .inr (ci, fs)) (hij : 44 * i + j < K.1 ∧ j < 44) (F : k_fld own idx ci kk) (G : k_fldp ci kk) (hlen : kk < fs.length) (hset : ∀ i' j', K.2 x1 i' j' = if i' = i ∧ j' = j then .inr (ci, fs.set kk (.int v)) else K.2 x i' j') (hd : decode cc pc = .ok (.putfield idx, 3)) (hpc : pc + 3 = pc') (k : ∀ x : μ, Sm Γ K p l e R s m args below meth c nL rt x lv st pc' (f x)) : Sm Γ K p l e R s m args below meth c nL rt x lv (.int v :: .ref (Γ.1 i j) :: st) pc (k_let x1 f) := by
  subst hpc
  obtain ⟨⟨Cn, T, N⟩, f1, f2, f3, f4⟩ := F
  obtain ⟨q, ty0, g1, g2, g3, g4, g5⟩ := G
  have hq : q = (Cn, T, N) := Option.some.inj (g1.symm.trans f1)
  subst hq
  intro r x' ho H locs ls hP hS hl
  have he := k_wl_at (Γ := Γ) (x := x) hij
  rw [hce] at he
  refine va_put C.1 C.2.1 C.2.2.2.2.2.1 f4 ty0 g2 g3 C.2.2.2.1 C.2.2.2.2.2.2.1 hP (hL x) hS (44 * i + j) he f1 kk f2 (C.2.2.2.2.2.1 _ f3) (fun _ h => h) g4 g5 rfl rfl hlen hd (fun H1 locs1 hP1 hD1 hS1 => ?_)
  rw [k_wl_set hij hset] at hP1
  exact k x1 r x' ho H1 locs1 ls hP1 hS1 hl
theorem k_inb {a : Int32} {n : Nat} (h : ¬ a < 0 ∧ a.toNatClampNeg < n) : vp_in a n := fun q => by
  rcases q with q | q
  · exact h.1 q
  · omega
theorem k_iald (C : k_C Γ p R s m args meth c cc nL own rm) {i j n : Nat} {f : Nat → Int32} {a : Int32} (hce : K.2 x i j = .inl (Γ.2.2.1 0, n, .inl f)) (hij : 44 * i + j < K.1 ∧ j < 44) (hd : decode cc pc = .ok (.iaload, 1)) (hpc : pc + 1 = pc') (k : (¬ a < 0 ∧ a.toNatClampNeg < n) → Sm Γ K p l e R s m args below meth c nL rt x lv (.int (f a.toNatClampNeg) :: st) pc' o) : Sm Γ K p l e R s m args below meth c nL rt x lv (.int a :: .ref (Γ.1 i j) :: st) pc (if ¬ a < 0 ∧ a.toNatClampNeg < n then o else none) := by
  subst hpc
  refine k_gd fun h => ?_
  intro r x' ho H locs ls hP hS hl
  have he := k_wl_at (Γ := Γ) (x := x) hij
  rw [hce] at he
  exact va_iald C.1 C.2.1 C.2.2.2.2.2.2.1 hP (44 * i + j) 0 he rfl (k_inb h) hd (k h r x' ho H locs ls hP hS hl)
theorem k_cald (C : k_C Γ p R s m args meth c cc nL own rm) {i j n : Nat} {f : Nat → Int32} {a : Int32} (hce : K.2 x i j = .inl (Γ.2.2.1 1, n, .inl f)) (hij : 44 * i + j < K.1 ∧ j < 44) (hd : decode cc pc = .ok (.caload, 1)) (hpc : pc + 1 = pc') (k : (¬ a < 0 ∧ a.toNatClampNeg < n) → Sm Γ K p l e R s m args below meth c nL rt x lv (.int (f a.toNatClampNeg) :: st) pc' o) : Sm Γ K p l e R s m args below meth c nL rt x lv (.int a :: .ref (Γ.1 i j) :: st) pc (if ¬ a < 0 ∧ a.toNatClampNeg < n then o else none) := by
  subst hpc
  refine k_gd fun h => ?_
  intro r x' ho H locs ls hP hS hl
  have he := k_wl_at (Γ := Γ) (x := x) hij
  rw [hce] at he
  exact va_cald C.1 C.2.1 C.2.2.2.2.2.2.1 hP (44 * i + j) 1 he rfl (k_inb h) hd (k h r x' ho H locs ls hP hS hl)
theorem k_iast (C : k_C Γ p R s m args meth c cc nL own rm) (hL : k_L Γ K) {i j n : Nat} {f : Nat → Int32} {a v : Int32} {x1 : μ} {f1 : μ → Option (Int32 × μ)} (hce : K.2 x i j = .inl (Γ.2.2.1 0, n, .inl f)) (hij : 44 * i + j < K.1 ∧ j < 44) (hset : ∀ i' j', K.2 x1 i' j' = if i' = i ∧ j' = j then .inl (Γ.2.2.1 0, n, .inl (upd f a.toNatClampNeg v)) else K.2 x i' j') (hd : decode cc pc = .ok (.iastore, 1)) (hpc : pc + 1 = pc') (k : (¬ a < 0 ∧ a.toNatClampNeg < n) → ∀ x : μ, Sm Γ K p l e R s m args below meth c nL rt x lv st pc' (f1 x)) : Sm Γ K p l e R s m args below meth c nL rt x lv (.int v :: .int a :: .ref (Γ.1 i j) :: st) pc (if ¬ a < 0 ∧ a.toNatClampNeg < n then k_let x1 f1 else none) := by
  subst hpc
  refine k_gd fun h => ?_
  intro r x' ho H locs ls hP hS hl
  have he := k_wl_at (Γ := Γ) (x := x) hij
  rw [hce] at he
  refine va_iast C.1 C.2.1 C.2.2.2.2.2.2.1 hP (hL x) hS (44 * i + j) 0 he rfl (k_inb h) hd (fun H1 locs1 hP1 hD1 hS1 => ?_)
  rw [k_wl_set hij hset] at hP1
  exact k h x1 r x' ho H1 locs1 ls hP1 hS1 hl
theorem k_cast (C : k_C Γ p R s m args meth c cc nL own rm) (hL : k_L Γ K) {i j n : Nat} {f : Nat → Int32} {a v : Int32} {x1 : μ} {f1 : μ → Option (Int32 × μ)} (hce : K.2 x i j = .inl (Γ.2.2.1 1, n, .inl f)) (hij : 44 * i + j < K.1 ∧ j < 44) (hset : ∀ i' j', K.2 x1 i' j' = if i' = i ∧ j' = j then .inl (Γ.2.2.1 1, n, .inl (upd f a.toNatClampNeg (vp_nar .char v))) else K.2 x i' j') (hd : decode cc pc = .ok (.castore, 1)) (hpc : pc + 1 = pc') (k : (¬ a < 0 ∧ a.toNatClampNeg < n) → ∀ x : μ, Sm Γ K p l e R s m args below meth c nL rt x lv st pc' (f1 x)) : Sm Γ K p l e R s m args below meth c nL rt x lv (.int v :: .int a :: .ref (Γ.1 i j) :: st) pc (if ¬ a < 0 ∧ a.toNatClampNeg < n then k_let x1 f1 else none) := by
  subst hpc
  refine k_gd fun h => ?_
  intro r x' ho H locs ls hP hS hl
  have he := k_wl_at (Γ := Γ) (x := x) hij
  rw [hce] at he
  refine va_cast C.1 C.2.1 C.2.2.2.2.2.2.1 hP (hL x) hS (44 * i + j) 1 he rfl (k_inb h) hd (fun H1 locs1 hP1 hD1 hS1 => ?_)
  rw [k_wl_set hij hset] at hP1
  exact k h x1 r x' ho H1 locs1 ls hP1 hS1 hl
theorem k_aald (C : k_C Γ p R s m args meth c cc nL own rm) {i j n b : Nat} {f : Nat → Option Nat} {a : Int32} (t0 : Nat) {Cn : String} (hce : K.2 x i j = .inl (Γ.2.2.1 t0, n, .inr (.inr (.inr (.inr f))))) (hij : 44 * i + j < K.1 ∧ j < 44) (ht : (k_tys Γ)[t0]? = some (Γ.2.2.1 t0, .object Cn)) (hf : f a.toNatClampNeg = some b) (hd : decode cc pc = .ok (.aaload, 1)) (hpc : pc + 1 = pc') (k : (¬ a < 0 ∧ a.toNatClampNeg < n) → Sm Γ K p l e R s m args below meth c nL rt x lv (.ref b :: st) pc' o) : Sm Γ K p l e R s m args below meth c nL rt x lv (.int a :: .ref (Γ.1 i j) :: st) pc (if ¬ a < 0 ∧ a.toNatClampNeg < n then o else none) := by
  subst hpc
  refine k_gd fun h => ?_
  intro r x' ho H locs ls hP hS hl
  have he := k_wl_at (Γ := Γ) (x := x) hij
  rw [hce] at he
  refine va_aldq C.1 C.2.1 C.2.2.2.2.2.2.1 hP (44 * i + j) t0 he ht (k_inb h) hd ?_
  rw [hf]
  exact k h r x' ho H locs ls hP hS hl
/-- the tables' words of a method that is called -/
def k_mw (y : MethodName) (cc : ByteArray) (nL : Nat) (ret : Option FieldType) (n : Nat) : Prop := Cond.code y cc nL ret ∈ lw_g ∧ Cond.initialized y.cls ∈ lw_g ∧ (y.cls ≠ "java/lang/invoke/MethodHandle" ∧ y.cls ≠ "java/lang/invoke/VarHandle") ∧ (parseMethodDescriptor y.desc).map (fun d => d.parameters.length) = some n
def k_iw (y : MethodName) : Prop := Cond.instanceMethod y ∈ lw_g ∧ Cond.selects y.cls y y ∈ lw_g
theorem k_mw.sig {y : MethodName} {cc : ByteArray} {nL n : Nat} {ret : Option FieldType} (h : k_mw y cc nL ret n) : ∀ sig, parseMethodDescriptor y.desc = some sig → n = sig.parameters.length := fun sig hs => by
  have h2 := h.2.2.2
  rw [hs] at h2
  exact (Option.some.inj h2).symm
theorem k_w.go (C : k_C Γ p R s m args meth c cc nL own rm) {H : Heap} {locs : List Loc} (hP : va_P Γ.2.1 vwCl (k_wl Γ K x) H) (hS : va_S Γ.2.2.2.1 s.heap H locs) {U : State} (hU : U.heap = H) (hW : s.WarmedH U.vm) : k_w Γ K x U :=
  ⟨by rw [hU]; exact hP, va_K.moved hW.alike C.2.2.2.2.2.2.1, by rw [hU]; exact (C.2.2.2.2.2.2.2.1.moved hW.alike).kept (fun a h1 h2 => hS.2.1 a h1 h2), C.2.2.2.2.2.2.2.2.2.warm hW⟩
theorem k_w.blind {As : List Value} : FrameBlind (va_Pc As (k_w Γ K x)) := fun a U g mk q => ⟨q.1, q.2.1, va_K.moved (u := U) (U := U.calling g mk a) (Vm.Alike.refl U.vm) q.2.2.1, k_st.moved (u := U) (U := U.calling g mk a) (Vm.Alike.refl U.vm) q.2.2.2.1, k_nw.same (u := U) (U := U.calling g mk a) rfl q.2.2.2.2⟩
theorem k_after {H : Heap} {locs : List Loc} {ls : Array Slot} {st0 rest : List Value} {a : Array Value} {Q : State → Prop} {x' : μ} {r : Int32} {rt' : Bool} {ca sl : Nat} (hr : va_Run p l e R s m args below meth c H locs ca sl 0 0 (F0 m pc ls st0) rest (k_q rt' Γ K x' r a) Γ.2.2.2.1) (hS : va_S Γ.2.2.2.1 s.heap H locs)
    (kk : ∀ (H1 : Heap) (locs1 : List Loc), va_P Γ.2.1 vwCl (k_wl Γ K x') H1 → va_S Γ.2.2.2.1 s.heap H1 locs1 → W p l e R s m args below meth c H1 locs1 ca sl Q (F0 m (pc + 3) ls ((if rt' then some (Value.int r) else none).toList ++ rest))) : W p l e R s m args below meth c H locs ca sl Q (F0 m pc ls st0) := by
  intro T hT X
  obtain ⟨v, st₀, t, T', L, h0, X', hL, e1, e2, ⟨hv, hp, hz, hk⟩, stp⟩ := hr T hT X
  cases hv
  rw [h0] at hz hk
  obtain ⟨t2, a1, b1⟩ := kk T'.heap (locs ++ L) (by rw [e1]; exact hp)
    ⟨Nat.le_trans hS.1 (by rw [e1]; exact hz), fun q h1 h2 => by rw [e1, hk q (Nat.lt_of_lt_of_le h1 hS.1) h2]; exact hS.2.1 q h1 h2, fun q hq => by
      rcases List.mem_append.mp hq with h | h
      · exact hS.2.2 q h
      · exact hL q h⟩ T' rfl X'
  exact ⟨t2, stp t2 a1, b1⟩
/-- the room that a callee wants of the caller's -/
def k_rm (rm' rm : Room) (nL' : Nat) : Prop := rm'.cells = 0 ∧ rm'.slots = 0 ∧ rm'.frames + 1 ≤ rm.frames ∧ 8 + (nL' + 11) + rm'.locals ≤ rm.locals
theorem k_callV (C : k_C Γ p R s m args meth c cc nL own rm) {y : MethodName} {cc' : ByteArray} {nL' idx n : Nat} {ret : Option FieldType} {rm' : Room} {i j : Nat} {ci : Nat} {fs As rest : List Value} {o1 : Option (Int32 × μ)} {f : Int32 → μ → Option (Int32 × μ)} (hC : CT l Γ K y cc' nL' ret rm' (.ref (Γ.1 i j) :: As) x o1) (F : k_mw y cc' nL' ret n) (G : k_iw y) (hlk : Cond.methodLink own idx y ∈ lw_g) (hrm : k_rm rm' rm nL') (hce : K.2 x i j = .inr (ci, fs)) (hij : 44 * i + j < K.1 ∧ j < 44) (hc : (vwCl[ci]?).map (fun q => q.1) = some y.cls) (hn : As.length = n) (hst : st = As.reverse ++ .ref (Γ.1 i j) :: rest) (hcat : (rest.map fun v => v.category).sum ≤ 8) (hd : decode cc pc = .ok (.invokevirtual idx, 3)) (hpc : pc + 3 = pc')
    (k : ∀ (r : Int32) (x : μ), Sm Γ K p l e R s m args below meth c nL rt x lv ((if ret.isSome then some (Value.int r) else none).toList ++ rest) pc' (f r x)) : Sm Γ K p l e R s m args below meth c nL rt x lv st pc (bd o1 f) := by
  subst hpc
  subst hst
  intro r x' ho H locs ls hP hS hl
  obtain ⟨r1, x1, h1, h2⟩ := bd_some ho.1
  have hM := hC r1 x1 h1
  obtain ⟨hx, hb, hml, hown, hlocks, hts, hK, hst', hR, hnw⟩ := id C
  subst hR
  have he := k_wl_at (Γ := Γ) (x := x) hij
  rw [hce] at he
  obtain ⟨q, hq, hqc⟩ := Option.map_eq_some_iff.mp hc
  refine k_after (va_runV (Ts := lw_g) (own := own) (C := y.cls) (As := As) (rest := rest) ⟨hx, hb, hml, hown, hts⟩ hM ⟨⟨hrm.1, hrm.2.1, hrm.2.2.1, hrm.2.2.2, pay_in hts (tbl_in F.1), List.mem_cons_self, hts _ F.1, hts _ F.2.1, F.2.2.1, F.sig, hts _ hlk⟩, hts _ G.1, hts _ G.2⟩ ⟨k_w.blind, by rw [← hqc]; exact va_recv hK hP hq he, fun U hU hW => ⟨rfl, k_w.go C hP hS hU hW⟩⟩ rfl hn hl.1 rfl (lv_room hcat) hd ho.2) hS (fun H1 locs1 hP1 hS1 => ?_)
  exact k r1 x1 r x' ⟨h2, ho.2⟩ H1 locs1 ls hP1 hS1 hl
theorem k_callS (C : k_C Γ p R s m args meth c cc nL own rm) {y : MethodName} {cc' : ByteArray} {nL' idx n : Nat} {ret : Option FieldType} {rm' : Room} {As rest : List Value} {o1 : Option (Int32 × μ)} {f : Int32 → μ → Option (Int32 × μ)} (hC : CT l Γ K y cc' nL' ret rm' As x o1) (F : k_mw y cc' nL' ret n) (G : Cond.static y ∈ lw_g) (hlk : Cond.methodLink own idx y ∈ lw_g) (hrm : k_rm rm' rm nL') (hn : As.length = n) (hst : st = As.reverse ++ rest) (hcat : (rest.map fun v => v.category).sum ≤ 8) (hd : decode cc pc = .ok (.invokestatic idx, 3)) (hpc : pc + 3 = pc')
    (k : ∀ (r : Int32) (x : μ), Sm Γ K p l e R s m args below meth c nL rt x lv ((if ret.isSome then some (Value.int r) else none).toList ++ rest) pc' (f r x)) : Sm Γ K p l e R s m args below meth c nL rt x lv st pc (bd o1 f) := by
  subst hpc
  subst hst
  intro r x' ho H locs ls hP hS hl
  obtain ⟨r1, x1, h1, h2⟩ := bd_some ho.1
  have hM := hC r1 x1 h1
  obtain ⟨hx, hb, hml, hown, hlocks, hts, hK, hst', hR, hnw⟩ := id C
  subst hR
  refine k_after (va_runS (Ts := lw_g) (own := own) (As := As) (rest := rest) ⟨hx, hb, hml, hown, hts⟩ hM ⟨⟨hrm.1, hrm.2.1, hrm.2.2.1, hrm.2.2.2, pay_in hts (tbl_in F.1), List.mem_cons_self, hts _ F.1, hts _ F.2.1, F.2.2.1, F.sig, hts _ hlk⟩, hts _ G⟩ ⟨k_w.blind, fun U hU hW => ⟨rfl, k_w.go C hP hS hU hW⟩⟩ rfl hn hl.1 rfl (lv_room hcat) hd ho.2) hS (fun H1 locs1 hP1 hS1 => ?_)
  exact k r1 x1 r x' ⟨h2, ho.2⟩ H1 locs1 ls hP1 hS1 hl
theorem k_callSN (C : k_C Γ p R s m args meth c cc nL own rm) {y : MethodName} {host : String} {cc' : ByteArray} {nL' idx n : Nat} {ret : Option FieldType} {rm' : Room} {As rest : List Value} {o1 : Option (Int32 × μ)} {f : Int32 → μ → Option (Int32 × μ)} (hC : CT l Γ K y cc' nL' ret rm' As x o1) (F : k_mw y cc' nL' ret n) (G : Cond.static y ∈ lw_g) (hlk : k_nw s → va_Nw (.methodLinkNest own idx y host) s) (hrm : k_rm rm' rm nL') (hn : As.length = n) (hst : st = As.reverse ++ rest) (hcat : (rest.map fun v => v.category).sum ≤ 8) (hd : decode cc pc = .ok (.invokestatic idx, 3)) (hpc : pc + 3 = pc')
    (k : ∀ (r : Int32) (x : μ), Sm Γ K p l e R s m args below meth c nL rt x lv ((if ret.isSome then some (Value.int r) else none).toList ++ rest) pc' (f r x)) : Sm Γ K p l e R s m args below meth c nL rt x lv st pc (bd o1 f) := by
  subst hpc
  subst hst
  intro r x' ho H locs ls hP hS hl
  obtain ⟨r1, x1, h1, h2⟩ := bd_some ho.1
  have hM := hC r1 x1 h1
  obtain ⟨hx, hb, hml, hown, hlocks, hts, hK, hst', hR, hnw⟩ := id C
  subst hR
  refine k_after (va_runSN (Ts := lw_g) (own := own) (host := host) (As := As) (rest := rest) ⟨hx, hb, hml, hown, hts⟩ hM ⟨⟨⟨hrm.1, hrm.2.1, hrm.2.2.1, hrm.2.2.2, pay_in hts (tbl_in F.1), List.mem_cons_self⟩, hts _ F.1, hts _ F.2.1, F.2.2.1, F.sig, va_Nw.use rfl (hlk hnw)⟩, hts _ G, trivial⟩ ⟨k_w.blind, fun U hU hW => ⟨rfl, k_w.go C hP hS hU hW⟩⟩ rfl hn hl.1 rfl (lv_room hcat) hd ho.2) hS (fun H1 locs1 hP1 hS1 => ?_)
  exact k r1 x1 r x' ⟨h2, ho.2⟩ H1 locs1 ls hP1 hS1 hl

theorem k_mmin (C : k_C Γ p R s m args meth c cc nL own rm) {idx : Nat} {a b : Int32} (hlk : Cond.methodLink own idx Lib.Math.min.name ∈ lw_g) (hw : Cond.static Lib.Math.min.name ∈ lw_g ∧ Cond.initialized "java/lang/Math" ∈ lw_g ∧ Cond.code Lib.Math.min.name Lib.Math.min.code 2 (some .int) ∈ lw_g) (hrm : 1 ≤ rm.frames ∧ 21 ≤ rm.locals) (hcat : (st.map fun v => v.category).sum ≤ 8) (hd : decode cc pc = .ok (.invokestatic idx, 3)) (hpc : pc + 3 = pc') (k : Sm Γ K p l e R s m args below meth c nL rt x lv (.int (if b < a then b else a) :: st) pc' o) : Sm Γ K p l e R s m args below meth c nL rt x lv (.int b :: .int a :: st) pc o := by
  subst hpc
  intro r x' ho H locs ls hP hS hl
  obtain ⟨hx, hb, hml, hown, hlocks, hts, hK, hst', hR, hnw⟩ := id C
  subst hR
  exact va_mmin hx hb (hml.trans hl.1.symm) hown (hts _ hlk) (hts _ hw.1) (hts _ hw.2.1) (hts _ hw.2.2) hrm.1 (by omega) ho.2.1 ho.2.2 hd (k r x' ho H locs ls hP hS hl)
theorem k_mmax (C : k_C Γ p R s m args meth c cc nL own rm) {idx : Nat} {a b : Int32} (hlk : Cond.methodLink own idx Lib.Math.max.name ∈ lw_g) (hw : Cond.static Lib.Math.max.name ∈ lw_g ∧ Cond.initialized "java/lang/Math" ∈ lw_g ∧ Cond.code Lib.Math.max.name Lib.Math.max.code 2 (some .int) ∈ lw_g) (hrm : 1 ≤ rm.frames ∧ 21 ≤ rm.locals) (hcat : (st.map fun v => v.category).sum ≤ 8) (hd : decode cc pc = .ok (.invokestatic idx, 3)) (hpc : pc + 3 = pc') (k : Sm Γ K p l e R s m args below meth c nL rt x lv (.int (if a < b then b else a) :: st) pc' o) : Sm Γ K p l e R s m args below meth c nL rt x lv (.int b :: .int a :: st) pc o := by
  subst hpc
  intro r x' ho H locs ls hP hS hl
  obtain ⟨hx, hb, hml, hown, hlocks, hts, hK, hst', hR, hnw⟩ := id C
  subst hR
  exact va_mmax hx hb (hml.trans hl.1.symm) hown (hts _ hlk) (hts _ hw.1) (hts _ hw.2.1) (hts _ hw.2.2) hrm.1 (by omega) ho.2.1 ho.2.2 hd (k r x' ho H locs ls hP hS hl)
theorem k_mabs (C : k_C Γ p R s m args meth c cc nL own rm) {idx : Nat} {a : Int32} (hlk : Cond.methodLink own idx Lib.Math.abs.name ∈ lw_g) (hw : Cond.static Lib.Math.abs.name ∈ lw_g ∧ Cond.initialized "java/lang/Math" ∈ lw_g ∧ Cond.code Lib.Math.abs.name Lib.Math.abs.code 1 (some .int) ∈ lw_g) (hrm : 1 ≤ rm.frames ∧ 21 ≤ rm.locals) (hcat : (st.map fun v => v.category).sum ≤ 8) (hd : decode cc pc = .ok (.invokestatic idx, 3)) (hpc : pc + 3 = pc') (k : Sm Γ K p l e R s m args below meth c nL rt x lv (.int (if 0 ≤ a then a else 0 - a) :: st) pc' o) : Sm Γ K p l e R s m args below meth c nL rt x lv (.int a :: st) pc o := by
  subst hpc
  intro r x' ho H locs ls hP hS hl
  obtain ⟨hx, hb, hml, hown, hlocks, hts, hK, hst', hR, hnw⟩ := id C
  subst hR
  exact va_mabs hx hb (hml.trans hl.1.symm) hown (hts _ hlk) (hts _ hw.1) (hts _ hw.2.1) (hts _ hw.2.2) hrm.1 (by omega) ho.2.1 ho.2.2 hd (k r x' ho H locs ls hP hS hl)
theorem k_getsL (C : k_C Γ p R s m args meth c cc nL own rm) {idx : Nat} (hlk : k_nw s → va_Nw (.fieldLinkNest own idx "SeaMill" "LEAST_SETTINGS" "[I" "SeaMill") s) (hd : decode cc pc = .ok (.getstatic idx, 3)) (hpc : pc + 3 = pc') (k : ∀ t : Nat, va_T .int t 13 (fun j => .int (k_least j)) Γ.2.2.2.1 s s.heap → Sm Γ K p l e R s m args below meth c nL rt x lv (.ref t :: st) pc' o) : Sm Γ K p l e R s m args below meth c nL rt x lv st pc o := by
  subst hpc
  intro r x' ho H locs ls hP hS hl
  obtain ⟨hx, hb, hml, hown, hlocks, hts, hK, hst', hR, hnw⟩ := id C
  obtain ⟨⟨t, h1, h2⟩, -⟩ := hst'
  exact va_getsN hx hb h1 hS hown (va_Nw.use rfl (hlk hnw)) (fun _ h => h) hd (k t h2 r x' ho H locs ls hP hS hl)
theorem k_getsG (C : k_C Γ p R s m args meth c cc nL own rm) {idx : Nat} (hlk : k_nw s → va_Nw (.fieldLinkNest own idx "SeaMill" "GREATEST_SETTINGS" "[I" "SeaMill") s) (hd : decode cc pc = .ok (.getstatic idx, 3)) (hpc : pc + 3 = pc') (k : ∀ t : Nat, va_T .int t 13 (fun j => .int (k_great j)) Γ.2.2.2.1 s s.heap → Sm Γ K p l e R s m args below meth c nL rt x lv (.ref t :: st) pc' o) : Sm Γ K p l e R s m args below meth c nL rt x lv st pc o := by
  subst hpc
  intro r x' ho H locs ls hP hS hl
  obtain ⟨hx, hb, hml, hown, hlocks, hts, hK, hst', hR, hnw⟩ := id C
  obtain ⟨-, ⟨t, h1, h2⟩, -⟩ := hst'
  exact va_getsN hx hb h1 hS hown (va_Nw.use rfl (hlk hnw)) (fun _ h => h) hd (k t h2 r x' ho H locs ls hP hS hl)
theorem k_tald (C : k_C Γ p R s m args meth c cc nL own rm) {t : Nat} {f : Nat → Int32} {a : Int32} (hT : va_T .int t 13 (fun j => .int (f j)) Γ.2.2.2.1 s s.heap) (hd : decode cc pc = .ok (.iaload, 1)) (hpc : pc + 1 = pc') (k : (¬ a < 0 ∧ a.toNatClampNeg < 13) → Sm Γ K p l e R s m args below meth c nL rt x lv (.int (f a.toNatClampNeg) :: st) pc' o) : Sm Γ K p l e R s m args below meth c nL rt x lv (.int a :: .ref t :: st) pc (if ¬ a < 0 ∧ a.toNatClampNeg < 13 then o else none) := by
  subst hpc
  refine k_gd fun h => ?_
  intro r x' ho H locs ls hP hS hl
  exact va_ti C.1 C.2.1 hT hS (k_inb h) rfl hd (k h r x' ho H locs ls hP hS hl)
end KC
section KS
variable {μ : Type} {Γ : kG} {K : Nat × (μ → Nat → Nat → va_E)} {p : Program} {l : Launch} {e : Env} {R : Room} {s : State} {m : MethodId} {args : Array Value} {below : List Frame} {meth : Method} {c : Code} {cc : ByteArray} {nL : Nat} {own : String} {rm : Room} {rt : kJ μ} {x : μ} {lv : List (Nat × Value)} {st : List Value} {pc pc' : Nat} {o o1 o2 : Option (Int32 × μ)}
theorem k_slen (C : k_C Γ p R s m args meth c cc nL own rm) {sl : Nat} (hsl : sl = sL Γ) (hd : decode cc pc = .ok (.arraylength, 1)) (hpc : pc + 1 = pc') (k : Sm Γ K p l e R s m args below meth c nL rt x lv (.int (nI sl) :: st) pc' o) : Sm Γ K p l e R s m args below meth c nL rt x lv (.ref (sB Γ) :: st) pc o := by
  subst hpc
  subst hsl
  intro r x' ho H locs ls hP hS hl
  have h := C.2.2.2.2.2.2.2.1.2.2
  have hb : sB Γ < s.heap.size := by obtain ⟨scr, g1, -⟩ := h.1; exact (Array.getElem?_eq_some_iff.mp g1).1
  exact va_slen C.1 C.2.1 h.1 hb h.2.1 hS hd (k r x' ho H locs ls hP hS hl)
theorem k_sld (C : k_C Γ p R s m args meth c cc nL own rm) {a : Int32} {sl : Nat} {sx : Nat → Int32} (hsl : sl = sL Γ) (hsx : sx = sX Γ) (hd : decode cc pc = .ok (.iaload, 1)) (hpc : pc + 1 = pc') (k : (¬ a < 0 ∧ a.toNatClampNeg < sl) → Sm Γ K p l e R s m args below meth c nL rt x lv (.int (sx a.toNatClampNeg) :: st) pc' o) : Sm Γ K p l e R s m args below meth c nL rt x lv (.int a :: .ref (sB Γ) :: st) pc (if ¬ a < 0 ∧ a.toNatClampNeg < sl then o else none) := by
  subst hpc
  subst hsl
  subst hsx
  refine k_gd fun h => ?_
  intro r x' ho H locs ls hP hS hl
  have hq := C.2.2.2.2.2.2.2.1.2.2
  have hb : sB Γ < s.heap.size := by obtain ⟨scr, g1, -⟩ := hq.1; exact (Array.getElem?_eq_some_iff.mp g1).1
  exact va_sld C.1 C.2.1 hq.1 hb hq.2.1 hS (k_inb h) hd (k h r x' ho H locs ls hP hS hl)
end KS
