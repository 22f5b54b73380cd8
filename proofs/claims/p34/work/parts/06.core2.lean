/-- a depth of calls -/
def k_R (d : Nat) : Room := { frames := d, cells := 0, slots := 0, locals := 30 * d }
theorem k_rm_of {d' d nL' : Nat} (h : d' + 1 ≤ d) (hn : nL' ≤ 11) : k_rm (k_R d') (k_R d) nL' := ⟨rfl, rfl, h, by show 8 + (nL' + 11) + 30 * d' ≤ 30 * d; omega⟩
/-- more steps than any loop here takes -/
def kFu : Nat := 5000
def k_on (M : kM2) (i : Nat) (o : Option (Int32 × kM1)) : Option (Int32 × kM2) := o.map fun q => (q.1, up M i q.2)
/-- n elements of one row over another's -/
def k_cp (M : kM2) (i i1 j n : Nat) : kM2 := up M i fun j' => if j' = j then va_cpy (M i1 j) (M i j) 0 0 n else M i j'
theorem CT.lift2 {l : Launch} {Γ : kG} {M : kM2} {i : Nat} {y : MethodName} {cc : ByteArray} {nL : Nat} {ret : Option FieldType} {rm : Room} {As : List Value} {o : Option (Int32 × kM1)} (h : CT l Γ (K1 Γ M i) y cc nL ret rm As (M i) o) : CT l Γ (K2 Γ) y cc nL ret rm As M (k_on M i o) := CT.lift h
theorem cw_copy : Cond.methodLink RX3 57 arraycopyName ∈ lw_g ∧ Cond.native arraycopyName ∈ lw_g ∧ Cond.static arraycopyName ∈ lw_g ∧ Cond.initialized "java/lang/System" ∈ lw_g := ⟨lw_gm (i := 294) (by decide +kernel) rfl, lw_gm (i := 296) (by decide +kernel) rfl, lw_gm (i := 295) (by decide +kernel) rfl, lw_gm (i := 26) (by decide +kernel) rfl⟩
section KC2
variable {μ : Type} {Γ : kG} {K : Nat × (μ → Nat → Nat → va_E)} {p : Program} {l : Launch} {e : Env} {R : Room} {s : State} {m : MethodId} {args : Array Value} {below : List Frame} {meth : Method} {c : Code} {cc : ByteArray} {nL : Nat} {own : String} {rm : Room} {rt : kJ μ} {x : μ} {lv : List (Nat × Value)} {st : List Value} {pc pc' : Nat} {o o1 o2 : Option (Int32 × μ)}

theorem k_callVi (C : k_C Γ p R s m args meth c cc nL own rm) {y : MethodName} {cc' : ByteArray} {nL' idx n : Nat} {ty : FieldType} {rm' : Room} {i j ci : Nat} {fs : List Value} {As rest : List Value} {o1 : Option (Int32 × μ)} {f : Int32 → μ → Option (Int32 × μ)} (hC : CT l Γ K y cc' nL' (some ty) rm' (.ref (Γ.1 i j) :: As) x o1) (F : k_mw y cc' nL' (some ty) n) (G : k_iw y) (hlk : Cond.methodLink own idx y ∈ lw_g) (hrm : k_rm rm' rm nL') (hce : K.2 x i j = .inr (ci, fs)) (hij : 44 * i + j < K.1 ∧ j < 44) (hc : (vwCl[ci]?).map (fun q => q.1) = some y.cls) (hn : As.length = n) (hst : st = As.reverse ++ .ref (Γ.1 i j) :: rest) (hcat : (rest.map fun v => v.category).sum ≤ 8) (hd : decode cc pc = .ok (.invokevirtual idx, 3)) (hpc : pc + 3 = pc') (k : ∀ (r : Int32) (x : μ), Sm Γ K p l e R s m args below meth c nL rt x lv (.int r :: rest) pc' (f r x)) : Sm Γ K p l e R s m args below meth c nL rt x lv st pc (bd o1 f) := k_callV C hC F G hlk hrm hce hij hc hn hst hcat hd hpc k
theorem k_callVv (C : k_C Γ p R s m args meth c cc nL own rm) {y : MethodName} {cc' : ByteArray} {nL' idx n : Nat}  {rm' : Room} {i j ci : Nat} {fs : List Value} {As rest : List Value} {o1 : Option (Int32 × μ)} {f : Int32 → μ → Option (Int32 × μ)} (hC : CT l Γ K y cc' nL' none rm' (.ref (Γ.1 i j) :: As) x o1) (F : k_mw y cc' nL' none n) (G : k_iw y) (hlk : Cond.methodLink own idx y ∈ lw_g) (hrm : k_rm rm' rm nL') (hce : K.2 x i j = .inr (ci, fs)) (hij : 44 * i + j < K.1 ∧ j < 44) (hc : (vwCl[ci]?).map (fun q => q.1) = some y.cls) (hn : As.length = n) (hst : st = As.reverse ++ .ref (Γ.1 i j) :: rest) (hcat : (rest.map fun v => v.category).sum ≤ 8) (hd : decode cc pc = .ok (.invokevirtual idx, 3)) (hpc : pc + 3 = pc') (k : ∀ (r : Int32) (x : μ), Sm Γ K p l e R s m args below meth c nL rt x lv rest pc' (f r x)) : Sm Γ K p l e R s m args below meth c nL rt x lv st pc (bd o1 f) := k_callV C hC F G hlk hrm hce hij hc hn hst hcat hd hpc k
theorem k_callSi (C : k_C Γ p R s m args meth c cc nL own rm) {y : MethodName} {cc' : ByteArray} {nL' idx n : Nat} {ty : FieldType} {rm' : Room}  {As rest : List Value} {o1 : Option (Int32 × μ)} {f : Int32 → μ → Option (Int32 × μ)} (hC : CT l Γ K y cc' nL' (some ty) rm' As x o1) (F : k_mw y cc' nL' (some ty) n) (G : Cond.static y ∈ lw_g) (hlk : Cond.methodLink own idx y ∈ lw_g) (hrm : k_rm rm' rm nL') (hn : As.length = n) (hst : st = As.reverse ++ rest) (hcat : (rest.map fun v => v.category).sum ≤ 8) (hd : decode cc pc = .ok (.invokestatic idx, 3)) (hpc : pc + 3 = pc') (k : ∀ (r : Int32) (x : μ), Sm Γ K p l e R s m args below meth c nL rt x lv (.int r :: rest) pc' (f r x)) : Sm Γ K p l e R s m args below meth c nL rt x lv st pc (bd o1 f) := k_callS C hC F G hlk hrm hn hst hcat hd hpc k
theorem k_callSv (C : k_C Γ p R s m args meth c cc nL own rm) {y : MethodName} {cc' : ByteArray} {nL' idx n : Nat}  {rm' : Room}  {As rest : List Value} {o1 : Option (Int32 × μ)} {f : Int32 → μ → Option (Int32 × μ)} (hC : CT l Γ K y cc' nL' none rm' As x o1) (F : k_mw y cc' nL' none n) (G : Cond.static y ∈ lw_g) (hlk : Cond.methodLink own idx y ∈ lw_g) (hrm : k_rm rm' rm nL') (hn : As.length = n) (hst : st = As.reverse ++ rest) (hcat : (rest.map fun v => v.category).sum ≤ 8) (hd : decode cc pc = .ok (.invokestatic idx, 3)) (hpc : pc + 3 = pc') (k : ∀ (r : Int32) (x : μ), Sm Γ K p l e R s m args below meth c nL rt x lv rest pc' (f r x)) : Sm Γ K p l e R s m args below meth c nL rt x lv st pc (bd o1 f) := k_callS C hC F G hlk hrm hn hst hcat hd hpc k
theorem k_callSNi (C : k_C Γ p R s m args meth c cc nL own rm) {y : MethodName} {cc' : ByteArray} {nL' idx n : Nat} {ty : FieldType} {rm' : Room} {host : String} {As rest : List Value} {o1 : Option (Int32 × μ)} {f : Int32 → μ → Option (Int32 × μ)} (hC : CT l Γ K y cc' nL' (some ty) rm' As x o1) (F : k_mw y cc' nL' (some ty) n) (G : Cond.static y ∈ lw_g) (hlk : k_nw s → va_Nw (.methodLinkNest own idx y host) s) (hrm : k_rm rm' rm nL') (hn : As.length = n) (hst : st = As.reverse ++ rest) (hcat : (rest.map fun v => v.category).sum ≤ 8) (hd : decode cc pc = .ok (.invokestatic idx, 3)) (hpc : pc + 3 = pc') (k : ∀ (r : Int32) (x : μ), Sm Γ K p l e R s m args below meth c nL rt x lv (.int r :: rest) pc' (f r x)) : Sm Γ K p l e R s m args below meth c nL rt x lv st pc (bd o1 f) := k_callSN C hC F G hlk hrm hn hst hcat hd hpc k
theorem k_callSNv (C : k_C Γ p R s m args meth c cc nL own rm) {y : MethodName} {cc' : ByteArray} {nL' idx n : Nat}  {rm' : Room} {host : String} {As rest : List Value} {o1 : Option (Int32 × μ)} {f : Int32 → μ → Option (Int32 × μ)} (hC : CT l Γ K y cc' nL' none rm' As x o1) (F : k_mw y cc' nL' none n) (G : Cond.static y ∈ lw_g) (hlk : k_nw s → va_Nw (.methodLinkNest own idx y host) s) (hrm : k_rm rm' rm nL') (hn : As.length = n) (hst : st = As.reverse ++ rest) (hcat : (rest.map fun v => v.category).sum ≤ 8) (hd : decode cc pc = .ok (.invokestatic idx, 3)) (hpc : pc + 3 = pc') (k : ∀ (r : Int32) (x : μ), Sm Γ K p l e R s m args below meth c nL rt x lv rest pc' (f r x)) : Sm Γ K p l e R s m args below meth c nL rt x lv st pc (bd o1 f) := k_callSN C hC F G hlk hrm hn hst hcat hd hpc k
theorem k_ialdK (C : k_C Γ p R s m args meth c cc nL own rm) {i j n n0 : Nat} {f : Nat → Int32} {a : Int32} (hce : K.2 x i j = .inl (Γ.2.2.1 0, n, .inl f)) (hij : 44 * i + j < K.1 ∧ j < 44) (h0 : a.toNatClampNeg = n0) (h1 : ¬ a < 0 ∧ a.toNatClampNeg < n) (hd : decode cc pc = .ok (.iaload, 1)) (hpc : pc + 1 = pc') (k : Sm Γ K p l e R s m args below meth c nL rt x lv (.int (f n0) :: st) pc' o) : Sm Γ K p l e R s m args below meth c nL rt x lv (.int a :: .ref (Γ.1 i j) :: st) pc o := by
  have h := k_iald C (lv := lv) (st := st) (o := o) (e := e) (l := l) (below := below) (rt := rt) hce hij hd hpc (a := a) (fun _ => by rw [h0]; exact k)
  rw [if_pos h1] at h
  exact h
theorem k_caldK (C : k_C Γ p R s m args meth c cc nL own rm) {i j n n0 : Nat} {f : Nat → Int32} {a : Int32} (hce : K.2 x i j = .inl (Γ.2.2.1 1, n, .inl f)) (hij : 44 * i + j < K.1 ∧ j < 44) (h0 : a.toNatClampNeg = n0) (h1 : ¬ a < 0 ∧ a.toNatClampNeg < n) (hd : decode cc pc = .ok (.caload, 1)) (hpc : pc + 1 = pc') (k : Sm Γ K p l e R s m args below meth c nL rt x lv (.int (f n0) :: st) pc' o) : Sm Γ K p l e R s m args below meth c nL rt x lv (.int a :: .ref (Γ.1 i j) :: st) pc o := by
  have h := k_cald C (lv := lv) (st := st) (o := o) (e := e) (l := l) (below := below) (rt := rt) hce hij hd hpc (a := a) (fun _ => by rw [h0]; exact k)
  rw [if_pos h1] at h
  exact h
theorem k_iastK (C : k_C Γ p R s m args meth c cc nL own rm) {i j n n0 : Nat} {f : Nat → Int32} {a v : Int32} {x1 : μ} {f1 : μ → Option (Int32 × μ)} (hL : k_L Γ K) (hce : K.2 x i j = .inl (Γ.2.2.1 0, n, .inl f)) (hij : 44 * i + j < K.1 ∧ j < 44) (h0 : a.toNatClampNeg = n0) (h1 : ¬ a < 0 ∧ a.toNatClampNeg < n) (hset : ∀ i' j', K.2 x1 i' j' = if i' = i ∧ j' = j then .inl (Γ.2.2.1 0, n, .inl (upd f n0 v)) else K.2 x i' j') (hd : decode cc pc = .ok (.iastore, 1)) (hpc : pc + 1 = pc') (k : ∀ x : μ, Sm Γ K p l e R s m args below meth c nL rt x lv st pc' (f1 x)) : Sm Γ K p l e R s m args below meth c nL rt x lv (.int v :: .int a :: .ref (Γ.1 i j) :: st) pc (k_let x1 f1) := by
  subst h0
  have h := k_iast C (lv := lv) (st := st) (f1 := f1) (e := e) (l := l) (below := below) (rt := rt) hL hce hij hset hd hpc (fun _ => k)
  rw [if_pos h1] at h
  exact h
theorem k_copy2 {p : Program} {l : Launch} {e : Env} {R : Room} {s : State} {m : MethodId} {args : Array Value} {below : List Frame} {meth : Method} {c : Code} {cc : ByteArray} {nL : Nat} {rm : Room} {rt : kJ kM2} {M : kM2} {lv : List (Nat × Value)} {st : List Value} {pc pc' : Nat} {f : kM2 → Option (Int32 × kM2)} (C : k_C Γ p R s m args meth c cc nL RX3 rm) (hL : k_Lay Γ 314) (hd : decode cc pc = .ok (.invokestatic 57, 3)) {i i1 j n : Nat} {nn : Int32} (hi1 : i1 < 7) (hi : i < 7) (hn : ¬ nn < 0 ∧ nn.toNatClampNeg = n ∧ j < 44) (e1 : ∀ r, ceI Γ i1 j r = .inl (Γ.2.2.1 0, n, .inl r)) (e0 : ∀ r, ceI Γ i j r = .inl (Γ.2.2.1 0, n, .inl r)) (hrm : 1 ≤ rm.frames ∧ (st.map fun v => v.category).sum + (nativeFrameWords "java/lang/System" "arraycopy" 5 + 11) ≤ rm.locals) (hpc : pc + 3 = pc') (k : ∀ M : kM2, Sm Γ (K2 Γ) p l e R s m args below meth c nL rt M lv st pc' (f M)) : Sm Γ (K2 Γ) p l e R s m args below meth c nL rt M lv (.int nn :: .int 0 :: .ref (Γ.1 i j) :: .int 0 :: .ref (Γ.1 i1 j) :: st) pc (k_let (k_cp M i i1 j n) f) := by
  subst hpc
  obtain ⟨hn0, hnn, hj⟩ := hn
  subst hnn
  intro r x' ho H locs ls hP hS hl
  obtain ⟨hx, hb, hml, hown, hlocks, hts, hK, hst', hR, hnw⟩ := id C
  subst hR
  have v0 : 44 * i + j < (K2 Γ).1 ∧ j < 44 := v_i hi hj
  have v1 : 44 * i1 + j < (K2 Γ).1 ∧ j < 44 := v_i hi1 hj
  have h0 := k_wl_at (Γ := Γ) (K := K2 Γ) (x := M) v0
  have h1 := k_wl_at (Γ := Γ) (K := K2 Γ) (x := M) v1
  rw [show (K2 Γ).2 M i j = _ from e0 (M i j)] at h0
  rw [show (K2 Γ).2 M i1 j = _ from e1 (M i1 j)] at h1
  refine va_copyi hx hb (hml.trans hl.1.symm) hown (hts _ cw_copy.1) (hts _ cw_copy.2.1) (hts _ cw_copy.2.2.1) (hts _ cw_copy.2.2.2) hK hP (hL.k2 M) hS (44 * i1 + j) (44 * i + j) 0 0 h1 h0 rfl rfl rfl (by decide) (by decide) hn0 (by simp) (by simp) (fun _ _ => rfl) hrm.1 hrm.2 hd (fun H1 locs1 hP1 hD1 hS1 => ?_)
  have hset : ∀ i' j', (K2 Γ).2 (k_cp M i i1 j nn.toNatClampNeg) i' j' = if i' = i ∧ j' = j then .inl (Γ.2.2.1 0, nn.toNatClampNeg, .inl (va_cpy (M i1 j) (M i j) (0 : Int32).toNatClampNeg (0 : Int32).toNatClampNeg nn.toNatClampNeg)) else (K2 Γ).2 M i' j' := by
    intro i' j'
    show ceI Γ i' j' (k_cp M i i1 j nn.toNatClampNeg i' j') = if i' = i ∧ j' = j then _ else ceI Γ i' j' (M i' j')
    unfold k_cp
    by_cases q1 : i' = i
    · subst q1
      rw [up_same]
      by_cases q2 : j' = j
      · subst q2
        rw [if_pos rfl, if_pos ⟨rfl, rfl⟩, e0]
        rfl
      · rw [if_neg q2, if_neg (fun z => q2 z.2)]
    · rw [up_ne M _ q1, if_neg (fun z => q1 z.1)]
  rw [k_wl_set v0 hset] at hP1
  exact k _ r x' ho H1 locs1 ls hP1 hS1 hl
end KC2
