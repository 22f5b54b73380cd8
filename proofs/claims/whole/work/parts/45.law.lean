/-! THE CLAIM OUT OF ONE WALK OF THE LAW'S BODY. Your part is whole_start (and what it stands on); all else here is the same for every law, but numbers. -/
def R_law : String := "SeaMillLaw"
def lw_P (b : Addr) (xs : List Int32) (args : Array Value) (s : State) : Prop := args = #[.ref b] ∧ s.IntsAt b xs ∧ xs.length ≤ 2048 ∧ (Jvm.Cond.and given_1 narrow_1).before args s = true
def lw_Q (_ : Array Value) (s : State) (o : Outcome) (t : State) : Prop := o = .returned (some (.int 1)) ∧ Framed s o t [] 600000 7302250
def lw_Z (below : List Frame) (a : Array Value) (s : State) : State → Prop := fun t => ∃ o, t.status = .running ∧ Ended t below o ∧ lw_Q a s o t
/-- the law's own end, with 1 on the stack, nothing written that was there before, its room as the claim has it -/
theorem lw_ret {p : Program} {l : Launch} {e : Env} {s : State} {m : MethodId} {below : List Frame} {meth : Method} {c : Code} {b : Nat} (hx : p.tables.exec = Jvm.exec) (hb : c.code = code) (hr : meth.sig.returnType = ret) (hlocks : meth.locks = false) {pc : Nat} {H : Heap} {ls : Array Slot} (hdg : decode code pc = .ok (.ireturn, 1)) : W p l e room_1 s m #[Value.ref b] below meth c H [] 600000 7302250 (lw_Z below #[Value.ref b] s) (F0 m pc ls [.int 1]) := by
  intro T hT X
  obtain ⟨fs, hret, hrun, hended, hW, hframe⟩ := X.leave (v := some (.int 1)) (hlocks := hlocks) (fun h => by rw [hr] at h; cases h)
  have hmeth' : T.vm.method? m = some meth := X.method'
  refine ⟨T.setFrames fs, ?_, .returned (some (.int 1)), hrun, hended, rfl, ⟨_, rfl⟩, hW, hframe⟩
  jvm_step X.here [X.here.top, hx, hb, hdg, hmeth', hr, ret, narrow_b1]
  (try refine ⟨rfl, ?_⟩); (try refine ⟨rfl, ?_⟩)
  first | (intro acts; rw [hret _ acts rfl rfl rfl]) | rw [hret _ _ rfl rfl rfl]
  exact Steps.refl _
/-- what holds at the law's entry: the machine, the code, the tables' words (any of lw_tbl by 'hts w (by decide +kernel)'), the script of L ints xs at the cell b, what the Statement gives of the start (any of its parts by flat_of_before) -/
def lw_At (p : Program) (s : State) (m : MethodId) (meth : Method) (c : Code) (b L : Nat) (xs : Nat → Int32) : Prop :=
  p.tables.exec = Jvm.exec ∧ c.code = code ∧ meth.sig.returnType = ret ∧ c.maxLocals = 4 ∧ s.vm.findClass R_law = some m.cls ∧ (∀ w ∈ lw_tbl, w.before #[Value.ref b] s = true) ∧ va_X b L xs s s.heap ∧ b < s.heap.size ∧ meth.locks = false ∧ (Jvm.Cond.and given_1 narrow_1).before #[Value.ref b] s = true
/-! the law's own walk -/
def L_C (Γ1 Γ2 : kG) (p : Program) (s : State) (m : MethodId) (meth : Method) (c : Code) (b L : Nat) (xs : Nat → Int32) : Prop :=
  (p.tables.exec = Jvm.exec ∧ c.code = code ∧ meth.sig.returnType = ret ∧ c.maxLocals = 4 ∧ s.vm.findClass R_law = some m.cls ∧ meth.locks = false ∧ ∀ w ∈ lw_g, w.before #[Value.ref b] s = true) ∧ (va_X b L xs s s.heap ∧ b < s.heap.size) ∧ (va_K Γ1.2.1 vwCl (k_tys Γ1) s ∧ va_K Γ2.2.1 vwCl (k_tys Γ2) s) ∧ (k_st Γ1 s s.heap ∧ k_st Γ2 s s.heap ∧ k_nw s) ∧ Lay2 (fun q => s.heap.size ≤ q) Γ1 Γ2
def Lm (Γ1 Γ2 : kG) (p : Program) (l : Launch) (e : Env) (s : State) (m : MethodId) (b : Nat) (below : List Frame) (meth : Method) (c : Code) (M : kM2) (x : kM1) (lv : List (Nat × Value)) (st : List Value) (pc : Nat) : Prop :=
  ∀ (H : Heap) (locs : List Loc) (ls : Array Slot), va_P Γ1.2.1 vwCl (k_wl Γ1 (K2 Γ1) M) H → va_P Γ2.2.1 vwCl (k_wl Γ2 (K3 Γ2) x) H → va_S (fun q => s.heap.size ≤ q) s.heap H locs → lv_has ls 4 lv → W p l e room_1 s m #[Value.ref b] below meth c H locs 321 6336 (lw_Z below #[Value.ref b] s) (F0 m pc ls st)
abbrev Llv (Γ1 Γ2 : kG) (b k : Nat) : List (Nat × Value) := [(3, .int (nI k)), (2, .ref (Γ2.1 0 0)), (1, .ref (Γ1.1 7 0)), (0, .ref b)]
section LW
variable {Γ1 Γ2 : kG} {p : Program} {l : Launch} {e : Env} {s : State} {m : MethodId} {b L : Nat} {xs : Nat → Int32} {below : List Frame} {meth : Method} {c : Code} {M : kM2} {x : kM1} {lv : List (Nat × Value)} {st : List Value} {pc pc' : Nat}
theorem L_al (C : L_C Γ1 Γ2 p s m meth c b L xs) {k0 : Fin 4} {i v : Nat} (q : Nat) (hd : decode code pc = .ok (.aload_n k0, 1)) (hi : (k0 : Nat) = i) (hq : lv[q]? = some (i, .ref v)) (hpc : pc + 1 = pc') (k : Lm Γ1 Γ2 p l e s m b below meth c M x lv (.ref v :: st) pc') : Lm Γ1 Γ2 p l e s m b below meth c M x lv st pc := by
  subst hpc
  intro H locs ls hP1 hP2 hS hl
  exact lv_aload_n C.1.1 C.1.2.1 hd hi (lv_at hl q hq) (k H locs ls hP1 hP2 hS hl)
theorem L_iload (C : L_C Γ1 Γ2 p s m meth c b L xs) {k0 : Fin 4} {i : Nat} {v : Int32} (q : Nat) (hd : decode code pc = .ok (.iload_n k0, 1)) (hi : (k0 : Nat) = i) (hq : lv[q]? = some (i, .int v)) (hpc : pc + 1 = pc') (k : Lm Γ1 Γ2 p l e s m b below meth c M x lv (.int v :: st) pc') : Lm Γ1 Γ2 p l e s m b below meth c M x lv st pc := by
  subst hpc
  intro H locs ls hP1 hP2 hS hl
  exact lv_iload_n C.1.1 C.1.2.1 hd hi (lv_at hl q hq) (k H locs ls hP1 hP2 hS hl)
theorem L_iconst (C : L_C Γ1 Γ2 p s m meth c b L xs) {n : Int} {v : Int32} (hd : decode code pc = .ok (.iconst n, 1)) (hv : Int32.ofInt n = v) (hpc : pc + 1 = pc') (k : Lm Γ1 Γ2 p l e s m b below meth c M x lv (.int v :: st) pc') : Lm Γ1 Γ2 p l e s m b below meth c M x lv st pc := by
  subst hpc
  intro H locs ls hP1 hP2 hS hl
  exact lv_iconst C.1.1 C.1.2.1 hd hv (k H locs ls hP1 hP2 hS hl)
theorem L_bipush (C : L_C Γ1 Γ2 p s m meth c b L xs) {n : Int} {v : Int32} (hd : decode code pc = .ok (.bipush n, 2)) (hv : (Int8.ofInt n).toInt32 = v) (hpc : pc + 2 = pc') (k : Lm Γ1 Γ2 p l e s m b below meth c M x lv (.int v :: st) pc') : Lm Γ1 Γ2 p l e s m b below meth c M x lv st pc := by
  subst hpc
  intro H locs ls hP1 hP2 hS hl
  exact lv_bipush C.1.1 C.1.2.1 hd hv (k H locs ls hP1 hP2 hS hl)
theorem L_iadd (C : L_C Γ1 Γ2 p s m meth c b L xs) {u v : Int32} (hd : decode code pc = .ok (.iadd, 1)) (hpc : pc + 1 = pc') (k : Lm Γ1 Γ2 p l e s m b below meth c M x lv (.int (u + v) :: st) pc') : Lm Γ1 Γ2 p l e s m b below meth c M x lv (.int v :: .int u :: st) pc := by
  subst hpc
  intro H locs ls hP1 hP2 hS hl
  exact lv_iadd C.1.1 C.1.2.1 hd (k H locs ls hP1 hP2 hS hl)
theorem L_isub (C : L_C Γ1 Γ2 p s m meth c b L xs) {u v : Int32} (hd : decode code pc = .ok (.isub, 1)) (hpc : pc + 1 = pc') (k : Lm Γ1 Γ2 p l e s m b below meth c M x lv (.int (u - v) :: st) pc') : Lm Γ1 Γ2 p l e s m b below meth c M x lv (.int v :: .int u :: st) pc := by
  subst hpc
  intro H locs ls hP1 hP2 hS hl
  exact lv_isub C.1.1 C.1.2.1 hd (k H locs ls hP1 hP2 hS hl)
theorem L_iand (C : L_C Γ1 Γ2 p s m meth c b L xs) {u v : Int32} (hd : decode code pc = .ok (.iand, 1)) (hpc : pc + 1 = pc') (k : Lm Γ1 Γ2 p l e s m b below meth c M x lv (.int (u &&& v) :: st) pc') : Lm Γ1 Γ2 p l e s m b below meth c M x lv (.int v :: .int u :: st) pc := by
  subst hpc
  intro H locs ls hP1 hP2 hS hl
  exact lv_iand C.1.1 C.1.2.1 hd (k H locs ls hP1 hP2 hS hl)
theorem L_len (C : L_C Γ1 Γ2 p s m meth c b L xs) (hd : decode code pc = .ok (.arraylength, 1)) (hpc : pc + 1 = pc') (k : Lm Γ1 Γ2 p l e s m b below meth c M x lv (.int (nI L) :: st) pc') : Lm Γ1 Γ2 p l e s m b below meth c M x lv (.ref b :: st) pc := by
  subst hpc
  intro H locs ls hP1 hP2 hS hl
  exact va_slen C.1.1 C.1.2.1 C.2.1.1 C.2.1.2 (Nat.not_le.mpr C.2.1.2) hS hd (k H locs ls hP1 hP2 hS hl)
theorem L_sld (C : L_C Γ1 Γ2 p s m meth c b L xs) {i : Nat} (hL : L ≤ 2048) (hi : i < L) (hd : decode code pc = .ok (.iaload, 1)) (hpc : pc + 1 = pc') (k : Lm Γ1 Γ2 p l e s m b below meth c M x lv (.int (xs i) :: st) pc') : Lm Γ1 Γ2 p l e s m b below meth c M x lv (.int (nI i) :: .ref b :: st) pc := by
  subst hpc
  intro H locs ls hP1 hP2 hS hl
  have hin : vp_in (nI i) L := by
    rintro (h | h)
    · exact nI_pos (by omega) h
    · rw [c_nI (by omega)] at h
      omega
  refine va_sld C.1.1 C.1.2.1 C.2.1.1 C.2.1.2 (Nat.not_le.mpr C.2.1.2) hS hin hd ?_
  rw [c_nI (by omega)]
  exact k H locs ls hP1 hP2 hS hl
theorem L_goto (C : L_C Γ1 Γ2 p s m meth c b L xs) {off : Int} {tgt : Nat} (hd : decode code pc = .ok (.goto off, 3)) (ht : (pc : Int) + off = tgt) (k : Lm Γ1 Γ2 p l e s m b below meth c M x lv st tgt) : Lm Γ1 Γ2 p l e s m b below meth c M x lv st pc := by
  intro H locs ls hP1 hP2 hS hl
  exact lv_goto (tgt := tgt) C.1.1 C.1.2.1 hd ht (k H locs ls hP1 hP2 hS hl)
theorem L_eq (C : L_C Γ1 Γ2 p s m meth c b L xs) {off : Int} {tgt : Nat} {r : Int32} (hd : decode code pc = .ok (.if_icmp .eq off, 3)) (ht : (pc : Int) + off = tgt) (k : Lm Γ1 Γ2 p l e s m b below meth c M x lv st tgt) : Lm Γ1 Γ2 p l e s m b below meth c M x lv (.int r :: .int r :: st) pc := by
  intro H locs ls hP1 hP2 hS hl
  exact lv_icmp_eq (tgt := tgt) C.1.1 C.1.2.1 hd ht (fun _ => k H locs ls hP1 hP2 hS hl) (fun h => absurd rfl h)
theorem L_gt (C : L_C Γ1 Γ2 p s m meth c b L xs) {off : Int} {tgt : Nat} {u v : Int32} (hd : decode code pc = .ok (.if_icmp .gt off, 3)) (ht : (pc : Int) + off = tgt) (hpc : pc + 3 = pc') (k1 : v < u → Lm Γ1 Γ2 p l e s m b below meth c M x lv st tgt) (k2 : ¬ v < u → Lm Γ1 Γ2 p l e s m b below meth c M x lv st pc') : Lm Γ1 Γ2 p l e s m b below meth c M x lv (.int v :: .int u :: st) pc := by
  subst hpc
  intro H locs ls hP1 hP2 hS hl
  exact lv_icmp_gt (tgt := tgt) C.1.1 C.1.2.1 hd ht (fun h => k1 h H locs ls hP1 hP2 hS hl) (fun h => k2 h H locs ls hP1 hP2 hS hl)
theorem L_iinc (C : L_C Γ1 Γ2 p s m meth c b L xs) {i q : Nat} {n : Int} {u v : Int32} {lv' : List (Nat × Value)} (hd : decode code pc = .ok (.iinc i n, 3)) (hq : lv[q]? = some (i, .int u)) (hv : u + Int32.ofInt n = v) (hn : i < 4) (hpc : pc + 3 = pc') (hl' : (i, Value.int v) :: lv.filter (fun q => !(q.1 == i) && !(q.1 + 1 == i && q.2.category == 2)) = lv') (k : Lm Γ1 Γ2 p l e s m b below meth c M x lv' st pc') : Lm Γ1 Γ2 p l e s m b below meth c M x lv st pc := by
  subst hpc
  intro H locs ls hP1 hP2 hS hl
  exact lv_iinc C.1.1 C.1.2.1 hd hl hq hv hn hl' (fun ls hl => k H locs ls hP1 hP2 hS hl)
theorem L_swIn (C : L_C Γ1 Γ2 p s m meth c b L xs) {dflt lo hi : Int} {offs : Array Int} {len : Nat} {u : Int32} {off : Int} {tgt : Nat} (hd : decode code pc = .ok (.tableswitch dflt lo hi offs, len)) (h1 : ¬ u.toInt < lo) (h2 : ¬ hi < u.toInt) (ho : offs[(u.toInt - lo).toNat]? = some off) (ht : (pc : Int) + off = (tgt : Int)) (k : Lm Γ1 Γ2 p l e s m b below meth c M x lv st tgt) : Lm Γ1 Γ2 p l e s m b below meth c M x lv (.int u :: st) pc := by
  intro H locs ls hP1 hP2 hS hl
  exact lv_tableIn C.1.1 C.1.2.1 hd h1 h2 ho ht (k H locs ls hP1 hP2 hS hl)
theorem L_swOut (C : L_C Γ1 Γ2 p s m meth c b L xs) {dflt lo hi : Int} {offs : Array Int} {len : Nat} {u : Int32} {tgt : Nat} (hd : decode code pc = .ok (.tableswitch dflt lo hi offs, len)) (h : u.toInt < lo ∨ hi < u.toInt) (ht : (pc : Int) + dflt = (tgt : Int)) (k : Lm Γ1 Γ2 p l e s m b below meth c M x lv st tgt) : Lm Γ1 Γ2 p l e s m b below meth c M x lv (.int u :: st) pc := by
  intro H locs ls hP1 hP2 hS hl
  exact lv_tableOut C.1.1 C.1.2.1 hd h ht (k H locs ls hP1 hP2 hS hl)
theorem L_ret (C : L_C Γ1 Γ2 p s m meth c b L xs) (hd : decode code pc = .ok (.ireturn, 1)) : Lm Γ1 Γ2 p l e s m b below meth c M x lv [.int 1] pc := by
  intro H locs ls hP1 hP2 hS hl
  refine va_forget (fun q hq => hS.2.2 q hq) ?_
  refine W.widen (k := 600000) (n := 7302250) (Nat.le_of_ble_eq_true rfl) (Nat.le_of_ble_eq_true rfl) ?_
  exact lw_ret C.1.1 C.1.2.1 C.1.2.2.1 C.1.2.2.2.2.2.1 hd
/-- the script's element k + t -/
theorem L_arg (C : L_C Γ1 Γ2 p s m meth c b L xs) {k t : Nat} {n : Int} (hL : L ≤ 2048) (hk : k + 4 ≤ L) (ht : t < 4) (hn : Int32.ofInt n = nI t) (d0 : decode code pc = .ok (.aload_n 0, 1)) (d1 : decode code (pc + 1) = .ok (.iload_n 3, 1)) (d2 : decode code (pc + 2) = .ok (.iconst n, 1)) (d3 : decode code (pc + 3) = .ok (.iadd, 1)) (d4 : decode code (pc + 4) = .ok (.iaload, 1)) (hpc : pc + 5 = pc') (kk : Lm Γ1 Γ2 p l e s m b below meth c M x (Llv Γ1 Γ2 b k) (.int (xs (k + t)) :: st) pc') : Lm Γ1 Γ2 p l e s m b below meth c M x (Llv Γ1 Γ2 b k) st pc := by
  refine L_al C 3 d0 rfl rfl rfl ?_
  refine L_iload C 0 d1 rfl rfl rfl ?_
  refine L_iconst C d2 hn rfl ?_
  refine L_iadd C d3 rfl ?_
  rw [nI_add]
  exact L_sld C hL (by omega) d4 hpc kk
/-- a call on one of the two sides runs, and the other side stays -/
theorem L_run {μ : Type} {Γ : kG} {K : Nat × (μ → Nat → Nat → va_E)} {x x' : μ} {y : MethodName} {cc' : ByteArray} {nL' idx n d a q0 ci : Nat} {ty : FieldType} {fs As rest : List Value} {r : Int32} {H : Heap} {locs : List Loc} {ls : Array Slot} (hx : p.tables.exec = Jvm.exec) (hb : c.code = code) (hml : c.maxLocals = 4) (hown : s.vm.findClass R_law = some m.cls) (hts : ∀ w ∈ lw_g, w.before #[Value.ref b] s = true) (hK : va_K Γ.2.1 vwCl (k_tys Γ) s) (hst : k_st Γ s s.heap) (hnw : k_nw s) (hP : va_P Γ.2.1 vwCl (k_wl Γ K x) H) (hS : va_S (fun q => s.heap.size ≤ q) s.heap H locs) (hM : Met l y (Cond.code y cc' nL' (some ty) :: lw_g) (k_R d) (va_Pc (.ref a :: As) (k_w Γ K x)) (k_q true Γ K x' r) 0 0 Γ.2.2.2) (F : k_mw y cc' nL' (some ty) n) (G : k_iw y) (hlk : Cond.methodLink R_law idx y ∈ lw_g) (hrm : d + 1 ≤ room_1.frames ∧ 8 + (nL' + 11) + 30 * d ≤ room_1.locals) (he : (k_wl Γ K x)[q0]? = some (a, .inr (ci, fs))) (hc : (vwCl[ci]?).map (fun q => q.1) = some y.cls) (hn : As.length = n) (hcat : (rest.map fun v => v.category).sum ≤ 8) (hd : decode code pc = .ok (.invokevirtual idx, 3)) (hsz : ls.size = 4) : va_Run p l e room_1 s m #[Value.ref b] below meth c H locs 321 6336 0 0 (F0 m pc ls (As.reverse ++ .ref a :: rest)) rest (k_q true Γ K x' r (Value.ref a :: As).toArray) Γ.2.2.2 := by
  obtain ⟨q, hq, hqc⟩ := Option.map_eq_some_iff.mp hc
  exact va_runV (Ts := lw_g) (own := R_law) (C := y.cls) (As := As) (rest := rest) ⟨hx, hb, hml, hown, hts⟩ hM ⟨⟨rfl, rfl, hrm.1, hrm.2, pay_in hts (tbl_in F.1), List.mem_cons_self, hts _ F.1, hts _ F.2.1, F.2.2.1, F.sig, hts _ hlk⟩, hts _ G.1, hts _ G.2⟩ ⟨k_w.blind, by rw [← hqc]; exact va_recv hK hP hq he, fun U hU hW => ⟨rfl, by rw [hU]; exact hP, va_K.moved hW.alike hK, by rw [hU]; exact (hst.moved hW.alike).kept (fun a h1 h2 => hS.2.1 a h1 (Nat.not_le.mpr h1)), hnw.warm hW⟩⟩ rfl hn hsz rfl (lv_room hcat) hd ⟨Nat.le_of_ble_eq_true rfl, Nat.le_of_ble_eq_true rfl⟩
theorem L_aft {μ ν : Type} {Γ Γ' : kG} {K : Nat × (μ → Nat → Nat → va_E)} {K' : Nat × (ν → Nat → Nat → va_E)} {x' : μ} {z : ν} {r : Int32} {H : Heap} {locs : List Loc} {ls : Array Slot} {st0 rest : List Value} {a : Array Value} {Q : State → Prop} (hr : va_Run p l e room_1 s m #[Value.ref b] below meth c H locs 321 6336 0 0 (F0 m pc ls st0) rest (k_q true Γ K x' r a) Γ.2.2.2) (hS : va_S (fun q => s.heap.size ≤ q) s.heap H locs) (hA : ∀ z, Γ.2.2.2 z → s.heap.size ≤ z) (hP' : va_P Γ'.2.1 vwCl (k_wl Γ' K' z) H) (hL' : k_Lay Γ' K'.1) (hdis : ∀ z, Γ'.2.2.2 z → Γ.2.2.2 z → False)
    (kk : ∀ (H1 : Heap) (locs1 : List Loc), va_P Γ.2.1 vwCl (k_wl Γ K x') H1 → va_P Γ'.2.1 vwCl (k_wl Γ' K' z) H1 → va_S (fun q => s.heap.size ≤ q) s.heap H1 locs1 → W p l e room_1 s m #[Value.ref b] below meth c H1 locs1 321 6336 Q (F0 m (pc + 3) ls (.int r :: rest))) : W p l e room_1 s m #[Value.ref b] below meth c H locs 321 6336 Q (F0 m pc ls st0) := by
  intro T hT X
  obtain ⟨v, st₀, t, T', LL, h0, X', hL, e1, e2, ⟨hv, hp, hz, hk⟩, stp⟩ := hr T hT X
  cases hv
  rw [h0] at hz hk
  obtain ⟨t2, a1, b1⟩ := kk T'.heap (locs ++ LL) (by rw [e1]; exact hp)
    (hP'.kept (fun k q hq => by rw [e1]; exact hk q.1 (hP' k q hq).lt (fun w => hdis q.1 ((k_Lay.ok hL' z).2 k q hq) w)))
    ⟨Nat.le_trans hS.1 (by rw [e1]; exact hz), fun q h1 h2 => by rw [e1, hk q (Nat.lt_of_lt_of_le h1 hS.1) (fun w => h2 (hA q w))]; exact hS.2.1 q h1 h2, fun q hq => by
      rcases List.mem_append.mp hq with h | h
      · exact hS.2.2 q h
      · exact hA _ (hL q h)⟩ T' rfl X'
  exact ⟨t2, stp t2 a1, b1⟩
theorem L_call1 (C : L_C Γ1 Γ2 p s m meth c b L xs) {M' : kM2} {y : MethodName} {cc' : ByteArray} {nL' idx n d : Nat} {ty : FieldType} {As rest : List Value} {r : Int32} {o1 : Option (Int32 × kM2)} (hC : CT l Γ1 (K2 Γ1) y cc' nL' (some ty) (k_R d) (.ref (Γ1.1 7 0) :: As) M o1) (ho : o1 = some (r, M')) (F : k_mw y cc' nL' (some ty) n) (G : k_iw y) (hlk : Cond.methodLink R_law idx y ∈ lw_g) (hy : y.cls = RX6) (hrm : d + 1 ≤ room_1.frames ∧ 8 + (nL' + 11) + 30 * d ≤ room_1.locals) (hn : As.length = n) (hst : st = As.reverse ++ .ref (Γ1.1 7 0) :: rest) (hcat : (rest.map fun v => v.category).sum ≤ 8) (hd : decode code pc = .ok (.invokevirtual idx, 3)) (hpc : pc + 3 = pc') (k : Lm Γ1 Γ2 p l e s m b below meth c M' x lv (.int r :: rest) pc') : Lm Γ1 Γ2 p l e s m b below meth c M x lv st pc := by
  subst hpc
  subst hst
  intro H locs ls hP1 hP2 hS hl
  obtain ⟨⟨hx, hb, hr, hml, hown, hlocks, hts⟩, -, ⟨hK1, hK2⟩, ⟨hst1, hst2, hnw⟩, hL1, hL2, hA1, hA2, hdis⟩ := C
  have he := k_wl_at (Γ := Γ1) (K := K2 Γ1) (x := M) (i := 7) (j := 0) (v_7 (by decide))
  rw [show (K2 Γ1).2 M 7 0 = _ from e_sea Γ1 (M 7 0)] at he
  exact L_aft (L_run hx hb hml hown hts hK1 hst1 hnw hP1 hS (hC r M' ho) F G hlk hrm he (by rw [hy]; rfl) hn hcat hd hl.1) hS hA1 hP2 hL2 (fun z h1 h2 => hdis z h2 h1) (fun H1 locs1 h1 h2 h3 => k H1 locs1 ls h1 h2 h3 hl)
theorem L_call2 (C : L_C Γ1 Γ2 p s m meth c b L xs) {x' : kM1} {y : MethodName} {cc' : ByteArray} {nL' idx n d : Nat} {ty : FieldType} {As rest : List Value} {r : Int32} {o1 : Option (Int32 × kM1)} (hC : CT l Γ2 (K3 Γ2) y cc' nL' (some ty) (k_R d) (.ref (Γ2.1 0 0) :: As) x o1) (ho : o1 = some (r, x')) (F : k_mw y cc' nL' (some ty) n) (G : k_iw y) (hlk : Cond.methodLink R_law idx y ∈ lw_g) (hy : y.cls = RX7) (hrm : d + 1 ≤ room_1.frames ∧ 8 + (nL' + 11) + 30 * d ≤ room_1.locals) (hn : As.length = n) (hst : st = As.reverse ++ .ref (Γ2.1 0 0) :: rest) (hcat : (rest.map fun v => v.category).sum ≤ 8) (hd : decode code pc = .ok (.invokevirtual idx, 3)) (hpc : pc + 3 = pc') (k : Lm Γ1 Γ2 p l e s m b below meth c M x' lv (.int r :: rest) pc') : Lm Γ1 Γ2 p l e s m b below meth c M x lv st pc := by
  subst hpc
  subst hst
  intro H locs ls hP1 hP2 hS hl
  obtain ⟨⟨hx, hb, hr, hml, hown, hlocks, hts⟩, -, ⟨hK1, hK2⟩, ⟨hst1, hst2, hnw⟩, hL1, hL2, hA1, hA2, hdis⟩ := C
  have he := k_wl_at (Γ := Γ2) (K := K3 Γ2) (x := x) (i := 0) (j := 0) (v_0 (by decide))
  rw [c3 Γ2 x 0 (e_model Γ2 (x 0))] at he
  exact L_aft (L_run hx hb hml hown hts hK2 hst2 hnw hP2 hS (hC r x' ho) F G hlk hrm he (by rw [hy]; rfl) hn hcat hd hl.1) hS hA2 hP1 hL1 hdis (fun H1 locs1 h1 h2 h3 => k H1 locs1 ls h2 h1 h3 hl)
end LW

