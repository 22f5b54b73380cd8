/-! THE CLAIM OUT OF ONE WALK OF THE LAW'S BODY. Your part is whole_start (and what it stands on); all else here is the same for every law, but numbers. -/
def R_law : String := "SeaMillLaw"
def lw_P (b : Addr) (xs : List Int32) (args : Array Value) (s : State) : Prop := args = #[.ref b] ∧ s.IntsAt b xs ∧ xs.length ≤ 260 ∧ (Jvm.Cond.and given_1 narrow_1).before args s = true
def lw_Q (_ : Array Value) (s : State) (o : Outcome) (t : State) : Prop := o = .returned (some (.int 1)) ∧ Framed s o t [] 600000 7302250
def lw_Z (below : List Frame) (a : Array Value) (s : State) : State → Prop := fun t => ∃ o, t.status = .running ∧ Ended t below o ∧ lw_Q a s o t
/-- the law's own end, with 1 on the stack, nothing written that was there before, its room as the claim has it -/
theorem lw_ret {p : Program} {l : Launch} {e : Env} {s : State} {m : MethodId} {below : List Frame} {meth : Method} {c : Code} {b : Nat} (hx : p.tables.exec = Jvm.exec) (hb : c.code = code) (hr : meth.sig.returnType = ret) (hlocks : meth.locks = false) {pc : Nat} {H : Heap} {ls : Array Slot} (hdg : decode code pc = .ok (.ireturn, 1)) : W p l e room_1 s m #[Value.ref b] below meth c H [] 600000 7302250 (lw_Z below #[Value.ref b] s) (F0 m pc ls [.int 1]) := by
  intro T hT X
  obtain ⟨fs, hret, hrun, hended, hW, hframe⟩ := X.leave (v := some (.int 1)) (hlocks := hlocks) (fun h => by rw [hr] at h; cases h)
  have hmeth' : T.vm.method? m = some meth := X.method'
  refine ⟨T.setFrames fs, ?_, .returned (some (.int 1)), hrun, hended, rfl, ⟨_, rfl⟩, hW, hframe⟩
  jvm_step X.here [X.here.top, hx, hb, hdg, hmeth', hr, ret, narrow_b1]
  (try refine ⟨rfl, ?_⟩); (try refine ⟨rfl, ?_⟩)
  first | (intro acts; rw [hret _ acts rfl rfl rfl]) | rw [hret _ _ rfl rfl rfl]
  exact Steps.refl _
/-- what holds at the law's entry: the machine, the code, the tables' words (any of lw_tbl by 'hts w (by decide +kernel)'), the script of L ints xs at the cell b, what the Statement gives of the start (any of its parts by flat_of_before) -/
def lw_At (p : Program) (s : State) (m : MethodId) (meth : Method) (c : Code) (b L : Nat) (xs : Nat → Int32) : Prop :=
  p.tables.exec = Jvm.exec ∧ c.code = code ∧ meth.sig.returnType = ret ∧ c.maxLocals = 15 ∧ s.vm.findClass R_law = some m.cls ∧ (∀ w ∈ lw_tbl, w.before #[Value.ref b] s = true) ∧ va_X b L xs s s.heap ∧ b < s.heap.size ∧ meth.locks = false ∧ (Jvm.Cond.and given_1 narrow_1).before #[Value.ref b] s = true
/-- how the law's body is left: the cells and slots that are made by then -/
def jL (below : List Frame) (args : Array Value) (s : State) : kJ kM2 := ((314, 3687), fun _ _ => lw_Z below args s)
theorem k_lret {Γ : kG} {K : Nat × (kM2 → Nat → Nat → va_E)} {p : Program} {l : Launch} {e : Env} {R : Room} {s : State} {m : MethodId} {args : Array Value} {below : List Frame} {meth : Method} {c : Code} {nL : Nat} {own : String} {rt : kJ kM2} {x : kM2} {lv : List (Nat × Value)} {pc : Nat} (C : k_C Γ p R s m args meth c cL_law nL own room_1) (hrt : rt = jL below args s) (hr : meth.sig.returnType = some .boolean) (hA : args = #[Value.ref (sB Γ)] ∧ ∀ q, Γ.2.2.2.1 q → s.heap.size ≤ q) {v : Int32} (hv : v = 1) (hd : decode cL_law pc = .ok (.ireturn, 1)) : Sm Γ K p l e R s m args below meth c nL rt x lv [.int v] pc (some (v, x)) := by
  subst hrt
  subst hv
  obtain ⟨ha, hA⟩ := hA
  subst ha
  intro r x' ho H locs ls hP hS hl
  obtain ⟨hx, hb, hml, hown, hlocks, hts, hK, hst', hR, hnw⟩ := id C
  subst hR
  refine va_forget (fun q hq => hA _ (hS.2.2 q hq)) ?_
  refine W.widen (k := 600000) (n := 7302250) (Nat.le_of_ble_eq_true rfl) (Nat.le_of_ble_eq_true rfl) ?_
  exact lw_ret hx hb hr hlocks hd
def fL_law_b856 (sl : Nat) (sx : Nat → Int32)  (M0 : kM2) (b3 : Int32) (b4 : Int32) (t0 : Int32) (t1 : Int32) : Option (Int32 × kM2) :=
  if t1 = t0 then bd (fX6_pond M0 0) fun r26 M27 => if r26 = b3 then bd (fX6_pond M27 10) fun r29 M30 => if r29 = b4 then bd (fL_holds M30) fun r32 M33 => if r32 = 0 then none else some (1, M33) else none else none else none
set_option maxRecDepth 100000 in
set_option maxHeartbeats 4000000 in
theorem sL_law_b856 {l : Launch} {Γ : kG} (hL : k_Lay Γ 314) {p : Program} {e : Env} {R : Room} {s : State} {mid : MethodId} {args : Array Value} {below : List Frame} {meth : Method} {c : Code} (C : k_C Γ p R s mid args meth c cL_law 15 RL room_1) (hr : meth.sig.returnType = (some .boolean)) (hA : args = #[Value.ref (sB Γ)] ∧ ∀ q, Γ.2.2.2.1 q → s.heap.size ≤ q) (sl : Nat) (sx : Nat → Int32) (hsl : sl = sL Γ) (hsx : sx = sX Γ)  (M0 : kM2) (b3 : Int32) (b4 : Int32) (t0 : Int32) (t1 : Int32)  : Sm Γ (K2 Γ) p l e R s mid args below meth c 15 (jL below args s) M0 [(1, .ref (Γ.1 7 0)), (3, .int b3), (4, .int b4)] [.int t0, .int t1] 856 (fL_law_b856 sl sx M0 b3 b4 t0 t1) := by
  unfold fL_law_b856
  refine k_ic_ne C (tgt := 890) dL_law_856 (by decide) (pc' := 859) rfl (fun h25 => ?_) (fun h25 => ?_)
  · refine k_iconst C (v := 0) dL_law_890 (by decide) (pc' := 891) rfl ?_
    exact k_none
  · refine k_aload_n C 0 dL_law_859 rfl rfl (pc' := 860) rfl ?_
    refine k_iconst C (v := 0) dL_law_860 (by decide) (pc' := 861) rfl ?_
    refine k_callVi C (rest := []) (qX6_pond l Γ hL M0 0) mwX6_pond iwX6_pond mlL_29 ⟨rfl, rfl, by decide, by decide⟩ (c2 Γ M0 7 0 (e_sea Γ (M0 7 0))) (v_7 (by decide)) rfl rfl rfl (Nat.le_of_ble_eq_true rfl) dL_law_861 (pc' := 864) rfl (fun r26 M27 => ?_)
    refine k_iload_n C 1 dL_law_864 rfl rfl (pc' := 865) rfl ?_
    refine k_ic_ne C (tgt := 890) dL_law_865 (by decide) (pc' := 868) rfl (fun h28 => ?_) (fun h28 => ?_)
    · refine k_iconst C (v := 0) dL_law_890 (by decide) (pc' := 891) rfl ?_
      exact k_none
    · refine k_aload_n C 0 dL_law_868 rfl rfl (pc' := 869) rfl ?_
      refine k_bipush C (v := 10) dL_law_869 (by decide) (pc' := 871) rfl ?_
      refine k_callVi C (rest := []) (qX6_pond l Γ hL M27 10) mwX6_pond iwX6_pond mlL_29 ⟨rfl, rfl, by decide, by decide⟩ (c2 Γ M27 7 0 (e_sea Γ (M27 7 0))) (v_7 (by decide)) rfl rfl rfl (Nat.le_of_ble_eq_true rfl) dL_law_871 (pc' := 874) rfl (fun r29 M30 => ?_)
      refine k_iload C 2 dL_law_874 rfl (pc' := 876) rfl ?_
      refine k_ic_ne C (tgt := 890) dL_law_876 (by decide) (pc' := 879) rfl (fun h31 => ?_) (fun h31 => ?_)
      · refine k_iconst C (v := 0) dL_law_890 (by decide) (pc' := 891) rfl ?_
        exact k_none
      · refine k_aload_n C 0 dL_law_879 rfl rfl (pc' := 880) rfl ?_
        refine k_callSi C (rest := []) (qL_holds l Γ hL M30) mwL_holds swL_holds mlL_62 ⟨rfl, rfl, by decide, by decide⟩ rfl rfl (Nat.le_of_ble_eq_true rfl) dL_law_880 (pc' := 883) rfl (fun r32 M33 => ?_)
        refine k_if_eq C (tgt := 890) dL_law_883 (by decide) (pc' := 886) rfl (fun h34 => ?_) (fun h34 => ?_)
        · refine k_iconst C (v := 0) dL_law_890 (by decide) (pc' := 891) rfl ?_
          exact k_none
        · refine k_iconst C (v := 1) dL_law_886 (by decide) (pc' := 887) rfl ?_
          refine k_goto C (pc' := 891) dL_law_887 (by decide) ?_
          exact k_lret C rfl hr hA rfl dL_law_891
def fL_law_b819 (sl : Nat) (sx : Nat → Int32)  (M0 : kM2) (b3 : Int32) (b4 : Int32) (b5 : Int32) (t0 : Int32) : Option (Int32 × kM2) :=
  if t0 = 0 then none else bd (fX6_pass M0 100) fun r16 M17 => if r16 ≤ 0 then none else bd (fL_holds M17) fun r19 M20 => if r19 = 0 then none else bd (fX6_undo M20) fun r22 M23 => if 4 ≤ b5 then fL_law_b856 sl sx M23 b3 b4 3 r22 else fL_law_b856 sl sx M23 b3 b4 b5 r22
set_option maxRecDepth 100000 in
set_option maxHeartbeats 4000000 in
theorem sL_law_b819 {l : Launch} {Γ : kG} (hL : k_Lay Γ 314) {p : Program} {e : Env} {R : Room} {s : State} {mid : MethodId} {args : Array Value} {below : List Frame} {meth : Method} {c : Code} (C : k_C Γ p R s mid args meth c cL_law 15 RL room_1) (hr : meth.sig.returnType = (some .boolean)) (hA : args = #[Value.ref (sB Γ)] ∧ ∀ q, Γ.2.2.2.1 q → s.heap.size ≤ q) (sl : Nat) (sx : Nat → Int32) (hsl : sl = sL Γ) (hsx : sx = sX Γ)  (M0 : kM2) (b3 : Int32) (b4 : Int32) (b5 : Int32) (t0 : Int32)  : Sm Γ (K2 Γ) p l e R s mid args below meth c 15 (jL below args s) M0 [(1, .ref (Γ.1 7 0)), (3, .int b3), (4, .int b4), (5, .int b5)] [.int t0] 819 (fL_law_b819 sl sx M0 b3 b4 b5 t0) := by
  unfold fL_law_b819
  refine k_istore_n C (lv' := [(2, .int t0), (1, .ref (Γ.1 7 0)), (3, .int b3), (4, .int b4), (5, .int b5)]) dL_law_819 rfl (by decide) rfl (pc' := 820) rfl ?_
  refine k_iload_n C 0 dL_law_820 rfl rfl (pc' := 821) rfl ?_
  refine k_if_eq C (tgt := 890) dL_law_821 (by decide) (pc' := 824) rfl (fun h15 => ?_) (fun h15 => ?_)
  · refine k_iconst C (v := 0) dL_law_890 (by decide) (pc' := 891) rfl ?_
    exact k_none
  · refine k_aload_n C 1 dL_law_824 rfl rfl (pc' := 825) rfl ?_
    refine k_bipush C (v := 100) dL_law_825 (by decide) (pc' := 827) rfl ?_
    refine k_callVi C (rest := []) (qX6_pass l Γ hL M0 100) mwX6_pass iwX6_pass mlL_102 ⟨rfl, rfl, by decide, by decide⟩ (c2 Γ M0 7 0 (e_sea Γ (M0 7 0))) (v_7 (by decide)) rfl rfl rfl (Nat.le_of_ble_eq_true rfl) dL_law_827 (pc' := 830) rfl (fun r16 M17 => ?_)
    refine k_if_le C (tgt := 890) dL_law_830 (by decide) (pc' := 833) rfl (fun h18 => ?_) (fun h18 => ?_)
    · refine k_iconst C (v := 0) dL_law_890 (by decide) (pc' := 891) rfl ?_
      exact k_none
    · refine k_aload_n C 1 dL_law_833 rfl rfl (pc' := 834) rfl ?_
      refine k_callSi C (rest := []) (qL_holds l Γ hL M17) mwL_holds swL_holds mlL_62 ⟨rfl, rfl, by decide, by decide⟩ rfl rfl (Nat.le_of_ble_eq_true rfl) dL_law_834 (pc' := 837) rfl (fun r19 M20 => ?_)
      refine k_if_eq C (tgt := 890) dL_law_837 (by decide) (pc' := 840) rfl (fun h21 => ?_) (fun h21 => ?_)
      · refine k_iconst C (v := 0) dL_law_890 (by decide) (pc' := 891) rfl ?_
        exact k_none
      · refine k_aload_n C 1 dL_law_840 rfl rfl (pc' := 841) rfl ?_
        refine k_callVi C (rest := []) (qX6_undo l Γ hL M20) mwX6_undo iwX6_undo mlL_65 ⟨rfl, rfl, by decide, by decide⟩ (c2 Γ M20 7 0 (e_sea Γ (M20 7 0))) (v_7 (by decide)) rfl rfl rfl (Nat.le_of_ble_eq_true rfl) dL_law_841 (pc' := 844) rfl (fun r22 M23 => ?_)
        refine k_iload C 4 dL_law_844 rfl (pc' := 846) rfl ?_
        refine k_iconst C (v := 4) dL_law_846 (by decide) (pc' := 847) rfl ?_
        refine k_ic_ge C (tgt := 855) dL_law_847 (by decide) (pc' := 850) rfl (fun h24 => ?_) (fun h24 => ?_)
        · refine k_iconst C (v := 3) dL_law_855 (by decide) (pc' := 856) rfl ?_
          refine k_sub [1, 2, 3] rfl ?_
          exact sL_law_b856 hL C hr hA sl sx hsl hsx M23 b3 b4 3 r22
        · refine k_iload C 4 dL_law_850 rfl (pc' := 852) rfl ?_
          refine k_goto C (pc' := 856) dL_law_852 (by decide) ?_
          refine k_sub [1, 2, 3] rfl ?_
          exact sL_law_b856 hL C hr hA sl sx hsl hsx M23 b3 b4 b5 r22
def fL_law_b818 (sl : Nat) (sx : Nat → Int32)  (M0 : kM2) (b3 : Int32) (b4 : Int32) (b5 : Int32) : Option (Int32 × kM2) :=
  fL_law_b819 sl sx M0 b3 b4 b5 0
set_option maxRecDepth 100000 in
set_option maxHeartbeats 4000000 in
theorem sL_law_b818 {l : Launch} {Γ : kG} (hL : k_Lay Γ 314) {p : Program} {e : Env} {R : Room} {s : State} {mid : MethodId} {args : Array Value} {below : List Frame} {meth : Method} {c : Code} (C : k_C Γ p R s mid args meth c cL_law 15 RL room_1) (hr : meth.sig.returnType = (some .boolean)) (hA : args = #[Value.ref (sB Γ)] ∧ ∀ q, Γ.2.2.2.1 q → s.heap.size ≤ q) (sl : Nat) (sx : Nat → Int32) (hsl : sl = sL Γ) (hsx : sx = sX Γ)  (M0 : kM2) (b3 : Int32) (b4 : Int32) (b5 : Int32)  : Sm Γ (K2 Γ) p l e R s mid args below meth c 15 (jL below args s) M0 [(1, .ref (Γ.1 7 0)), (3, .int b3), (4, .int b4), (5, .int b5)] [] 818 (fL_law_b818 sl sx M0 b3 b4 b5) := by
  unfold fL_law_b818
  refine k_iconst C (v := 0) dL_law_818 (by decide) (pc' := 819) rfl ?_
  exact sL_law_b819 hL C hr hA sl sx hsl hsx M0 b3 b4 b5 0
def fL_law_b749 (sl : Nat) (sx : Nat → Int32)  (M0 : kM2) (b2 : Int32) : Option (Int32 × kM2) :=
  bd (fX6_pond M0 0) fun r8 M9 => bd (fX6_pond M9 10) fun r10 M11 => bd (fX6_count M11 9) fun r12 M13 => if b2 = 0 then fL_law_b818 sl sx M13 r8 r10 r12 else bd (fX6_foresee M13 0) fun r35 M36 => if r35 = (-1000001) then fL_law_b818 sl sx M36 r8 r10 r12 else bd (fX6_bestGate M36 50) fun r38 M39 => if r38 < 0 then fL_law_b818 sl sx M39 r8 r10 r12 else bd (fX6_pond M39 0) fun r41 M42 => if r41 = r8 then bd (fX6_pond M42 10) fun r44 M45 => if r44 = r10 then fL_law_b819 sl sx M45 r8 r10 r12 1 else fL_law_b818 sl sx M45 r8 r10 r12 else fL_law_b818 sl sx M42 r8 r10 r12
set_option maxRecDepth 100000 in
set_option maxHeartbeats 4000000 in
theorem sL_law_b749 {l : Launch} {Γ : kG} (hL : k_Lay Γ 314) {p : Program} {e : Env} {R : Room} {s : State} {mid : MethodId} {args : Array Value} {below : List Frame} {meth : Method} {c : Code} (C : k_C Γ p R s mid args meth c cL_law 15 RL room_1) (hr : meth.sig.returnType = (some .boolean)) (hA : args = #[Value.ref (sB Γ)] ∧ ∀ q, Γ.2.2.2.1 q → s.heap.size ≤ q) (sl : Nat) (sx : Nat → Int32) (hsl : sl = sL Γ) (hsx : sx = sX Γ)  (M0 : kM2) (b2 : Int32)  : Sm Γ (K2 Γ) p l e R s mid args below meth c 15 (jL below args s) M0 [(1, .ref (Γ.1 7 0)), (2, .int b2)] [] 749 (fL_law_b749 sl sx M0 b2) := by
  unfold fL_law_b749
  refine k_aload_n C 0 dL_law_749 rfl rfl (pc' := 750) rfl ?_
  refine k_iconst C (v := 0) dL_law_750 (by decide) (pc' := 751) rfl ?_
  refine k_callVi C (rest := []) (qX6_pond l Γ hL M0 0) mwX6_pond iwX6_pond mlL_29 ⟨rfl, rfl, by decide, by decide⟩ (c2 Γ M0 7 0 (e_sea Γ (M0 7 0))) (v_7 (by decide)) rfl rfl rfl (Nat.le_of_ble_eq_true rfl) dL_law_751 (pc' := 754) rfl (fun r8 M9 => ?_)
  refine k_istore_n C (lv' := [(3, .int r8), (1, .ref (Γ.1 7 0)), (2, .int b2)]) dL_law_754 rfl (by decide) rfl (pc' := 755) rfl ?_
  refine k_aload_n C 1 dL_law_755 rfl rfl (pc' := 756) rfl ?_
  refine k_bipush C (v := 10) dL_law_756 (by decide) (pc' := 758) rfl ?_
  refine k_callVi C (rest := []) (qX6_pond l Γ hL M9 10) mwX6_pond iwX6_pond mlL_29 ⟨rfl, rfl, by decide, by decide⟩ (c2 Γ M9 7 0 (e_sea Γ (M9 7 0))) (v_7 (by decide)) rfl rfl rfl (Nat.le_of_ble_eq_true rfl) dL_law_758 (pc' := 761) rfl (fun r10 M11 => ?_)
  refine k_istore C (lv' := [(4, .int r10), (3, .int r8), (1, .ref (Γ.1 7 0)), (2, .int b2)]) dL_law_761 (by decide) rfl (pc' := 763) rfl ?_
  refine k_aload_n C 2 dL_law_763 rfl rfl (pc' := 764) rfl ?_
  refine k_bipush C (v := 9) dL_law_764 (by decide) (pc' := 766) rfl ?_
  refine k_callVi C (rest := []) (qX6_count l Γ hL M11 9) mwX6_count iwX6_count mlL_9 ⟨rfl, rfl, by decide, by decide⟩ (c2 Γ M11 7 0 (e_sea Γ (M11 7 0))) (v_7 (by decide)) rfl rfl rfl (Nat.le_of_ble_eq_true rfl) dL_law_766 (pc' := 769) rfl (fun r12 M13 => ?_)
  refine k_istore C (lv' := [(5, .int r12), (4, .int r10), (3, .int r8), (1, .ref (Γ.1 7 0)), (2, .int b2)]) dL_law_769 (by decide) rfl (pc' := 771) rfl ?_
  refine k_iload_n C 4 dL_law_771 rfl rfl (pc' := 772) rfl ?_
  refine k_if_eq C (tgt := 818) dL_law_772 (by decide) (pc' := 775) rfl (fun h14 => ?_) (fun h14 => ?_)
  · refine k_sub [3, 2, 1, 0] rfl ?_
    exact sL_law_b818 hL C hr hA sl sx hsl hsx M13 r8 r10 r12
  · refine k_aload_n C 3 dL_law_775 rfl rfl (pc' := 776) rfl ?_
    refine k_iconst C (v := 0) dL_law_776 (by decide) (pc' := 777) rfl ?_
    refine k_callVi C (rest := []) (qX6_foresee l Γ hL M13 0) mwX6_foresee iwX6_foresee mlL_105 ⟨rfl, rfl, by decide, by decide⟩ (c2 Γ M13 7 0 (e_sea Γ (M13 7 0))) (v_7 (by decide)) rfl rfl rfl (Nat.le_of_ble_eq_true rfl) dL_law_777 (pc' := 780) rfl (fun r35 M36 => ?_)
    refine k_ldc C (v := (-1000001)) dL_law_780 cnL_108 (pc' := 782) rfl ?_
    refine k_ic_eq C (tgt := 818) dL_law_782 (by decide) (pc' := 785) rfl (fun h37 => ?_) (fun h37 => ?_)
    · refine k_sub [3, 2, 1, 0] rfl ?_
      exact sL_law_b818 hL C hr hA sl sx hsl hsx M36 r8 r10 r12
    · refine k_aload_n C 3 dL_law_785 rfl rfl (pc' := 786) rfl ?_
      refine k_bipush C (v := 50) dL_law_786 (by decide) (pc' := 788) rfl ?_
      refine k_callVi C (rest := []) (qX6_bestGate l Γ hL M36 50) mwX6_bestGate iwX6_bestGate mlL_109 ⟨rfl, rfl, by decide, by decide⟩ (c2 Γ M36 7 0 (e_sea Γ (M36 7 0))) (v_7 (by decide)) rfl rfl rfl (Nat.le_of_ble_eq_true rfl) dL_law_788 (pc' := 791) rfl (fun r38 M39 => ?_)
      refine k_if_lt C (tgt := 818) dL_law_791 (by decide) (pc' := 794) rfl (fun h40 => ?_) (fun h40 => ?_)
      · refine k_sub [3, 2, 1, 0] rfl ?_
        exact sL_law_b818 hL C hr hA sl sx hsl hsx M39 r8 r10 r12
      · refine k_aload_n C 3 dL_law_794 rfl rfl (pc' := 795) rfl ?_
        refine k_iconst C (v := 0) dL_law_795 (by decide) (pc' := 796) rfl ?_
        refine k_callVi C (rest := []) (qX6_pond l Γ hL M39 0) mwX6_pond iwX6_pond mlL_29 ⟨rfl, rfl, by decide, by decide⟩ (c2 Γ M39 7 0 (e_sea Γ (M39 7 0))) (v_7 (by decide)) rfl rfl rfl (Nat.le_of_ble_eq_true rfl) dL_law_796 (pc' := 799) rfl (fun r41 M42 => ?_)
        refine k_iload_n C 2 dL_law_799 rfl rfl (pc' := 800) rfl ?_
        refine k_ic_ne C (tgt := 818) dL_law_800 (by decide) (pc' := 803) rfl (fun h43 => ?_) (fun h43 => ?_)
        · refine k_sub [3, 2, 1, 0] rfl ?_
          exact sL_law_b818 hL C hr hA sl sx hsl hsx M42 r8 r10 r12
        · refine k_aload_n C 3 dL_law_803 rfl rfl (pc' := 804) rfl ?_
          refine k_bipush C (v := 10) dL_law_804 (by decide) (pc' := 806) rfl ?_
          refine k_callVi C (rest := []) (qX6_pond l Γ hL M42 10) mwX6_pond iwX6_pond mlL_29 ⟨rfl, rfl, by decide, by decide⟩ (c2 Γ M42 7 0 (e_sea Γ (M42 7 0))) (v_7 (by decide)) rfl rfl rfl (Nat.le_of_ble_eq_true rfl) dL_law_806 (pc' := 809) rfl (fun r44 M45 => ?_)
          refine k_iload C 1 dL_law_809 rfl (pc' := 811) rfl ?_
          refine k_ic_ne C (tgt := 818) dL_law_811 (by decide) (pc' := 814) rfl (fun h46 => ?_) (fun h46 => ?_)
          · refine k_sub [3, 2, 1, 0] rfl ?_
            exact sL_law_b818 hL C hr hA sl sx hsl hsx M45 r8 r10 r12
          · refine k_iconst C (v := 1) dL_law_814 (by decide) (pc' := 815) rfl ?_
            refine k_goto C (pc' := 819) dL_law_815 (by decide) ?_
            refine k_sub [3, 2, 1, 0] rfl ?_
            exact sL_law_b819 hL C hr hA sl sx hsl hsx M45 r8 r10 r12 1
def fL_law_b742 (sl : Nat) (sx : Nat → Int32) (rec238 : kM2 → Int32 → Int32 → Option (Int32 × kM2)) (M0 : kM2) (b3 : Int32) (t0 : Int32) : Option (Int32 × kM2) :=
  k_let (b3 + 1) fun v62 => rec238 M0 t0 v62
set_option maxRecDepth 100000 in
set_option maxHeartbeats 4000000 in
theorem sL_law_b742 {l : Launch} {Γ : kG} (hL : k_Lay Γ 314) {p : Program} {e : Env} {R : Room} {s : State} {mid : MethodId} {args : Array Value} {below : List Frame} {meth : Method} {c : Code} (C : k_C Γ p R s mid args meth c cL_law 15 RL room_1) (hr : meth.sig.returnType = (some .boolean)) (hA : args = #[Value.ref (sB Γ)] ∧ ∀ q, Γ.2.2.2.1 q → s.heap.size ≤ q) (sl : Nat) (sx : Nat → Int32) (hsl : sl = sL Γ) (hsx : sx = sX Γ) (rec238 : kM2 → Int32 → Int32 → Option (Int32 × kM2)) (hrec238 : ∀ (M0 : kM2) (b2 : Int32) (b3 : Int32), Sm Γ (K2 Γ) p l e R s mid args below meth c 15 (jL below args s) M0 [(0, .ref (sB Γ)), (1, .ref (Γ.1 7 0)), (2, .int b2), (3, .int b3)] [] 238 (rec238 M0 b2 b3)) (M0 : kM2) (b3 : Int32) (t0 : Int32)  : Sm Γ (K2 Γ) p l e R s mid args below meth c 15 (jL below args s) M0 [(0, .ref (sB Γ)), (1, .ref (Γ.1 7 0)), (3, .int b3)] [.int t0] 742 (fL_law_b742 sl sx rec238 M0 b3 t0) := by
  unfold fL_law_b742
  refine k_istore_n C (lv' := [(2, .int t0), (0, .ref (sB Γ)), (1, .ref (Γ.1 7 0)), (3, .int b3)]) dL_law_742 rfl (by decide) rfl (pc' := 743) rfl ?_
  refine k_iinc (v := 1) (q := 3) (lv' := [(2, .int t0), (0, .ref (sB Γ)), (1, .ref (Γ.1 7 0))]) C dL_law_743 rfl (by decide) (by decide) (pc' := 746) rfl (fun _ => rfl) (fun v62 => ?_)
  refine k_goto C (pc' := 238) dL_law_746 (by decide) ?_
  refine k_sub [2, 3, 1, 0] rfl ?_
  exact hrec238 M0 t0 v62
def fL_law_b741 (sl : Nat) (sx : Nat → Int32) (rec238 : kM2 → Int32 → Int32 → Option (Int32 × kM2)) (M0 : kM2) (b3 : Int32) : Option (Int32 × kM2) :=
  fL_law_b742 sl sx rec238 M0 b3 0
set_option maxRecDepth 100000 in
set_option maxHeartbeats 4000000 in
theorem sL_law_b741 {l : Launch} {Γ : kG} (hL : k_Lay Γ 314) {p : Program} {e : Env} {R : Room} {s : State} {mid : MethodId} {args : Array Value} {below : List Frame} {meth : Method} {c : Code} (C : k_C Γ p R s mid args meth c cL_law 15 RL room_1) (hr : meth.sig.returnType = (some .boolean)) (hA : args = #[Value.ref (sB Γ)] ∧ ∀ q, Γ.2.2.2.1 q → s.heap.size ≤ q) (sl : Nat) (sx : Nat → Int32) (hsl : sl = sL Γ) (hsx : sx = sX Γ) (rec238 : kM2 → Int32 → Int32 → Option (Int32 × kM2)) (hrec238 : ∀ (M0 : kM2) (b2 : Int32) (b3 : Int32), Sm Γ (K2 Γ) p l e R s mid args below meth c 15 (jL below args s) M0 [(0, .ref (sB Γ)), (1, .ref (Γ.1 7 0)), (2, .int b2), (3, .int b3)] [] 238 (rec238 M0 b2 b3)) (M0 : kM2) (b3 : Int32)  : Sm Γ (K2 Γ) p l e R s mid args below meth c 15 (jL below args s) M0 [(0, .ref (sB Γ)), (1, .ref (Γ.1 7 0)), (3, .int b3)] [] 741 (fL_law_b741 sl sx rec238 M0 b3) := by
  unfold fL_law_b741
  refine k_iconst C (v := 0) dL_law_741 (by decide) (pc' := 742) rfl ?_
  exact sL_law_b742 hL C hr hA sl sx hsl hsx rec238 hrec238 M0 b3 0
def fL_law_b726 (sl : Nat) (sx : Nat → Int32) (rec238 : kM2 → Int32 → Int32 → Option (Int32 × kM2)) (M0 : kM2) (b2 : Int32) (b3 : Int32) : Option (Int32 × kM2) :=
  if b2 = 0 then fL_law_b741 sl sx rec238 M0 b3 else bd (fL_holds M0) fun r63 M64 => if r63 = 0 then fL_law_b741 sl sx rec238 M64 b3 else fL_law_b742 sl sx rec238 M64 b3 1
set_option maxRecDepth 100000 in
set_option maxHeartbeats 4000000 in
theorem sL_law_b726 {l : Launch} {Γ : kG} (hL : k_Lay Γ 314) {p : Program} {e : Env} {R : Room} {s : State} {mid : MethodId} {args : Array Value} {below : List Frame} {meth : Method} {c : Code} (C : k_C Γ p R s mid args meth c cL_law 15 RL room_1) (hr : meth.sig.returnType = (some .boolean)) (hA : args = #[Value.ref (sB Γ)] ∧ ∀ q, Γ.2.2.2.1 q → s.heap.size ≤ q) (sl : Nat) (sx : Nat → Int32) (hsl : sl = sL Γ) (hsx : sx = sX Γ) (rec238 : kM2 → Int32 → Int32 → Option (Int32 × kM2)) (hrec238 : ∀ (M0 : kM2) (b2 : Int32) (b3 : Int32), Sm Γ (K2 Γ) p l e R s mid args below meth c 15 (jL below args s) M0 [(0, .ref (sB Γ)), (1, .ref (Γ.1 7 0)), (2, .int b2), (3, .int b3)] [] 238 (rec238 M0 b2 b3)) (M0 : kM2) (b2 : Int32) (b3 : Int32)  : Sm Γ (K2 Γ) p l e R s mid args below meth c 15 (jL below args s) M0 [(0, .ref (sB Γ)), (1, .ref (Γ.1 7 0)), (2, .int b2), (3, .int b3)] [] 726 (fL_law_b726 sl sx rec238 M0 b2 b3) := by
  unfold fL_law_b726
  refine k_iload_n C 2 dL_law_726 rfl rfl (pc' := 727) rfl ?_
  refine k_if_eq C (tgt := 741) dL_law_727 (by decide) (pc' := 730) rfl (fun h61 => ?_) (fun h61 => ?_)
  · refine k_sub [0, 1, 3] rfl ?_
    exact sL_law_b741 hL C hr hA sl sx hsl hsx rec238 hrec238 M0 b3
  · refine k_aload_n C 1 dL_law_730 rfl rfl (pc' := 731) rfl ?_
    refine k_callSi C (rest := []) (qL_holds l Γ hL M0) mwL_holds swL_holds mlL_62 ⟨rfl, rfl, by decide, by decide⟩ rfl rfl (Nat.le_of_ble_eq_true rfl) dL_law_731 (pc' := 734) rfl (fun r63 M64 => ?_)
    refine k_if_eq C (tgt := 741) dL_law_734 (by decide) (pc' := 737) rfl (fun h65 => ?_) (fun h65 => ?_)
    · refine k_sub [0, 1, 3] rfl ?_
      exact sL_law_b741 hL C hr hA sl sx hsl hsx rec238 hrec238 M64 b3
    · refine k_iconst C (v := 1) dL_law_737 (by decide) (pc' := 738) rfl ?_
      refine k_goto C (pc' := 742) dL_law_738 (by decide) ?_
      refine k_sub [0, 1, 3] rfl ?_
      exact sL_law_b742 hL C hr hA sl sx hsl hsx rec238 hrec238 M64 b3 1
def fL_law_b378 (sl : Nat) (sx : Nat → Int32) (rec238 : kM2 → Int32 → Int32 → Option (Int32 × kM2)) (M0 : kM2) (b3 : Int32) (t0 : Int32) : Option (Int32 × kM2) :=
  fL_law_b726 sl sx rec238 M0 t0 b3
set_option maxRecDepth 100000 in
set_option maxHeartbeats 4000000 in
theorem sL_law_b378 {l : Launch} {Γ : kG} (hL : k_Lay Γ 314) {p : Program} {e : Env} {R : Room} {s : State} {mid : MethodId} {args : Array Value} {below : List Frame} {meth : Method} {c : Code} (C : k_C Γ p R s mid args meth c cL_law 15 RL room_1) (hr : meth.sig.returnType = (some .boolean)) (hA : args = #[Value.ref (sB Γ)] ∧ ∀ q, Γ.2.2.2.1 q → s.heap.size ≤ q) (sl : Nat) (sx : Nat → Int32) (hsl : sl = sL Γ) (hsx : sx = sX Γ) (rec238 : kM2 → Int32 → Int32 → Option (Int32 × kM2)) (hrec238 : ∀ (M0 : kM2) (b2 : Int32) (b3 : Int32), Sm Γ (K2 Γ) p l e R s mid args below meth c 15 (jL below args s) M0 [(0, .ref (sB Γ)), (1, .ref (Γ.1 7 0)), (2, .int b2), (3, .int b3)] [] 238 (rec238 M0 b2 b3)) (M0 : kM2) (b3 : Int32) (t0 : Int32)  : Sm Γ (K2 Γ) p l e R s mid args below meth c 15 (jL below args s) M0 [(0, .ref (sB Γ)), (1, .ref (Γ.1 7 0)), (3, .int b3)] [.int t0] 378 (fL_law_b378 sl sx rec238 M0 b3 t0) := by
  unfold fL_law_b378
  refine k_istore_n C (lv' := [(2, .int t0), (0, .ref (sB Γ)), (1, .ref (Γ.1 7 0)), (3, .int b3)]) dL_law_378 rfl (by decide) rfl (pc' := 379) rfl ?_
  refine k_goto C (pc' := 726) dL_law_379 (by decide) ?_
  refine k_sub [1, 2, 0, 3] rfl ?_
  exact sL_law_b726 hL C hr hA sl sx hsl hsx rec238 hrec238 M0 t0 b3
def fL_law_b377 (sl : Nat) (sx : Nat → Int32) (rec238 : kM2 → Int32 → Int32 → Option (Int32 × kM2)) (M0 : kM2) (b3 : Int32) : Option (Int32 × kM2) :=
  fL_law_b378 sl sx rec238 M0 b3 0
set_option maxRecDepth 100000 in
set_option maxHeartbeats 4000000 in
theorem sL_law_b377 {l : Launch} {Γ : kG} (hL : k_Lay Γ 314) {p : Program} {e : Env} {R : Room} {s : State} {mid : MethodId} {args : Array Value} {below : List Frame} {meth : Method} {c : Code} (C : k_C Γ p R s mid args meth c cL_law 15 RL room_1) (hr : meth.sig.returnType = (some .boolean)) (hA : args = #[Value.ref (sB Γ)] ∧ ∀ q, Γ.2.2.2.1 q → s.heap.size ≤ q) (sl : Nat) (sx : Nat → Int32) (hsl : sl = sL Γ) (hsx : sx = sX Γ) (rec238 : kM2 → Int32 → Int32 → Option (Int32 × kM2)) (hrec238 : ∀ (M0 : kM2) (b2 : Int32) (b3 : Int32), Sm Γ (K2 Γ) p l e R s mid args below meth c 15 (jL below args s) M0 [(0, .ref (sB Γ)), (1, .ref (Γ.1 7 0)), (2, .int b2), (3, .int b3)] [] 238 (rec238 M0 b2 b3)) (M0 : kM2) (b3 : Int32)  : Sm Γ (K2 Γ) p l e R s mid args below meth c 15 (jL below args s) M0 [(0, .ref (sB Γ)), (1, .ref (Γ.1 7 0)), (3, .int b3)] [] 377 (fL_law_b377 sl sx rec238 M0 b3) := by
  unfold fL_law_b377
  refine k_iconst C (v := 0) dL_law_377 (by decide) (pc' := 378) rfl ?_
  exact sL_law_b378 hL C hr hA sl sx hsl hsx rec238 hrec238 M0 b3 0
def fL_law_b437 (sl : Nat) (sx : Nat → Int32) (rec238 : kM2 → Int32 → Int32 → Option (Int32 × kM2)) (M0 : kM2) (b3 : Int32) (t0 : Int32) : Option (Int32 × kM2) :=
  fL_law_b726 sl sx rec238 M0 t0 b3
set_option maxRecDepth 100000 in
set_option maxHeartbeats 4000000 in
theorem sL_law_b437 {l : Launch} {Γ : kG} (hL : k_Lay Γ 314) {p : Program} {e : Env} {R : Room} {s : State} {mid : MethodId} {args : Array Value} {below : List Frame} {meth : Method} {c : Code} (C : k_C Γ p R s mid args meth c cL_law 15 RL room_1) (hr : meth.sig.returnType = (some .boolean)) (hA : args = #[Value.ref (sB Γ)] ∧ ∀ q, Γ.2.2.2.1 q → s.heap.size ≤ q) (sl : Nat) (sx : Nat → Int32) (hsl : sl = sL Γ) (hsx : sx = sX Γ) (rec238 : kM2 → Int32 → Int32 → Option (Int32 × kM2)) (hrec238 : ∀ (M0 : kM2) (b2 : Int32) (b3 : Int32), Sm Γ (K2 Γ) p l e R s mid args below meth c 15 (jL below args s) M0 [(0, .ref (sB Γ)), (1, .ref (Γ.1 7 0)), (2, .int b2), (3, .int b3)] [] 238 (rec238 M0 b2 b3)) (M0 : kM2) (b3 : Int32) (t0 : Int32)  : Sm Γ (K2 Γ) p l e R s mid args below meth c 15 (jL below args s) M0 [(0, .ref (sB Γ)), (1, .ref (Γ.1 7 0)), (3, .int b3)] [.int t0] 437 (fL_law_b437 sl sx rec238 M0 b3 t0) := by
  unfold fL_law_b437
  refine k_istore_n C (lv' := [(2, .int t0), (0, .ref (sB Γ)), (1, .ref (Γ.1 7 0)), (3, .int b3)]) dL_law_437 rfl (by decide) rfl (pc' := 438) rfl ?_
  refine k_goto C (pc' := 726) dL_law_438 (by decide) ?_
  refine k_sub [1, 2, 0, 3] rfl ?_
  exact sL_law_b726 hL C hr hA sl sx hsl hsx rec238 hrec238 M0 t0 b3
def fL_law_b436 (sl : Nat) (sx : Nat → Int32) (rec238 : kM2 → Int32 → Int32 → Option (Int32 × kM2)) (M0 : kM2) (b3 : Int32) : Option (Int32 × kM2) :=
  fL_law_b437 sl sx rec238 M0 b3 0
set_option maxRecDepth 100000 in
set_option maxHeartbeats 4000000 in
theorem sL_law_b436 {l : Launch} {Γ : kG} (hL : k_Lay Γ 314) {p : Program} {e : Env} {R : Room} {s : State} {mid : MethodId} {args : Array Value} {below : List Frame} {meth : Method} {c : Code} (C : k_C Γ p R s mid args meth c cL_law 15 RL room_1) (hr : meth.sig.returnType = (some .boolean)) (hA : args = #[Value.ref (sB Γ)] ∧ ∀ q, Γ.2.2.2.1 q → s.heap.size ≤ q) (sl : Nat) (sx : Nat → Int32) (hsl : sl = sL Γ) (hsx : sx = sX Γ) (rec238 : kM2 → Int32 → Int32 → Option (Int32 × kM2)) (hrec238 : ∀ (M0 : kM2) (b2 : Int32) (b3 : Int32), Sm Γ (K2 Γ) p l e R s mid args below meth c 15 (jL below args s) M0 [(0, .ref (sB Γ)), (1, .ref (Γ.1 7 0)), (2, .int b2), (3, .int b3)] [] 238 (rec238 M0 b2 b3)) (M0 : kM2) (b3 : Int32)  : Sm Γ (K2 Γ) p l e R s mid args below meth c 15 (jL below args s) M0 [(0, .ref (sB Γ)), (1, .ref (Γ.1 7 0)), (3, .int b3)] [] 436 (fL_law_b436 sl sx rec238 M0 b3) := by
  unfold fL_law_b436
  refine k_iconst C (v := 0) dL_law_436 (by decide) (pc' := 437) rfl ?_
  exact sL_law_b437 hL C hr hA sl sx hsl hsx rec238 hrec238 M0 b3 0
def fL_law_b508 (sl : Nat) (sx : Nat → Int32) (rec238 : kM2 → Int32 → Int32 → Option (Int32 × kM2)) (M0 : kM2) (b3 : Int32) (t0 : Int32) : Option (Int32 × kM2) :=
  fL_law_b726 sl sx rec238 M0 t0 b3
set_option maxRecDepth 100000 in
set_option maxHeartbeats 4000000 in
theorem sL_law_b508 {l : Launch} {Γ : kG} (hL : k_Lay Γ 314) {p : Program} {e : Env} {R : Room} {s : State} {mid : MethodId} {args : Array Value} {below : List Frame} {meth : Method} {c : Code} (C : k_C Γ p R s mid args meth c cL_law 15 RL room_1) (hr : meth.sig.returnType = (some .boolean)) (hA : args = #[Value.ref (sB Γ)] ∧ ∀ q, Γ.2.2.2.1 q → s.heap.size ≤ q) (sl : Nat) (sx : Nat → Int32) (hsl : sl = sL Γ) (hsx : sx = sX Γ) (rec238 : kM2 → Int32 → Int32 → Option (Int32 × kM2)) (hrec238 : ∀ (M0 : kM2) (b2 : Int32) (b3 : Int32), Sm Γ (K2 Γ) p l e R s mid args below meth c 15 (jL below args s) M0 [(0, .ref (sB Γ)), (1, .ref (Γ.1 7 0)), (2, .int b2), (3, .int b3)] [] 238 (rec238 M0 b2 b3)) (M0 : kM2) (b3 : Int32) (t0 : Int32)  : Sm Γ (K2 Γ) p l e R s mid args below meth c 15 (jL below args s) M0 [(0, .ref (sB Γ)), (1, .ref (Γ.1 7 0)), (3, .int b3)] [.int t0] 508 (fL_law_b508 sl sx rec238 M0 b3 t0) := by
  unfold fL_law_b508
  refine k_istore_n C (lv' := [(2, .int t0), (0, .ref (sB Γ)), (1, .ref (Γ.1 7 0)), (3, .int b3)]) dL_law_508 rfl (by decide) rfl (pc' := 509) rfl ?_
  refine k_goto C (pc' := 726) dL_law_509 (by decide) ?_
  refine k_sub [1, 2, 0, 3] rfl ?_
  exact sL_law_b726 hL C hr hA sl sx hsl hsx rec238 hrec238 M0 t0 b3
def fL_law_b492 (sl : Nat) (sx : Nat → Int32) (rec238 : kM2 → Int32 → Int32 → Option (Int32 × kM2)) (M0 : kM2) (b3 : Int32) : Option (Int32 × kM2) :=
  fL_law_b508 sl sx rec238 M0 b3 0
set_option maxRecDepth 100000 in
set_option maxHeartbeats 4000000 in
theorem sL_law_b492 {l : Launch} {Γ : kG} (hL : k_Lay Γ 314) {p : Program} {e : Env} {R : Room} {s : State} {mid : MethodId} {args : Array Value} {below : List Frame} {meth : Method} {c : Code} (C : k_C Γ p R s mid args meth c cL_law 15 RL room_1) (hr : meth.sig.returnType = (some .boolean)) (hA : args = #[Value.ref (sB Γ)] ∧ ∀ q, Γ.2.2.2.1 q → s.heap.size ≤ q) (sl : Nat) (sx : Nat → Int32) (hsl : sl = sL Γ) (hsx : sx = sX Γ) (rec238 : kM2 → Int32 → Int32 → Option (Int32 × kM2)) (hrec238 : ∀ (M0 : kM2) (b2 : Int32) (b3 : Int32), Sm Γ (K2 Γ) p l e R s mid args below meth c 15 (jL below args s) M0 [(0, .ref (sB Γ)), (1, .ref (Γ.1 7 0)), (2, .int b2), (3, .int b3)] [] 238 (rec238 M0 b2 b3)) (M0 : kM2) (b3 : Int32)  : Sm Γ (K2 Γ) p l e R s mid args below meth c 15 (jL below args s) M0 [(0, .ref (sB Γ)), (1, .ref (Γ.1 7 0)), (3, .int b3)] [] 492 (fL_law_b492 sl sx rec238 M0 b3) := by
  unfold fL_law_b492
  refine k_iconst C (v := 0) dL_law_492 (by decide) (pc' := 493) rfl ?_
  refine k_goto C (pc' := 508) dL_law_493 (by decide) ?_
  exact sL_law_b508 hL C hr hA sl sx hsl hsx rec238 hrec238 M0 b3 0
def fL_law_b569 (sl : Nat) (sx : Nat → Int32) (rec238 : kM2 → Int32 → Int32 → Option (Int32 × kM2)) (M0 : kM2) (b3 : Int32) (t0 : Int32) : Option (Int32 × kM2) :=
  fL_law_b726 sl sx rec238 M0 t0 b3
set_option maxRecDepth 100000 in
set_option maxHeartbeats 4000000 in
theorem sL_law_b569 {l : Launch} {Γ : kG} (hL : k_Lay Γ 314) {p : Program} {e : Env} {R : Room} {s : State} {mid : MethodId} {args : Array Value} {below : List Frame} {meth : Method} {c : Code} (C : k_C Γ p R s mid args meth c cL_law 15 RL room_1) (hr : meth.sig.returnType = (some .boolean)) (hA : args = #[Value.ref (sB Γ)] ∧ ∀ q, Γ.2.2.2.1 q → s.heap.size ≤ q) (sl : Nat) (sx : Nat → Int32) (hsl : sl = sL Γ) (hsx : sx = sX Γ) (rec238 : kM2 → Int32 → Int32 → Option (Int32 × kM2)) (hrec238 : ∀ (M0 : kM2) (b2 : Int32) (b3 : Int32), Sm Γ (K2 Γ) p l e R s mid args below meth c 15 (jL below args s) M0 [(0, .ref (sB Γ)), (1, .ref (Γ.1 7 0)), (2, .int b2), (3, .int b3)] [] 238 (rec238 M0 b2 b3)) (M0 : kM2) (b3 : Int32) (t0 : Int32)  : Sm Γ (K2 Γ) p l e R s mid args below meth c 15 (jL below args s) M0 [(0, .ref (sB Γ)), (1, .ref (Γ.1 7 0)), (3, .int b3)] [.int t0] 569 (fL_law_b569 sl sx rec238 M0 b3 t0) := by
  unfold fL_law_b569
  refine k_istore_n C (lv' := [(2, .int t0), (0, .ref (sB Γ)), (1, .ref (Γ.1 7 0)), (3, .int b3)]) dL_law_569 rfl (by decide) rfl (pc' := 570) rfl ?_
  refine k_goto C (pc' := 726) dL_law_570 (by decide) ?_
  refine k_sub [1, 2, 0, 3] rfl ?_
  exact sL_law_b726 hL C hr hA sl sx hsl hsx rec238 hrec238 M0 t0 b3
def fL_law_b564 (sl : Nat) (sx : Nat → Int32) (rec238 : kM2 → Int32 → Int32 → Option (Int32 × kM2)) (M0 : kM2) (b3 : Int32) : Option (Int32 × kM2) :=
  fL_law_b569 sl sx rec238 M0 b3 1
set_option maxRecDepth 100000 in
set_option maxHeartbeats 4000000 in
theorem sL_law_b564 {l : Launch} {Γ : kG} (hL : k_Lay Γ 314) {p : Program} {e : Env} {R : Room} {s : State} {mid : MethodId} {args : Array Value} {below : List Frame} {meth : Method} {c : Code} (C : k_C Γ p R s mid args meth c cL_law 15 RL room_1) (hr : meth.sig.returnType = (some .boolean)) (hA : args = #[Value.ref (sB Γ)] ∧ ∀ q, Γ.2.2.2.1 q → s.heap.size ≤ q) (sl : Nat) (sx : Nat → Int32) (hsl : sl = sL Γ) (hsx : sx = sX Γ) (rec238 : kM2 → Int32 → Int32 → Option (Int32 × kM2)) (hrec238 : ∀ (M0 : kM2) (b2 : Int32) (b3 : Int32), Sm Γ (K2 Γ) p l e R s mid args below meth c 15 (jL below args s) M0 [(0, .ref (sB Γ)), (1, .ref (Γ.1 7 0)), (2, .int b2), (3, .int b3)] [] 238 (rec238 M0 b2 b3)) (M0 : kM2) (b3 : Int32)  : Sm Γ (K2 Γ) p l e R s mid args below meth c 15 (jL below args s) M0 [(0, .ref (sB Γ)), (1, .ref (Γ.1 7 0)), (3, .int b3)] [] 564 (fL_law_b564 sl sx rec238 M0 b3) := by
  unfold fL_law_b564
  refine k_iconst C (v := 1) dL_law_564 (by decide) (pc' := 565) rfl ?_
  refine k_goto C (pc' := 569) dL_law_565 (by decide) ?_
  exact sL_law_b569 hL C hr hA sl sx hsl hsx rec238 hrec238 M0 b3 1
def fL_law_b568 (sl : Nat) (sx : Nat → Int32) (rec238 : kM2 → Int32 → Int32 → Option (Int32 × kM2)) (M0 : kM2) (b3 : Int32) : Option (Int32 × kM2) :=
  fL_law_b569 sl sx rec238 M0 b3 0
set_option maxRecDepth 100000 in
set_option maxHeartbeats 4000000 in
theorem sL_law_b568 {l : Launch} {Γ : kG} (hL : k_Lay Γ 314) {p : Program} {e : Env} {R : Room} {s : State} {mid : MethodId} {args : Array Value} {below : List Frame} {meth : Method} {c : Code} (C : k_C Γ p R s mid args meth c cL_law 15 RL room_1) (hr : meth.sig.returnType = (some .boolean)) (hA : args = #[Value.ref (sB Γ)] ∧ ∀ q, Γ.2.2.2.1 q → s.heap.size ≤ q) (sl : Nat) (sx : Nat → Int32) (hsl : sl = sL Γ) (hsx : sx = sX Γ) (rec238 : kM2 → Int32 → Int32 → Option (Int32 × kM2)) (hrec238 : ∀ (M0 : kM2) (b2 : Int32) (b3 : Int32), Sm Γ (K2 Γ) p l e R s mid args below meth c 15 (jL below args s) M0 [(0, .ref (sB Γ)), (1, .ref (Γ.1 7 0)), (2, .int b2), (3, .int b3)] [] 238 (rec238 M0 b2 b3)) (M0 : kM2) (b3 : Int32)  : Sm Γ (K2 Γ) p l e R s mid args below meth c 15 (jL below args s) M0 [(0, .ref (sB Γ)), (1, .ref (Γ.1 7 0)), (3, .int b3)] [] 568 (fL_law_b568 sl sx rec238 M0 b3) := by
  unfold fL_law_b568
  refine k_iconst C (v := 0) dL_law_568 (by decide) (pc' := 569) rfl ?_
  exact sL_law_b569 hL C hr hA sl sx hsl hsx rec238 hrec238 M0 b3 0
def fL_law_b661 (sl : Nat) (sx : Nat → Int32) (rec238 : kM2 → Int32 → Int32 → Option (Int32 × kM2)) (M0 : kM2) (b3 : Int32) (t0 : Int32) : Option (Int32 × kM2) :=
  fL_law_b726 sl sx rec238 M0 t0 b3
set_option maxRecDepth 100000 in
set_option maxHeartbeats 4000000 in
theorem sL_law_b661 {l : Launch} {Γ : kG} (hL : k_Lay Γ 314) {p : Program} {e : Env} {R : Room} {s : State} {mid : MethodId} {args : Array Value} {below : List Frame} {meth : Method} {c : Code} (C : k_C Γ p R s mid args meth c cL_law 15 RL room_1) (hr : meth.sig.returnType = (some .boolean)) (hA : args = #[Value.ref (sB Γ)] ∧ ∀ q, Γ.2.2.2.1 q → s.heap.size ≤ q) (sl : Nat) (sx : Nat → Int32) (hsl : sl = sL Γ) (hsx : sx = sX Γ) (rec238 : kM2 → Int32 → Int32 → Option (Int32 × kM2)) (hrec238 : ∀ (M0 : kM2) (b2 : Int32) (b3 : Int32), Sm Γ (K2 Γ) p l e R s mid args below meth c 15 (jL below args s) M0 [(0, .ref (sB Γ)), (1, .ref (Γ.1 7 0)), (2, .int b2), (3, .int b3)] [] 238 (rec238 M0 b2 b3)) (M0 : kM2) (b3 : Int32) (t0 : Int32)  : Sm Γ (K2 Γ) p l e R s mid args below meth c 15 (jL below args s) M0 [(0, .ref (sB Γ)), (1, .ref (Γ.1 7 0)), (3, .int b3)] [.int t0] 661 (fL_law_b661 sl sx rec238 M0 b3 t0) := by
  unfold fL_law_b661
  refine k_istore_n C (lv' := [(2, .int t0), (0, .ref (sB Γ)), (1, .ref (Γ.1 7 0)), (3, .int b3)]) dL_law_661 rfl (by decide) rfl (pc' := 662) rfl ?_
  refine k_goto C (pc' := 726) dL_law_662 (by decide) ?_
  refine k_sub [1, 2, 0, 3] rfl ?_
  exact sL_law_b726 hL C hr hA sl sx hsl hsx rec238 hrec238 M0 t0 b3
def fL_law_b660 (sl : Nat) (sx : Nat → Int32) (rec238 : kM2 → Int32 → Int32 → Option (Int32 × kM2)) (M0 : kM2) (b3 : Int32) : Option (Int32 × kM2) :=
  fL_law_b661 sl sx rec238 M0 b3 0
set_option maxRecDepth 100000 in
set_option maxHeartbeats 4000000 in
theorem sL_law_b660 {l : Launch} {Γ : kG} (hL : k_Lay Γ 314) {p : Program} {e : Env} {R : Room} {s : State} {mid : MethodId} {args : Array Value} {below : List Frame} {meth : Method} {c : Code} (C : k_C Γ p R s mid args meth c cL_law 15 RL room_1) (hr : meth.sig.returnType = (some .boolean)) (hA : args = #[Value.ref (sB Γ)] ∧ ∀ q, Γ.2.2.2.1 q → s.heap.size ≤ q) (sl : Nat) (sx : Nat → Int32) (hsl : sl = sL Γ) (hsx : sx = sX Γ) (rec238 : kM2 → Int32 → Int32 → Option (Int32 × kM2)) (hrec238 : ∀ (M0 : kM2) (b2 : Int32) (b3 : Int32), Sm Γ (K2 Γ) p l e R s mid args below meth c 15 (jL below args s) M0 [(0, .ref (sB Γ)), (1, .ref (Γ.1 7 0)), (2, .int b2), (3, .int b3)] [] 238 (rec238 M0 b2 b3)) (M0 : kM2) (b3 : Int32)  : Sm Γ (K2 Γ) p l e R s mid args below meth c 15 (jL below args s) M0 [(0, .ref (sB Γ)), (1, .ref (Γ.1 7 0)), (3, .int b3)] [] 660 (fL_law_b660 sl sx rec238 M0 b3) := by
  unfold fL_law_b660
  refine k_iconst C (v := 0) dL_law_660 (by decide) (pc' := 661) rfl ?_
  exact sL_law_b661 hL C hr hA sl sx hsl hsx rec238 hrec238 M0 b3 0
def fL_law_b725 (sl : Nat) (sx : Nat → Int32) (rec238 : kM2 → Int32 → Int32 → Option (Int32 × kM2)) (M0 : kM2) (b3 : Int32) (t0 : Int32) : Option (Int32 × kM2) :=
  fL_law_b726 sl sx rec238 M0 t0 b3
set_option maxRecDepth 100000 in
set_option maxHeartbeats 4000000 in
theorem sL_law_b725 {l : Launch} {Γ : kG} (hL : k_Lay Γ 314) {p : Program} {e : Env} {R : Room} {s : State} {mid : MethodId} {args : Array Value} {below : List Frame} {meth : Method} {c : Code} (C : k_C Γ p R s mid args meth c cL_law 15 RL room_1) (hr : meth.sig.returnType = (some .boolean)) (hA : args = #[Value.ref (sB Γ)] ∧ ∀ q, Γ.2.2.2.1 q → s.heap.size ≤ q) (sl : Nat) (sx : Nat → Int32) (hsl : sl = sL Γ) (hsx : sx = sX Γ) (rec238 : kM2 → Int32 → Int32 → Option (Int32 × kM2)) (hrec238 : ∀ (M0 : kM2) (b2 : Int32) (b3 : Int32), Sm Γ (K2 Γ) p l e R s mid args below meth c 15 (jL below args s) M0 [(0, .ref (sB Γ)), (1, .ref (Γ.1 7 0)), (2, .int b2), (3, .int b3)] [] 238 (rec238 M0 b2 b3)) (M0 : kM2) (b3 : Int32) (t0 : Int32)  : Sm Γ (K2 Γ) p l e R s mid args below meth c 15 (jL below args s) M0 [(0, .ref (sB Γ)), (1, .ref (Γ.1 7 0)), (3, .int b3)] [.int t0] 725 (fL_law_b725 sl sx rec238 M0 b3 t0) := by
  unfold fL_law_b725
  refine k_istore_n C (lv' := [(2, .int t0), (0, .ref (sB Γ)), (1, .ref (Γ.1 7 0)), (3, .int b3)]) dL_law_725 rfl (by decide) rfl (pc' := 726) rfl ?_
  refine k_sub [1, 2, 0, 3] rfl ?_
  exact sL_law_b726 hL C hr hA sl sx hsl hsx rec238 hrec238 M0 t0 b3
def fL_law_b724 (sl : Nat) (sx : Nat → Int32) (rec238 : kM2 → Int32 → Int32 → Option (Int32 × kM2)) (M0 : kM2) (b3 : Int32) : Option (Int32 × kM2) :=
  fL_law_b725 sl sx rec238 M0 b3 0
set_option maxRecDepth 100000 in
set_option maxHeartbeats 4000000 in
theorem sL_law_b724 {l : Launch} {Γ : kG} (hL : k_Lay Γ 314) {p : Program} {e : Env} {R : Room} {s : State} {mid : MethodId} {args : Array Value} {below : List Frame} {meth : Method} {c : Code} (C : k_C Γ p R s mid args meth c cL_law 15 RL room_1) (hr : meth.sig.returnType = (some .boolean)) (hA : args = #[Value.ref (sB Γ)] ∧ ∀ q, Γ.2.2.2.1 q → s.heap.size ≤ q) (sl : Nat) (sx : Nat → Int32) (hsl : sl = sL Γ) (hsx : sx = sX Γ) (rec238 : kM2 → Int32 → Int32 → Option (Int32 × kM2)) (hrec238 : ∀ (M0 : kM2) (b2 : Int32) (b3 : Int32), Sm Γ (K2 Γ) p l e R s mid args below meth c 15 (jL below args s) M0 [(0, .ref (sB Γ)), (1, .ref (Γ.1 7 0)), (2, .int b2), (3, .int b3)] [] 238 (rec238 M0 b2 b3)) (M0 : kM2) (b3 : Int32)  : Sm Γ (K2 Γ) p l e R s mid args below meth c 15 (jL below args s) M0 [(0, .ref (sB Γ)), (1, .ref (Γ.1 7 0)), (3, .int b3)] [] 724 (fL_law_b724 sl sx rec238 M0 b3) := by
  unfold fL_law_b724
  refine k_iconst C (v := 0) dL_law_724 (by decide) (pc' := 725) rfl ?_
  exact sL_law_b725 hL C hr hA sl sx hsl hsx rec238 hrec238 M0 b3 0
