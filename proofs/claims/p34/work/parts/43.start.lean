/-! what holds at the law's entry -/
theorem w_arr {args : Array Value} {s : State} {ty : FieldType} (h : (Cond.arrayClass ty).before args s = true) : ∃ c, ArrOfT s c ty ∧ s.vm.findClass ("[" ++ ty.toString) = some c := by
  obtain ⟨c, k, comp, h1, h2, h3⟩ := Cond.arrayClass_spec h
  exact ⟨c, fun N z => ⟨(fun k h => by cases h), k, h2, comp, h3⟩, h1⟩
theorem w_arrO {args : Array Value} {s : State} {C : String} (h : (Cond.arrayOver (.object C)).before args s = true) : ∃ c, ArrOfT s c (.object C) ∧ va_RA s c (.object C) := by
  obtain ⟨comp, c, k, h1, -, h2, h3, h4⟩ := Cond.arrayOver_spec h
  exact ⟨c, fun N z => ⟨(fun k h => by cases h), k, h2, comp, h3⟩, k, comp, h2, h3, h1, h4⟩
theorem w_len {args : Array Value} {s : State} {tm : Term} {N a : Nat} {cell : Cell} (hN : N < 2 ^ 31) (h : (Term.length tm).eval args s none [] s = some (.int (Int32.ofNat N))) (ht : tm.eval args s none [] s = some (.ref a)) (hc : s.arrayAt? a = some cell) : cell.slots.size = N := by
  simp only [Term.eval, Option.bind_eq_bind, ht, Option.bind_some, hc] at h
  by_cases hn : cell.slots.size < 2147483648
  · rw [if_pos hn] at h
    have e : cell.slots.size.toInt32 = Int32.ofNat N := Value.int.inj (Option.some.inj h)
    have e1 : (Int32.ofNat cell.slots.size).toNatClampNeg = cell.slots.size := Int32.toNatClampNeg_ofNat_of_lt hn
    have e2 : (Int32.ofNat N).toNatClampNeg = N := Int32.toNatClampNeg_ofNat_of_lt hN
    rw [show Int32.ofNat cell.slots.size = Int32.ofNat N from e, e2] at e1
    exact e1.symm
  · rw [if_neg hn] at h
    cases h
theorem w_stat {args : Array Value} {s : State} {n : String} {N : Nat} {f : Nat → Int32} (hN : N < 2 ^ 31) (harr : (Cond.arrayOf (.static "SeaMill" n "[I") .int).before args s = true) (hex : (Cond.exactly (.static "SeaMill" n "[I") "[I").before args s = true) (hlen : (Cond.eq (.length (.static "SeaMill" n "[I")) (.int (Int32.ofNat N))).before args s = true) (hel : ∀ j : Nat, j < N → (Cond.eq (.elem (.static "SeaMill" n "[I") (.int (Int32.ofNat j))) (.int (f j))).before args s = true) (hl : (Cond.laysStatic "SeaMill" n "[I").before args s = true) (hini : (Cond.initialized "SeaMill").before args s = true) : ∃ t : Nat, va_Z "SeaMill" n "[I" (.ref t) (fun q => s.heap.size ≤ q) s s.heap ∧ va_T .int t N (fun j => .int (f j)) (fun q => s.heap.size ≤ q) s s.heap ∧ x_B t N f (fun q => s.heap.size ≤ q) s s.heap := by
  have hA : ∀ a : Nat, a < s.heap.size → ¬ (fun q : Nat => s.heap.size ≤ q) a := fun a h => Nat.not_le.mpr h
  have hle := va_eqt hlen
  obtain ⟨t, e1, hT⟩ := va_Tof (f := fun j => .int (f j)) hN harr hle (fun j hj => va_eqt (hel j hj)) hA
  refine ⟨t, va_Zof hl hini e1 hA, hT, ?_⟩
  obtain ⟨cell, g1, g2, g3, g4, g5, g6, g7⟩ := hT
  obtain ⟨a, c, cell2, k, f1, f2, f3, f4, f5, f6, -⟩ := Cond.exactly_spec hex
  cases e1.symm.trans f1
  cases g1.symm.trans f3
  obtain ⟨a3, cell3, r1, r2, r3⟩ := Term.length_spec hle
  cases e1.symm.trans r1
  obtain ⟨r4, -, -, -⟩ := State.arrayAt?_spec r2
  cases g1.symm.trans r4
  exact ⟨cell, g1, g2.1, g3, by rw [f6]; exact f2, w_len hN hle e1 r2, g6, g7⟩

set_option maxRecDepth 100000 in
theorem w_K {args : Array Value} {s : State} (hts : ∀ w ∈ lw_tbl, w.before args s = true) : ∃ (D : va_G) (aI : Nat → ClassId), va_K D vwCl (x_tys aI) s := by
  have htg : ∀ w ∈ lw_g, w.before args s = true := fun w hw => hts w (List.mem_filter.mp hw).1
  obtain ⟨c0, i0, K0⟩ := u_known (C := RX0) (T := TX0) (N := 2) (n := 2) htg hinX0 (hts (.instantiable RX0 2) (List.mem_of_getElem? (i := 80) (by decide +kernel)))
  obtain ⟨c1, i1, K1⟩ := u_known (C := RX1) (T := TX1) (N := 3) (n := 3) htg hinX1 (hts (.instantiable RX1 3) (List.mem_of_getElem? (i := 225) (by decide +kernel)))
  obtain ⟨c2, i2, K2⟩ := u_known (C := RX2) (T := TX2) (N := 3) (n := 3) htg hinX2 (hts (.instantiable RX2 3) (List.mem_of_getElem? (i := 58) (by decide +kernel)))
  obtain ⟨c3, i3, K3⟩ := u_known (C := RX3) (T := TX3) (N := 18) (n := 18) htg hinX3 (hts (.instantiable RX3 18) (List.mem_of_getElem? (i := 36) (by decide +kernel)))
  obtain ⟨c4, i4, K4⟩ := u_known (C := RX4) (T := TX4) (N := 7) (n := 7) htg hinX4 (hts (.instantiable RX4 7) (List.mem_of_getElem? (i := 245) (by decide +kernel)))
  obtain ⟨c5, i5, K5⟩ := u_known (C := RX5) (T := TX5) (N := 17) (n := 17) htg hinX5 (hts (.instantiable RX5 17) (List.mem_of_getElem? (i := 94) (by decide +kernel)))
  obtain ⟨c6, i6, K6⟩ := u_known (C := RX6) (T := TX6) (N := 4) (n := 4) htg hinX6 (hts (.instantiable RX6 4) (List.mem_of_getElem? (i := 28) (by decide +kernel)))
  obtain ⟨a0, A0, N0⟩ := w_arr (hts (.arrayClass .int) (List.mem_of_getElem? (i := 79) (by decide +kernel)))
  obtain ⟨a1, A1, N1⟩ := w_arr (hts (.arrayClass .char) (List.mem_of_getElem? (i := 268) (by decide +kernel)))
  obtain ⟨a2, A2, N2⟩ := w_arrO (hts (.arrayOver (.object RX2)) (List.mem_of_getElem? (i := 53) (by decide +kernel)))
  obtain ⟨a3, A3, N3⟩ := w_arrO (hts (.arrayOver (.object RX0)) (List.mem_of_getElem? (i := 55) (by decide +kernel)))
  obtain ⟨a4, A4, N4⟩ := w_arrO (hts (.arrayOver (.object RX5)) (List.mem_of_getElem? (i := 57) (by decide +kernel)))
  obtain ⟨a5, A5, N5⟩ := w_arrO (hts (.arrayOver (.object RX3)) (List.mem_of_getElem? (i := 231) (by decide +kernel)))
  refine ⟨(fun k => if k = 0 then c0 else if k = 1 then c1 else if k = 2 then c2 else if k = 3 then c3 else if k = 4 then c4 else if k = 5 then c5 else c6, fun k => if k = 0 then i0 else if k = 1 then i1 else if k = 2 then i2 else if k = 3 then i3 else if k = 4 then i4 else if k = 5 then i5 else i6), fun k => if k = 0 then a0 else if k = 1 then a1 else if k = 2 then a2 else if k = 3 then a3 else if k = 4 then a4 else a5, fun k q hq => ?_, fun k q hq => ?_⟩
  · match k, hq with
    | 0, hq => cases hq; exact K0
    | 1, hq => cases hq; exact K1
    | 2, hq => cases hq; exact K2
    | 3, hq => cases hq; exact K3
    | 4, hq => cases hq; exact K4
    | 5, hq => cases hq; exact K5
    | 6, hq => cases hq; exact K6
    | k + 7, hq => cases hq
  · match k, hq with
    | 0, hq => cases hq; exact ⟨A0, N0⟩
    | 1, hq => cases hq; exact ⟨A1, N1⟩
    | 2, hq => cases hq; exact ⟨A2, N2⟩
    | 3, hq => cases hq; exact ⟨A3, N3⟩
    | 4, hq => cases hq; exact ⟨A4, N4⟩
    | 5, hq => cases hq; exact ⟨A5, N5⟩
    | k + 6, hq => cases hq
theorem w_nw {args : Array Value} {s : State} (hts : ∀ w ∈ lw_tbl, w.before args s = true) : x_nw s ∧ k_nw s := by
  refine ⟨⟨⟨va_AO.of (hts (.arrayOver (.object RX2)) (List.mem_of_getElem? (i := 53) (by decide +kernel))), va_AO.of (hts (.arrayOver (.object RX0)) (List.mem_of_getElem? (i := 55) (by decide +kernel))), va_AO.of (hts (.arrayOver (.object RX5)) (List.mem_of_getElem? (i := 57) (by decide +kernel))), va_AO.of (hts (.arrayOver (.object RX3)) (List.mem_of_getElem? (i := 231) (by decide +kernel)))⟩, va_Nw.of rfl (hts (.castable "[I" "java/lang/Cloneable") (List.mem_of_getElem? (i := 48) (by decide +kernel))), ⟨va_Nw.of rfl (hts (.methodLinkNest RX3 54 yX2_init "SeaMill") (List.mem_of_getElem? (i := 59) (by decide +kernel))), va_Nw.of rfl (hts (.methodLinkNest RX3 55 yX0_init "SeaMill") (List.mem_of_getElem? (i := 81) (by decide +kernel))), va_Nw.of rfl (hts (.methodLinkNest RX3 56 yX5_init "SeaMill") (List.mem_of_getElem? (i := 95) (by decide +kernel))), va_Nw.of rfl (hts (.methodLinkNest RX6 28 yX4_init "SeaMill") (List.mem_of_getElem? (i := 246) (by decide +kernel)))⟩, va_Nw.of rfl (hts (.fieldLinkNest RX3 9 "SeaMill" "FIRST_SETTINGS" "[I" "SeaMill") (List.mem_of_getElem? (i := 41) (by decide +kernel))), va_Nw.of rfl (hts (.fieldLinkNest RX3 23 "SeaMill" "FIRST_LEAKS" "[I" "SeaMill") (List.mem_of_getElem? (i := 50) (by decide +kernel)))⟩, ?_⟩
  exact ⟨va_Nw.of rfl (hts (.methodLinkNest RX3 110 yX6_within "SeaMill") (List.mem_of_getElem? (i := 317) (by decide +kernel))), va_Nw.of rfl (hts (.methodLinkNest RX3 269 yX6_quotient "SeaMill") (List.mem_of_getElem? (i := 474) (by decide +kernel))), va_Nw.of rfl (hts (.fieldLinkNest RX3 114 "SeaMill" "LEAST_SETTINGS" "[I" "SeaMill") (List.mem_of_getElem? (i := 320) (by decide +kernel))), va_Nw.of rfl (hts (.fieldLinkNest RX3 117 "SeaMill" "GREATEST_SETTINGS" "[I" "SeaMill") (List.mem_of_getElem? (i := 322) (by decide +kernel)))⟩
set_option maxRecDepth 100000 in
theorem w_k_first {b : Nat} {s : State} (hts : ∀ w ∈ lw_tbl, w.before #[Value.ref b] s = true) (hgv : (Jvm.Cond.and given_1 narrow_1).before #[Value.ref b] s = true) : ∃ t : Nat, va_Z "SeaMill" "FIRST_SETTINGS" "[I" (.ref t) (fun q => s.heap.size ≤ q) s s.heap ∧ va_T .int t 13 (fun j => .int (k_first j)) (fun q => s.heap.size ≤ q) s s.heap ∧ x_B t 13 k_first (fun q => s.heap.size ≤ q) s s.heap := by
  have hs := flat_of_before _ hgv
  refine w_stat (by decide) (hs (.arrayOf (.static "SeaMill" "FIRST_SETTINGS" "[I") .int) (by decide +kernel)) (hs (.exactly (.static "SeaMill" "FIRST_SETTINGS" "[I") "[I") (by decide +kernel)) (hs (.eq (.length (.static "SeaMill" "FIRST_SETTINGS" "[I")) (.int 13)) (by decide +kernel)) (fun j hj => ?_) (hts (.laysStatic "SeaMill" "FIRST_SETTINGS" "[I") (List.mem_of_getElem? (i := 42) (by decide +kernel))) (hts (.initialized "SeaMill") (List.mem_of_getElem? (i := 18) (by decide +kernel)))
  rcases (show j = 0 ∨ j = 1 ∨ j = 2 ∨ j = 3 ∨ j = 4 ∨ j = 5 ∨ j = 6 ∨ j = 7 ∨ j = 8 ∨ j = 9 ∨ j = 10 ∨ j = 11 ∨ j = 12 by omega) with rfl | rfl | rfl | rfl | rfl | rfl | rfl | rfl | rfl | rfl | rfl | rfl | rfl
  · exact hs (.eq (.elem (.static "SeaMill" "FIRST_SETTINGS" "[I") (.int 0)) (.int 100)) (by decide +kernel)
  · exact hs (.eq (.elem (.static "SeaMill" "FIRST_SETTINGS" "[I") (.int 1)) (.int 20)) (by decide +kernel)
  · exact hs (.eq (.elem (.static "SeaMill" "FIRST_SETTINGS" "[I") (.int 2)) (.int 100)) (by decide +kernel)
  · exact hs (.eq (.elem (.static "SeaMill" "FIRST_SETTINGS" "[I") (.int 3)) (.int 20)) (by decide +kernel)
  · exact hs (.eq (.elem (.static "SeaMill" "FIRST_SETTINGS" "[I") (.int 4)) (.int 50)) (by decide +kernel)
  · exact hs (.eq (.elem (.static "SeaMill" "FIRST_SETTINGS" "[I") (.int 5)) (.int 60)) (by decide +kernel)
  · exact hs (.eq (.elem (.static "SeaMill" "FIRST_SETTINGS" "[I") (.int 6)) (.int 10)) (by decide +kernel)
  · exact hs (.eq (.elem (.static "SeaMill" "FIRST_SETTINGS" "[I") (.int 7)) (.int 200)) (by decide +kernel)
  · exact hs (.eq (.elem (.static "SeaMill" "FIRST_SETTINGS" "[I") (.int 8)) (.int 10)) (by decide +kernel)
  · exact hs (.eq (.elem (.static "SeaMill" "FIRST_SETTINGS" "[I") (.int 9)) (.int 5)) (by decide +kernel)
  · exact hs (.eq (.elem (.static "SeaMill" "FIRST_SETTINGS" "[I") (.int 10)) (.int 10)) (by decide +kernel)
  · exact hs (.eq (.elem (.static "SeaMill" "FIRST_SETTINGS" "[I") (.int 11)) (.int 50)) (by decide +kernel)
  · exact hs (.eq (.elem (.static "SeaMill" "FIRST_SETTINGS" "[I") (.int 12)) (.int 0)) (by decide +kernel)
set_option maxRecDepth 100000 in
theorem w_k_fleak {b : Nat} {s : State} (hts : ∀ w ∈ lw_tbl, w.before #[Value.ref b] s = true) (hgv : (Jvm.Cond.and given_1 narrow_1).before #[Value.ref b] s = true) : ∃ t : Nat, va_Z "SeaMill" "FIRST_LEAKS" "[I" (.ref t) (fun q => s.heap.size ≤ q) s s.heap ∧ va_T .int t 4 (fun j => .int (k_fleak j)) (fun q => s.heap.size ≤ q) s s.heap ∧ x_B t 4 k_fleak (fun q => s.heap.size ≤ q) s s.heap := by
  have hs := flat_of_before _ hgv
  refine w_stat (by decide) (hs (.arrayOf (.static "SeaMill" "FIRST_LEAKS" "[I") .int) (by decide +kernel)) (hs (.exactly (.static "SeaMill" "FIRST_LEAKS" "[I") "[I") (by decide +kernel)) (hs (.eq (.length (.static "SeaMill" "FIRST_LEAKS" "[I")) (.int 4)) (by decide +kernel)) (fun j hj => ?_) (hts (.laysStatic "SeaMill" "FIRST_LEAKS" "[I") (List.mem_of_getElem? (i := 51) (by decide +kernel))) (hts (.initialized "SeaMill") (List.mem_of_getElem? (i := 18) (by decide +kernel)))
  rcases (show j = 0 ∨ j = 1 ∨ j = 2 ∨ j = 3 by omega) with rfl | rfl | rfl | rfl
  · exact hs (.eq (.elem (.static "SeaMill" "FIRST_LEAKS" "[I") (.int 0)) (.int 2)) (by decide +kernel)
  · exact hs (.eq (.elem (.static "SeaMill" "FIRST_LEAKS" "[I") (.int 1)) (.int 1)) (by decide +kernel)
  · exact hs (.eq (.elem (.static "SeaMill" "FIRST_LEAKS" "[I") (.int 2)) (.int 3)) (by decide +kernel)
  · exact hs (.eq (.elem (.static "SeaMill" "FIRST_LEAKS" "[I") (.int 3)) (.int 0)) (by decide +kernel)
set_option maxRecDepth 100000 in
theorem w_k_least {b : Nat} {s : State} (hts : ∀ w ∈ lw_tbl, w.before #[Value.ref b] s = true) (hgv : (Jvm.Cond.and given_1 narrow_1).before #[Value.ref b] s = true) : ∃ t : Nat, va_Z "SeaMill" "LEAST_SETTINGS" "[I" (.ref t) (fun q => s.heap.size ≤ q) s s.heap ∧ va_T .int t 13 (fun j => .int (k_least j)) (fun q => s.heap.size ≤ q) s s.heap ∧ x_B t 13 k_least (fun q => s.heap.size ≤ q) s s.heap := by
  have hs := flat_of_before _ hgv
  refine w_stat (by decide) (hs (.arrayOf (.static "SeaMill" "LEAST_SETTINGS" "[I") .int) (by decide +kernel)) (hs (.exactly (.static "SeaMill" "LEAST_SETTINGS" "[I") "[I") (by decide +kernel)) (hs (.eq (.length (.static "SeaMill" "LEAST_SETTINGS" "[I")) (.int 13)) (by decide +kernel)) (fun j hj => ?_) (hts (.laysStatic "SeaMill" "LEAST_SETTINGS" "[I") (List.mem_of_getElem? (i := 321) (by decide +kernel))) (hts (.initialized "SeaMill") (List.mem_of_getElem? (i := 18) (by decide +kernel)))
  rcases (show j = 0 ∨ j = 1 ∨ j = 2 ∨ j = 3 ∨ j = 4 ∨ j = 5 ∨ j = 6 ∨ j = 7 ∨ j = 8 ∨ j = 9 ∨ j = 10 ∨ j = 11 ∨ j = 12 by omega) with rfl | rfl | rfl | rfl | rfl | rfl | rfl | rfl | rfl | rfl | rfl | rfl | rfl
  · exact hs (.eq (.elem (.static "SeaMill" "LEAST_SETTINGS" "[I") (.int 0)) (.int 10)) (by decide +kernel)
  · exact hs (.eq (.elem (.static "SeaMill" "LEAST_SETTINGS" "[I") (.int 1)) (.int 0)) (by decide +kernel)
  · exact hs (.eq (.elem (.static "SeaMill" "LEAST_SETTINGS" "[I") (.int 2)) (.int 0)) (by decide +kernel)
  · exact hs (.eq (.elem (.static "SeaMill" "LEAST_SETTINGS" "[I") (.int 3)) (.int 0)) (by decide +kernel)
  · exact hs (.eq (.elem (.static "SeaMill" "LEAST_SETTINGS" "[I") (.int 4)) (.int 4)) (by decide +kernel)
  · exact hs (.eq (.elem (.static "SeaMill" "LEAST_SETTINGS" "[I") (.int 5)) (.int 0)) (by decide +kernel)
  · exact hs (.eq (.elem (.static "SeaMill" "LEAST_SETTINGS" "[I") (.int 6)) (.int 0)) (by decide +kernel)
  · exact hs (.eq (.elem (.static "SeaMill" "LEAST_SETTINGS" "[I") (.int 7)) (.int 0)) (by decide +kernel)
  · exact hs (.eq (.elem (.static "SeaMill" "LEAST_SETTINGS" "[I") (.int 8)) (.int 0)) (by decide +kernel)
  · exact hs (.eq (.elem (.static "SeaMill" "LEAST_SETTINGS" "[I") (.int 9)) (.int 0)) (by decide +kernel)
  · exact hs (.eq (.elem (.static "SeaMill" "LEAST_SETTINGS" "[I") (.int 10)) (.int 1)) (by decide +kernel)
  · exact hs (.eq (.elem (.static "SeaMill" "LEAST_SETTINGS" "[I") (.int 11)) (.int 1)) (by decide +kernel)
  · exact hs (.eq (.elem (.static "SeaMill" "LEAST_SETTINGS" "[I") (.int 12)) (.int 0)) (by decide +kernel)
set_option maxRecDepth 100000 in
theorem w_k_great {b : Nat} {s : State} (hts : ∀ w ∈ lw_tbl, w.before #[Value.ref b] s = true) (hgv : (Jvm.Cond.and given_1 narrow_1).before #[Value.ref b] s = true) : ∃ t : Nat, va_Z "SeaMill" "GREATEST_SETTINGS" "[I" (.ref t) (fun q => s.heap.size ≤ q) s s.heap ∧ va_T .int t 13 (fun j => .int (k_great j)) (fun q => s.heap.size ≤ q) s s.heap ∧ x_B t 13 k_great (fun q => s.heap.size ≤ q) s s.heap := by
  have hs := flat_of_before _ hgv
  refine w_stat (by decide) (hs (.arrayOf (.static "SeaMill" "GREATEST_SETTINGS" "[I") .int) (by decide +kernel)) (hs (.exactly (.static "SeaMill" "GREATEST_SETTINGS" "[I") "[I") (by decide +kernel)) (hs (.eq (.length (.static "SeaMill" "GREATEST_SETTINGS" "[I")) (.int 13)) (by decide +kernel)) (fun j hj => ?_) (hts (.laysStatic "SeaMill" "GREATEST_SETTINGS" "[I") (List.mem_of_getElem? (i := 323) (by decide +kernel))) (hts (.initialized "SeaMill") (List.mem_of_getElem? (i := 18) (by decide +kernel)))
  rcases (show j = 0 ∨ j = 1 ∨ j = 2 ∨ j = 3 ∨ j = 4 ∨ j = 5 ∨ j = 6 ∨ j = 7 ∨ j = 8 ∨ j = 9 ∨ j = 10 ∨ j = 11 ∨ j = 12 by omega) with rfl | rfl | rfl | rfl | rfl | rfl | rfl | rfl | rfl | rfl | rfl | rfl | rfl
  · exact hs (.eq (.elem (.static "SeaMill" "GREATEST_SETTINGS" "[I") (.int 0)) (.int 1000)) (by decide +kernel)
  · exact hs (.eq (.elem (.static "SeaMill" "GREATEST_SETTINGS" "[I") (.int 1)) (.int 100)) (by decide +kernel)
  · exact hs (.eq (.elem (.static "SeaMill" "GREATEST_SETTINGS" "[I") (.int 2)) (.int 300)) (by decide +kernel)
  · exact hs (.eq (.elem (.static "SeaMill" "GREATEST_SETTINGS" "[I") (.int 3)) (.int 100)) (by decide +kernel)
  · exact hs (.eq (.elem (.static "SeaMill" "GREATEST_SETTINGS" "[I") (.int 4)) (.int 100)) (by decide +kernel)
  · exact hs (.eq (.elem (.static "SeaMill" "GREATEST_SETTINGS" "[I") (.int 5)) (.int 200)) (by decide +kernel)
  · exact hs (.eq (.elem (.static "SeaMill" "GREATEST_SETTINGS" "[I") (.int 6)) (.int 100)) (by decide +kernel)
  · exact hs (.eq (.elem (.static "SeaMill" "GREATEST_SETTINGS" "[I") (.int 7)) (.int 2000)) (by decide +kernel)
  · exact hs (.eq (.elem (.static "SeaMill" "GREATEST_SETTINGS" "[I") (.int 8)) (.int 50)) (by decide +kernel)
  · exact hs (.eq (.elem (.static "SeaMill" "GREATEST_SETTINGS" "[I") (.int 9)) (.int 100)) (by decide +kernel)
  · exact hs (.eq (.elem (.static "SeaMill" "GREATEST_SETTINGS" "[I") (.int 10)) (.int 60)) (by decide +kernel)
  · exact hs (.eq (.elem (.static "SeaMill" "GREATEST_SETTINGS" "[I") (.int 11)) (.int 100)) (by decide +kernel)
  · exact hs (.eq (.elem (.static "SeaMill" "GREATEST_SETTINGS" "[I") (.int 12)) (.int 3)) (by decide +kernel)
theorem w_st {b L : Nat} {xs : Nat → Int32} {s : State} (hts : ∀ w ∈ lw_tbl, w.before #[Value.ref b] s = true) (hgv : (Jvm.Cond.and given_1 narrow_1).before #[Value.ref b] s = true) (hX : va_X b L xs s s.heap) (hb : b < s.heap.size) (hL : L ≤ 260) : x_st (fun q => s.heap.size ≤ q) s s.heap ∧ ∀ Γ : kG, Γ.2.2.2 = (fun q => s.heap.size ≤ q, b, L, xs) → k_st Γ s s.heap := by
  obtain ⟨t1, a1, -, c1⟩ := w_k_first hts hgv
  obtain ⟨t2, a2, -, c2⟩ := w_k_fleak hts hgv
  obtain ⟨t3, a3, b3, -⟩ := w_k_least hts hgv
  obtain ⟨t4, a4, b4, -⟩ := w_k_great hts hgv
  refine ⟨⟨⟨t1, a1, c1⟩, ⟨t2, a2, c2⟩⟩, fun Γ e => ?_⟩
  unfold k_st sB sL sX
  rw [e]
  exact ⟨⟨t3, a3, b3⟩, ⟨t4, a4, b4⟩, hX, Nat.not_le.mpr hb, hL⟩
