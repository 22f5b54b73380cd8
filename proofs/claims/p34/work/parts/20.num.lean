/-! numbers, and the two memories' reads and writes -/
theorem bd_s {μ : Type} {ν : Type} (r : Int32) (x : μ) (k : Int32 → μ → Option (Int32 × ν)) : bd (some (r, x)) k = k r x := rfl
theorem bd_n {μ : Type} {ν : Type} (k : Int32 → μ → Option (Int32 × ν)) : bd none k = none := rfl
theorem klet {α : Type} {β : Type} (a : α) (f : α → β) : k_let a f = f a := rfl
theorem upd_eq (f : Nat → Int32) (k : Nat) (v : Int32) : upd f k v k = v := by unfold upd; rw [if_pos rfl]
theorem upd_ne {f : Nat → Int32} {k j : Nat} {v : Int32} (h : j ≠ k) : upd f k v j = f j := by unfold upd; rw [if_neg h]
theorem mu_eq (m : kM1) (j k : Nat) (v : Int32) : mu m j k v j = upd (m j) k v := by unfold mu; rw [if_pos rfl]
theorem mu_ne {m : kM1} {j j' k : Nat} {v : Int32} (h : j' ≠ j) : mu m j k v j' = m j' := by unfold mu; rw [if_neg h]
theorem i_le {x y : Int32} : x ≤ y ↔ x.toInt ≤ y.toInt := Int32.le_iff_toInt_le
theorem i_lt {x y : Int32} : x < y ↔ x.toInt < y.toInt := Int32.lt_iff_toInt_lt
theorem i_eq {x y : Int32} : x = y ↔ x.toInt = y.toInt := Int32.toInt_inj.symm
theorem i_min (x : Int32) : -2147483648 ≤ x.toInt := by have := Int32.le_toInt x; simpa using this
theorem i_max (x : Int32) : x.toInt < 2147483648 := by have := Int32.toInt_lt x; simpa using this
theorem i_bm {z : Int} (h1 : -2147483648 ≤ z) (h2 : z < 2147483648) : z.bmod (2 ^ 32) = z := by
  apply Int.bmod_eq_of_le <;> omega
theorem i_add {x y : Int32} (h1 : -2147483648 ≤ x.toInt + y.toInt) (h2 : x.toInt + y.toInt < 2147483648) : (x + y).toInt = x.toInt + y.toInt := by rw [Int32.toInt_add, i_bm h1 h2]
theorem i_sub {x y : Int32} (h1 : -2147483648 ≤ x.toInt - y.toInt) (h2 : x.toInt - y.toInt < 2147483648) : (x - y).toInt = x.toInt - y.toInt := by rw [Int32.toInt_sub, i_bm h1 h2]
theorem i_mul {x y : Int32} (h1 : -2147483648 ≤ x.toInt * y.toInt) (h2 : x.toInt * y.toInt < 2147483648) : (x * y).toInt = x.toInt * y.toInt := by rw [Int32.toInt_mul, i_bm h1 h2]
theorem i_div {x y : Int32} (hx : 0 ≤ x.toInt) (hy : 0 < y.toInt) : (x / y).toInt = x.toInt / y.toInt := by
  have h1 := i_max x
  have h2 : 0 ≤ x.toInt / y.toInt := Int.ediv_nonneg hx (Int.le_of_lt hy)
  have h3 : x.toInt / y.toInt ≤ x.toInt := Int.ediv_le_self _ hx
  rw [Int32.toInt_div, Int.tdiv_eq_ediv_of_nonneg hx, i_bm (by omega) (by omega)]
theorem nI_mul (a b : Nat) : nI a * nI b = nI (a * b) := (Int32.ofNat_mul a b).symm
theorem nI_sub {a b : Nat} (h : b ≤ a) : nI a - nI b = nI (a - b) := by
  have e : nI a = nI (a - b) + nI b := by rw [nI_add]; congr 1; omega
  rw [e, Int32.add_sub_cancel]
theorem t_nI {n : Nat} (h : n < 2147483648) : (nI n).toInt = (n : Int) := nI_toInt h
theorem c_nI {n : Nat} (h : n < 2147483648) : (nI n).toNatClampNeg = n := nI_clamp h
theorem nI_inj {a b : Nat} (ha : a < 2147483648) (hb : b < 2147483648) (h : nI a = nI b) : a = b := (nI_eq ha hb).mp h
/-- a number of a range is a count -/
theorem nI_rng {x : Int32} {n : Nat} (h0 : 0 ≤ x.toInt) (h1 : x.toInt < n) : ∃ k : Nat, k < n ∧ x = nI k := by
  refine ⟨x.toInt.toNat, by omega, ?_⟩
  have h2 := i_max x
  rw [i_eq, t_nI (by omega)]
  omega
theorem inb_nI {k n : Nat} (h : k < n) (hn : n ≤ 2147483648) : ¬ nI k < 0 ∧ (nI k).toNatClampNeg < n := by
  rw [c_nI (by omega)]
  exact ⟨nI_pos (by omega), h⟩
theorem t_lit0 : (0 : Int32).toInt = 0 := rfl
theorem lp_in {k S n : Nat} (h : k < S) (hS : S ≤ n) (hn : n < 2147483648) : ¬ nI S ≤ nI k := nI_ge h (by omega)
theorem lp_out {k S : Nat} (h : S ≤ k) (hn : k < 2147483648) : nI S ≤ nI k := nI_le h (by omega)
theorem inb24 {k : Nat} (h : k < 24) : ¬ nI k < 0 ∧ k < 24 := ⟨nI_pos (by omega), h⟩
theorem ite_i {P Q : Prop} [Decidable P] [Decidable Q] (h : P ↔ Q) {α : Type} {a b : α} : (if P then a else b) = if Q then a else b := by
  by_cases hp : P
  · rw [if_pos hp, if_pos (h.mp hp)]
  · rw [if_neg hp, if_neg (fun z => hp (h.mpr z))]
theorem t_m1 : (-1 : Int32).toInt = -1 := by decide
theorem z_pos {x : Int32} : 0 < x ↔ 0 < x.toInt := by rw [i_lt, t_lit0]
theorem z_le {x : Int32} : x ≤ 0 ↔ x.toInt ≤ 0 := by rw [i_le, t_lit0]
theorem z_ge {x : Int32} : 0 ≤ x ↔ 0 ≤ x.toInt := by rw [i_le, t_lit0]
theorem z_neg {x : Int32} : x < 0 ↔ x.toInt < 0 := by rw [i_lt, t_lit0]
theorem z_eq {x : Int32} {n : Int} (c : Int32) (hc : c.toInt = n) : x = c ↔ x.toInt = n := by rw [i_eq, hc]
/-- the rest of a division -/
theorem i_rem {x y : Int32} (hx : 0 ≤ x.toInt) (hy : 0 < y.toInt) : (irm x y).toInt = x.toInt % y.toInt := by
  have h1 := i_max x
  have hd := i_div hx hy
  have h2 : 0 ≤ x.toInt / y.toInt := Int.ediv_nonneg hx (Int.le_of_lt hy)
  have h3 : x.toInt / y.toInt * y.toInt ≤ x.toInt := Int.ediv_mul_le _ (Int.ne_of_gt hy)
  have h4 : 0 ≤ x.toInt / y.toInt * y.toInt := Int.mul_nonneg h2 (Int.le_of_lt hy)
  have h5 : (x / y * y).toInt = x.toInt / y.toInt * y.toInt := by
    rw [i_mul, hd] <;> rw [hd] <;> omega
  unfold irm
  rw [i_sub, h5]
  · have := Int.emod_add_mul_ediv x.toInt y.toInt
    rw [Int.mul_comm] at this
    omega
  · rw [h5]; omega
  · rw [h5]; omega
theorem r_nI {a b : Nat} (ha : a < 2147483648) (hb : 0 < b) (hb2 : b < 2147483648) : irm (nI a) (nI b) = nI (a % b) := by
  have h := Nat.mod_lt a hb
  rw [i_eq, i_rem (by rw [t_nI ha]; omega) (by rw [t_nI hb2]; omega), t_nI ha, t_nI hb2, t_nI (by omega)]
  rfl
theorem d_nI {a b : Nat} (ha : a < 2147483648) (hb : 0 < b) (hb2 : b < 2147483648) : nI a / nI b = nI (a / b) := by
  have h := Nat.div_le_self a b
  rw [i_eq, i_div (by rw [t_nI ha]; omega) (by rw [t_nI hb2]; omega), t_nI ha, t_nI hb2, t_nI (by omega)]
  rfl
