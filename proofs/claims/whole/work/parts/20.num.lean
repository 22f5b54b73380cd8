/-! numbers, and the two memories' reads and writes -/
theorem bd_s {μ : Type} {ν : Type} (r : Int32) (x : μ) (k : Int32 → μ → Option (Int32 × ν)) : bd (some (r, x)) k = k r x := rfl
theorem bd_n {μ : Type} {ν : Type} (k : Int32 → μ → Option (Int32 × ν)) : bd none k = none := rfl
theorem klet {α : Type} {β : Type} (a : α) (f : α → β) : k_let a f = f a := rfl
theorem upd_eq (f : Nat → Int32) (k : Nat) (v : Int32) : upd f k v k = v := by unfold upd; rw [if_pos rfl]
theorem upd_ne {f : Nat → Int32} {k j : Nat} {v : Int32} (h : j ≠ k) : upd f k v j = f j := by unfold upd; rw [if_neg h]
theorem mu_eq (m : kM1) (j k : Nat) (v : Int32) : mu m j k v j = upd (m j) k v := by unfold mu; rw [if_pos rfl]
theorem mu_ne {m : kM1} {j j' k : Nat} {v : Int32} (h : j' ≠ j) : mu m j k v j' = m j' := by unfold mu; rw [if_neg h]
/-- the reference's memory, with the row d -/
def sD (m : kM1) (d : Nat → Int32) : kM1 := fun j => if j = 1 then d else m j
theorem sD_1 (m : kM1) (d : Nat → Int32) : sD m d 1 = d := rfl
theorem sD_ne {m : kM1} {d : Nat → Int32} {j : Nat} (h : j ≠ 1) : sD m d j = m j := by unfold sD; rw [if_neg h]
theorem sD_self (m : kM1) : sD m (m 1) = m := by
  funext j
  unfold sD
  split
  · next h => rw [h]
  · rfl
theorem sD_sD (m : kM1) (d d' : Nat → Int32) : sD (sD m d) d' = sD m d' := by
  funext j
  unfold sD
  split <;> rfl
theorem sD_mu (m : kM1) (d : Nat → Int32) (k : Nat) (v : Int32) : mu (sD m d) 1 k v = sD m (upd d k v) := by
  funext j
  unfold mu sD
  split <;> rfl
theorem sD_mu_ne (m : kM1) (d : Nat → Int32) {j : Nat} (k : Nat) (v : Int32) (h : j ≠ 1) : mu (sD m d) j k v = sD (mu m j k v) d := by
  funext j'
  unfold mu sD
  by_cases h1 : j' = 1
  · subst h1
    rw [if_pos rfl, if_neg (fun z => h z.symm)]
    rfl
  · rw [if_neg h1]
    by_cases h2 : j' = j
    · rw [if_pos h2, if_neg h, if_neg h1]; exact (if_pos h2).symm
    · rw [if_neg h2, if_neg h1]; exact (if_neg h2).symm
theorem i_le {x y : Int32} : x ≤ y ↔ x.toInt ≤ y.toInt := Int32.le_iff_toInt_le
theorem i_lt {x y : Int32} : x < y ↔ x.toInt < y.toInt := Int32.lt_iff_toInt_lt
theorem i_eq {x y : Int32} : x = y ↔ x.toInt = y.toInt := Int32.toInt_inj.symm
theorem i_min (x : Int32) : -2147483648 ≤ x.toInt := by have := Int32.le_toInt x; simpa using this
theorem i_max (x : Int32) : x.toInt < 2147483648 := by have := Int32.toInt_lt x; simpa using this
theorem i_bm {z : Int} (h1 : -2147483648 ≤ z) (h2 : z < 2147483648) : z.bmod (2 ^ 32) = z := by
  apply Int.bmod_eq_of_le <;> omega
theorem i_add {x y : Int32} (h1 : -2147483648 ≤ x.toInt + y.toInt) (h2 : x.toInt + y.toInt < 2147483648) : (x + y).toInt = x.toInt + y.toInt := by rw [Int32.toInt_add, i_bm h1 h2]
theorem i_sub {x y : Int32} (h1 : -2147483648 ≤ x.toInt - y.toInt) (h2 : x.toInt - y.toInt < 2147483648) : (x - y).toInt = x.toInt - y.toInt := by rw [Int32.toInt_sub, i_bm h1 h2]
theorem i_mul {x y : Int32} (h1 : -2147483648 ≤ x.toInt * y.toInt) (h2 : x.toInt * y.toInt < 2147483648) : (x * y).toInt = x.toInt * y.toInt := by rw [Int32.toInt_mul, i_bm h1 h2]
theorem i_div {x y : Int32} (hx : 0 ≤ x.toInt) (hy : 0 < y.toInt) : (x / y).toInt = x.toInt / y.toInt := by
  have h1 := i_max x
  have h2 : 0 ≤ x.toInt / y.toInt := Int.ediv_nonneg hx (Int.le_of_lt hy)
  have h3 : x.toInt / y.toInt ≤ x.toInt := Int.ediv_le_self _ hx
  rw [Int32.toInt_div, Int.tdiv_eq_ediv_of_nonneg hx, i_bm (by omega) (by omega)]
theorem nI_mul (a b : Nat) : nI a * nI b = nI (a * b) := (Int32.ofNat_mul a b).symm
theorem nI_sub {a b : Nat} (h : b ≤ a) : nI a - nI b = nI (a - b) := by
  have e : nI a = nI (a - b) + nI b := by rw [nI_add]; congr 1; omega
  rw [e, Int32.add_sub_cancel]
theorem t_nI {n : Nat} (h : n < 2147483648) : (nI n).toInt = (n : Int) := nI_toInt h
theorem c_nI {n : Nat} (h : n < 2147483648) : (nI n).toNatClampNeg = n := nI_clamp h
theorem nI_inj {a b : Nat} (ha : a < 2147483648) (hb : b < 2147483648) (h : nI a = nI b) : a = b := (nI_eq ha hb).mp h
/-- a number of a range is a count -/
theorem nI_rng {x : Int32} {n : Nat} (h0 : 0 ≤ x.toInt) (h1 : x.toInt < n) : ∃ k : Nat, k < n ∧ x = nI k := by
  refine ⟨x.toInt.toNat, by omega, ?_⟩
  have h2 := i_max x
  rw [i_eq, t_nI (by omega)]
  omega
theorem inb_nI {k n : Nat} (h : k < n) (hn : n ≤ 2147483648) : ¬ nI k < 0 ∧ (nI k).toNatClampNeg < n := by
  rw [c_nI (by omega)]
  exact ⟨nI_pos (by omega), h⟩
theorem ix_s {s w : Nat} : (56 + 13 * nI s) + nI w = nI (56 + 13 * s + w) := by
  rw [show (56 : Int32) = nI 56 from rfl, show (13 : Int32) = nI 13 from rfl, nI_mul, nI_add, nI_add]
theorem ix_k {k : Nat} : 30 + 3 * nI k = nI (30 + 3 * k) := by
  rw [show (30 : Int32) = nI 30 from rfl, show (3 : Int32) = nI 3 from rfl, nI_mul, nI_add]
theorem ix_f {f : Nat} : 48 + nI f = nI (48 + f) := by
  rw [show (48 : Int32) = nI 48 from rfl, nI_add]
