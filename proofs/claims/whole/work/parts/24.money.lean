/-! longs, loans, debts, pledges in order, the sea -/
theorem l_bm {z : Int} (h1 : -9223372036854775808 ≤ z) (h2 : z < 9223372036854775808) : z.bmod (2 ^ 64) = z := by
  apply Int.bmod_eq_of_le <;> omega
theorem l_mul {x y : Int64} (h1 : -9223372036854775808 ≤ x.toInt * y.toInt) (h2 : x.toInt * y.toInt < 9223372036854775808) : (x * y).toInt = x.toInt * y.toInt := by rw [Int64.toInt_mul, l_bm h1 h2]
theorem l_add {x y : Int64} (h1 : -9223372036854775808 ≤ x.toInt + y.toInt) (h2 : x.toInt + y.toInt < 9223372036854775808) : (x + y).toInt = x.toInt + y.toInt := by rw [Int64.toInt_add, l_bm h1 h2]
theorem l_i (x : Int32) : x.toInt64.toInt = x.toInt := Int32.toInt_toInt64 x
theorem l_div {x : Int64} {y : Int64} (hx : 0 ≤ x.toInt) (hx2 : x.toInt < 9223372036854775808) (hy : 0 < y.toInt) : (x / y).toInt = x.toInt / y.toInt := by
  have h2 : 0 ≤ x.toInt / y.toInt := Int.ediv_nonneg hx (Int.le_of_lt hy)
  have h3 : x.toInt / y.toInt ≤ x.toInt := Int.ediv_le_self _ hx
  rw [Int64.toInt_div, Int.tdiv_eq_ediv_of_nonneg hx, l_bm (by omega) (by omega)]
theorem l_32 {x : Int64} (h1 : -2147483648 ≤ x.toInt) (h2 : x.toInt < 2147483648) : x.toInt32.toInt = x.toInt := by rw [Int64.toInt_toInt32, i_bm h1 h2]
theorem lc_gt (x y : Int64) : 0 < lg_cmp x y ↔ y.toInt < x.toInt := by
  unfold lg_cmp
  by_cases h : y < x
  · rw [if_pos h]; exact ⟨fun _ => Int64.lt_iff_toInt_lt.mp h, fun _ => by decide⟩
  · rw [if_neg h]
    have h' : ¬ y.toInt < x.toInt := fun z => h (Int64.lt_iff_toInt_lt.mpr z)
    by_cases h2 : x = y
    · rw [if_pos h2]; exact ⟨fun z => absurd z (by decide), fun z => absurd z h'⟩
    · rw [if_neg h2]; exact ⟨fun z => absurd z (by decide), fun z => absurd z h'⟩
theorem lc_le (x y : Int64) : lg_cmp x y ≤ 0 ↔ x.toInt ≤ y.toInt := by
  have h := lc_gt x y
  rw [i_lt, t_lit0] at h
  rw [i_le, t_lit0]
  omega
theorem t_max : (2147483647 : Int64).toInt = 2147483647 := by decide
theorem t_imax : (2147483647 : Int32).toInt = 2147483647 := by decide
theorem t_m1 : (-1 : Int32).toInt = -1 := by decide
/-- a product that can be told, below 0: it's too great -/
def prI (a b : Int) : Int := if a < 0 ∨ 2147483647 < a * b then -1 else a * b
theorem g_prod {μ : Type} (x : μ) {a b : Int32} (hb : 0 ≤ b.toInt) : ∃ r : Int32, fX7_product x a b = some (r, x) ∧ r.toInt = prI a.toInt b.toInt := by
  have a1 := i_min a
  have a2 := i_max a
  have b2 := i_max b
  unfold fX7_product fX7_product_b18 prI
  rw [klet]
  by_cases h : a < 0
  · rw [if_pos h, if_pos (Or.inl (by rw [i_lt, t_lit0] at h; exact h))]
    exact ⟨-1, rfl, t_m1⟩
  · rw [if_neg h]
    have ha : 0 ≤ a.toInt := by rw [i_lt, t_lit0] at h; omega
    have m0 : 0 ≤ a.toInt * b.toInt := Int.mul_nonneg ha hb
    have m1 : a.toInt * b.toInt ≤ 2147483648 * 2147483648 := Int.mul_le_mul (by omega) (by omega) hb (by decide)
    have e : (a.toInt64 * b.toInt64).toInt = a.toInt * b.toInt := by rw [l_mul, l_i, l_i] <;> rw [l_i, l_i] <;> omega
    by_cases h2 : lg_cmp (a.toInt64 * b.toInt64) 2147483647 ≤ 0
    · rw [if_pos h2]
      rw [lc_le, e, t_max] at h2
      rw [if_neg (by omega)]
      exact ⟨_, rfl, by rw [l_32 (by rw [e]; omega) (by rw [e]; omega), e]⟩
    · rw [if_neg h2]
      rw [lc_le, e, t_max] at h2
      rw [if_pos (by omega)]
      exact ⟨-1, rfl, t_m1⟩
/-- what is owed -/
def owI (L I D : Int) : Int := if 2147483647 < L * I ∨ 2147483647 < L * I * D then 2147483647 else if L + L * I * D / 1000 ≤ 2147483647 then L + L * I * D / 1000 else 2147483647
theorem add_q {x y : Int32} {L Q : Int} (h1 : x.toInt = L) (h2 : y.toInt = Q) (h3 : 0 ≤ L) (h4 : 0 ≤ Q) (h5 : L + Q ≤ 2147483647) : (x + y).toInt = L + Q := by
  subst h1
  subst h2
  rw [i_add] <;> omega
theorem ow_le {L Q : Int} : Q ≤ 2147483647 - L ↔ L + Q ≤ 2147483647 := by omega
theorem debt_eq {a m : kM1} {d : Nat → Int32} {K F S t : Nat} (R : RM a d K F S t) {s : Nat} (hs : s < S) (hp : 0 < (d (56 + 13 * s + 6)).toInt) : ∃ r, fX3_debtOf a (20 + s) = some (r, a) ∧ fX7_owes (sD m d) (nI s) = some (r, sD m d) ∧ 0 ≤ r.toInt := by
  have hS := R.S24
  have ht := R.lim.2.2.2
  obtain ⟨p1, p2, p3, p4, p5, p6⟩ := R.sp hs hp
  obtain ⟨i0, i1, i2⟩ := R.a.1 9 (by decide)
  have e8 : a 0 8 = nI t := R.n.2.2.2.1.1
  have e26 : d 26 = nI t := R.n.2.2.2.1.2
  have i1' : 0 ≤ (d 9).toInt := i1
  have i2' : (d 9).toInt ≤ 100 := i2
  have L2 := i_max (d (56 + 13 * s + 7))
  have et : (nI t / 96).toInt = (t : Int) / 96 := by rw [i_div (by rw [t_nI (by omega)]; omega) (by decide), t_nI (by omega)]; rfl
  have eD : (nI t / 96 - d (56 + 13 * s + 8)).toInt = (t : Int) / 96 - (d (56 + 13 * s + 8)).toInt := by rw [i_sub, et] <;> rw [et] <;> omega
  have D0 : 0 ≤ (t : Int) / 96 - (d (56 + 13 * s + 8)).toInt := by omega
  have D1 : (t : Int) / 96 - (d (56 + 13 * s + 8)).toInt ≤ 2000 := by omega
  generalize hL : (d (56 + 13 * s + 7)).toInt = L at *
  generalize hI : (d 9).toInt = I at *
  generalize hDD : (t : Int) / 96 - (d (56 + 13 * s + 8)).toInt = DD at *
  have m0 : 0 ≤ L * I := Int.mul_nonneg p4 i1'
  have m1 : L * I ≤ 2147483648 * 100 := Int.mul_le_mul (by omega) i2' i1' (by decide)
  have m2 : 0 ≤ L * I * DD := Int.mul_nonneg m0 D0
  have m3 : L * I * DD ≤ 2147483648 * 100 * 2000 := Int.mul_le_mul m1 D1 D0 (by decide)
  have q0 : 0 ≤ L * I * DD / 1000 := Int.ediv_nonneg m2 (by decide)
  have q1 : L * I * DD / 1000 ≤ L * I * DD := Int.ediv_le_self _ m2
  -- the class's
  have hc : ∃ r, fX3_debtOf a (20 + s) = some (r, a) ∧ r.toInt = owI L I DD := by
    unfold fX3_debtOf fX3_today owI
    rw [klet, bd_s, klet, p1, i0, p2, e8]
    have e1 : ((d (56 + 13 * s + 7)).toInt64 * (d 9).toInt64).toInt = L * I := by rw [l_mul, l_i, l_i, hL, hI] <;> rw [l_i, l_i, hL, hI] <;> omega
    have e2 : ((d (56 + 13 * s + 7)).toInt64 * (d 9).toInt64 * (nI t / 96 - d (56 + 13 * s + 8)).toInt64).toInt = L * I * DD := by rw [l_mul, e1, l_i, eD] <;> rw [e1, l_i, eD] <;> omega
    by_cases h1 : 0 < lg_cmp ((d (56 + 13 * s + 7)).toInt64 * (d 9).toInt64) 2147483647
    · rw [if_pos h1]
      rw [lc_gt, e1, t_max] at h1
      rw [if_pos (Or.inl h1)]
      exact ⟨_, rfl, t_imax⟩
    · rw [if_neg h1]
      rw [lc_gt, e1, t_max] at h1
      by_cases h2 : lg_cmp ((d (56 + 13 * s + 7)).toInt64 * (d 9).toInt64 * (nI t / 96 - d (56 + 13 * s + 8)).toInt64) 2147483647 ≤ 0
      · rw [if_pos h2, klet]
        rw [lc_le, e2, t_max] at h2
        have e3 : ((d (56 + 13 * s + 7)).toInt64 * (d 9).toInt64 * (nI t / 96 - d (56 + 13 * s + 8)).toInt64 / 1000).toInt = L * I * DD / 1000 := by
          rw [l_div (by rw [e2]; exact m2) (by rw [e2]; omega) (by decide), e2]; rfl
        have e4 : ((d (56 + 13 * s + 7)).toInt64 + (d (56 + 13 * s + 7)).toInt64 * (d 9).toInt64 * (nI t / 96 - d (56 + 13 * s + 8)).toInt64 / 1000).toInt = L + L * I * DD / 1000 := by
          rw [l_add, e3, l_i, hL] <;> rw [e3, l_i, hL] <;> omega
        rw [if_neg (show ¬ (2147483647 < L * I ∨ 2147483647 < L * I * DD) from fun z => z.elim h1 (fun y => absurd h2 (Int.not_le.mpr y)))]
        by_cases h3 : lg_cmp ((d (56 + 13 * s + 7)).toInt64 + (d (56 + 13 * s + 7)).toInt64 * (d 9).toInt64 * (nI t / 96 - d (56 + 13 * s + 8)).toInt64 / 1000) 2147483647 ≤ 0
        · rw [if_pos h3]
          rw [lc_le, e4, t_max] at h3
          rw [if_pos h3]
          exact ⟨_, rfl, by rw [l_32 (by rw [e4]; omega) (by rw [e4]; omega), e4]⟩
        · rw [if_neg h3]
          rw [lc_le, e4, t_max] at h3
          rw [if_neg h3]
          exact ⟨_, rfl, t_imax⟩
      · rw [if_neg h2]
        rw [lc_le, e2, t_max] at h2
        rw [if_pos (by omega)]
        exact ⟨_, rfl, t_imax⟩
  have hg : ∃ r, fX7_owes (sD m d) (nI s) = some (r, sD m d) ∧ r.toInt = owI L I DD := by
    unfold fX7_owes fX7_owes_b61
    rw [g_of7 m d (by omega), bd_s, sD_1]
    obtain ⟨r1, h1, v1⟩ := g_prod (sD m d) (a := d (56 + 13 * s + 7)) (b := d 9) (by rw [hI]; exact i1')
    rw [h1, bd_s, g_of8 m d (by omega), bd_s, sD_1, e26]
    obtain ⟨r2, h2, v2⟩ := g_prod (sD m d) (a := r1) (b := nI t / 96 - d (56 + 13 * s + 8)) (by rw [eD]; exact D0)
    rw [h2, bd_s, g_of7 m d (by omega), bd_s]
    rw [hL, hI] at v1
    rw [v1, eD] at v2
    unfold prI at v1 v2
    unfold owI
    by_cases c1 : 2147483647 < L * I
    · rw [if_pos (Or.inr c1)] at v2
      rw [if_pos (Or.inl (by decide))] at v2
      rw [if_pos (show r2 < 0 by rw [i_lt, v2, t_lit0]; decide), if_pos (Or.inl c1)]
      exact ⟨_, rfl, t_imax⟩
    · have c1' : ¬ (L < 0 ∨ 2147483647 < L * I) := by omega
      rw [if_neg c1'] at v2
      by_cases c2 : 2147483647 < L * I * DD
      · rw [if_pos (Or.inr c2)] at v2
        rw [if_pos (show r2 < 0 by rw [i_lt, v2, t_lit0]; decide), if_pos (Or.inr c2)]
        exact ⟨_, rfl, t_imax⟩
      · rw [if_neg (by omega)] at v2
        rw [if_neg (show ¬ r2 < 0 by rw [i_lt, v2, t_lit0]; omega), if_neg (show ¬ (2147483647 < L * I ∨ 2147483647 < L * I * DD) by omega)]
        have e3 : (r2 / 1000).toInt = L * I * DD / 1000 := by rw [i_div (by rw [v2]; exact m2) (by decide), v2]; rfl
        have e4 : (2147483647 - d (56 + 13 * s + 7)).toInt = 2147483647 - L := by rw [i_sub, hL, t_imax] <;> rw [hL, t_imax] <;> omega
        by_cases c3 : L + L * I * DD / 1000 ≤ 2147483647
        · rw [if_pos (show r2 / 1000 ≤ 2147483647 - d (56 + 13 * s + 7) by rw [i_le, e3, e4]; exact ow_le.mpr c3), if_pos c3]
          have e5 : (d (56 + 13 * s + 7) + r2 / 1000).toInt = L + L * I * DD / 1000 := add_q hL e3 p4 q0 c3
          rw [g_of7 m d (by omega), bd_s]
          exact ⟨_, rfl, e5⟩
        · rw [if_neg (show ¬ r2 / 1000 ≤ 2147483647 - d (56 + 13 * s + 7) by rw [i_le, e3, e4]; exact fun z => c3 (ow_le.mp z)), if_neg c3]
          exact ⟨_, rfl, t_imax⟩
  obtain ⟨r, h1, h2⟩ := hc
  obtain ⟨r', h3, h4⟩ := hg
  have e : r = r' := i_eq.mpr (by rw [h2, h4])
  subst e
  refine ⟨r, h1, h3, ?_⟩
  rw [h2]
  unfold owI
  split
  · decide
  · split
    · omega
    · decide

theorem g_has6 {d : Nat → Int32} {s : Nat} : d (56 + 13 * s + 6) ≤ 0 ↔ (d (56 + 13 * s + 6)).toInt ≤ 0 := by rw [i_le, t_lit0]

theorem p_ahead {a m : kM1} {d : Nat → Int32} {K F S t : Nat} (R : RM a d K F S t) {s : Nat} (hs : s < S) (hps : 0 < (d (56 + 13 * s + 6)).toInt) : ∀ (j k : Nat) (acc : Int32) (n n' : Nat), k + j = S → j < n → j < n' → ∃ r, fX3_pledgesAheadOf_b15 (nI s) n a (d (56 + 13 * s + 9)) acc (nI k) = some (r, a) ∧ fX7_ahead_b4 (nI s) n' (sD m d) acc (nI k) = some (r, sD m d) := by
  have hS := R.S24
  intro j
  induction j with
  | zero =>
    intro k acc n n' hk hn hn'
    obtain ⟨n, rfl⟩ : ∃ z, n = z + 1 := ⟨n - 1, by omega⟩
    obtain ⟨n', rfl⟩ : ∃ z, n' = z + 1 := ⟨n' - 1, by omega⟩
    refine ⟨acc, ?_, ?_⟩
    · rw [fX3_pledgesAheadOf_b15, R.e7, if_pos (lp_out (by omega) (by omega))]
    · rw [fX7_ahead_b4, sD_1, R.e29, if_pos (lp_out (by omega) (by omega))]
  | succ j ih =>
    intro k acc n n' hk hn hn'
    obtain ⟨n, rfl⟩ : ∃ z, n = z + 1 := ⟨n - 1, by omega⟩
    obtain ⟨n', rfl⟩ : ∃ z, n' = z + 1 := ⟨n' - 1, by omega⟩
    have hks : k < S := by omega
    have e := R.se hks
    have hc : ∀ t0 : Int32, fX3_pledgesAheadOf_b63 (nI s) (fX3_pledgesAheadOf_b15 (nI s) n) a (d (56 + 13 * s + 9)) acc (nI k) t0 = if (d (56 + 13 * k + 6)).toInt ≤ 0 ∨ t0 = 0 then fX3_pledgesAheadOf_b15 (nI s) n a (d (56 + 13 * s + 9)) acc (nI (k + 1)) else fX3_pledgesAheadOf_b15 (nI s) n a (d (56 + 13 * s + 9)) (acc + 1) (nI (k + 1)) := by
      intro t0
      unfold fX3_pledgesAheadOf_b63 fX3_pledgesAheadOf_b86
      rw [if_pos (inb_nI (show k < 24 by omega) (by decide)), c_nI (by omega), k_hasP, bd_s, e.2.2.2.2.1]
      simp only [klet, nI_1]
      by_cases h : (d (56 + 13 * k + 6)).toInt ≤ 0
      · rw [if_pos h, if_pos rfl, if_pos (Or.inl h)]
      · rw [if_neg h, if_neg (show ¬ (1 : Int32) = 0 by decide)]
        by_cases h1 : t0 = 0
        · rw [if_pos h1, if_pos (Or.inr h1)]
        · rw [if_neg h1, if_neg (fun z => z.elim h h1)]
    have hm : ∀ t0 : Int32, fX7_ahead_b59 (nI s) (fX7_ahead_b4 (nI s) n') (sD m d) acc (nI k) t0 = if (d (56 + 13 * k + 6)).toInt ≤ 0 ∨ t0 = 0 then fX7_ahead_b4 (nI s) n' (sD m d) acc (nI (k + 1)) else fX7_ahead_b4 (nI s) n' (sD m d) (acc + 1) (nI (k + 1)) := by
      intro t0
      unfold fX7_ahead_b59 fX7_ahead_b81 fX7_ahead_b82
      rw [g_of6 m d (by omega), bd_s]
      simp only [klet, nI_1, Int32.add_zero]
      by_cases h : (d (56 + 13 * k + 6)).toInt ≤ 0
      · rw [if_pos (g_has6.mpr h), if_pos (Or.inl h)]
      · rw [if_neg (fun z => h (g_has6.mp z))]
        by_cases h1 : t0 = 0
        · rw [if_pos h1, if_pos (Or.inr h1)]
        · rw [if_neg h1, if_neg (fun z => z.elim h h1)]
    rw [fX3_pledgesAheadOf_b15, R.e7, if_neg (lp_in hks hS (by decide)), if_pos (inb_nI (show k < 24 by omega) (by decide)), c_nI (by omega), if_pos (inb24 (show k < 24 by omega)), fX7_ahead_b4, sD_1, R.e29, if_neg (lp_in hks hS (by decide)), g_of9 m d (by omega), bd_s, g_of9 m d (by omega), bd_s, g_of9 m d (by omega), bd_s, g_of9 m d (by omega), bd_s]
    unfold fX3_pledgesAheadOf_b58 fX3_pledgesAheadOf_b62 fX7_ahead_b54 fX7_ahead_b58
    rw [hc, hc, hm, hm]
    have i1 := ih (k + 1) acc n n' (by omega) (by omega) (by omega)
    have i2 := ih (k + 1) (acc + 1) n n' (by omega) (by omega) (by omega)
    by_cases h : (d (56 + 13 * k + 6)).toInt ≤ 0
    · rw [if_pos (Or.inl h), if_pos (Or.inl h), if_pos (Or.inl h), if_pos (Or.inl h), ite_self, ite_self, ite_self, ite_self, ite_self, ite_self]
      exact i1
    · have hl : a (20 + k) 14 = d (56 + 13 * k + 9) := (R.sp hks (by omega)).2.2.1
      have z1 : ¬ ((d (56 + 13 * k + 6)).toInt ≤ 0 ∨ (1 : Int32) = 0) := fun z => z.elim h (by decide)
      rw [hl, if_neg z1, if_neg z1, if_pos (Or.inr rfl), if_pos (Or.inr rfl)]
      by_cases h1 : d (56 + 13 * k + 9) < d (56 + 13 * s + 9)
      · rw [if_pos h1, if_pos h1]; exact i2
      · rw [if_neg h1, if_neg h1]
        by_cases h2 : d (56 + 13 * k + 9) = d (56 + 13 * s + 9)
        · rw [if_pos h2, if_pos h2]
          by_cases h3 : nI s ≤ nI k
          · rw [if_pos h3, if_pos h3]; exact i1
          · rw [if_neg h3, if_neg h3]; exact i2
        · rw [if_neg h2, if_neg h2]; exact i1

theorem ahead_eq {a m : kM1} {d : Nat → Int32} {K F S t : Nat} (R : RM a d K F S t) {s : Nat} (hs : s < S) (hps : 0 < (d (56 + 13 * s + 6)).toInt) : ∃ r, fX3_pledgesAheadOf a (nI s) = some (r, a) ∧ fX7_ahead (sD m d) (nI s) = some (r, sD m d) := by
  have hS := R.S24
  have h := p_ahead (m := m) R hs hps S 0 0 kFu kFu (by omega) (by unfold kFu; omega) (by unfold kFu; omega)
  unfold fX3_pledgesAheadOf
  rw [if_pos (inb_nI (show s < 24 by omega) (by decide)), c_nI (by omega), klet, (R.sp hs hps).2.2.1]
  exact h

theorem p_pat {a m : kM1} {d : Nat → Int32} {K F S t : Nat} (R : RM a d K F S t) (u v : Int32) : ∀ (j k : Nat)  (n n' : Nat), k + j = S → j < n → j < n' → (∃ s, s < S ∧ 0 < (d (56 + 13 * s + 6)).toInt ∧ fX3_sackOfPledge_b2 u n a (nI k) = some (nI s, a) ∧ fX7_pledgeAt_b18 u v n' (sD m d) (nI k) = if v = 0 then some (nI s, sD m d) else bd (fX7_of (sD m d) (nI s) (6 + v - 1)) fun r15 m16 => some (r15, m16)) ∨ (fX3_sackOfPledge_b2 u n a (nI k) = some (-1, a) ∧ fX7_pledgeAt_b18 u v n' (sD m d) (nI k) = some (-1000004, sD m d)) := by
  have hS := R.S24
  intro j
  induction j with
  | zero =>
    intro k  n n' hk hn hn'
    obtain ⟨n, rfl⟩ : ∃ z, n = z + 1 := ⟨n - 1, by omega⟩
    obtain ⟨n', rfl⟩ : ∃ z, n' = z + 1 := ⟨n' - 1, by omega⟩
    refine Or.inr ⟨?_, ?_⟩
    · rw [fX3_sackOfPledge_b2, R.e7, if_pos (lp_out (by omega) (by omega))]
    · rw [fX7_pledgeAt_b18, sD_1, R.e29, if_pos (lp_out (by omega) (by omega))]
  | succ j ih =>
    intro k  n n' hk hn hn'
    obtain ⟨n, rfl⟩ : ∃ z, n = z + 1 := ⟨n - 1, by omega⟩
    obtain ⟨n', rfl⟩ : ∃ z, n' = z + 1 := ⟨n' - 1, by omega⟩
    have hks : k < S := by omega
    have e := R.se hks
    rw [fX3_sackOfPledge_b2, R.e7, if_neg (lp_in hks hS (by decide)), if_pos (inb_nI (show k < 24 by omega) (by decide)), c_nI (by omega), k_hasP, bd_s, e.2.2.2.2.1, fX7_pledgeAt_b18, sD_1, R.e29, if_neg (lp_in hks hS (by decide)), g_of6 m d (by omega), bd_s]
    simp only [fX3_sackOfPledge_b33, fX7_pledgeAt_b68, klet, nI_1]
    by_cases h : (d (56 + 13 * k + 6)).toInt ≤ 0
    · rw [if_pos h, if_pos rfl, if_pos (g_has6.mpr h)]
      exact ih (k + 1) n n' (by omega) (by omega) (by omega)
    · rw [if_neg h, if_neg (show ¬ (1 : Int32) = 0 by decide), if_neg (fun z => h (g_has6.mp z))]
      obtain ⟨r, h1, h2⟩ := ahead_eq (m := m) R hks (by omega)
      rw [h1, bd_s, h2, bd_s]
      by_cases h3 : r = u
      · rw [if_pos h3, if_pos h3]
        exact Or.inl ⟨k, hks, by omega, rfl, rfl⟩
      · rw [if_neg h3, if_neg h3]
        exact ih (k + 1) n n' (by omega) (by omega) (by omega)

theorem RM.per {a : kM1} {d : Nat → Int32} {K F S t : Nat} (R : RM a d K F S t) : a 1 4 = d 4 ∧ 4 ≤ (d 4).toInt ∧ (d 4).toInt ≤ 100 := R.a.1 4 (by decide)
theorem RM.area {a : kM1} {d : Nat → Int32} {K F S t : Nat} (R : RM a d K F S t) : a 1 0 = d 0 ∧ 10 ≤ (d 0).toInt ∧ (d 0).toInt ≤ 1000 := R.a.1 0 (by decide)
/-- how the sea stands -/
def seaV (d : Nat → Int32) (v : Int32) : Int32 := d 1 + (if v - v / d 4 * d 4 ≤ d 4 / 2 then (d 2 + d 3 * (if 0 ≤ v / d 4 - v / d 4 / 14 * 14 - 7 then v / d 4 - v / d 4 / 14 * 14 - 7 else 0 - (v / d 4 - v / d 4 / 14 * 14 - 7)) / 7) * (v - v / d 4 * d 4) / (d 4 / 2) else (d 2 + d 3 * (if 0 ≤ v / d 4 - v / d 4 / 14 * 14 - 7 then v / d 4 - v / d 4 / 14 * 14 - 7 else 0 - (v / d 4 - v / d 4 / 14 * 14 - 7)) / 7) * (d 4 - (v - v / d 4 * d 4)) / (d 4 - d 4 / 2))
theorem per_half {p : Int32} (h1 : 4 ≤ p.toInt) (h2 : p.toInt ≤ 100) : (p / 2).toInt = p.toInt / 2 ∧ 0 < (p / 2).toInt ∧ 0 < (p - p / 2).toInt ∧ (p - p / 2).toInt = p.toInt - p.toInt / 2 := by
  have e : (p / 2).toInt = p.toInt / 2 := by rw [i_div (by omega) (by decide)]; rfl
  have e2 : (p - p / 2).toInt = p.toInt - p.toInt / 2 := by rw [i_sub, e] <;> rw [e] <;> omega
  refine ⟨e, by rw [e]; omega, by rw [e2]; omega, e2⟩
theorem k_sea {a : kM1} {d : Nat → Int32} {K F S t : Nat} (R : RM a d K F S t) (v : Int32) : fX3_seaAt a v = some (seaV d v, a) := by
  obtain ⟨e4, h1, h2⟩ := R.per
  obtain ⟨p1, p2, p3, -⟩ := per_half h1 h2
  have e1 : a 1 1 = d 1 := (R.a.1 1 (by decide)).1
  have e2 : a 1 2 = d 2 := (R.a.1 2 (by decide)).1
  have e3 : a 1 3 = d 3 := (R.a.1 3 (by decide)).1
  unfold fX3_seaAt fX3_seaAt_b88 seaV
  simp only [klet]
  rw [e4, k_quot a v (d 4) (by omega), bd_s, e2, e3]
  by_cases h : v - v / d 4 * d 4 ≤ d 4 / 2
  · rw [if_neg (fun z => by rw [i_le] at h; rw [i_lt] at z; omega), k_quot a _ _ p2, bd_s, if_pos h, e1]
  · rw [if_pos (by rw [i_le] at h; rw [i_lt]; omega), k_quot a _ _ p3, bd_s, if_neg h, e1]
theorem g_sea {a m : kM1} {d : Nat → Int32} {K F S t : Nat} (R : RM a d K F S t) (v : Int32) : fX7_sea (sD m d) v = some (seaV d v, sD m d) := by
  obtain ⟨e4, h1, h2⟩ := R.per
  obtain ⟨p1, p2, p3, -⟩ := per_half h1 h2
  have n4 : ¬ d 4 = 0 := fun z => by rw [z, t_lit0] at h1; omega
  have n5 : ¬ d 4 / 2 = 0 := fun z => by rw [z, t_lit0] at p2; omega
  have n6 : ¬ d 4 - d 4 / 2 = 0 := fun z => by rw [z, t_lit0] at p3; omega
  have key : ∀ y : Int32, fX7_sea_b62 v (sD m d) (v - v / d 4 * d 4) (d 4 / 2) y (d 3) (d 2) = some (d 1 + (if v - v / d 4 * d 4 ≤ d 4 / 2 then (d 2 + d 3 * y / 7) * (v - v / d 4 * d 4) / (d 4 / 2) else (d 2 + d 3 * y / 7) * (d 4 - (v - v / d 4 * d 4)) / (d 4 - d 4 / 2)), sD m d) := by
    intro y
    unfold fX7_sea_b62 fX7_sea_b112
    rw [klet, sD_1]
    by_cases h : v - v / d 4 * d 4 ≤ d 4 / 2
    · rw [if_neg (fun z => by rw [i_le] at h; rw [i_lt] at z; omega), if_pos n5, if_pos h]
    · rw [if_pos (by rw [i_le] at h; rw [i_lt]; omega), if_pos n6, if_neg h]
  unfold fX7_sea seaV
  simp only [klet]
  rw [sD_1, if_pos n4, if_pos n4]
  by_cases h : 0 ≤ v / d 4 - v / d 4 / 14 * 14 - 7
  · rw [if_pos h, if_pos h]; exact key _
  · rw [if_neg h, if_neg h, key, Int32.zero_sub]
theorem k_level {a : kM1} {d : Nat → Int32} {K F S t : Nat} (R : RM a d K F S t) : fX3_level a = some (d 19 / d 0, a) := by
  obtain ⟨e0, h1, h2⟩ := R.area
  unfold fX3_level
  rw [e0, k_quot a _ (d 0) (by omega), bd_s, R.n.2.2.2.2.1]
theorem g_head {a m : kM1} {d : Nat → Int32} {K F S t : Nat} (R : RM a d K F S t) : fX7_head (sD m d) = some (d 19 / d 0 - seaV d (d 26), sD m d) := by
  obtain ⟨e0, h1, h2⟩ := R.area
  unfold fX7_head
  rw [sD_1, if_pos (fun z => by rw [z, t_lit0] at h1; omega), g_sea R, bd_s]
