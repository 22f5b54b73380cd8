/-! loans, debts, pledges -/
theorem l_bm {z : Int} (h1 : -9223372036854775808 ≤ z) (h2 : z < 9223372036854775808) : z.bmod (2 ^ 64) = z := by
  apply Int.bmod_eq_of_le <;> omega
theorem l_mul {x y : Int64} (h1 : -9223372036854775808 ≤ x.toInt * y.toInt) (h2 : x.toInt * y.toInt < 9223372036854775808) : (x * y).toInt = x.toInt * y.toInt := by rw [Int64.toInt_mul, l_bm h1 h2]
theorem l_add {x y : Int64} (h1 : -9223372036854775808 ≤ x.toInt + y.toInt) (h2 : x.toInt + y.toInt < 9223372036854775808) : (x + y).toInt = x.toInt + y.toInt := by rw [Int64.toInt_add, l_bm h1 h2]
theorem l_i (x : Int32) : x.toInt64.toInt = x.toInt := Int32.toInt_toInt64 x
theorem l_div {x : Int64} {y : Int64} (hx : 0 ≤ x.toInt) (hx2 : x.toInt < 9223372036854775808) (hy : 0 < y.toInt) : (x / y).toInt = x.toInt / y.toInt := by
  have h2 : 0 ≤ x.toInt / y.toInt := Int.ediv_nonneg hx (Int.le_of_lt hy)
  have h3 : x.toInt / y.toInt ≤ x.toInt := Int.ediv_le_self _ hx
  rw [Int64.toInt_div, Int.tdiv_eq_ediv_of_nonneg hx, l_bm (by omega) (by omega)]
theorem l_32 {x : Int64} (h1 : -2147483648 ≤ x.toInt) (h2 : x.toInt < 2147483648) : x.toInt32.toInt = x.toInt := by rw [Int64.toInt_toInt32, i_bm h1 h2]
theorem lc_gt (x y : Int64) : 0 < lg_cmp x y ↔ y.toInt < x.toInt := by
  unfold lg_cmp
  by_cases h : y < x
  · rw [if_pos h]; exact ⟨fun _ => Int64.lt_iff_toInt_lt.mp h, fun _ => by decide⟩
  · rw [if_neg h]
    have h' : ¬ y.toInt < x.toInt := fun z => h (Int64.lt_iff_toInt_lt.mpr z)
    by_cases h2 : x = y
    · rw [if_pos h2]; exact ⟨fun z => absurd z (by decide), fun z => absurd z h'⟩
    · rw [if_neg h2]; exact ⟨fun z => absurd z (by decide), fun z => absurd z h'⟩
theorem lc_le (x y : Int64) : lg_cmp x y ≤ 0 ↔ x.toInt ≤ y.toInt := by
  have h := lc_gt x y
  rw [i_lt, t_lit0] at h
  rw [i_le, t_lit0]
  omega
theorem t_max : (2147483647 : Int64).toInt = 2147483647 := by decide
theorem t_imax : (2147483647 : Int32).toInt = 2147483647 := by decide
section MO
variable {a : kM1} {K F S t : Nat}
theorem k_loan (R : IM a K F S t (dt t)) {s : Nat} (hs : s < S) {v : Int32} (hv : 1 ≤ v.toInt ∧ v.toInt ≤ 200) : ∃ r, fX3_loanFor a (20 + s) v = some (r, a) ∧ (r = -1 ∨ 0 ≤ r.toInt) := by
  obtain ⟨p1, p2⟩ := (R.sr hs).2.2.1
  have sh : 1 ≤ (a 1 11).toInt ∧ (a 1 11).toInt ≤ 100 := R.a.1 11 (by decide)
  have m0 : 0 ≤ v.toInt * (a (20 + s) 4).toInt := Int.mul_nonneg (by omega) (by omega)
  have m1 : v.toInt * (a (20 + s) 4).toInt ≤ 200 * 1000000 := Int.mul_le_mul hv.2 p2 (by omega) (by decide)
  have m2 : 0 ≤ v.toInt * (a (20 + s) 4).toInt * (a 1 11).toInt := Int.mul_nonneg m0 (by omega)
  have m3 : v.toInt * (a (20 + s) 4).toInt * (a 1 11).toInt ≤ 200 * 1000000 * 100 := Int.mul_le_mul m1 sh.2 (by omega) (by decide)
  have e1 : (v.toInt64 * (a (20 + s) 4).toInt64).toInt = v.toInt * (a (20 + s) 4).toInt := by rw [l_mul, l_i, l_i] <;> rw [l_i, l_i] <;> omega
  have e2 : (v.toInt64 * (a (20 + s) 4).toInt64 * (a 1 11).toInt64).toInt = v.toInt * (a (20 + s) 4).toInt * (a 1 11).toInt := by rw [l_mul, e1, l_i] <;> rw [e1, l_i] <;> omega
  unfold fX3_loanFor
  simp only [klet]
  by_cases c1 : 0 < lg_cmp (v.toInt64 * (a (20 + s) 4).toInt64) 2147483647
  · rw [if_pos c1]
    exact ⟨-1, rfl, Or.inl rfl⟩
  · rw [if_neg c1]
    by_cases c2 : lg_cmp (v.toInt64 * (a (20 + s) 4).toInt64 * (a 1 11).toInt64) 2147483647 ≤ 0
    · rw [if_pos c2]
      rw [lc_le, e2, t_max] at c2
      have e3 : (v.toInt64 * (a (20 + s) 4).toInt64 * (a 1 11).toInt64 / 100).toInt = v.toInt * (a (20 + s) 4).toInt * (a 1 11).toInt / 100 := by
        rw [l_div (by rw [e2]; exact m2) (by rw [e2]; omega) (by decide), e2]; rfl
      refine ⟨_, rfl, Or.inr ?_⟩
      rw [l_32 (by rw [e3]; omega) (by rw [e3]; omega), e3]
      exact Int.ediv_nonneg m2 (by decide)
    · rw [if_neg c2]
      exact ⟨-1, rfl, Or.inl rfl⟩
theorem k_debt (R : IM a K F S t (dt t)) {s : Nat} (hs : s < S) (hp : 0 < (a (20 + s) 11).toInt) : ∃ r, fX3_debtOf a (20 + s) = some (r, a) ∧ (a (20 + s) 12).toInt ≤ r.toInt ∧ 0 ≤ r.toInt := by
  have hS := R.S24
  have ht := R.l.2.2.2
  obtain ⟨p4, p5, p6, -⟩ := R.sd hs hp
  have ii : 0 ≤ (a 1 9).toInt ∧ (a 1 9).toInt ≤ 100 := R.a.1 9 (by decide)
  have L2 := i_max (a (20 + s) 12)
  have et : (nI (t / 96)).toInt = (t : Int) / 96 := by rw [t_nI (by omega)]; rfl
  have eD : (nI (t / 96) - a (20 + s) 13).toInt = (t : Int) / 96 - (a (20 + s) 13).toInt := by rw [i_sub (by omega) (by omega), et]
  have D0 : 0 ≤ (t : Int) / 96 - (a (20 + s) 13).toInt := by omega
  have D1 : (t : Int) / 96 - (a (20 + s) 13).toInt ≤ 2000 := by omega
  unfold fX3_debtOf
  rw [k_today R]
  simp only [klet, bd_s]
  generalize hL : (a (20 + s) 12).toInt = L at *
  generalize hI : (a 1 9).toInt = I at *
  generalize hDD : (t : Int) / 96 - (a (20 + s) 13).toInt = DD at *
  have m0 : 0 ≤ L * I := Int.mul_nonneg p4 ii.1
  have m1 : L * I ≤ 2147483648 * 100 := Int.mul_le_mul (by omega) ii.2 ii.1 (by decide)
  have m2 : 0 ≤ L * I * DD := Int.mul_nonneg m0 D0
  have m3 : L * I * DD ≤ 2147483648 * 100 * 2000 := Int.mul_le_mul m1 D1 D0 (by decide)
  have q0 : 0 ≤ L * I * DD / 1000 := Int.ediv_nonneg m2 (by decide)
  have e1 : ((a (20 + s) 12).toInt64 * (a 1 9).toInt64).toInt = L * I := by rw [l_mul, l_i, l_i, hL, hI] <;> rw [l_i, l_i, hL, hI] <;> omega
  have e2 : ((a (20 + s) 12).toInt64 * (a 1 9).toInt64 * (nI (t / 96) - a (20 + s) 13).toInt64).toInt = L * I * DD := by rw [l_mul, e1, l_i, eD] <;> rw [e1, l_i, eD] <;> omega
  by_cases h1 : 0 < lg_cmp ((a (20 + s) 12).toInt64 * (a 1 9).toInt64) 2147483647
  · rw [if_pos h1]
    exact ⟨_, rfl, by rw [t_imax]; omega, by decide⟩
  · rw [if_neg h1]
    by_cases h2 : lg_cmp ((a (20 + s) 12).toInt64 * (a 1 9).toInt64 * (nI (t / 96) - a (20 + s) 13).toInt64) 2147483647 ≤ 0
    · rw [if_pos h2]
      rw [lc_le, e2, t_max] at h2
      have e3 : ((a (20 + s) 12).toInt64 * (a 1 9).toInt64 * (nI (t / 96) - a (20 + s) 13).toInt64 / 1000).toInt = L * I * DD / 1000 := by
        rw [l_div (by rw [e2]; exact m2) (by rw [e2]; omega) (by decide), e2]; rfl
      have q1 : L * I * DD / 1000 ≤ 2147483647 := by omega
      have e4 : ((a (20 + s) 12).toInt64 + (a (20 + s) 12).toInt64 * (a 1 9).toInt64 * (nI (t / 96) - a (20 + s) 13).toInt64 / 1000).toInt = L + L * I * DD / 1000 := by
        rw [l_add, e3, l_i, hL] <;> rw [e3, l_i, hL] <;> omega
      by_cases h3 : lg_cmp ((a (20 + s) 12).toInt64 + (a (20 + s) 12).toInt64 * (a 1 9).toInt64 * (nI (t / 96) - a (20 + s) 13).toInt64 / 1000) 2147483647 ≤ 0
      · rw [if_pos h3]
        rw [lc_le, e4, t_max] at h3
        refine ⟨_, rfl, ?_, ?_⟩
        · rw [l_32 (by rw [e4]; omega) (by rw [e4]; omega), e4]; omega
        · rw [l_32 (by rw [e4]; omega) (by rw [e4]; omega), e4]; omega
      · rw [if_neg h3]
        exact ⟨_, rfl, by rw [t_imax]; omega, by decide⟩
    · rw [if_neg h2]
      exact ⟨_, rfl, by rw [t_imax]; omega, by decide⟩
theorem fl_toInt {r : Nat → Int32} {K F : Nat} {d0 d1 : Int} (h : SV r K F d0 d1) (c : ¬ r 6 = 3) : (fl r).toInt = (r 7).toInt - (r 9).toInt - (r 10).toInt - (r 11).toInt - (r 15).toInt := by
  obtain ⟨so, sr, ⟨⟨x1, x2, x3, x4, x5, x6, x7, x8⟩, sp2⟩, sd⟩ := h
  have r5 := sr.2.2.2.1
  unfold fl
  rw [if_neg c]
  have e1 : (r 7 - r 9).toInt = (r 7).toInt - (r 9).toInt := i_sub (by omega) (by omega)
  have e2 : (r 7 - r 9 - r 10).toInt = (r 7 - r 9).toInt - (r 10).toInt := i_sub (by omega) (by omega)
  have e3 : (r 7 - r 9 - r 10 - r 11).toInt = (r 7 - r 9 - r 10).toInt - (r 11).toInt := i_sub (by omega) (by omega)
  rw [i_sub (by omega) (by omega)]
  omega
theorem k_pledge (R : IM a K F S t (dt t)) {s f : Nat} (hs : s < S) (hf : f < F) (e0 : a (20 + s) 0 = nI f) {v : Int32} (hv : 1 ≤ v.toInt ∧ v.toInt ≤ 200) : fX3_putInPledge a (nI s) v = some (-1000002, a) ∨ ∃ r a', fX3_putInPledge a (nI s) v = some (r, a') ∧ 0 ≤ r.toInt ∧ IM a' K F S t (dt t) ∧ a (20 + s) 11 = 0 ∧ a' (12 + f) 0 = a (12 + f) 0 + r ∧ a' (20 + s) 0 = nI f ∧ fl (a' (20 + s)) = fl (a (20 + s)) - v ∧ a' (20 + s) 11 = v := by
  have hS := R.S24
  have hF := R.F8
  have ht := R.l.2.2.2
  have hSV := R.s s hs
  obtain ⟨so, sr, ⟨⟨x1, x2, x3, x4, x5, x6, x7, x8⟩, sp2⟩, sd⟩ := R.s s hs
  have dy : 1 ≤ (a 1 10).toInt ∧ (a 1 10).toInt ≤ 60 := R.a.1 10 (by decide)
  have pu := (R.f f hf).1
  have pm := i_max (a (12 + f) 0)
  unfold fX3_putInPledge
  rw [y_hasS R hs, bd_s, if_neg n10, k_inY a (v := v) (a := 1) (b := 200) hv, bd_s, if_neg n10, if_pos (inb_nI (show s < 24 by omega) (by decide)), c_nI (by omega)]
  by_cases c : a (20 + s) 6 = 2
  · rw [if_pos c, k_hasP, bd_s]
    by_cases c2 : 0 < (a (20 + s) 11).toInt
    · rw [if_pos c2, if_neg n10]
      exact Or.inl rfl
    · rw [if_neg c2, if_pos rfl, k_flour, bd_s]
      have i6 : (a (20 + s) 6).toInt = 2 := by rw [c]; rfl
      have i11 : (a (20 + s) 11).toInt = 0 := by omega
      have efl := fl_toInt hSV (by rw [c]; decide)
      by_cases c3 : fl (a (20 + s)) < v
      · rw [if_pos c3]
        exact Or.inl rfl
      · rw [if_neg c3, e0, y_hasF R hf, bd_s, if_neg n10, e0, if_pos (inb_nI (show f < 8 by omega) (by decide)), c_nI (by omega)]
        rw [i_lt] at c3
        obtain ⟨r, h1, h2⟩ := k_loan R hs hv
        rw [h1, bd_s]
        by_cases c4 : r = -1
        · rw [if_pos c4]
          exact Or.inl rfl
        · rw [if_neg c4]
          have hr : 0 ≤ r.toInt := h2.resolve_left c4
          have rm := i_max r
          by_cases c5 : lg_cmp ((a (12 + f) 0).toInt64 + r.toInt64) 2147483647 ≤ 0
          · rw [if_pos c5]
            have e5 : ((a (12 + f) 0).toInt64 + r.toInt64).toInt = (a (12 + f) 0).toInt + r.toInt := by rw [l_add, l_i, l_i] <;> rw [l_i, l_i] <;> omega
            rw [lc_le, e5, t_max] at c5
            have ep : (a (12 + f) 0 + r).toInt = (a (12 + f) 0).toInt + r.toInt := i_add (by omega) (by omega)
            have R1 := R.pu (f := f) (v := a (12 + f) 0 + r) hf (by omega)
            simp only [klet]
            have td : fX3_today (mu (mu (mu a (12 + f) 0 (a (12 + f) 0 + r)) (20 + s) 11 v) (20 + s) 12 r) = some (nI (t / 96), mu (mu (mu a (12 + f) 0 (a (12 + f) 0 + r)) (20 + s) 11 v) (20 + s) 12 r) := by
              unfold fX3_today
              rw [mu_ne (show 0 ≠ 20 + s by omega), mu_ne (show 0 ≠ 20 + s by omega), mu_ne (show 0 ≠ 12 + f by omega), R.e8, show (96 : Int32) = nI 96 from rfl, d_nI (by omega) (by decide) (by decide)]
            rw [td, bd_s]
            have td2 : fX3_today (mu (mu (mu (mu a (12 + f) 0 (a (12 + f) 0 + r)) (20 + s) 11 v) (20 + s) 12 r) (20 + s) 13 (nI (t / 96))) = some (nI (t / 96), mu (mu (mu (mu a (12 + f) 0 (a (12 + f) 0 + r)) (20 + s) 11 v) (20 + s) 12 r) (20 + s) 13 (nI (t / 96))) := by
              unfold fX3_today
              rw [mu_ne (show 0 ≠ 20 + s by omega), mu_ne (show 0 ≠ 20 + s by omega), mu_ne (show 0 ≠ 20 + s by omega), mu_ne (show 0 ≠ 12 + f by omega), R.e8, show (96 : Int32) = nI 96 from rfl, d_nI (by omega) (by decide) (by decide)]
            rw [td2, bd_s]
            have eday : mu (mu (mu (mu a (12 + f) 0 (a (12 + f) 0 + r)) (20 + s) 11 v) (20 + s) 12 r) (20 + s) 13 (nI (t / 96)) 1 10 = a 1 10 := by
              rw [mu_ne (show 1 ≠ 20 + s by omega), mu_ne (show 1 ≠ 20 + s by omega), mu_ne (show 1 ≠ 20 + s by omega), mu_ne (show 1 ≠ 12 + f by omega)]
            rw [eday]
            have et : (nI (t / 96)).toInt = (t : Int) / 96 := by rw [t_nI (by omega)]; rfl
            have el : (nI (t / 96) + a 1 10).toInt = (t : Int) / 96 + (a 1 10).toInt := by rw [i_add (by omega) (by omega), et]
            right
            refine ⟨r, _, rfl, hr, R1.sk hs (fun j hj => by rw [mu_ne hj, mu_ne hj, mu_ne hj, mu_ne hj]) ?_ ?_ ?_ (fun _ _ => rfl) ?_, ?_, ?_, ?_, ?_, ?_⟩
            · simp only [mu_eq]; rfl
            · simp only [mu_eq]; exact Iff.rfl
            · simp only [mu_eq]; exact fun z => z
            · simp only [mu_eq, mu_ne (show 20 + s ≠ 12 + f by omega)]
              refine ⟨so, sr, ⟨?_, Or.inr (Or.inr (Or.inl ⟨i6, ?_, ?_⟩))⟩, fun _ => ⟨hr, ?_, ?_, ?_⟩⟩
              · show 0 ≤ (a (20 + s) 7).toInt ∧ (a (20 + s) 7).toInt ≤ (a (20 + s) 5).toInt ∧ 0 ≤ (a (20 + s) 9).toInt ∧ 0 ≤ (a (20 + s) 10).toInt ∧ 0 ≤ v.toInt ∧ 0 ≤ (a (20 + s) 15).toInt ∧ 0 ≤ (a (20 + s) 16).toInt ∧ (a (20 + s) 9).toInt + (a (20 + s) 10).toInt + v.toInt + (a (20 + s) 15).toInt ≤ (a (20 + s) 7).toInt
                omega
              · show (a (20 + s) 7).toInt = (a (20 + s) 5).toInt; omega
              · show (a (20 + s) 16).toInt = 0; omega
              · show 0 ≤ (nI (t / 96)).toInt; omega
              · show (nI (t / 96)).toInt ≤ (t : Int) / 96; omega
              · show (t : Int) / 96 ≤ (nI (t / 96) + a 1 10).toInt; omega
            · rw [i_eq, t_lit0]; exact i11
            · simp only [mu_ne (show 12 + f ≠ 20 + s by omega), mu_eq, upd_eq]
            · simp only [mu_eq, mu_ne (show 20 + s ≠ 12 + f by omega)]; exact e0
            · simp only [mu_eq, mu_ne (show 20 + s ≠ 12 + f by omega)]
              show (if a (20 + s) 6 = 3 then 0 else a (20 + s) 7 - a (20 + s) 9 - a (20 + s) 10 - v - a (20 + s) 15) = _
              unfold fl
              have z0 : a (20 + s) 11 = 0 := by rw [i_eq, t_lit0]; exact i11
              rw [c, if_neg (by decide), if_neg (by decide), z0, Int32.sub_zero, Int32.sub_eq_add_neg _ v, Int32.sub_eq_add_neg _ (a (20 + s) 15), Int32.sub_eq_add_neg _ (a (20 + s) 15), Int32.sub_eq_add_neg _ v, Int32.add_assoc, Int32.add_assoc, Int32.add_comm (-v)]
            · simp only [mu_eq]; rfl
          · rw [if_neg c5]
            exact Or.inl rfl
  · rw [if_neg c]
    exact Or.inl rfl
theorem k_redeem (R : IM a K F S t (dt t)) {s f : Nat} (hs : s < S) (hf : f < F) (e0 : a (20 + s) 0 = nI f) : (¬ 0 < (a (20 + s) 11).toInt ∧ fX3_redeemPledge a (nI s) = some (-1000002, a)) ∨ (0 < (a (20 + s) 11).toInt ∧ ∃ d, fX3_debtOf a (20 + s) = some (d, a) ∧ 0 ≤ d.toInt ∧ (((d = 2147483647 ∨ a (12 + f) 0 < d) ∧ fX3_redeemPledge a (nI s) = some (-1000002, a)) ∨ ∃ a', fX3_redeemPledge a (nI s) = some (a (12 + f) 0 - d, a') ∧ 0 ≤ (a (12 + f) 0 - d).toInt ∧ IM a' K F S t (dt t) ∧ fl (a' (20 + s)) = fl (a (20 + s)) + a (20 + s) 11 ∧ a' (20 + s) 11 = 0)) := by
  have hS := R.S24
  have hF := R.F8
  have ht := R.l.2.2.2
  have hSV := R.s s hs
  obtain ⟨so, sr, ⟨⟨x1, x2, x3, x4, x5, x6, x7, x8⟩, sp2⟩, sd⟩ := R.s s hs
  have pu := (R.f f hf).1
  unfold fX3_redeemPledge
  rw [y_hasS R hs, bd_s, if_neg n10, if_pos (inb_nI (show s < 24 by omega) (by decide)), c_nI (by omega), k_hasP, bd_s]
  by_cases c2 : 0 < (a (20 + s) 11).toInt
  · right
    refine ⟨c2, ?_⟩
    obtain ⟨d, h1, h2, h3⟩ := k_debt R hs c2
    refine ⟨d, h1, h3, ?_⟩
    rw [if_pos c2, if_neg n10, e0, y_hasF R hf, bd_s, if_neg n10, e0, if_pos (inb_nI (show f < 8 by omega) (by decide)), c_nI (by omega), h1, bd_s]
    by_cases c3 : d = 2147483647
    · rw [if_pos c3]
      exact Or.inl ⟨Or.inl c3, rfl⟩
    · rw [if_neg c3]
      by_cases c4 : d ≤ a (12 + f) 0
      · rw [if_pos c4]
        rw [i_le] at c4
        right
        have ep : (a (12 + f) 0 - d).toInt = (a (12 + f) 0).toInt - d.toInt := by
          have := i_max (a (12 + f) 0)
          exact i_sub (by omega) (by omega)
        have R1 := R.pu (f := f) (v := a (12 + f) 0 - d) hf (by omega)
        unfold fX5_endPledge
        simp only [klet, bd_s]
        refine ⟨_, ?_, by omega, R1.sk hs (a' := mu (mu (mu (mu (mu a (12 + f) 0 (a (12 + f) 0 - d)) (20 + s) 11 0) (20 + s) 12 0) (20 + s) 13 0) (20 + s) 14 0) (fun j hj => by rw [mu_ne hj, mu_ne hj, mu_ne hj, mu_ne hj]) ?_ ?_ ?_ (fun _ _ => rfl) ?_, ?_, ?_⟩
        · simp only [mu_ne (show 12 + f ≠ 20 + s by omega), mu_eq, upd_eq]
        · simp only [mu_eq]; rfl
        · simp only [mu_eq]; exact Iff.rfl
        · simp only [mu_eq]; exact fun z => z
        · simp only [mu_eq, mu_ne (show 20 + s ≠ 12 + f by omega)]
          refine ⟨so, sr, ⟨?_, Or.inr (Or.inr (Or.inl ⟨?_, ?_, ?_⟩))⟩, fun z => absurd z (by show ¬ 0 < (0 : Int32).toInt; decide)⟩
          · show 0 ≤ (a (20 + s) 7).toInt ∧ (a (20 + s) 7).toInt ≤ (a (20 + s) 5).toInt ∧ 0 ≤ (a (20 + s) 9).toInt ∧ 0 ≤ (a (20 + s) 10).toInt ∧ 0 ≤ (0 : Int32).toInt ∧ 0 ≤ (a (20 + s) 15).toInt ∧ 0 ≤ (a (20 + s) 16).toInt ∧ (a (20 + s) 9).toInt + (a (20 + s) 10).toInt + (0 : Int32).toInt + (a (20 + s) 15).toInt ≤ (a (20 + s) 7).toInt
            rw [t_lit0]
            omega
          · show (a (20 + s) 6).toInt = 2; omega
          · show (a (20 + s) 7).toInt = (a (20 + s) 5).toInt; omega
          · show (a (20 + s) 16).toInt = 0; omega
        · simp only [mu_eq, mu_ne (show 20 + s ≠ 12 + f by omega)]
          show (if a (20 + s) 6 = 3 then 0 else a (20 + s) 7 - a (20 + s) 9 - a (20 + s) 10 - 0 - a (20 + s) 15) = _
          unfold fl
          have n3 : ¬ a (20 + s) 6 = 3 := fun z => by have : (a (20 + s) 6).toInt = 3 := by rw [z]; rfl
                                                      omega
          rw [if_neg n3, if_neg n3, Int32.sub_zero, Int32.sub_eq_add_neg _ (a (20 + s) 15), Int32.sub_eq_add_neg _ (a (20 + s) 15), Int32.add_assoc _ (-a (20 + s) 15) (a (20 + s) 11), Int32.add_comm (-a (20 + s) 15) (a (20 + s) 11), ← Int32.add_assoc, Int32.sub_add_cancel]
        · simp only [mu_eq]; rfl
      · rw [if_neg c4]
        refine Or.inl ⟨Or.inr ?_, rfl⟩
        rw [i_le] at c4
        rw [i_lt]
        omega
  · left
    exact ⟨c2, by rw [if_neg c2, if_pos rfl]⟩
end MO
