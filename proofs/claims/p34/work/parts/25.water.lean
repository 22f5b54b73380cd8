/-! the sea, the pond, the sluices -/
def tideV (a : kM1) (v : Int32) : Int32 := a 1 2 + a 1 3 * (if 0 ≤ irm (v / a 1 4) 14 - 7 then irm (v / a 1 4) 14 - 7 else 0 - (irm (v / a 1 4) 14 - 7)) / 7
/-- how the sea stands -/
def seaV (a : kM1) (v : Int32) : Int32 := a 1 1 + (if a 1 4 / 2 < v - v / a 1 4 * a 1 4 then tideV a v * (a 1 4 - (v - v / a 1 4 * a 1 4)) / (a 1 4 - a 1 4 / 2) else tideV a v * (v - v / a 1 4 * a 1 4) / (a 1 4 / 2))
theorem per_half {p : Int32} (h1 : 4 ≤ p.toInt) (h2 : p.toInt ≤ 100) : (p / 2).toInt = p.toInt / 2 ∧ 0 < (p / 2).toInt ∧ 0 < (p - p / 2).toInt ∧ (p - p / 2).toInt = p.toInt - p.toInt / 2 := by
  have e : (p / 2).toInt = p.toInt / 2 := by rw [i_div (by omega) (by decide)]; rfl
  have e2 : (p - p / 2).toInt = p.toInt - p.toInt / 2 := by rw [i_sub, e] <;> rw [e] <;> omega
  refine ⟨e, by rw [e]; omega, by rw [e2]; omega, e2⟩
theorem k_sea {a : kM1} {K F S t : Nat} {D : Nat → Int} (R : IM a K F S t D) (v : Int32) : fX3_seaAt a v = some (seaV a v, a) := by
  obtain ⟨h1, h2⟩ := R.per
  obtain ⟨p1, p2, p3, -⟩ := per_half h1 h2
  unfold fX3_seaAt fX3_seaAt_b88 seaV tideV
  simp only [klet]
  rw [k_quot a v _ (by omega), bd_s, k_quot a _ _ p3, bd_s, k_quot a _ _ p2, bd_s]
  by_cases h : a 1 4 / 2 < v - v / a 1 4 * a 1 4
  · rw [if_pos h, if_pos h]
  · rw [if_neg h, if_neg h]
theorem mul_div_le {r p h : Int} (hr : 0 ≤ r) (_hp : 0 ≤ p) (hph : p ≤ h) (hh : 0 < h) : r * p / h ≤ r := by
  have h1 : r * p ≤ r * h := Int.mul_le_mul_of_nonneg_left hph hr
  have h2 : r * p / h ≤ r * h / h := Int.ediv_le_ediv hh h1
  rw [Int.mul_ediv_cancel _ (Int.ne_of_gt hh)] at h2
  exact h2
theorem mul_div_ge {r p h : Int} (hr : 0 ≤ r) (hp : 0 ≤ p) (hh : 0 < h) : 0 ≤ r * p / h := Int.ediv_nonneg (Int.mul_nonneg hr hp) (Int.le_of_lt hh)
theorem sea_rng {a : kM1} {K F S t : Nat} {D : Nat → Int} (R : IM a K F S t D) {v : Nat} (hv : v < 1000000) : 0 ≤ (seaV a (nI v)).toInt ∧ (seaV a (nI v)).toInt ≤ 500 := by
  obtain ⟨h1, h2⟩ := R.per
  obtain ⟨p1, p2, p3, p4⟩ := per_half h1 h2
  have l0 : 0 ≤ (a 1 1).toInt ∧ (a 1 1).toInt ≤ 100 := R.a.1 1 (by decide)
  have r0 : 0 ≤ (a 1 2).toInt ∧ (a 1 2).toInt ≤ 300 := R.a.1 2 (by decide)
  have s0 : 0 ≤ (a 1 3).toInt ∧ (a 1 3).toInt ≤ 100 := R.a.1 3 (by decide)
  have ev := t_nI (n := v) (by omega)
  have q1 : (nI v / a 1 4).toInt = (v : Int) / (a 1 4).toInt := by rw [i_div (by omega) (by omega), ev]
  have q0 : 0 ≤ (v : Int) / (a 1 4).toInt := Int.ediv_nonneg (by omega) (by omega)
  have q2 : (v : Int) / (a 1 4).toInt * (a 1 4).toInt ≤ v := Int.ediv_mul_le _ (by omega)
  have q3 : (v : Int) < ((v : Int) / (a 1 4).toInt + 1) * (a 1 4).toInt := Int.lt_ediv_add_one_mul_self _ (by omega)
  have q4 : 0 ≤ (v : Int) / (a 1 4).toInt * (a 1 4).toInt := Int.mul_nonneg q0 (by omega)
  rw [Int.add_mul, Int.one_mul] at q3
  have q5 : (nI v / a 1 4 * a 1 4).toInt = (v : Int) / (a 1 4).toInt * (a 1 4).toInt := by rw [i_mul, q1] <;> rw [q1] <;> omega
  have q6 : (nI v - nI v / a 1 4 * a 1 4).toInt = (v : Int) - (v : Int) / (a 1 4).toInt * (a 1 4).toInt := by rw [i_sub, q5, ev] <;> rw [q5, ev] <;> omega
  have ph : 0 ≤ (nI v - nI v / a 1 4 * a 1 4).toInt ∧ (nI v - nI v / a 1 4 * a 1 4).toInt < (a 1 4).toInt := by rw [q6]; omega
  have m1 : (irm (nI v / a 1 4) 14).toInt = (v : Int) / (a 1 4).toInt % 14 := by rw [i_rem (by rw [q1]; exact q0) (by decide), q1]; rfl
  have m2 : (irm (nI v / a 1 4) 14 - 7).toInt = (v : Int) / (a 1 4).toInt % 14 - 7 := by
    have : (7 : Int32).toInt = 7 := rfl
    rw [i_sub (by omega) (by omega)]; omega
  have m3 : ∃ y : Int32, (if 0 ≤ irm (nI v / a 1 4) 14 - 7 then irm (nI v / a 1 4) 14 - 7 else 0 - (irm (nI v / a 1 4) 14 - 7)) = y ∧ 0 ≤ y.toInt ∧ y.toInt ≤ 7 := by
    refine ⟨_, rfl, ?_⟩
    by_cases h : 0 ≤ irm (nI v / a 1 4) 14 - 7
    · rw [if_pos h]
      rw [z_ge] at h
      omega
    · rw [if_neg h]
      rw [z_ge] at h
      have e0 := t_lit0
      rw [i_sub (by omega) (by omega)]; omega
  obtain ⟨y, ey, y0, y7⟩ := m3
  have t0 : 0 ≤ (tideV a (nI v)).toInt ∧ (tideV a (nI v)).toInt ≤ 400 := by
    unfold tideV
    rw [ey]
    have b1 : (a 1 3).toInt * y.toInt ≤ 100 * 7 := Int.mul_le_mul s0.2 y7 y0 (by decide)
    have b0 : 0 ≤ (a 1 3).toInt * y.toInt := Int.mul_nonneg s0.1 y0
    have e1 : (a 1 3 * y).toInt = (a 1 3).toInt * y.toInt := i_mul (by omega) (by omega)
    have e2 : (a 1 3 * y / 7).toInt = (a 1 3).toInt * y.toInt / 7 := by rw [i_div (by rw [e1]; exact b0) (by decide), e1]; rfl
    rw [i_add (by omega) (by omega)]; omega
  unfold seaV
  by_cases h : a 1 4 / 2 < nI v - nI v / a 1 4 * a 1 4
  · rw [if_pos h]
    rw [i_lt, p1] at h
    have e1 : (a 1 4 - (nI v - nI v / a 1 4 * a 1 4)).toInt = (a 1 4).toInt - (nI v - nI v / a 1 4 * a 1 4).toInt := i_sub (by omega) (by omega)
    have b1 : (tideV a (nI v)).toInt * (a 1 4 - (nI v - nI v / a 1 4 * a 1 4)).toInt ≤ 400 * 100 := Int.mul_le_mul t0.2 (by omega) (by omega) (by decide)
    have b0 : 0 ≤ (tideV a (nI v)).toInt * (a 1 4 - (nI v - nI v / a 1 4 * a 1 4)).toInt := Int.mul_nonneg t0.1 (by omega)
    have e2 : (tideV a (nI v) * (a 1 4 - (nI v - nI v / a 1 4 * a 1 4))).toInt = (tideV a (nI v)).toInt * (a 1 4 - (nI v - nI v / a 1 4 * a 1 4)).toInt := i_mul (by omega) (by omega)
    have e3 : (tideV a (nI v) * (a 1 4 - (nI v - nI v / a 1 4 * a 1 4)) / (a 1 4 - a 1 4 / 2)).toInt = (tideV a (nI v)).toInt * (a 1 4 - (nI v - nI v / a 1 4 * a 1 4)).toInt / (a 1 4 - a 1 4 / 2).toInt := by rw [i_div (by rw [e2]; exact b0) p3, e2]
    have c1 := mul_div_le (r := (tideV a (nI v)).toInt) (p := (a 1 4 - (nI v - nI v / a 1 4 * a 1 4)).toInt) (h := (a 1 4 - a 1 4 / 2).toInt) t0.1 (by omega) (by omega) p3
    have c2 := mul_div_ge (r := (tideV a (nI v)).toInt) (p := (a 1 4 - (nI v - nI v / a 1 4 * a 1 4)).toInt) (h := (a 1 4 - a 1 4 / 2).toInt) t0.1 (by omega) p3
    rw [i_add (by omega) (by omega)]; omega
  · rw [if_neg h]
    rw [i_lt, p1] at h
    have b1 : (tideV a (nI v)).toInt * (nI v - nI v / a 1 4 * a 1 4).toInt ≤ 400 * 100 := Int.mul_le_mul t0.2 (by omega) ph.1 (by decide)
    have b0 : 0 ≤ (tideV a (nI v)).toInt * (nI v - nI v / a 1 4 * a 1 4).toInt := Int.mul_nonneg t0.1 ph.1
    have e2 : (tideV a (nI v) * (nI v - nI v / a 1 4 * a 1 4)).toInt = (tideV a (nI v)).toInt * (nI v - nI v / a 1 4 * a 1 4).toInt := i_mul (by omega) (by omega)
    have e3 : (tideV a (nI v) * (nI v - nI v / a 1 4 * a 1 4) / (a 1 4 / 2)).toInt = (tideV a (nI v)).toInt * (nI v - nI v / a 1 4 * a 1 4).toInt / (a 1 4 / 2).toInt := by rw [i_div (by rw [e2]; exact b0) p2, e2]
    have c1 := mul_div_le (r := (tideV a (nI v)).toInt) (p := (nI v - nI v / a 1 4 * a 1 4).toInt) (h := (a 1 4 / 2).toInt) t0.1 ph.1 (by omega) p2
    have c2 := mul_div_ge (r := (tideV a (nI v)).toInt) (p := (nI v - nI v / a 1 4 * a 1 4).toInt) (h := (a 1 4 / 2).toInt) t0.1 ph.1 p2
    rw [i_add (by omega) (by omega)]; omega
section WA
variable {a : kM1} {K F S t : Nat} {D : Nat → Int}
theorem IM.lvl (R : IM a K F S t D) : (a 0 9 / a 1 0).toInt = (a 0 9).toInt / (a 1 0).toInt ∧ 0 ≤ (a 0 9 / a 1 0).toInt ∧ (a 0 9 / a 1 0).toInt ≤ 50100 := by
  obtain ⟨h1, h2⟩ := R.area
  obtain ⟨⟨w1, w2⟩, -⟩ := R.w
  have e : (a 0 9 / a 1 0).toInt = (a 0 9).toInt / (a 1 0).toInt := i_div w1 (by omega)
  refine ⟨e, by rw [e]; exact Int.ediv_nonneg w1 (by omega), ?_⟩
  rw [e]
  have h3 : (a 0 9).toInt / (a 1 0).toInt * (a 1 0).toInt ≤ (a 0 9).toInt := Int.ediv_mul_le _ (by omega)
  have h4 : 0 ≤ (a 0 9).toInt / (a 1 0).toInt := Int.ediv_nonneg w1 (by omega)
  have h5 : (a 0 9).toInt / (a 1 0).toInt * 10 ≤ (a 0 9).toInt / (a 1 0).toInt * (a 1 0).toInt := Int.mul_le_mul_of_nonneg_left h1 h4
  omega
/-- water flows in -/
theorem k_flow (R : IM a K F S t D) {sea : Int32} (hs : 0 ≤ sea.toInt ∧ sea.toInt ≤ 500) : ∃ a', fX3_flowIn a sea = some (0, a') ∧ IM a' K F S t D := by
  obtain ⟨h1, h2⟩ := R.area
  have f0 : 0 ≤ (a 1 5).toInt ∧ (a 1 5).toInt ≤ 200 := R.a.1 5 (by decide)
  obtain ⟨⟨w1, w2⟩, w3, w4, w5⟩ := R.w
  obtain ⟨l1, l2, l3⟩ := R.lvl
  unfold fX3_flowIn
  rw [k_level R, bd_s]
  simp only [klet]
  by_cases c1 : a 0 10 = 1
  · rw [if_pos c1]
    exact ⟨a, rfl, R⟩
  · rw [if_neg c1]
    have ed : (sea - a 0 9 / a 1 0).toInt = sea.toInt - (a 0 9 / a 1 0).toInt := i_sub (by omega) (by omega)
    by_cases c2 : 0 < sea - a 0 9 / a 1 0
    · rw [if_pos c2]
      rw [z_pos, ed] at c2
      obtain ⟨y, ey⟩ : ∃ y : Int32, (if a 1 0 < a 1 5 then a 1 0 else a 1 5) = y := ⟨_, rfl⟩
      have yb : 0 ≤ y.toInt ∧ y.toInt ≤ 200 ∧ y.toInt ≤ (a 1 0).toInt := by
        rw [← ey]
        by_cases h : a 1 0 < a 1 5
        · rw [if_pos h]; rw [i_lt] at h; omega
        · rw [if_neg h]; rw [i_lt] at h; omega
      rw [ey]
      have b0 : 0 ≤ y.toInt * (sea - a 0 9 / a 1 0).toInt := Int.mul_nonneg yb.1 (by omega)
      have b1 : y.toInt * (sea - a 0 9 / a 1 0).toInt ≤ 200 * 500 := Int.mul_le_mul yb.2.1 (by omega) (by omega) (by decide)
      have b2 : y.toInt * (sea - a 0 9 / a 1 0).toInt ≤ (a 1 0).toInt * (sea - a 0 9 / a 1 0).toInt := Int.mul_le_mul_of_nonneg_right yb.2.2 (by omega)
      have ew : (y * (sea - a 0 9 / a 1 0)).toInt = y.toInt * (sea - a 0 9 / a 1 0).toInt := i_mul (by omega) (by omega)
      have b3 : (a 0 9).toInt < ((a 0 9).toInt / (a 1 0).toInt + 1) * (a 1 0).toInt := Int.lt_ediv_add_one_mul_self _ (by omega)
      have b4 : (sea.toInt + 1) * (a 1 0).toInt ≤ 501 * 1000 := Int.mul_le_mul (by omega) h2 (by omega) (by decide)
      have b5 : (a 1 0).toInt * (sea - a 0 9 / a 1 0).toInt + ((a 0 9).toInt / (a 1 0).toInt + 1) * (a 1 0).toInt = (sea.toInt + 1) * (a 1 0).toInt := by
        rw [ed, l1, Int.mul_comm, ← Int.add_mul]
        congr 1
        omega
      have e9 : (a 0 9 + y * (sea - a 0 9 / a 1 0)).toInt = (a 0 9).toInt + y.toInt * (sea - a 0 9 / a 1 0).toInt := by rw [i_add, ew] <;> rw [ew] <;> omega
      refine ⟨_, rfl, R.nu (fun j hj => by rw [mu_ne hj, mu_ne hj]) ?_ ?_ ?_⟩
      · obtain ⟨n1, n2, n3, n4⟩ := R.n
        unfold NV
        simp only [mu_eq]
        exact ⟨n1, n2, n3, n4⟩
      · unfold WV
        simp only [mu_eq]
        refine ⟨?_, w3, w4, ?_⟩
        · show 0 ≤ (a 0 9 + y * (sea - a 0 9 / a 1 0)).toInt ∧ (a 0 9 + y * (sea - a 0 9 / a 1 0)).toInt ≤ 501000
          rw [e9]
          omega
        · show a 0 9 + y * (sea - a 0 9 / a 1 0) + a 0 15 + a 0 16 = a 0 14 + y * (sea - a 0 9 / a 1 0)
          rw [← w5]
          rw [Int32.add_assoc (a 0 9), Int32.add_comm (y * (sea - a 0 9 / a 1 0)), ← Int32.add_assoc (a 0 9), Int32.add_assoc (a 0 9 + a 0 15), Int32.add_comm (y * (sea - a 0 9 / a 1 0)), ← Int32.add_assoc (a 0 9 + a 0 15)]
      · simp only [mu_eq]
        rfl
    · rw [if_neg c2]
      exact ⟨a, rfl, R⟩
/-- one sluice -/
theorem k_sluice (R : IM a K F S t D) {w : Int32} (hw : 0 ≤ w.toInt ∧ w.toInt ≤ (a 0 9).toInt) : IM (mu (mu a 0 9 (a 0 9 - w)) 0 15 (a 0 15 + w)) K F S t D := by
  obtain ⟨⟨w1, w2⟩, w3, w4, w5⟩ := R.w
  have e : (a 0 9 - w).toInt = (a 0 9).toInt - w.toInt := i_sub (by omega) (by omega)
  refine R.nu (fun j hj => by rw [mu_ne hj, mu_ne hj]) ?_ ?_ ?_
  · obtain ⟨n1, n2, n3, n4⟩ := R.n
    unfold NV
    simp only [mu_eq]
    exact ⟨n1, n2, n3, n4⟩
  · unfold WV
    simp only [mu_eq]
    refine ⟨?_, w3, w4, ?_⟩
    · show 0 ≤ (a 0 9 - w).toInt ∧ (a 0 9 - w).toInt ≤ 501000
      rw [e]
      omega
    · show a 0 9 - w + (a 0 15 + w) + a 0 16 = a 0 14
      rw [← w5, Int32.add_comm (a 0 15) w, ← Int32.add_assoc, Int32.sub_add_cancel]
  · simp only [mu_eq]
    rfl
theorem leak_lp {b2 : Int32} (hb : 0 ≤ b2.toInt ∧ b2.toInt ≤ 60000) (sea : Int32) : ∀ (j k n : Nat) (a : kM1), k + j = 4 → j < n → IM a K F S t D → ∃ a', fX3_leakOut_b14 sea n a b2 (nI k) = some (0, a') ∧ IM a' K F S t D := by
  intro j
  induction j with
  | zero =>
    intro k n a hk hn R
    obtain ⟨n, rfl⟩ : ∃ z, n = z + 1 := ⟨n - 1, by omega⟩
    have : k = 4 := by omega
    subst this
    rw [fX3_leakOut_b14, if_pos (by decide)]
    exact ⟨a, rfl, R⟩
  | succ j ih =>
    intro k n a hk hn R
    obtain ⟨n, rfl⟩ : ∃ z, n = z + 1 := ⟨n - 1, by omega⟩
    obtain ⟨⟨w1, w2⟩, -⟩ := R.w
    have lk := R.a.2 k (by omega)
    rw [fX3_leakOut_b14, if_neg (show ¬ (4 : Int32) ≤ nI k from lp_in (k := k) (S := 4) (n := 4) (by omega) (by decide) (by decide)), if_pos (inb_nI (show k < 4 by omega) (by decide)), c_nI (by omega)]
    simp only [klet, nI_1, mu_eq]
    have b0 : 0 ≤ (a 2 k).toInt * b2.toInt := Int.mul_nonneg lk.1 hb.1
    have b1 : (a 2 k).toInt * b2.toInt ≤ 20 * 60000 := Int.mul_le_mul lk.2 hb.2 hb.1 (by decide)
    have em : (a 2 k * b2).toInt = (a 2 k).toInt * b2.toInt := i_mul (by omega) (by omega)
    obtain ⟨w, ew⟩ : ∃ w : Int32, (if a 0 9 < a 2 k * b2 then a 0 9 else a 2 k * b2) = w := ⟨_, rfl⟩
    have wb : 0 ≤ w.toInt ∧ w.toInt ≤ (a 0 9).toInt := by
      rw [← ew]
      by_cases h : a 0 9 < a 2 k * b2
      · rw [if_pos h]; omega
      · rw [if_neg h]; rw [i_lt] at h; omega
    rw [ew]
    exact ih (k + 1) n _ (by omega) (by omega) (k_sluice R wb)
theorem k_leak (R : IM a K F S t D) {sea : Int32} (hs : 0 ≤ sea.toInt ∧ sea.toInt ≤ 500) : ∃ a', fX3_leakOut a sea = some (0, a') ∧ IM a' K F S t D := by
  obtain ⟨l1, l2, l3⟩ := R.lvl
  unfold fX3_leakOut
  rw [k_level R, bd_s]
  simp only [klet]
  have ed : (a 0 9 / a 1 0 - sea).toInt = (a 0 9 / a 1 0).toInt - sea.toInt := i_sub (by omega) (by omega)
  by_cases c : 0 < a 0 9 / a 1 0 - sea
  · rw [if_pos c]
    rw [z_pos, ed] at c
    have := leak_lp (K := K) (F := F) (S := S) (t := t) (D := D) (b2 := a 0 9 / a 1 0 - sea) (by rw [ed]; omega) sea 4 0 kFu a (by omega) (by unfold kFu; omega) R
    rw [nI_0] at this
    exact this
  · rw [if_neg c]
    exact ⟨a, rfl, R⟩
end WA
