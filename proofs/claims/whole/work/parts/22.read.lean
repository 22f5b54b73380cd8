/-! reads of a mill and of the reference's row, alike -/
theorem lp_in {k S n : Nat} (h : k < S) (hS : S ≤ n) (hn : n < 2147483648) : ¬ nI S ≤ nI k := nI_ge h (by omega)
theorem lp_out {k S : Nat} (h : S ≤ k) (hn : k < 2147483648) : nI S ≤ nI k := nI_le h (by omega)
theorem RM.e7 {a : kM1} {d : Nat → Int32} {K F S t : Nat} (h : RM a d K F S t) : a 0 7 = nI S := h.n.2.2.1.1
theorem RM.e29 {a : kM1} {d : Nat → Int32} {K F S t : Nat} (h : RM a d K F S t) : d 29 = nI S := h.n.2.2.1.2
theorem RM.se {a : kM1} {d : Nat → Int32} {K F S t : Nat} (h : RM a d K F S t) {s : Nat} (hs : s < S) : RSe a d s := (h.s s hs).2.1
theorem RM.so {a : kM1} {d : Nat → Int32} {K F S t : Nat} (h : RM a d K F S t) {s : Nat} (hs : s < S) : RSo a d K F s := (h.s s hs).1
theorem RM.sm {a : kM1} {d : Nat → Int32} {K F S t : Nat} (h : RM a d K F S t) {s : Nat} (hs : s < S) : RSm a d s := (h.s s hs).2.2.1
theorem RM.sp {a : kM1} {d : Nat → Int32} {K F S t : Nat} (h : RM a d K F S t) {s : Nat} (hs : s < S) : RSp a d t s := (h.s s hs).2.2.2.1
theorem RM.sb {a : kM1} {d : Nat → Int32} {K F S t : Nat} (h : RM a d K F S t) {s : Nat} (hs : s < S) : RSb a d s := (h.s s hs).2.2.2.2.1
theorem RM.st {a : kM1} {d : Nat → Int32} {K F S t : Nat} (h : RM a d K F S t) {s : Nat} (hs : s < S) : RSt d s := (h.s s hs).2.2.2.2.2
theorem RM.S24 {a : kM1} {d : Nat → Int32} {K F S t : Nat} (h : RM a d K F S t) : S ≤ 24 := h.lim.2.2.1
theorem inb24 {k : Nat} (h : k < 24) : ¬ nI k < 0 ∧ k < 24 := ⟨nI_pos (by omega), h⟩
theorem lt_neg {p : Int32} (h : p = -1 ∨ 0 ≤ p.toInt) : p < 0 ↔ p = -1 := by
  rw [i_lt, t_lit0]
  rcases h with h | h
  · subst h
    exact ⟨fun _ => rfl, fun _ => by decide⟩
  · exact ⟨fun z => by omega, fun z => by rw [z]; decide⟩

theorem p_stage {a m : kM1} {d : Nat → Int32} {K F S t : Nat} (R : RM a d K F S t) (v : Int32) : ∀ (j k : Nat) (acc : Int32) (n n' : Nat), k + j = S → j < n → j < n' → ∃ r, fX3_sacksInStage_b4 v n a acc (nI k) = some (r, a) ∧ fX7_sacksIn_b4 v n' (sD m d) acc (nI k) = some (r, sD m d) := by
  have hS := R.S24
  intro j
  induction j with
  | zero =>
    intro k acc n n' hk hn hn'
    obtain ⟨n, rfl⟩ : ∃ z, n = z + 1 := ⟨n - 1, by omega⟩
    obtain ⟨n', rfl⟩ : ∃ z, n' = z + 1 := ⟨n' - 1, by omega⟩
    refine ⟨acc, ?_, ?_⟩
    · rw [fX3_sacksInStage_b4, R.e7, if_pos (lp_out (by omega) (by omega))]
    · rw [fX7_sacksIn_b4, sD_1, R.e29, if_pos (lp_out (by omega) (by omega))]
  | succ j ih =>
    intro k acc n n' hk hn hn'
    obtain ⟨n, rfl⟩ : ∃ z, n = z + 1 := ⟨n - 1, by omega⟩
    obtain ⟨n', rfl⟩ : ∃ z, n' = z + 1 := ⟨n' - 1, by omega⟩
    have hks : k < S := by omega
    have e := R.se hks
    rw [fX3_sacksInStage_b4, fX7_sacksIn_b4, R.e7, sD_1, R.e29, if_neg (lp_in hks hS (by decide)), if_neg (lp_in hks hS (by decide)), if_pos (inb_nI (by omega) (by decide)), c_nI (by omega), g_of3 m d (by omega), bd_s, e.2.1]
    by_cases h : d (56 + 13 * k + 3) = v
    · rw [if_pos h, if_pos h]
      simp only [fX3_sacksInStage_b28, fX7_sacksIn_b31, klet, nI_1]
      exact ih (k + 1) (acc + 1) n n' (by omega) (by omega) (by omega)
    · rw [if_neg h, if_neg h]
      simp only [fX3_sacksInStage_b28, fX7_sacksIn_b31, klet, nI_1]
      rw [Int32.add_zero]
      exact ih (k + 1) acc n n' (by omega) (by omega) (by omega)

theorem stage_eq {a m : kM1} {d : Nat → Int32} {K F S t : Nat} (R : RM a d K F S t) (v : Int32) : ∃ r, fX3_sacksInStage a v = some (r, a) ∧ fX7_sacksIn (sD m d) v = some (r, sD m d) := by
  have hS := R.S24
  have h := p_stage (m := m) R v S 0 0 kFu kFu (by omega) (by unfold kFu; omega) (by unfold kFu; omega)
  rw [nI_0] at h
  exact h
/-- whose and what a sack is -/
def isP (d : Nat → Int32) (p q : Int32) (s : Nat) : Prop := (p = -1 ∨ d (56 + 13 * s) = p) ∧ (q = -1 ∨ d (56 + 13 * s + 1) = q)
theorem k_isOf {a : kM1} {d : Nat → Int32} {K F S t : Nat} (R : RM a d K F S t) {s : Nat} (hs : s < S) (p q : Int32) : (isP d p q s ∧ fX5_isOf a (20 + s) p q = some (1, a)) ∨ (¬ isP d p q s ∧ fX5_isOf a (20 + s) p q = some (0, a)) := by
  obtain ⟨⟨f, hf, e1, e2⟩, ⟨k, hk, e3, e4, -⟩⟩ := R.so hs
  have e0 : a (20 + s) 0 = d (56 + 13 * s) := e1.trans e2.symm
  have e5 : a (20 + s) 1 = d (56 + 13 * s + 1) := e3.trans e4.symm
  unfold isP fX5_isOf fX5_isOf_b13 fX5_isOf_b26
  rw [e0, e5]
  by_cases h1 : p = -1
  · rw [if_pos h1]
    by_cases h2 : q = -1
    · rw [if_pos h2]; exact Or.inl ⟨⟨Or.inl h1, Or.inl h2⟩, rfl⟩
    · rw [if_neg h2]
      by_cases h3 : q = d (56 + 13 * s + 1)
      · rw [if_pos h3]; exact Or.inl ⟨⟨Or.inl h1, Or.inr h3.symm⟩, rfl⟩
      · rw [if_neg h3]; exact Or.inr ⟨fun z => z.2.elim h2 (fun y => h3 y.symm), rfl⟩
  · rw [if_neg h1]
    by_cases h4 : p = d (56 + 13 * s)
    · rw [if_pos h4]
      by_cases h2 : q = -1
      · rw [if_pos h2]; exact Or.inl ⟨⟨Or.inr h4.symm, Or.inl h2⟩, rfl⟩
      · rw [if_neg h2]
        by_cases h3 : q = d (56 + 13 * s + 1)
        · rw [if_pos h3]; exact Or.inl ⟨⟨Or.inr h4.symm, Or.inr h3.symm⟩, rfl⟩
        · rw [if_neg h3]; exact Or.inr ⟨fun z => z.2.elim h2 (fun y => h3 y.symm), rfl⟩
    · rw [if_neg h4]; exact Or.inr ⟨fun z => z.1.elim h1 (fun y => h4 y.symm), rfl⟩
theorem g_sum_is (m : kM1) (d : Nat → Int32) {p q v acc : Int32} {S k n : Nat} (hp : p = -1 ∨ 0 ≤ p.toInt) (hq : q = -1 ∨ 0 ≤ q.toInt) (hS : S ≤ 24) (hk : k < S) (e29 : d 29 = nI S) : (isP d p q k → fX7_sum_b6 p q v (n + 1) (sD m d) acc (nI k) = fX7_sum_b48 p q v (fX7_sum_b6 p q v n) (sD m d) acc (nI k)) ∧ (¬ isP d p q k → fX7_sum_b6 p q v (n + 1) (sD m d) acc (nI k) = fX7_sum_b52 p q v (fX7_sum_b6 p q v n) (sD m d) acc (nI k)) := by
  rw [fX7_sum_b6, sD_1, e29, if_neg (lp_in hk hS (by decide)), g_of0 m d (by omega), bd_s]
  unfold isP fX7_sum_b33
  rw [g_of1 m d (by omega), bd_s]
  have l1 := lt_neg hp
  have l2 := lt_neg hq
  by_cases h1 : p < 0
  · rw [if_pos h1]
    by_cases h2 : q < 0
    · rw [if_pos h2]; exact ⟨fun _ => rfl, fun z => absurd ⟨Or.inl (l1.mp h1), Or.inl (l2.mp h2)⟩ z⟩
    · rw [if_neg h2]
      by_cases h3 : d (56 + 13 * k + 1) = q
      · rw [if_pos h3]; exact ⟨fun _ => rfl, fun z => absurd ⟨Or.inl (l1.mp h1), Or.inr h3⟩ z⟩
      · rw [if_neg h3]; exact ⟨fun z => (z.2.elim (fun y => h2 (l2.mpr y)) h3).elim, fun _ => rfl⟩
  · rw [if_neg h1]
    by_cases h4 : d (56 + 13 * k) = p
    · rw [if_pos h4]
      by_cases h2 : q < 0
      · rw [if_pos h2]; exact ⟨fun _ => rfl, fun z => absurd ⟨Or.inr h4, Or.inl (l2.mp h2)⟩ z⟩
      · rw [if_neg h2]
        by_cases h3 : d (56 + 13 * k + 1) = q
        · rw [if_pos h3]; exact ⟨fun _ => rfl, fun z => absurd ⟨Or.inr h4, Or.inr h3⟩ z⟩
        · rw [if_neg h3]; exact ⟨fun z => (z.2.elim (fun y => h2 (l2.mpr y)) h3).elim, fun _ => rfl⟩
    · rw [if_neg h4]; exact ⟨fun z => (z.1.elim (fun y => h1 (l1.mpr y)) h4).elim, fun _ => rfl⟩
theorem g_many_is (m : kM1) (d : Nat → Int32) {p q v acc : Int32} {S k n : Nat} (hp : p = -1 ∨ 0 ≤ p.toInt) (hq : q = -1 ∨ 0 ≤ q.toInt) (hS : S ≤ 24) (hk : k < S) (e29 : d 29 = nI S) : (isP d p q k → fX7_many_b6 p q v (n + 1) (sD m d) acc (nI k) = fX7_many_b48 p q v (fX7_many_b6 p q v n) (sD m d) acc (nI k)) ∧ (¬ isP d p q k → fX7_many_b6 p q v (n + 1) (sD m d) acc (nI k) = fX7_many_b52 p q v (fX7_many_b6 p q v n) (sD m d) acc (nI k)) := by
  rw [fX7_many_b6, sD_1, e29, if_neg (lp_in hk hS (by decide)), g_of0 m d (by omega), bd_s]
  unfold isP fX7_many_b33
  rw [g_of1 m d (by omega), bd_s]
  have l1 := lt_neg hp
  have l2 := lt_neg hq
  by_cases h1 : p < 0
  · rw [if_pos h1]
    by_cases h2 : q < 0
    · rw [if_pos h2]; exact ⟨fun _ => rfl, fun z => absurd ⟨Or.inl (l1.mp h1), Or.inl (l2.mp h2)⟩ z⟩
    · rw [if_neg h2]
      by_cases h3 : d (56 + 13 * k + 1) = q
      · rw [if_pos h3]; exact ⟨fun _ => rfl, fun z => absurd ⟨Or.inl (l1.mp h1), Or.inr h3⟩ z⟩
      · rw [if_neg h3]; exact ⟨fun z => (z.2.elim (fun y => h2 (l2.mpr y)) h3).elim, fun _ => rfl⟩
  · rw [if_neg h1]
    by_cases h4 : d (56 + 13 * k) = p
    · rw [if_pos h4]
      by_cases h2 : q < 0
      · rw [if_pos h2]; exact ⟨fun _ => rfl, fun z => absurd ⟨Or.inr h4, Or.inl (l2.mp h2)⟩ z⟩
      · rw [if_neg h2]
        by_cases h3 : d (56 + 13 * k + 1) = q
        · rw [if_pos h3]; exact ⟨fun _ => rfl, fun z => absurd ⟨Or.inr h4, Or.inr h3⟩ z⟩
        · rw [if_neg h3]; exact ⟨fun z => (z.2.elim (fun y => h2 (l2.mpr y)) h3).elim, fun _ => rfl⟩
    · rw [if_neg h4]; exact ⟨fun z => (z.1.elim (fun y => h1 (l1.mpr y)) h4).elim, fun _ => rfl⟩

theorem p_brought {a m : kM1} {d : Nat → Int32} {K F S t : Nat} (R : RM a d K F S t) {p q : Int32} (hp : p = -1 ∨ 0 ≤ p.toInt) (hq : q = -1 ∨ 0 ≤ q.toInt) : ∀ (j k : Nat) (acc : Int32) (n n' : Nat), k + j = S → j < n → j < n' → ∃ r, fX3_sacksBrought_b5 p q n a acc (nI k) = some (r, a) ∧ fX7_many_b6 p q 0 n' (sD m d) acc (nI k) = some (r, sD m d) := by
  have hS := R.S24
  intro j
  induction j with
  | zero =>
    intro k acc n n' hk hn hn'
    obtain ⟨n, rfl⟩ : ∃ z, n = z + 1 := ⟨n - 1, by omega⟩
    obtain ⟨n', rfl⟩ : ∃ z, n' = z + 1 := ⟨n' - 1, by omega⟩
    refine ⟨acc, ?_, ?_⟩
    · rw [fX3_sacksBrought_b5, R.e7, if_pos (lp_out (by omega) (by omega))]
    · rw [fX7_many_b6, sD_1, R.e29, if_pos (lp_out (by omega) (by omega))]
  | succ j ih =>
    intro k acc n n' hk hn hn'
    obtain ⟨n, rfl⟩ : ∃ z, n = z + 1 := ⟨n - 1, by omega⟩
    obtain ⟨n', rfl⟩ : ∃ z, n' = z + 1 := ⟨n' - 1, by omega⟩
    have hks : k < S := by omega
    have e := R.se hks
    have g := g_many_is m d (v := 0) (acc := acc) (n := n') hp hq hS hks R.e29
    rw [fX3_sacksBrought_b5, R.e7, if_neg (lp_in hks hS (by decide)), if_pos (inb_nI (by omega) (by decide)), c_nI (by omega)]
    rcases k_isOf R hks p q with ⟨h, e1⟩ | ⟨h, e1⟩
    · rw [e1, bd_s, if_neg (by decide), g.1 h, klet]
      unfold fX7_many_b48 fX7_many_b53
      rw [if_neg (by decide), if_pos rfl]
      simp only [fX3_sacksBrought_b32, fX7_many_b77, fX7_many_b82, klet, nI_1]
      exact ih (k + 1) (acc + 1) n n' (by omega) (by omega) (by omega)
    · rw [e1, bd_s, if_pos rfl, g.2 h]
      unfold fX7_many_b52 fX7_many_b53
      rw [if_pos rfl]
      simp only [fX3_sacksBrought_b32, fX7_many_b81, fX7_many_b82, klet, nI_1]
      rw [Int32.add_zero]
      exact ih (k + 1) acc n n' (by omega) (by omega) (by omega)

theorem k_hasP (a : kM1) (j : Nat) : fX5_hasPledge a j = some (if (a j 11).toInt ≤ 0 then 0 else 1, a) := by
  unfold fX5_hasPledge
  by_cases h : a j 11 ≤ 0
  · rw [if_pos h, if_pos (by rw [i_le] at h; exact h)]
  · rw [if_neg h, if_neg (by rw [i_le] at h; exact h)]

theorem p_pledges {a m : kM1} {d : Nat → Int32} {K F S t : Nat} (R : RM a d K F S t) {p : Int32} (hp : p = -1 ∨ 0 ≤ p.toInt) : ∀ (j k : Nat) (acc : Int32) (n n' : Nat), k + j = S → j < n → j < n' → ∃ r, fX3_pledgesOf_b4 p n a acc (nI k) = some (r, a) ∧ fX7_many_b6 p (-1) 1 n' (sD m d) acc (nI k) = some (r, sD m d) := by
  have hS := R.S24
  intro j
  induction j with
  | zero =>
    intro k acc n n' hk hn hn'
    obtain ⟨n, rfl⟩ : ∃ z, n = z + 1 := ⟨n - 1, by omega⟩
    obtain ⟨n', rfl⟩ : ∃ z, n' = z + 1 := ⟨n' - 1, by omega⟩
    refine ⟨acc, ?_, ?_⟩
    · rw [fX3_pledgesOf_b4, R.e7, if_pos (lp_out (by omega) (by omega))]
    · rw [fX7_many_b6, sD_1, R.e29, if_pos (lp_out (by omega) (by omega))]
  | succ j ih =>
    intro k acc n n' hk hn hn'
    obtain ⟨n, rfl⟩ : ∃ z, n = z + 1 := ⟨n - 1, by omega⟩
    obtain ⟨n', rfl⟩ : ∃ z, n' = z + 1 := ⟨n' - 1, by omega⟩
    have hks : k < S := by omega
    have e := R.se hks
    have g := g_many_is m d (v := 1) (acc := acc) (n := n') hp (Or.inl rfl) hS hks R.e29
    rw [fX3_pledgesOf_b4, R.e7, if_neg (lp_in hks hS (by decide)), if_pos (inb_nI (by omega) (by decide)), c_nI (by omega), k_hasP, bd_s, e.2.2.2.2.1]
    rcases k_isOf R hks p (-1) with ⟨h, e1⟩ | ⟨h, e1⟩
    · rw [e1, bd_s, if_neg (show ¬ (1 : Int32) = 0 by decide), g.1 h]
      unfold fX7_many_b48 fX7_many_b53
      rw [if_neg (show ¬ (1 : Int32) = 0 by decide), if_neg (show ¬ (1 : Int32) = 0 by decide), g_of6 m d (by omega), bd_s]
      by_cases h2 : (d (56 + 13 * k + 6)).toInt ≤ 0
      · rw [if_pos h2, if_pos rfl, if_pos (by rw [i_le]; exact h2)]
        simp only [fX3_pledgesOf_b41, fX7_many_b81, fX7_many_b82, klet, nI_1]
        rw [Int32.add_zero]
        exact ih (k + 1) acc n n' (by omega) (by omega) (by omega)
      · rw [if_neg h2, if_neg (show ¬ (1 : Int32) = 0 by decide), if_neg (show ¬ d (56 + 13 * k + 6) ≤ 0 by rw [i_le]; exact h2), if_pos (inb24 (by omega)), klet]
        simp only [fX3_pledgesOf_b41, fX7_many_b77, fX7_many_b82, klet, nI_1]
        exact ih (k + 1) (acc + 1) n n' (by omega) (by omega) (by omega)
    · rw [e1, bd_s, if_pos (rfl : (0 : Int32) = 0), g.2 h]
      unfold fX7_many_b52 fX7_many_b53
      rw [if_pos (rfl : (0 : Int32) = 0)]
      simp only [fX3_pledgesOf_b41, fX7_many_b81, fX7_many_b82, klet, nI_1]
      rw [Int32.add_zero, if_pos (inb24 (show k < 24 by omega)), ite_self]
      exact ih (k + 1) acc n n' (by omega) (by omega) (by omega)

theorem brought_eq {a m : kM1} {d : Nat → Int32} {K F S t : Nat} (R : RM a d K F S t) {p q : Int32} (hp : p = -1 ∨ 0 ≤ p.toInt) (hq : q = -1 ∨ 0 ≤ q.toInt) : ∃ r, fX3_sacksBrought a p q = some (r, a) ∧ fX7_many (sD m d) p q 0 = some (r, sD m d) := by
  have hS := R.S24
  have h := p_brought (m := m) R hp hq S 0 0 kFu kFu (by omega) (by unfold kFu; omega) (by unfold kFu; omega)
  rw [nI_0] at h
  exact h
theorem pledges_eq {a m : kM1} {d : Nat → Int32} {K F S t : Nat} (R : RM a d K F S t) {p : Int32} (hp : p = -1 ∨ 0 ≤ p.toInt) : ∃ r, fX3_pledgesOf a p = some (r, a) ∧ fX7_many (sD m d) p (-1) 1 = some (r, sD m d) := by
  have hS := R.S24
  have h := p_pledges (m := m) R hp S 0 0 kFu kFu (by omega) (by unfold kFu; omega) (by unfold kFu; omega)
  rw [nI_0] at h
  exact h
/-! toll, dust, grain, flour -/
theorem g_toll (m : kM1) (d : Nat → Int32) {s : Nat} (hs : s < 24) : fX7_toll (sD m d) (nI s) = some (d (56 + 13 * s + 4) * d (56 + 13 * s + 5) / 100, sD m d) := by
  unfold fX7_toll
  rw [g_of4 m d hs, bd_s, g_of5 m d hs, bd_s]
theorem g_dust {a m : kM1} {d : Nat → Int32} {K F S t : Nat} (R : RM a d K F S t) {s : Nat} (hs : s < S) : fX7_dust (sD m d) (nI s) = some (a (20 + s) 10, sD m d) := by
  have hS := R.S24
  have hK := R.lim.1
  obtain ⟨e1, e2⟩ := R.sm hs
  obtain ⟨-, ⟨k, hk, e3, e4, -, e5, -⟩⟩ := R.so hs
  unfold fX7_dust
  rw [g_of4 m d (by omega), bd_s, g_toll m d (by omega), bd_s, g_of1 m d (by omega), bd_s, e4, ix_k, show (1 : Int32) = nI 1 from rfl, nI_add, if_pos (inb_nI (by omega) (by decide)), c_nI (by omega), sD_1, e2, e1, e5]
theorem g_grain (m : kM1) (d : Nat → Int32) {s : Nat} (hs : s < 24) : fX7_grain (sD m d) (nI s) = some (if d (56 + 13 * s + 3) = 3 then 0 else d (56 + 13 * s + 2) - d (56 + 13 * s + 4), sD m d) := by
  unfold fX7_grain
  rw [g_of3 m d hs, bd_s, g_of2 m d hs, bd_s, g_of4 m d hs, bd_s]
  by_cases h : d (56 + 13 * s + 3) = 3
  · rw [if_pos h, if_pos h]
  · rw [if_neg h, if_neg h]
theorem k_grain {a : kM1} {d : Nat → Int32} {s : Nat} (e : RSe a d s) : fX5_grain a (20 + s) = some (if d (56 + 13 * s + 3) = 3 then 0 else d (56 + 13 * s + 2) - d (56 + 13 * s + 4), a) := by
  unfold fX5_grain
  rw [e.2.1, e.1, e.2.2.1]
  by_cases h : d (56 + 13 * s + 3) = 3
  · rw [if_pos h, if_pos h]
  · rw [if_neg h, if_neg h]
/-- the flour of a sack -/
def flr (a : kM1) (d : Nat → Int32) (s : Nat) : Int32 := if d (56 + 13 * s + 3) = 3 then 0 else d (56 + 13 * s + 4) - a (20 + s) 9 - a (20 + s) 10 - d (56 + 13 * s + 6) - d (56 + 13 * s + 10)
theorem k_flour {a : kM1} {d : Nat → Int32} {s : Nat} (e : RSe a d s) : fX5_flour a (20 + s) = some (flr a d s, a) := by
  unfold fX5_flour flr
  rw [e.2.1, e.2.2.1, e.2.2.2.2.1, e.2.2.2.2.2.1]
  by_cases h : d (56 + 13 * s + 3) = 3
  · rw [if_pos h, if_pos h]
  · rw [if_neg h, if_neg h]
theorem g_flour {a m : kM1} {d : Nat → Int32} {K F S t : Nat} (R : RM a d K F S t) {s : Nat} (hs : s < S) : fX7_flour (sD m d) (nI s) = some (flr a d s, sD m d) := by
  have hS := R.S24
  unfold fX7_flour flr
  rw [g_of3 m d (by omega), bd_s, g_of4 m d (by omega), bd_s, g_toll m d (by omega), bd_s, g_dust R hs, bd_s, g_of6 m d (by omega), bd_s, g_of10 m d (by omega), bd_s, ← (R.sm hs).1]
  by_cases h : d (56 + 13 * s + 3) = 3
  · rw [if_pos h, if_pos h]
  · rw [if_neg h, if_neg h]
/-- what sackOf tells, but the place -/
theorem tell_eq {a m : kM1} {d : Nat → Int32} {K F S t : Nat} (R : RM a d K F S t) {s : Nat} (hs : s < S) {v : Int32} (hv : 0 ≤ v.toInt ∧ v.toInt ≤ 10) : ∃ r, fX5_tell a (20 + s) v = some (r, a) ∧ fX7_told (sD m d) (nI s) v = some (r, sD m d) := by
  have hS := R.S24
  have h24 : s < 24 := by omega
  obtain ⟨⟨f, hf, f1, f2⟩, ⟨k, hk, f3, f4, -⟩⟩ := R.so hs
  have e := R.se hs
  obtain ⟨i, hi, rfl⟩ := nI_rng hv.1 (show v.toInt < (11 : Nat) by omega)
  unfold fX5_tell fX7_told
  rw [k_grain e, k_flour e, g_grain m d h24, g_flour R hs, g_toll m d h24, g_dust R hs, g_of6 m d h24, g_of10 m d h24, g_of11 m d h24, e.1, e.2.1, e.2.2.2.2.1, e.2.2.2.2.2.1, e.2.2.2.2.2.2, ← (R.sm hs).1]
  simp only [bd_s]
  rcases (show i = 0 ∨ i = 1 ∨ i = 2 ∨ i = 3 ∨ i = 4 ∨ i = 5 ∨ i = 6 ∨ i = 7 ∨ i = 8 ∨ i = 9 ∨ i = 10 by omega) with rfl | rfl | rfl | rfl | rfl | rfl | rfl | rfl | rfl | rfl | rfl
  · exact ⟨_, rfl, by rw [g_of m d h24 (by decide), f1, ← f2]; rfl⟩
  · exact ⟨_, rfl, by rw [g_of m d h24 (by decide), f3, ← f4]; rfl⟩
  · exact ⟨_, rfl, by rw [g_of m d h24 (by decide)]; rfl⟩
  · exact ⟨_, rfl, by rw [g_of m d h24 (by decide)]; rfl⟩
  · exact ⟨_, rfl, rfl⟩
  · exact ⟨_, rfl, rfl⟩
  · exact ⟨_, rfl, rfl⟩
  · exact ⟨_, rfl, rfl⟩
  · exact ⟨_, rfl, rfl⟩
  · exact ⟨_, rfl, rfl⟩
  · exact ⟨_, rfl, rfl⟩

theorem p_sum {a m : kM1} {d : Nat → Int32} {K F S t : Nat} (R : RM a d K F S t) {p q v : Int32} (hp : p = -1 ∨ 0 ≤ p.toInt) (hq : q = -1 ∨ 0 ≤ q.toInt) (hv : 0 ≤ v.toInt ∧ v.toInt ≤ 10) : ∀ (j k : Nat) (acc : Int32) (n n' : Nat), k + j = S → j < n → j < n' → ∃ r, fX3_sumOf_b6 p q v n a acc (nI k) = some (r, a) ∧ fX7_sum_b6 p q v n' (sD m d) acc (nI k) = some (r, sD m d) := by
  have hS := R.S24
  intro j
  induction j with
  | zero =>
    intro k acc n n' hk hn hn'
    obtain ⟨n, rfl⟩ : ∃ z, n = z + 1 := ⟨n - 1, by omega⟩
    obtain ⟨n', rfl⟩ : ∃ z, n' = z + 1 := ⟨n' - 1, by omega⟩
    refine ⟨acc, ?_, ?_⟩
    · rw [fX3_sumOf_b6, R.e7, if_pos (lp_out (by omega) (by omega))]
    · rw [fX7_sum_b6, sD_1, R.e29, if_pos (lp_out (by omega) (by omega))]
  | succ j ih =>
    intro k acc n n' hk hn hn'
    obtain ⟨n, rfl⟩ : ∃ z, n = z + 1 := ⟨n - 1, by omega⟩
    obtain ⟨n', rfl⟩ : ∃ z, n' = z + 1 := ⟨n' - 1, by omega⟩
    have hks : k < S := by omega
    have e := R.se hks
    have g := g_sum_is m d (v := v) (acc := acc) (n := n') hp hq hS hks R.e29
    obtain ⟨z, z1, z2⟩ := tell_eq (m := m) R hks hv
    rw [fX3_sumOf_b6, R.e7, if_neg (lp_in hks hS (by decide)), if_pos (inb_nI (by omega) (by decide)), c_nI (by omega)]
    rcases k_isOf R hks p q with ⟨h, e1⟩ | ⟨h, e1⟩
    · rw [e1, bd_s, if_neg (show ¬ (1 : Int32) = 0 by decide), g.1 h, if_pos (inb24 (show k < 24 by omega)), z1, bd_s, klet]
      unfold fX7_sum_b48 fX7_sum_b53
      rw [if_neg (show ¬ (1 : Int32) = 0 by decide), z2, bd_s]
      simp only [fX3_sumOf_b46, fX7_sum_b73, klet, nI_1]
      exact ih (k + 1) (acc + z) n n' (by omega) (by omega) (by omega)
    · rw [e1, bd_s, if_pos rfl, g.2 h]
      unfold fX7_sum_b52 fX7_sum_b53
      rw [if_pos rfl]
      simp only [fX3_sumOf_b46, fX7_sum_b73, klet, nI_1]
      rw [Int32.add_zero]
      exact ih (k + 1) acc n n' (by omega) (by omega) (by omega)

theorem sum_eq {a m : kM1} {d : Nat → Int32} {K F S t : Nat} (R : RM a d K F S t) {p q v : Int32} (hp : p = -1 ∨ 0 ≤ p.toInt) (hq : q = -1 ∨ 0 ≤ q.toInt) (hv : 0 ≤ v.toInt ∧ v.toInt ≤ 10) : ∃ r, fX3_sumOf a p q v = some (r, a) ∧ fX7_sum (sD m d) p q v = some (r, sD m d) := by
  have hS := R.S24
  have h := p_sum (m := m) R hp hq hv S 0 0 kFu kFu (by omega) (by unfold kFu; omega) (by unfold kFu; omega)
  rw [nI_0] at h
  exact h
