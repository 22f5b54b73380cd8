/-! reads of a mill -/
theorem b01 (P : Prop) [Decidable P] : (if P then (1 : Int32) else 0) = 0 ∨ (if P then (1 : Int32) else 0) = 1 := by by_cases h : P <;> simp [h]
theorem k_in {μ : Type} (x : μ) (v a b : Int32) : fX6_within x v a b = some (if a.toInt ≤ v.toInt ∧ v.toInt ≤ b.toInt then 1 else 0, x) := by
  unfold fX6_within
  by_cases h1 : v < a
  · rw [if_pos h1, if_neg (fun z => by rw [i_lt] at h1; omega)]
  · rw [if_neg h1]
    by_cases h2 : b < v
    · rw [if_pos h2, if_neg (fun z => by rw [i_lt] at h2; omega)]
    · rw [if_neg h2, if_pos ⟨by rw [i_lt] at h1; omega, by rw [i_lt] at h2; omega⟩]
theorem k_inY {μ : Type} (x : μ) {v a b : Int32} (h : a.toInt ≤ v.toInt ∧ v.toInt ≤ b.toInt) : fX6_within x v a b = some (1, x) := by rw [k_in, if_pos h]
theorem k_has (v : Int32) {S : Nat} (hS : S ≤ 24) : (if v < 0 then (0 : Int32) else if nI S ≤ v then 0 else 1) = if 0 ≤ v.toInt ∧ v.toInt < S then 1 else 0 := by
  have e := t_nI (n := S) (by omega)
  by_cases h1 : v < 0
  · rw [if_pos h1, if_neg (fun z => by rw [i_lt, t_lit0] at h1; omega)]
  · rw [if_neg h1]
    rw [i_lt, t_lit0] at h1
    by_cases h2 : nI S ≤ v
    · rw [if_pos h2, if_neg (fun z => by rw [i_le, e] at h2; omega)]
    · rw [if_neg h2, if_pos]
      rw [i_le, e] at h2
      omega
theorem k_hasSack (a : kM1) (v : Int32) {S : Nat} (hS : S ≤ 24) (h : a 0 7 = nI S) : fX3_hasSack a v = some (if 0 ≤ v.toInt ∧ v.toInt < S then 1 else 0, a) := by
  rw [← k_has v hS]
  unfold fX3_hasSack
  rw [h]
  by_cases h1 : v < 0
  · rw [if_pos h1, if_pos h1]
  · rw [if_neg h1, if_neg h1]
    by_cases h2 : nI S ≤ v
    · rw [if_pos h2, if_pos h2]
    · rw [if_neg h2, if_neg h2]
theorem k_hasFarmer (a : kM1) (v : Int32) {S : Nat} (hS : S ≤ 24) (h : a 0 6 = nI S) : fX3_hasFarmer a v = some (if 0 ≤ v.toInt ∧ v.toInt < S then 1 else 0, a) := by
  rw [← k_has v hS]
  unfold fX3_hasFarmer
  rw [h]
  by_cases h1 : v < 0
  · rw [if_pos h1, if_pos h1]
  · rw [if_neg h1, if_neg h1]
    by_cases h2 : nI S ≤ v
    · rw [if_pos h2, if_pos h2]
    · rw [if_neg h2, if_neg h2]
theorem k_hasKind (a : kM1) (v : Int32) {S : Nat} (hS : S ≤ 24) (h : a 0 5 = nI S) : fX3_hasKind a v = some (if 0 ≤ v.toInt ∧ v.toInt < S then 1 else 0, a) := by
  rw [← k_has v hS]
  unfold fX3_hasKind
  rw [h]
  by_cases h1 : v < 0
  · rw [if_pos h1, if_pos h1]
  · rw [if_neg h1, if_neg h1]
    by_cases h2 : nI S ≤ v
    · rw [if_pos h2, if_pos h2]
    · rw [if_neg h2, if_neg h2]
section RD
variable {a : kM1} {K F S t : Nat} {D : Nat → Int}
theorem y_hasS (R : IM a K F S t D) {s : Nat} (h : s < S) : fX3_hasSack a (nI s) = some (1, a) := by
  have := R.S24
  rw [k_hasSack a _ R.S24 R.e7, t_nI (by omega), if_pos (by omega)]
theorem y_hasF (R : IM a K F S t D) {s : Nat} (h : s < F) : fX3_hasFarmer a (nI s) = some (1, a) := by
  have := R.F8
  rw [k_hasFarmer a _ (S := F) (by omega) R.e6, t_nI (by omega), if_pos (by omega)]
theorem y_hasK (R : IM a K F S t D) {s : Nat} (h : s < K) : fX3_hasKind a (nI s) = some (1, a) := by
  have := R.l.1
  rw [k_hasKind a _ (S := K) (by omega) R.e5, t_nI (by omega), if_pos (by omega)]
end RD
theorem k_quot {μ : Type} (x : μ) (u v : Int32) (h : 0 < v.toInt) : fX6_quotient x u v = some (u / v, x) := by
  unfold fX6_quotient
  rw [if_neg (fun z => by rw [i_le, t_lit0] at z; omega), if_pos (fun z => by rw [z, t_lit0] at h; omega)]
theorem k_hasP (a : kM1) (j : Nat) : fX5_hasPledge a j = some (if 0 < (a j 11).toInt then 1 else 0, a) := by
  unfold fX5_hasPledge
  by_cases h : a j 11 ≤ 0
  · rw [if_pos h, if_neg (by rw [z_le] at h; omega)]
  · rw [if_neg h, if_pos (by rw [z_le] at h; omega)]
/-- whose and what a sack is -/
def ofB (a : kM1) (p q : Int32) (s : Nat) : Bool := decide (p = -1 ∨ a (20 + s) 0 = p) && decide (q = -1 ∨ a (20 + s) 1 = q)
theorem k_isOf (a : kM1) (s : Nat) (p q : Int32) : fX5_isOf a (20 + s) p q = some (if ofB a p q s = true then 1 else 0, a) := by
  unfold fX5_isOf fX5_isOf_b13 fX5_isOf_b26 ofB
  simp only [Bool.and_eq_true, decide_eq_true_eq]
  by_cases h1 : p = -1
  · rw [if_pos h1]
    by_cases h2 : q = -1
    · rw [if_pos h2, if_pos ⟨Or.inl h1, Or.inl h2⟩]
    · rw [if_neg h2]
      by_cases h3 : q = a (20 + s) 1
      · rw [if_pos h3, if_pos ⟨Or.inl h1, Or.inr h3.symm⟩]
      · rw [if_neg h3, if_neg (fun z => z.2.elim h2 (fun y => h3 y.symm))]
  · rw [if_neg h1]
    by_cases h4 : p = a (20 + s) 0
    · rw [if_pos h4]
      by_cases h2 : q = -1
      · rw [if_pos h2, if_pos ⟨Or.inr h4.symm, Or.inl h2⟩]
      · rw [if_neg h2]
        by_cases h3 : q = a (20 + s) 1
        · rw [if_pos h3, if_pos ⟨Or.inr h4.symm, Or.inr h3.symm⟩]
        · rw [if_neg h3, if_neg (fun z => z.2.elim h2 (fun y => h3 y.symm))]
    · rw [if_neg h4, if_neg (fun z => z.1.elim h1 (fun y => h4 y.symm))]
def gr (r : Nat → Int32) : Int32 := if r 6 = 3 then 0 else r 5 - r 7
def fl (r : Nat → Int32) : Int32 := if r 6 = 3 then 0 else r 7 - r 9 - r 10 - r 11 - r 15
theorem k_grain (a : kM1) (j : Nat) : fX5_grain a j = some (gr (a j), a) := by
  unfold fX5_grain gr
  by_cases h : a j 6 = 3
  · rw [if_pos h, if_pos h]
  · rw [if_neg h, if_neg h]
theorem k_flour (a : kM1) (j : Nat) : fX5_flour a j = some (fl (a j), a) := by
  unfold fX5_flour fl
  by_cases h : a j 6 = 3
  · rw [if_pos h, if_pos h]
  · rw [if_neg h, if_neg h]
/-- what is told of a sack -/
def tv (r : Nat → Int32) (v : Int32) : Int32 := if v = 0 then r 0 else if v = 1 then r 1 else if v = 2 then r 5 else if v = 3 then r 6 else if v = 4 then gr r else if v = 5 then fl r else if v = 6 then r 9 else if v = 7 then r 10 else if v = 8 then r 11 else if v = 9 then r 15 else r 16
theorem k_tell (a : kM1) (j : Nat) (v : Int32) : fX5_tell a j v = some (tv (a j) v, a) := by
  unfold fX5_tell tv
  rw [k_grain, k_flour, bd_s, bd_s]
  repeat' split
  all_goals rfl
section RS
variable {a : kM1} {K F S t : Nat} {D : Nat → Int}
theorem p_sum (R : IM a K F S t D) (p q v : Int32) : ∀ (j k n : Nat), k + j = S → j < n → fX3_sumOf_b6 p q v n a (sm k fun s => if ofB a p q s = true then tv (a (20 + s)) v else 0) (nI k) = some (sm S fun s => if ofB a p q s = true then tv (a (20 + s)) v else 0, a) := by
  have hS := R.S24
  intro j
  induction j with
  | zero =>
    intro k n hk hn
    obtain ⟨n, rfl⟩ : ∃ z, n = z + 1 := ⟨n - 1, by omega⟩
    rw [fX3_sumOf_b6, R.e7, if_pos (lp_out (by omega) (by omega)), show k = S by omega]
  | succ j ih =>
    intro k n hk hn
    obtain ⟨n, rfl⟩ : ∃ z, n = z + 1 := ⟨n - 1, by omega⟩
    have h2 := ih (k + 1) n (by omega) (by omega)
    rw [fX3_sumOf_b6, R.e7, if_neg (lp_in (by omega) hS (by decide)), if_pos (inb_nI (show k < 24 by omega) (by decide)), c_nI (by omega), k_isOf, bd_s, if_pos (inb24 (show k < 24 by omega)), k_tell, bd_s, klet]
    simp only [fX3_sumOf_b46, klet, nI_1]
    rw [← h2]
    by_cases h : ofB a p q k = true
    · rw [if_pos h, if_neg (show ¬ (1 : Int32) = 0 by decide)]
      congr 1
      show _ = _ + (if ofB a p q k = true then tv (a (20 + k)) v else 0)
      rw [if_pos h]
    · rw [if_neg h, if_pos rfl]
      congr 1
      show _ = _ + (if ofB a p q k = true then tv (a (20 + k)) v else 0)
      rw [if_neg h, Int32.add_zero]
theorem k_sum (R : IM a K F S t D) (p q v : Int32) : fX3_sumOf a p q v = some (sm S fun s => if ofB a p q s = true then tv (a (20 + s)) v else 0, a) := p_sum R p q v S 0 kFu (by omega) (by have := R.S24; unfold kFu; omega)
theorem p_brought (R : IM a K F S t D) (p q : Int32) : ∀ (j k n : Nat), k + j = S → j < n → fX3_sacksBrought_b5 p q n a (nI (cn k (ofB a p q))) (nI k) = some (nI (cn S (ofB a p q)), a) := by
  have hS := R.S24
  intro j
  induction j with
  | zero =>
    intro k n hk hn
    obtain ⟨n, rfl⟩ : ∃ z, n = z + 1 := ⟨n - 1, by omega⟩
    rw [fX3_sacksBrought_b5, R.e7, if_pos (lp_out (by omega) (by omega)), show k = S by omega]
  | succ j ih =>
    intro k n hk hn
    obtain ⟨n, rfl⟩ : ∃ z, n = z + 1 := ⟨n - 1, by omega⟩
    have h2 := ih (k + 1) n (by omega) (by omega)
    rw [fX3_sacksBrought_b5, R.e7, if_neg (lp_in (by omega) hS (by decide)), if_pos (inb_nI (show k < 24 by omega) (by decide)), c_nI (by omega), k_isOf, bd_s]
    simp only [fX3_sacksBrought_b32, klet, nI_1]
    rw [← h2]
    by_cases h : ofB a p q k = true
    · rw [if_pos h, if_neg (show ¬ (1 : Int32) = 0 by decide), show cn (k + 1) (ofB a p q) = cn k (ofB a p q) + 1 by rw [cn, if_pos h]]
    · rw [if_neg h, if_pos rfl, show cn (k + 1) (ofB a p q) = cn k (ofB a p q) by rw [cn, if_neg h]; rfl]
theorem k_brought (R : IM a K F S t D) (p q : Int32) : fX3_sacksBrought a p q = some (nI (cn S (ofB a p q)), a) := p_brought R p q S 0 kFu (by omega) (by have := R.S24; unfold kFu; omega)
theorem p_stage (R : IM a K F S t D) (v : Int32) : ∀ (j k n : Nat), k + j = S → j < n → fX3_sacksInStage_b4 v n a (nI (cn k fun s => decide (a (20 + s) 6 = v))) (nI k) = some (nI (cn S fun s => decide (a (20 + s) 6 = v)), a) := by
  have hS := R.S24
  intro j
  induction j with
  | zero =>
    intro k n hk hn
    obtain ⟨n, rfl⟩ : ∃ z, n = z + 1 := ⟨n - 1, by omega⟩
    rw [fX3_sacksInStage_b4, R.e7, if_pos (lp_out (by omega) (by omega)), show k = S by omega]
  | succ j ih =>
    intro k n hk hn
    obtain ⟨n, rfl⟩ : ∃ z, n = z + 1 := ⟨n - 1, by omega⟩
    have h2 := ih (k + 1) n (by omega) (by omega)
    rw [fX3_sacksInStage_b4, R.e7, if_neg (lp_in (by omega) hS (by decide)), if_pos (inb_nI (show k < 24 by omega) (by decide)), c_nI (by omega)]
    simp only [fX3_sacksInStage_b28, klet, nI_1]
    rw [← h2]
    by_cases h : a (20 + k) 6 = v
    · rw [if_pos h, show cn (k + 1) (fun s => decide (a (20 + s) 6 = v)) = cn k (fun s => decide (a (20 + s) 6 = v)) + 1 by rw [cn, if_pos (decide_eq_true h)]]
    · rw [if_neg h, show cn (k + 1) (fun s => decide (a (20 + s) 6 = v)) = cn k (fun s => decide (a (20 + s) 6 = v)) by rw [cn, if_neg (by simp [h])]; rfl]
theorem k_stage (R : IM a K F S t D) (v : Int32) : fX3_sacksInStage a v = some (nI (cn S fun s => decide (a (20 + s) 6 = v)), a) := p_stage R v S 0 kFu (by omega) (by have := R.S24; unfold kFu; omega)
def plB (a : kM1) (s : Nat) : Bool := decide (0 < (a (20 + s) 11).toInt)
theorem p_pledges (R : IM a K F S t D) (p : Int32) : ∀ (j k n : Nat), k + j = S → j < n → fX3_pledgesOf_b4 p n a (nI (cn k fun s => plB a s && ofB a p (-1) s)) (nI k) = some (nI (cn S fun s => plB a s && ofB a p (-1) s), a) := by
  have hS := R.S24
  intro j
  induction j with
  | zero =>
    intro k n hk hn
    obtain ⟨n, rfl⟩ : ∃ z, n = z + 1 := ⟨n - 1, by omega⟩
    rw [fX3_pledgesOf_b4, R.e7, if_pos (lp_out (by omega) (by omega)), show k = S by omega]
  | succ j ih =>
    intro k n hk hn
    obtain ⟨n, rfl⟩ : ∃ z, n = z + 1 := ⟨n - 1, by omega⟩
    have h2 := ih (k + 1) n (by omega) (by omega)
    rw [fX3_pledgesOf_b4, R.e7, if_neg (lp_in (by omega) hS (by decide)), if_pos (inb_nI (show k < 24 by omega) (by decide)), c_nI (by omega), k_hasP, bd_s, if_pos (inb24 (show k < 24 by omega)), k_isOf, bd_s]
    simp only [fX3_pledgesOf_b41, klet, nI_1]
    rw [← h2]
    by_cases h : 0 < (a (20 + k) 11).toInt
    · rw [if_pos h, if_neg (show ¬ (1 : Int32) = 0 by decide)]
      by_cases h3 : ofB a p (-1) k = true
      · rw [if_pos h3, if_neg (show ¬ (1 : Int32) = 0 by decide), show cn (k + 1) (fun s => plB a s && ofB a p (-1) s) = cn k (fun s => plB a s && ofB a p (-1) s) + 1 by rw [cn, if_pos (by simp [plB, h, h3])]]
      · rw [if_neg h3, if_pos rfl, show cn (k + 1) (fun s => plB a s && ofB a p (-1) s) = cn k (fun s => plB a s && ofB a p (-1) s) by rw [cn, if_neg (by simp [h3])]; rfl]
    · rw [if_neg h, if_pos rfl, show cn (k + 1) (fun s => plB a s && ofB a p (-1) s) = cn k (fun s => plB a s && ofB a p (-1) s) by rw [cn, if_neg (by simp [plB, h])]; rfl]
theorem k_pledges (R : IM a K F S t D) (p : Int32) : fX3_pledgesOf a p = some (nI (cn S fun s => plB a s && ofB a p (-1) s), a) := p_pledges R p S 0 kFu (by omega) (by have := R.S24; unfold kFu; omega)
theorem k_today (R : IM a K F S t D) : fX3_today a = some (nI (t / 96), a) := by
  have := R.l.2.2.2
  unfold fX3_today
  rw [R.e8, show (96 : Int32) = nI 96 from rfl, d_nI (by omega) (by decide) (by decide)]
theorem k_level (R : IM a K F S t D) : fX3_level a = some (a 0 9 / a 1 0, a) := by
  have h := R.area
  unfold fX3_level
  rw [k_quot a _ _ (by omega), bd_s]
end RS
