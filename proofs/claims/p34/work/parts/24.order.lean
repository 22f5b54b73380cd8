/-! the queue and the order of pledges -/
def rkV (a : kM1) (s : Nat) : Int32 := if a 1 12 = 1 then a (20 + s) 5 else if a 1 12 = 2 then a (12 + (a (20 + s) 0).toNatClampNeg) 1 else if a 1 12 = 3 then (if a (20 + s) 1 = a 0 13 then 0 else a (20 + s) 2) else 0
def wtB (a : kM1) (s : Nat) : Bool := decide (a (20 + s) 6 = 0)
/-- who waits ahead of whom -/
def ahW (a : kM1) (i j : Nat) : Bool := decide (rkV a i < rkV a j ∨ (rkV a i = rkV a j ∧ i < j))
def plW (a : kM1) (S s : Nat) : Nat := cn S fun i => wtB a i && ahW a i s
theorem ahW_irr (a : kM1) (i : Nat) : ¬ ahW a i i = true := by
  unfold ahW
  rw [decide_eq_true_eq]
  rintro (h | ⟨-, h⟩)
  · rw [i_lt] at h; omega
  · omega
theorem ahW_tr (a : kM1) (i j k : Nat) (h1 : ahW a i j = true) (h2 : ahW a j k = true) : ahW a i k = true := by
  unfold ahW at *
  rw [decide_eq_true_eq] at *
  rw [i_lt, i_eq] at *
  omega
theorem ahW_tot (a : kM1) (S i j : Nat) (_ : i < S) (_ : j < S) (h : i ≠ j) : ahW a i j = true ∨ ahW a j i = true := by
  unfold ahW
  rw [decide_eq_true_eq, decide_eq_true_eq, i_lt, i_eq, i_lt, i_eq]
  omega
/-- which pledge is ahead of which -/
def ahP (a : kM1) (i j : Nat) : Bool := decide (a (20 + i) 14 < a (20 + j) 14 ∨ (a (20 + i) 14 = a (20 + j) 14 ∧ i < j))
def plP (a : kM1) (S s : Nat) : Nat := cn S fun i => plB a i && ahP a i s
theorem ahP_irr (a : kM1) (i : Nat) : ¬ ahP a i i = true := by
  unfold ahP
  rw [decide_eq_true_eq]
  rintro (h | ⟨-, h⟩)
  · rw [i_lt] at h; omega
  · omega
theorem ahP_tr (a : kM1) (i j k : Nat) (h1 : ahP a i j = true) (h2 : ahP a j k = true) : ahP a i k = true := by
  unfold ahP at *
  rw [decide_eq_true_eq] at *
  rw [i_lt, i_eq] at *
  omega
theorem ahP_tot (a : kM1) (S i j : Nat) (_ : i < S) (_ : j < S) (h : i ≠ j) : ahP a i j = true ∨ ahP a j i = true := by
  unfold ahP
  rw [decide_eq_true_eq, decide_eq_true_eq, i_lt, i_eq, i_lt, i_eq]
  omega
section QU
variable {a : kM1} {K F S t : Nat} {D : Nat → Int}
theorem k_rank (R : IM a K F S t D) {s : Nat} (hs : s < S) : fX3_rankInQueue a (20 + s) = some (rkV a s, a) := by
  have hF := R.F8
  obtain ⟨⟨f, hf, e0⟩, -⟩ := R.so hs
  unfold fX3_rankInQueue rkV
  by_cases h1 : a 1 12 = 1
  · rw [if_pos h1, if_pos h1]
  · rw [if_neg h1, if_neg h1]
    by_cases h2 : a 1 12 = 2
    · rw [if_pos h2, if_pos h2, e0, y_hasF R hf, bd_s, if_neg (show ¬ (1 : Int32) = 0 by decide), e0, if_pos (inb_nI (show f < 8 by omega) (by decide))]
    · rw [if_neg h2, if_neg h2]
      by_cases h3 : a 1 12 = 3
      · rw [if_pos h3, if_pos h3]
        by_cases h4 : a (20 + s) 1 = a 0 13
        · rw [if_pos h4, if_pos h4]
        · rw [if_neg h4, if_neg h4]
      · rw [if_neg h3, if_neg h3]
theorem k_ahd (R : IM a K F S t D) {o s : Nat} (ho : o < S) (hs : s < S) : fX3_waitsAheadOf a (nI o) (nI s) = some (if ahW a o s = true then 1 else 0, a) := by
  have hS := R.S24
  unfold fX3_waitsAheadOf fX3_waitsAheadOf_b40 ahW
  rw [if_pos (inb_nI (show o < 24 by omega) (by decide)), c_nI (by omega), k_rank R ho, bd_s, if_pos (inb_nI (show s < 24 by omega) (by decide)), c_nI (by omega), k_rank R hs, bd_s]
  simp only [decide_eq_true_eq]
  by_cases h1 : rkV a o < rkV a s
  · rw [if_pos h1, if_pos (Or.inl h1)]
  · rw [if_neg h1]
    by_cases h2 : rkV a o = rkV a s
    · rw [if_pos h2]
      by_cases h3 : o < s
      · rw [if_neg (nI_ge h3 (by omega)), if_pos (Or.inr ⟨h2, h3⟩)]
      · rw [if_pos (nI_le (by omega) (by omega)), if_neg (fun z => z.elim h1 (fun y => h3 y.2))]
    · rw [if_neg h2, if_neg (fun z => z.elim h1 (fun y => h2 y.1))]
theorem k_place_lp (R : IM a K F S t D) {s : Nat} (hs : s < S) : ∀ (j k n : Nat), k + j = S → j < n → fX3_placeInQueue_b19 (nI s) n a (nI (plW a k s)) (nI k) = some (nI (plW a S s), a) := by
  have hS := R.S24
  intro j
  induction j with
  | zero =>
    intro k n hk hn
    obtain ⟨n, rfl⟩ : ∃ z, n = z + 1 := ⟨n - 1, by omega⟩
    rw [fX3_placeInQueue_b19, R.e7, if_pos (lp_out (by omega) (by omega)), show k = S by omega]
  | succ j ih =>
    intro k n hk hn
    obtain ⟨n, rfl⟩ : ∃ z, n = z + 1 := ⟨n - 1, by omega⟩
    have hks : k < S := by omega
    have h2 := ih (k + 1) n (by omega) (by omega)
    rw [fX3_placeInQueue_b19, R.e7, if_neg (lp_in hks hS (by decide)), if_pos (inb_nI (show k < 24 by omega) (by decide)), c_nI (by omega), k_ahd R hks hs, bd_s, ← h2]
    simp only [fX3_placeInQueue_b51, klet, nI_1]
    by_cases h : a (20 + k) 6 = 0
    · rw [if_pos h]
      by_cases h1 : ahW a k s = true
      · rw [if_pos h1, if_neg (show ¬ (1 : Int32) = 0 by decide), show plW a (k + 1) s = plW a k s + 1 by unfold plW; rw [cn, if_pos (by simp [wtB, h, h1])]]
      · rw [if_neg h1, if_pos rfl, show plW a (k + 1) s = plW a k s by unfold plW; rw [cn, if_neg (by simp [h1])]; rfl]
    · rw [if_neg h, show plW a (k + 1) s = plW a k s by unfold plW; rw [cn, if_neg (by simp [wtB, h])]; rfl]
theorem k_place (R : IM a K F S t D) {s : Nat} (hs : s < S) : fX3_placeInQueue a (nI s) = some (if a (20 + s) 6 = 0 then nI (plW a S s) else -1000004, a) := by
  have hS := R.S24
  unfold fX3_placeInQueue
  rw [if_pos (inb_nI (show s < 24 by omega) (by decide)), c_nI (by omega)]
  by_cases h : a (20 + s) 6 = 0
  · rw [if_pos h, if_pos h]
    exact k_place_lp R hs S 0 kFu (by omega) (by unfold kFu; omega)
  · rw [if_neg h, if_neg h]
theorem at_lp (R : IM a K F S t D) {v : Nat} (hv : v < 1000) : ∀ (j k n : Nat), k + j = S → j < n → (∃ s, s < S ∧ wtB a s = true ∧ plW a S s = v ∧ fX3_sackAtPlace_b2 (nI v) n a (nI k) = some (nI s, a)) ∨ ((∀ s, k ≤ s → s < S → wtB a s = true → ¬ plW a S s = v) ∧ fX3_sackAtPlace_b2 (nI v) n a (nI k) = some (-1000004, a)) := by
  have hS := R.S24
  intro j
  induction j with
  | zero =>
    intro k n hk hn
    obtain ⟨n, rfl⟩ : ∃ z, n = z + 1 := ⟨n - 1, by omega⟩
    refine Or.inr ⟨fun s h1 h2 => by omega, ?_⟩
    rw [fX3_sackAtPlace_b2, R.e7, if_pos (lp_out (by omega) (by omega))]
  | succ j ih =>
    intro k n hk hn
    obtain ⟨n, rfl⟩ : ∃ z, n = z + 1 := ⟨n - 1, by omega⟩
    have hks : k < S := by omega
    have hpl : plW a S k ≤ S := cn_le _ _
    rw [fX3_sackAtPlace_b2, R.e7, if_neg (lp_in hks hS (by decide)), k_place R hks, bd_s]
    simp only [klet, nI_1]
    by_cases h : a (20 + k) 6 = 0
    · rw [if_pos h]
      by_cases h1 : plW a S k = v
      · rw [if_pos (by rw [h1])]
        exact Or.inl ⟨k, hks, decide_eq_true h, h1, rfl⟩
      · rw [if_neg (fun z => h1 (nI_inj (by omega) (by omega) z))]
        rcases ih (k + 1) n (by omega) (by omega) with h2 | ⟨h2, h3⟩
        · exact Or.inl h2
        · refine Or.inr ⟨fun s q1 q2 q3 => ?_, h3⟩
          by_cases hk2 : s = k
          · subst hk2; exact h1
          · exact h2 s (by omega) q2 q3
    · rw [if_neg h, if_neg (fun z => by rw [i_eq, t_nI (by omega)] at z; have : (-1000004 : Int32).toInt = -1000004 := by decide
                                        omega)]
      rcases ih (k + 1) n (by omega) (by omega) with h2 | ⟨h2, h3⟩
      · exact Or.inl h2
      · refine Or.inr ⟨fun s q1 q2 q3 => ?_, h3⟩
        by_cases hk2 : s = k
        · subst hk2; exact absurd (of_decide_eq_true q3) h
        · exact h2 s (by omega) q2 q3
/-- the queue: below the count a sack that waits at its place, at the count none -/
theorem queue_in (R : IM a K F S t D) {v : Nat} (hv : v < cn S (wtB a)) : ∃ s, s < S ∧ wtB a s = true ∧ plW a S s = v ∧ fX3_sackAtPlace a (nI v) = some (nI s, a) := by
  have hS := R.S24
  have hc := cn_le S (wtB a)
  rcases at_lp R (v := v) (by omega) S 0 kFu (by omega) (by unfold kFu; omega) with h | ⟨h, -⟩
  · exact h
  · obtain ⟨s, h1, h2, h3⟩ := rank_ex (ahW_irr a) (ahW_tr a) (ahW_tot a S) hv
    exact absurd h3 (h s (by omega) h1 h2)
theorem queue_out (R : IM a K F S t D) : fX3_sackAtPlace a (nI (cn S (wtB a))) = some (-1000004, a) := by
  have hS := R.S24
  have hc := cn_le S (wtB a)
  rcases at_lp R (v := cn S (wtB a)) (by omega) S 0 kFu (by omega) (by unfold kFu; omega) with ⟨s, h1, h2, h3, -⟩ | ⟨-, h⟩
  · have := rank_lt (p := wtB a) (ahW_irr a) h1 h2
    unfold plW at h3
    omega
  · exact h
/-- the first of the queue -/
theorem first_lp (R : IM a K F S t D) : ∀ (j k n : Nat) (b1 b2 : Int32), k + j = S → j < n → ((b1 = -1 ∧ ∀ s, s < k → ¬ a (20 + s) 6 = 0) ∨ ∃ f, f < S ∧ a (20 + f) 6 = 0 ∧ b1 = nI f) → ((∀ s, s < S → ¬ a (20 + s) 6 = 0) ∧ fX3_firstOfQueue_b6 n a b1 b2 (nI k) = some (-1, a)) ∨ ∃ f, f < S ∧ a (20 + f) 6 = 0 ∧ fX3_firstOfQueue_b6 n a b1 b2 (nI k) = some (nI f, a) := by
  have hS := R.S24
  intro j
  induction j with
  | zero =>
    intro k n b1 b2 hk hn hb
    obtain ⟨n, rfl⟩ : ∃ z, n = z + 1 := ⟨n - 1, by omega⟩
    rw [fX3_firstOfQueue_b6, R.e7, if_pos (lp_out (by omega) (by omega))]
    rcases hb with ⟨h1, h2⟩ | ⟨f, h1, h2, h3⟩
    · exact Or.inl ⟨fun s hs => h2 s (by omega), by rw [h1]⟩
    · exact Or.inr ⟨f, h1, h2, by rw [h3]⟩
  | succ j ih =>
    intro k n b1 b2 hk hn hb
    obtain ⟨n, rfl⟩ : ∃ z, n = z + 1 := ⟨n - 1, by omega⟩
    have hks : k < S := by omega
    rw [fX3_firstOfQueue_b6, R.e7, if_neg (lp_in hks hS (by decide)), if_pos (inb_nI (show k < 24 by omega) (by decide)), c_nI (by omega), if_pos (inb24 (show k < 24 by omega)), k_rank R hks, bd_s]
    simp only [fX3_firstOfQueue_b49, fX3_firstOfQueue_b54, klet, nI_1]
    by_cases h : a (20 + k) 6 = 0
    · rw [if_pos h]
      have e : ∀ (c1 c2 : Int32), (c1 = nI k ∨ (c1 = b1 ∧ ¬ b1 = -1)) → ((∀ s, s < S → ¬ a (20 + s) 6 = 0) ∧ fX3_firstOfQueue_b6 n a c1 c2 (nI (k + 1)) = some (-1, a)) ∨ ∃ f, f < S ∧ a (20 + f) 6 = 0 ∧ fX3_firstOfQueue_b6 n a c1 c2 (nI (k + 1)) = some (nI f, a) := by
        intro c1 c2 hc
        refine ih (k + 1) n c1 c2 (by omega) (by omega) (Or.inr ?_)
        rcases hc with hc | ⟨hc, hc2⟩
        · exact ⟨k, hks, h, hc⟩
        · rcases hb with ⟨h1, -⟩ | ⟨f, h1, h2, h3⟩
          · exact absurd h1 hc2
          · exact ⟨f, h1, h2, by rw [hc, h3]⟩
      by_cases h1 : b1 = -1
      · rw [if_pos h1]
        exact e _ _ (Or.inl rfl)
      · rw [if_neg h1]
        by_cases h2 : b2 ≤ rkV a k
        · rw [if_pos h2]
          exact e _ _ (Or.inr ⟨rfl, h1⟩)
        · rw [if_neg h2]
          exact e _ _ (Or.inl rfl)
    · rw [if_neg h]
      refine ih (k + 1) n b1 b2 (by omega) (by omega) ?_
      rcases hb with ⟨h1, h2⟩ | h1
      · refine Or.inl ⟨h1, fun s hs => ?_⟩
        by_cases hk2 : s = k
        · subst hk2; exact h
        · exact h2 s (by omega)
      · exact Or.inr h1
theorem first_eq (R : IM a K F S t D) : ((∀ s, s < S → ¬ a (20 + s) 6 = 0) ∧ fX3_firstOfQueue a = some (-1, a)) ∨ ∃ f, f < S ∧ a (20 + f) 6 = 0 ∧ fX3_firstOfQueue a = some (nI f, a) := first_lp R S 0 kFu (-1) 0 (by omega) (by have := R.S24; unfold kFu; omega) (Or.inl ⟨rfl, fun s hs => absurd hs (Nat.not_lt_zero s)⟩)
/-- the places of pledges -/
theorem p_ahead (R : IM a K F S t D) {s : Nat} (hs : s < S) : ∀ (j k n : Nat), k + j = S → j < n → fX3_pledgesAheadOf_b15 (nI s) n a (a (20 + s) 14) (nI (plP a k s)) (nI k) = some (nI (plP a S s), a) := by
  have hS := R.S24
  intro j
  induction j with
  | zero =>
    intro k n hk hn
    obtain ⟨n, rfl⟩ : ∃ z, n = z + 1 := ⟨n - 1, by omega⟩
    rw [fX3_pledgesAheadOf_b15, R.e7, if_pos (lp_out (by omega) (by omega)), show k = S by omega]
  | succ j ih =>
    intro k n hk hn
    obtain ⟨n, rfl⟩ : ∃ z, n = z + 1 := ⟨n - 1, by omega⟩
    have hks : k < S := by omega
    have h2 := ih (k + 1) n (by omega) (by omega)
    have hc : ∀ t0 : Int32, fX3_pledgesAheadOf_b63 (nI s) (fX3_pledgesAheadOf_b15 (nI s) n) a (a (20 + s) 14) (nI (plP a k s)) (nI k) t0 = if 0 < (a (20 + k) 11).toInt ∧ ¬ t0 = 0 then fX3_pledgesAheadOf_b15 (nI s) n a (a (20 + s) 14) (nI (plP a k s + 1)) (nI (k + 1)) else fX3_pledgesAheadOf_b15 (nI s) n a (a (20 + s) 14) (nI (plP a k s)) (nI (k + 1)) := by
      intro t0
      unfold fX3_pledgesAheadOf_b63 fX3_pledgesAheadOf_b86
      rw [if_pos (inb_nI (show k < 24 by omega) (by decide)), c_nI (by omega), k_hasP, bd_s]
      simp only [klet, nI_1]
      by_cases h : 0 < (a (20 + k) 11).toInt
      · rw [if_pos h, if_neg (show ¬ (1 : Int32) = 0 by decide)]
        by_cases h1 : t0 = 0
        · rw [if_pos h1, if_neg (fun z => z.2 h1)]
        · rw [if_neg h1, if_pos ⟨h, h1⟩]
      · rw [if_neg h, if_pos rfl, if_neg (fun z => h z.1)]
    have hp : plP a (k + 1) s = if 0 < (a (20 + k) 11).toInt ∧ ahP a k s = true then plP a k s + 1 else plP a k s := by
      unfold plP
      rw [cn]
      by_cases h : 0 < (a (20 + k) 11).toInt ∧ ahP a k s = true
      · rw [if_pos h, if_pos (by simp [plB, h.1, h.2])]
      · rw [if_neg h, if_neg (by
          simp only [plB, Bool.and_eq_true, decide_eq_true_eq]
          exact h)]
        rfl
    rw [fX3_pledgesAheadOf_b15, R.e7, if_neg (lp_in hks hS (by decide)), if_pos (inb_nI (show k < 24 by omega) (by decide)), c_nI (by omega), if_pos (inb24 (show k < 24 by omega)), ← h2]
    unfold fX3_pledgesAheadOf_b58 fX3_pledgesAheadOf_b62
    rw [hc, hc, hp]
    have yes : ahP a k s = true → (if 0 < (a (20 + k) 11).toInt ∧ ¬ (1 : Int32) = 0 then fX3_pledgesAheadOf_b15 (nI s) n a (a (20 + s) 14) (nI (plP a k s + 1)) (nI (k + 1)) else fX3_pledgesAheadOf_b15 (nI s) n a (a (20 + s) 14) (nI (plP a k s)) (nI (k + 1))) = fX3_pledgesAheadOf_b15 (nI s) n a (a (20 + s) 14) (nI (if 0 < (a (20 + k) 11).toInt ∧ ahP a k s = true then plP a k s + 1 else plP a k s)) (nI (k + 1)) := by
      intro hy
      by_cases h : 0 < (a (20 + k) 11).toInt
      · rw [if_pos ⟨h, by decide⟩, if_pos ⟨h, hy⟩]
      · rw [if_neg (fun z => h z.1), if_neg (fun z => h z.1)]
    have no : ¬ ahP a k s = true → (if 0 < (a (20 + k) 11).toInt ∧ ¬ (0 : Int32) = 0 then fX3_pledgesAheadOf_b15 (nI s) n a (a (20 + s) 14) (nI (plP a k s + 1)) (nI (k + 1)) else fX3_pledgesAheadOf_b15 (nI s) n a (a (20 + s) 14) (nI (plP a k s)) (nI (k + 1))) = fX3_pledgesAheadOf_b15 (nI s) n a (a (20 + s) 14) (nI (if 0 < (a (20 + k) 11).toInt ∧ ahP a k s = true then plP a k s + 1 else plP a k s)) (nI (k + 1)) := by
      intro hy
      rw [if_neg (fun z => z.2 rfl), if_neg (fun z => hy z.2)]
    by_cases h1 : a (20 + k) 14 < a (20 + s) 14
    · rw [if_pos h1]
      exact yes (decide_eq_true (Or.inl h1))
    · rw [if_neg h1]
      by_cases h3 : a (20 + k) 14 = a (20 + s) 14
      · rw [if_pos h3]
        by_cases h4 : k < s
        · rw [if_neg (nI_ge h4 (by omega))]
          exact yes (decide_eq_true (Or.inr ⟨h3, h4⟩))
        · rw [if_pos (nI_le (by omega) (by omega))]
          exact no (fun z => (of_decide_eq_true z).elim h1 (fun y => h4 y.2))
      · rw [if_neg h3]
        exact no (fun z => (of_decide_eq_true z).elim h1 (fun y => h3 y.1))
theorem k_ahead (R : IM a K F S t D) {s : Nat} (hs : s < S) : fX3_pledgesAheadOf a (nI s) = some (nI (plP a S s), a) := by
  have hS := R.S24
  unfold fX3_pledgesAheadOf
  rw [if_pos (inb_nI (show s < 24 by omega) (by decide)), c_nI (by omega), klet]
  exact p_ahead R hs S 0 kFu (by omega) (by unfold kFu; omega)
theorem pat_lp (R : IM a K F S t D) {v : Nat} (hv : v < 1000) : ∀ (j k n : Nat), k + j = S → j < n → (∃ s, s < S ∧ plB a s = true ∧ plP a S s = v ∧ fX3_sackOfPledge_b2 (nI v) n a (nI k) = some (nI s, a)) ∨ ∀ s, k ≤ s → s < S → plB a s = true → ¬ plP a S s = v := by
  have hS := R.S24
  intro j
  induction j with
  | zero =>
    intro k n hk hn
    exact Or.inr (fun s h1 h2 => by omega)
  | succ j ih =>
    intro k n hk hn
    obtain ⟨n, rfl⟩ : ∃ z, n = z + 1 := ⟨n - 1, by omega⟩
    have hks : k < S := by omega
    have hpl : plP a S k ≤ S := cn_le _ _
    rw [fX3_sackOfPledge_b2, R.e7, if_neg (lp_in hks hS (by decide)), if_pos (inb_nI (show k < 24 by omega) (by decide)), c_nI (by omega), k_hasP, bd_s, k_ahead R hks, bd_s]
    simp only [fX3_sackOfPledge_b33, klet, nI_1]
    by_cases h : 0 < (a (20 + k) 11).toInt
    · rw [if_pos h, if_neg (show ¬ (1 : Int32) = 0 by decide)]
      by_cases h1 : plP a S k = v
      · rw [if_pos (by rw [h1])]
        exact Or.inl ⟨k, hks, decide_eq_true h, h1, rfl⟩
      · rw [if_neg (fun z => h1 (nI_inj (by omega) (by omega) z))]
        rcases ih (k + 1) n (by omega) (by omega) with h2 | h2
        · exact Or.inl h2
        · refine Or.inr (fun s q1 q2 q3 => ?_)
          by_cases hk2 : s = k
          · subst hk2; exact h1
          · exact h2 s (by omega) q2 q3
    · rw [if_neg h, if_pos rfl]
      rcases ih (k + 1) n (by omega) (by omega) with h2 | h2
      · exact Or.inl h2
      · refine Or.inr (fun s q1 q2 q3 => ?_)
        by_cases hk2 : s = k
        · subst hk2; exact absurd (of_decide_eq_true q3) h
        · exact h2 s (by omega) q2 q3
theorem pledge_in (R : IM a K F S t D) {v : Nat} (hv : v < cn S (plB a)) : ∃ s, s < S ∧ plB a s = true ∧ plP a S s = v ∧ fX3_sackOfPledge a (nI v) = some (nI s, a) := by
  have hS := R.S24
  have hc := cn_le S (plB a)
  rcases pat_lp R (v := v) (by omega) S 0 kFu (by omega) (by unfold kFu; omega) with h | h
  · exact h
  · obtain ⟨s, h1, h2, h3⟩ := rank_ex (ahP_irr a) (ahP_tr a) (ahP_tot a S) hv
    exact absurd h3 (h s (by omega) h1 h2)
theorem k_tellP (R : IM a K F S t D) {s : Nat} (hs : s < S) (v : Int32) : fX3_tellPledge a (nI s) v = some (if v = 0 then nI s else if v = 1 then a (20 + s) 11 else if v = 2 then a (20 + s) 12 else if v = 3 then a (20 + s) 13 else a (20 + s) 14, a) := by
  have hS := R.S24
  unfold fX3_tellPledge
  rw [if_pos (inb_nI (show s < 24 by omega) (by decide)), c_nI (by omega)]
  repeat' split
  all_goals rfl
end QU
