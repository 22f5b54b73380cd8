/-! counts and sums over ranges; places in an order -/
def cn : Nat → (Nat → Bool) → Nat
  | 0, _ => 0
  | n + 1, p => cn n p + (if p n = true then 1 else 0)
def sm : Nat → (Nat → Int32) → Int32
  | 0, _ => 0
  | n + 1, f => sm n f + f n
theorem cn_le (n : Nat) (p : Nat → Bool) : cn n p ≤ n := by
  induction n with
  | zero => exact Nat.le_refl 0
  | succ n ih => unfold cn; split <;> omega
theorem cn_cg {n : Nat} {p q : Nat → Bool} (h : ∀ i, i < n → p i = q i) : cn n p = cn n q := by
  induction n with
  | zero => rfl
  | succ n ih => unfold cn; rw [ih (fun i hi => h i (by omega)), h n (by omega)]
theorem sm_cg {n : Nat} {f g : Nat → Int32} (h : ∀ i, i < n → f i = g i) : sm n f = sm n g := by
  induction n with
  | zero => rfl
  | succ n ih => unfold sm; rw [ih (fun i hi => h i (by omega)), h n (by omega)]
theorem cn_mono {n : Nat} {p q : Nat → Bool} (h : ∀ i, i < n → p i = true → q i = true) : cn n p ≤ cn n q := by
  induction n with
  | zero => exact Nat.le_refl 0
  | succ n ih =>
    have h1 := ih (fun i hi => h i (by omega))
    have h2 := h n (by omega)
    unfold cn
    by_cases hp : p n = true
    · rw [if_pos hp, if_pos (h2 hp)]; omega
    · rw [if_neg hp]; omega
theorem cn_lt {n s : Nat} {p q : Nat → Bool} (h : ∀ i, i < n → p i = true → q i = true) (hs : s < n) (hq : q s = true) (hp : ¬ p s = true) : cn n p < cn n q := by
  induction n with
  | zero => omega
  | succ n ih =>
    by_cases hsn : s = n
    · subst hsn
      have h1 := cn_mono (n := s) (p := p) (q := q) (fun i hi => h i (by omega))
      unfold cn
      rw [if_neg hp, if_pos hq]
      omega
    · have h1 := ih (fun i hi => h i (by omega)) (by omega)
      have h2 := h n (by omega)
      unfold cn
      by_cases hp' : p n = true
      · rw [if_pos hp', if_pos (h2 hp')]; omega
      · rw [if_neg hp']; omega
theorem cn_zero {n : Nat} {p : Nat → Bool} (h : ∀ i, i < n → ¬ p i = true) : cn n p = 0 := by
  induction n with
  | zero => rfl
  | succ n ih => unfold cn; rw [ih (fun i hi => h i (by omega)), if_neg (h n (by omega))]
theorem cn_ex {n : Nat} {p : Nat → Bool} (h : 0 < cn n p) : ∃ i, i < n ∧ p i = true := by
  induction n with
  | zero => exact absurd h (Nat.lt_irrefl 0)
  | succ n ih =>
    by_cases hp : p n = true
    · exact ⟨n, by omega, hp⟩
    · unfold cn at h
      rw [if_neg hp] at h
      obtain ⟨i, h1, h2⟩ := ih (by omega)
      exact ⟨i, by omega, h2⟩
theorem cn_one {n : Nat} {p : Nat → Bool} (h : ∀ i j, i < n → j < n → p i = true → p j = true → i = j) : cn n p ≤ 1 := by
  induction n with
  | zero => exact Nat.zero_le 1
  | succ n ih =>
    unfold cn
    by_cases hp : p n = true
    · rw [if_pos hp, cn_zero (fun i hi hpi => by have := h i n (by omega) (by omega) hpi hp; omega)]
      exact Nat.le_refl 1
    · rw [if_neg hp]
      exact ih (fun i j hi hj => h i j (by omega) (by omega))
theorem cn_is1 {n s : Nat} {p : Nat → Bool} (hs : s < n) (hp : p s = true) (h : ∀ i, i < n → p i = true → i = s) : cn n p = 1 := by
  have h1 := cn_one (n := n) (p := p) (fun i j hi hj a b => (h i hi a).trans (h j hj b).symm)
  have h2 := cn_lt (n := n) (s := s) (p := fun _ => false) (q := p) (fun i hi z => by cases z) hs hp (fun z => by cases z)
  omega
theorem cn_or {n : Nat} {p q r : Nat → Bool} (h : ∀ i, i < n → (r i = true ↔ p i = true ∨ q i = true)) (hd : ∀ i, i < n → p i = true → ¬ q i = true) : cn n r = cn n p + cn n q := by
  induction n with
  | zero => rfl
  | succ n ih =>
    unfold cn
    rw [ih (fun i hi => h i (by omega)) (fun i hi => hd i (by omega))]
    have h1 := h n (by omega)
    have h2 := hd n (by omega)
    by_cases hp : p n = true
    · rw [if_pos (h1.mpr (Or.inl hp)), if_pos hp, if_neg (h2 hp)]; omega
    · by_cases hq : q n = true
      · rw [if_pos (h1.mpr (Or.inr hq)), if_neg hp, if_pos hq]; omega
      · rw [if_neg (fun z => (h1.mp z).elim hp hq), if_neg hp, if_neg hq]; omega
theorem cn_all {n : Nat} {p : Nat → Bool} (h : ∀ i, i < n → p i = true) : cn n p = n := by
  induction n with
  | zero => rfl
  | succ n ih => unfold cn; rw [ih (fun i hi => h i (by omega)), if_pos (h n (by omega))]
/-- every place below the count is somebody's -/
theorem rank_ex {S : Nat} {p : Nat → Bool} {ah : Nat → Nat → Bool} (irr : ∀ i, ¬ ah i i = true) (tr : ∀ i j k, ah i j = true → ah j k = true → ah i k = true) (tot : ∀ i j, i < S → j < S → i ≠ j → ah i j = true ∨ ah j i = true) {k : Nat} (hk : k < cn S p) : ∃ s, s < S ∧ p s = true ∧ cn S (fun i => p i && ah i s) = k := by
  have lt : ∀ s, s < S → p s = true → cn S (fun i => p i && ah i s) < cn S p := fun s hs hp => cn_lt (s := s) (fun i _ h => by simp at h; exact h.1) hs hp (by simp [irr s])
  have st : ∀ i j, i < S → p i = true → ah i j = true → cn S (fun x => p x && ah x i) < cn S (fun x => p x && ah x j) := fun i j hi hp h => cn_lt (s := i) (fun x _ hx => by
    simp only [Bool.and_eq_true] at hx ⊢
    exact ⟨hx.1, tr x i j hx.2 h⟩) hi (by simp [hp, h]) (by simp [irr i])
  apply Classical.byContradiction
  intro hne
  have none : ∀ s, s < S → p s = true → ¬ cn S (fun i => p i && ah i s) = k := fun s hs hp h => hne ⟨s, hs, hp, h⟩
  have key : ∀ n, cn S (fun s => p s && decide (cn S (fun i => p i && ah i s) < n)) + (if k < n then 1 else 0) ≤ n := by
    intro n
    induction n with
    | zero =>
      rw [cn_zero (fun i _ h => by simp at h), if_neg (by omega)]
      exact Nat.le_refl 0
    | succ n ih =>
      have e : cn S (fun s => p s && decide (cn S (fun i => p i && ah i s) < n + 1)) = cn S (fun s => p s && decide (cn S (fun i => p i && ah i s) < n)) + cn S (fun s => p s && decide (cn S (fun i => p i && ah i s) = n)) := by
        refine cn_or (fun i _ => ?_) (fun i _ => ?_)
        · simp only [Bool.and_eq_true, decide_eq_true_eq]
          constructor
          · rintro ⟨h1, h2⟩
            by_cases h3 : cn S (fun x => p x && ah x i) < n
            · exact Or.inl ⟨h1, h3⟩
            · exact Or.inr ⟨h1, by omega⟩
          · rintro (⟨h1, h2⟩ | ⟨h1, h2⟩)
            · exact ⟨h1, by omega⟩
            · exact ⟨h1, by omega⟩
        · simp only [Bool.and_eq_true, decide_eq_true_eq]
          rintro ⟨h1, h2⟩ ⟨h3, h4⟩
          omega
      have one : cn S (fun s => p s && decide (cn S (fun i => p i && ah i s) = n)) ≤ 1 := by
        refine cn_one (fun i j hi hj h1 h2 => ?_)
        simp only [Bool.and_eq_true, decide_eq_true_eq] at h1 h2
        apply Classical.byContradiction
        intro hij
        rcases tot i j hi hj hij with h | h
        · have := st i j hi h1.1 h
          omega
        · have := st j i hj h2.1 h
          omega
      by_cases hn : n = k
      · have z : cn S (fun s => p s && decide (cn S (fun i => p i && ah i s) = n)) = 0 := by
          refine cn_zero (fun i hi h => ?_)
          simp only [Bool.and_eq_true, decide_eq_true_eq] at h
          exact none i hi h.1 (h.2.trans hn)
        rw [e, z]
        rw [if_neg (by omega)] at ih
        rw [if_pos (by omega)]
        omega
      · rw [e]
        by_cases hk' : k < n
        · rw [if_pos hk'] at ih
          rw [if_pos (by omega)]
          omega
        · rw [if_neg hk'] at ih
          rw [if_neg (by omega)]
          omega
  have h1 := key (cn S p)
  rw [if_pos hk] at h1
  have h2 : cn S (fun s => p s && decide (cn S (fun i => p i && ah i s) < cn S p)) = cn S p := cn_cg (fun i hi => by
    by_cases hp : p i = true
    · rw [hp, decide_eq_true (lt i hi hp)]; rfl
    · simp [hp])
  omega
/-- a place is below the count; who has the lesser place is ahead -/
theorem rank_lt {S s : Nat} {p : Nat → Bool} {ah : Nat → Nat → Bool} (irr : ∀ i, ¬ ah i i = true) (hs : s < S) (hp : p s = true) : cn S (fun i => p i && ah i s) < cn S p := cn_lt (s := s) (fun i _ h => by simp at h; exact h.1) hs hp (by simp [irr s])
theorem rank_ah {S i j : Nat} {p : Nat → Bool} {ah : Nat → Nat → Bool} (irr : ∀ i, ¬ ah i i = true) (tr : ∀ i j k, ah i j = true → ah j k = true → ah i k = true) (tot : ∀ i j, i < S → j < S → i ≠ j → ah i j = true ∨ ah j i = true) (hi : i < S) (hj : j < S) (hp : p j = true) (h : cn S (fun x => p x && ah x i) < cn S (fun x => p x && ah x j)) : ah i j = true := by
  by_cases hij : i = j
  · subst hij; omega
  · rcases tot i j hi hj hij with h1 | h1
    · exact h1
    · have := cn_lt (n := S) (s := j) (p := fun x => p x && ah x j) (q := fun x => p x && ah x i) (fun x _ hx => by
        simp only [Bool.and_eq_true] at hx ⊢
        exact ⟨hx.1, tr x j i hx.2 h1⟩) hj (by simp [hp, h1]) (by simp [irr j])
      omega
theorem sm_0 (n : Nat) : sm n (fun _ => 0) = 0 := by
  induction n with
  | zero => rfl
  | succ n ih => unfold sm; rw [ih]; rfl
theorem add4 (a b c d : Int32) : a + b + (c + d) = a + c + (b + d) := by
  rw [Int32.add_assoc, Int32.add_assoc, ← Int32.add_assoc b c d, ← Int32.add_assoc c b d, Int32.add_comm b c]
theorem sm_add (n : Nat) (f g : Nat → Int32) : sm n (fun i => f i + g i) = sm n f + sm n g := by
  induction n with
  | zero => rfl
  | succ n ih => unfold sm; rw [ih, add4]
theorem sm_swap (n k : Nat) (f : Nat → Nat → Int32) : sm n (fun i => sm k (fun j => f i j)) = sm k (fun j => sm n (fun i => f i j)) := by
  induction n with
  | zero => exact (sm_0 k).symm
  | succ n ih =>
    show sm n (fun i => sm k (fun j => f i j)) + sm k (fun j => f n j) = _
    rw [ih, ← sm_add]
    rfl
theorem sm_at {n s : Nat} (v : Int32) (h : s < n) : sm n (fun i => if i = s then v else 0) = v := by
  induction n with
  | zero => omega
  | succ n ih =>
    show sm n (fun i => if i = s then v else 0) + (if n = s then v else 0) = v
    by_cases hs : s = n
    · subst hs
      rw [if_pos rfl, sm_cg (g := fun _ => 0) (fun i hi => if_neg (by omega)), sm_0, Int32.zero_add]
    · rw [if_neg (fun z => hs z.symm), ih (by omega), Int32.add_zero]
theorem nI_cn (n : Nat) (p : Nat → Bool) : nI (cn n p) = sm n (fun i => if p i = true then 1 else 0) := by
  induction n with
  | zero => rfl
  | succ n ih =>
    show nI (cn n p + (if p n = true then 1 else 0)) = sm n (fun i => if p i = true then 1 else 0) + (if p n = true then 1 else 0)
    rw [← ih]
    by_cases h : p n = true
    · rw [if_pos h, if_pos h, nI_1]
    · rw [if_neg h, if_neg h, Int32.add_zero, Nat.add_zero]
/-- a sum by groups is the sum -/
theorem sm_by {n F : Nat} (w : Nat → Nat) (v : Nat → Int32) (h : ∀ i, i < n → w i < F) : sm F (fun f => sm n (fun i => if w i = f then v i else 0)) = sm n v := by
  rw [sm_swap]
  exact sm_cg (fun i hi => (sm_cg (fun j _ => ite_i (Iff.intro (fun z => z.symm) (fun z => z.symm)))).trans (sm_at (v i) (h i hi)))
