/-! reading a text, alike -/
def TR (c x : kM1) (l p : Nat) : Prop := c 3 2 = nI l ∧ x 0 6 = nI l ∧ l ≤ 60 ∧ (∀ k, k < l → c 4 k = x 5 k) ∧ c 3 3 = nI p ∧ x 0 7 = nI p ∧ p ≤ l
/-- what reading leaves as it is -/
def TF (c c' x x' : kM1) : Prop := (∀ j, j ≠ 3 → j ≠ 5 → c' j = c j) ∧ (∀ k, k ≠ 3 → c' 3 k = c 3 k) ∧ (∀ j, j ≠ 0 → j ≠ 6 → x' j = x j) ∧ ∀ k, k ≠ 7 → x' 0 k = x 0 k
theorem TF.rf (c x : kM1) : TF c c x x := ⟨fun _ _ _ => rfl, fun _ _ => rfl, fun _ _ _ => rfl, fun _ _ => rfl⟩
theorem TF.tr {c c' c'' x x' x'' : kM1} (h : TF c c' x x') (g : TF c' c'' x' x'') : TF c c'' x x'' := ⟨fun j h1 h2 => (g.1 j h1 h2).trans (h.1 j h1 h2), fun k h1 => (g.2.1 k h1).trans (h.2.1 k h1), fun j h1 h2 => (g.2.2.1 j h1 h2).trans (h.2.2.1 j h1 h2), fun k h1 => (g.2.2.2 k h1).trans (h.2.2.2 k h1)⟩
/-- both go on by one -/
theorem TR.go {c x : kM1} {l p : Nat} (T : TR c x l p) (h : p < l) : TR (mu c 3 3 (nI (p + 1))) (mu x 0 7 (nI (p + 1))) l (p + 1) := by
  obtain ⟨t1, t2, t3, t4, t5, t6, t7⟩ := T
  refine ⟨by rw [mu_eq, upd_ne (by decide)]; exact t1, by rw [mu_eq, upd_ne (by decide)]; exact t2, t3, fun k hk => by rw [mu_ne (by decide), mu_ne (by decide)]; exact t4 k hk, by rw [mu_eq, upd_eq], by rw [mu_eq, upd_eq], h⟩
theorem TF.go (c x : kM1) (v u : Int32) : TF c (mu c 3 3 v) x (mu x 0 7 u) := ⟨fun j h1 _ => mu_ne h1, fun k h => by rw [mu_eq, upd_ne h], fun j h1 _ => mu_ne h1, fun k h => by rw [mu_eq, upd_ne h]⟩
/-- numbers are stored -/
theorem TR.st {c x : kM1} {l p : Nat} (T : TR c x l p) (i : Nat) (v u : Int32) : TR (mu c 5 i v) (mu x 6 i u) l p := by
  obtain ⟨t1, t2, t3, t4, t5, t6, t7⟩ := T
  exact ⟨by rw [mu_ne (by decide)]; exact t1, by rw [mu_ne (by decide)]; exact t2, t3, fun k hk => by rw [mu_ne (by decide), mu_ne (by decide)]; exact t4 k hk, by rw [mu_ne (by decide)]; exact t5, by rw [mu_ne (by decide)]; exact t6, t7⟩
theorem TR.stc {c x : kM1} {l p : Nat} (T : TR c x l p) (i : Nat) (v : Int32) : TR (mu c 5 i v) x l p := by
  obtain ⟨t1, t2, t3, t4, t5, t6, t7⟩ := T
  exact ⟨by rw [mu_ne (by decide)]; exact t1, t2, t3, fun k hk => by rw [mu_ne (by decide)]; exact t4 k hk, by rw [mu_ne (by decide)]; exact t5, t6, t7⟩
theorem TR.stx {c x : kM1} {l p : Nat} (T : TR c x l p) (i : Nat) (u : Int32) : TR c (mu x 6 i u) l p := by
  obtain ⟨t1, t2, t3, t4, t5, t6, t7⟩ := T
  exact ⟨t1, by rw [mu_ne (by decide)]; exact t2, t3, fun k hk => by rw [mu_ne (by decide)]; exact t4 k hk, t5, by rw [mu_ne (by decide)]; exact t6, t7⟩
theorem TF.stc (c x : kM1) (i : Nat) (v : Int32) : TF c (mu c 5 i v) x x := ⟨fun j _ h => mu_ne h, fun k _ => by rw [mu_ne (by decide)], fun _ _ _ => rfl, fun _ _ => rfl⟩
theorem TF.stx (c x : kM1) (i : Nat) (v : Int32) : TF c c x (mu x 6 i v) := ⟨fun _ _ _ => rfl, fun _ _ => rfl, fun j _ h => mu_ne h, fun k _ => by rw [mu_ne (by decide)]⟩
theorem sign_eq {c x : kM1} {l p : Nat} (T : TR c x l p) (v : Int32) : (p < l ∧ ∃ c' x', fX4_readSign c v = some (1, c') ∧ fX7_passes x v = some (1, x') ∧ TR c' x' l (p + 1) ∧ TF c c' x x' ∧ c' 5 = c 5 ∧ x' 6 = x 6) ∨ (∃ x', fX4_readSign c v = some (0, c) ∧ fX7_passes x v = some (0, x') ∧ TF c c x x') := by
  obtain ⟨t1, t2, t3, t4, t5, t6, t7⟩ := id T
  have P0 : fX7_passes_b29 v x 0 = some (0, mu x 0 7 (nI p)) := by
    unfold fX7_passes_b29 fX7_passes_b44
    rw [if_pos z00, klet, if_pos (Or.inl rfl), t6, Int32.add_zero]
  have P1 : fX7_passes_b29 v x 1 = some (1, mu x 0 7 (nI p + 1)) := by
    unfold fX7_passes_b29 fX7_passes_b44
    rw [if_neg n10, klet, if_pos (Or.inr rfl), t6]
  unfold fX4_readSign fX7_passes fX7_passes_b28
  rw [P0, P1, t1, t5, t2, t6]
  by_cases h : p < l
  · rw [if_neg (lp_in (n := 60) h t3 (by decide)), if_neg (lp_in (n := 60) h t3 (by decide)), if_pos (inb_nI (show p < 60 by omega) (by decide)), if_pos (inb_nI (show p < 60 by omega) (by decide)), c_nI (by omega), t4 p h]
    by_cases h2 : x 5 p = v
    · rw [if_pos h2, if_pos h2, klet, nI_1]
      exact Or.inl ⟨h, _, _, rfl, rfl, T.go h, TF.go c x _ _, mu_ne (by decide), mu_ne (by decide)⟩
    · rw [if_neg h2, if_neg h2]
      exact Or.inr ⟨_, rfl, rfl, ⟨fun _ _ _ => rfl, fun _ _ => rfl, fun j h1 _ => mu_ne h1, fun k h => by rw [mu_eq, upd_ne h]⟩⟩
  · rw [if_pos (lp_out (by omega) (by omega)), if_pos (lp_out (by omega) (by omega))]
    exact Or.inr ⟨_, rfl, rfl, ⟨fun _ _ _ => rfl, fun _ _ => rfl, fun j h1 _ => mu_ne h1, fun k h => by rw [mu_eq, upd_ne h]⟩⟩
theorem dig (v ch : Int32) : v * 10 + (ch - 48) = 10 * v + ch - 48 := by
  rw [Int32.mul_comm, Int32.sub_eq_add_neg, Int32.sub_eq_add_neg, Int32.add_assoc]
theorem upd_upd (f : Nat → Int32) (k : Nat) (v u : Int32) : upd (upd f k v) k u = upd f k u := by
  funext q
  by_cases h : q = k
  · subst h
    rw [upd_eq, upd_eq]
  · rw [upd_ne h, upd_ne h, upd_ne h]
theorem num_lp {i l f0 : Nat} (hi : i < 3) : ∀ (j g n n' p : Nat) (v : Int32) (c x : kM1), TR c x l p → g + j = 3 → p = f0 + g → x 6 i = v → j < n → j < n' → ∃ r v' c' x' p', fX4_readNumber_b4 (nI i) n c (nI g) v = some (r, c') ∧ fX7_takes_b12 (nI i) n' x (nI f0) = some (r, x') ∧ (r = 0 ∨ r = 1) ∧ TR c' x' l p' ∧ p ≤ p' ∧ TF c c' x x' ∧ c' 5 = upd (c 5) i v' ∧ x' 6 = upd (x 6) i v' := by
  intro j
  -- the end
  have fin : ∀ (g p : Nat) (v : Int32) (c x : kM1), TR c x l p → g ≤ 3 → p = f0 + g → x 6 i = v → ∃ r v' c' x' p', fX4_readNumber_b73 (nI i) c (nI g) v = some (r, c') ∧ fX7_takes_b93 (nI i) x (nI f0) = some (r, x') ∧ (r = 0 ∨ r = 1) ∧ TR c' x' l p' ∧ p ≤ p' ∧ TF c c' x x' ∧ c' 5 = upd (c 5) i v' ∧ x' 6 = upd (x 6) i v' := by
    intro g p v c x T hg hp hv
    obtain ⟨t1, t2, t3, t4, t5, t6, t7⟩ := id T
    have e6 : x 6 = upd (x 6) i v := by
      funext q
      by_cases z : q = i
      · subst z
        rw [upd_eq, hv]
      · rw [upd_ne z]
    unfold fX4_readNumber_b73 fX7_takes_b93
    rw [if_pos (inb_nI hi (by decide)), c_nI (by omega), klet, t6]
    by_cases h : g = 0
    · subst h
      rw [if_pos (show nI 0 ≤ (0 : Int32) from nI_le (Nat.le_refl 0) (by decide)), if_pos (lp_out (by omega) (by omega))]
      exact ⟨0, v, _, _, p, rfl, rfl, Or.inl rfl, T.stc i v, Nat.le_refl _, TF.stc c x i v, mu_eq _ _ _ _, e6⟩
    · rw [if_neg (show ¬ nI g ≤ (0 : Int32) from nI_ge (a := 0) (by omega) (by omega)), if_neg (show ¬ nI p ≤ nI f0 from nI_ge (by omega) (by omega))]
      exact ⟨1, v, _, _, p, rfl, rfl, Or.inr rfl, T.stc i v, Nat.le_refl _, TF.stc c x i v, mu_eq _ _ _ _, e6⟩
  induction j with
  | zero =>
    intro g n n' p v c x T hg hp hv hn hn'
    obtain ⟨t1, t2, t3, t4, t5, t6, t7⟩ := id T
    obtain ⟨n, rfl⟩ : ∃ z, n = z + 1 := ⟨n - 1, by omega⟩
    obtain ⟨n', rfl⟩ : ∃ z, n' = z + 1 := ⟨n' - 1, by omega⟩
    have e3 : nI f0 + 3 = nI (f0 + 3) := by rw [show (3 : Int32) = nI 3 from rfl, nI_add]
    rw [fX4_readNumber_b4, if_pos (lit_le (c := 3) (S := 3) rfl (by omega) (by omega)), fX7_takes_b12, t2, t6, e3, if_pos (lp_out (show f0 + 3 ≤ p by omega) (by omega)), ite_self]
    exact fin g p v c x T (by omega) hp hv
  | succ j ih =>
    intro g n n' p v c x T hg hp hv hn hn'
    obtain ⟨t1, t2, t3, t4, t5, t6, t7⟩ := id T
    obtain ⟨n, rfl⟩ : ∃ z, n = z + 1 := ⟨n - 1, by omega⟩
    obtain ⟨n', rfl⟩ : ∃ z, n' = z + 1 := ⟨n' - 1, by omega⟩
    have e3 : nI f0 + 3 = nI (f0 + 3) := by rw [show (3 : Int32) = nI 3 from rfl, nI_add]
    rw [fX4_readNumber_b4, if_neg (lit_nle (c := 3) (S := 3) rfl (by omega) (by decide)), t1, t5, fX7_takes_b12, t2, t6, e3, if_neg (show ¬ nI (f0 + 3) ≤ nI p from nI_ge (by omega) (by omega))]
    by_cases h : p < l
    · rw [if_neg (lp_in (n := 60) h t3 (by decide)), if_neg (lp_in (n := 60) h t3 (by decide)), if_pos (inb_nI (show p < 60 by omega) (by decide)), if_pos (inb_nI (show p < 60 by omega) (by decide)), c_nI (show p < 2147483648 by omega), t4 p h, k_in, bd_s, g_in, bd_s]
      by_cases h2 : (48 : Int32).toInt ≤ (x 5 p).toInt ∧ (x 5 p).toInt ≤ (57 : Int32).toInt
      · rw [if_pos h2, if_neg n10, if_neg n10, t5, if_pos (inb_nI (show p < 60 by omega) (by decide)), klet, klet, klet, c_nI (show p < 2147483648 by omega), t4 p h, nI_1, nI_1, if_pos (inb_nI hi (by decide)), t6, if_pos (inb_nI (show p < 60 by omega) (by decide)), if_pos (inb_nI hi (by decide)), klet, klet, c_nI (show i < 2147483648 by omega), c_nI (show p < 2147483648 by omega), hv, dig, mu_ne (show (0 : Nat) ≠ 6 by decide), t6, nI_1]
        have T1 := (T.stx i (10 * v + x 5 p - 48)).go h
        obtain ⟨r, v', c', x', p', q1, q2, q3, q4, q5, q6, q7, q8⟩ := ih (g + 1) n n' (p + 1) (10 * v + x 5 p - 48) _ _ T1 (by omega) (by omega) (by rw [mu_ne (by decide), mu_eq, upd_eq]) (by omega) (by omega)
        refine ⟨r, v', c', x', p', q1, q2, q3, q4, by omega, ((TF.stx c x i _).tr (TF.go _ _ _ _)).tr q6, by rw [q7, mu_ne (by decide)], by rw [q8, mu_ne (by decide), mu_eq, upd_upd]⟩
      · rw [if_neg h2, if_pos z00, if_pos z00]
        exact fin g p v c x T (by omega) hp hv
    · rw [if_pos (lp_out (by omega) (by omega)), if_pos (lp_out (by omega) (by omega))]
      exact fin g p v c x T (by omega) hp hv
theorem number_eq {c x : kM1} {l p i : Nat} (T : TR c x l p) (hi : i < 3) : ∃ r v' c' x' p', fX4_readNumber c (nI i) = some (r, c') ∧ fX7_takes x (nI i) = some (r, x') ∧ (r = 0 ∨ r = 1) ∧ TR c' x' l p' ∧ p ≤ p' ∧ TF c c' x x' ∧ c' 5 = upd (c 5) i v' ∧ x' 6 = upd (x 6) i v' := by
  have T1 := T.stx i 0
  obtain ⟨r, v', c', x', p', q1, q2, q3, q4, q5, q6, q7, q8⟩ := num_lp (f0 := p) hi 3 0 kFu kFu p 0 c _ T1 (by omega) (by omega) (by rw [mu_eq, upd_eq]) (by unfold kFu; omega) (by unfold kFu; omega)
  rw [nI_0] at q1
  unfold fX4_readNumber fX7_takes
  rw [klet, if_pos (inb_nI hi (by decide)), klet, c_nI (by omega), T.2.2.2.2.2.1]
  exact ⟨r, v', c', x', p', q1, q2, q3, q4, q5, (TF.stx c x i 0).tr q6, q7, by rw [q8, mu_eq, upd_upd]⟩
/-- how many numbers an order has -/
def nbN (v : Int32) : Nat := if v = 98 then 3 else if v = 102 then 1 else if v = 103 then 1 else if v = 112 then 2 else if v = 114 then 1 else 0
theorem k_nb {μ : Type} (x : μ) (v : Int32) : fX4_numbersAfter x v = some (nI (nbN v), x) := by
  unfold fX4_numbersAfter nbN
  by_cases h1 : v = 98
  · rw [if_pos h1, if_pos h1]
    rfl
  · rw [if_neg h1, if_neg h1]
    by_cases h2 : v = 102
    · rw [if_pos h2, if_pos h2]
      rfl
    · rw [if_neg h2, if_neg h2]
      by_cases h3 : v = 103
      · rw [if_pos h3, if_pos h3]
        rfl
      · rw [if_neg h3, if_neg h3]
        by_cases h4 : v = 112
        · rw [if_pos h4, if_pos h4]
          rfl
        · rw [if_neg h4, if_neg h4]
          by_cases h5 : v = 114
          · rw [if_pos h5, if_pos h5]
            rfl
          · rw [if_neg h5, if_neg h5]
            rfl
theorem g_nb {μ : Type} (x : μ) (v : Int32) : fX7_numbers x v = some (nI (nbN v), x) := by
  by_cases h1 : v = 98
  · subst h1
    rfl
  · by_cases h2 : v = 102
    · subst h2
      rfl
    · by_cases h3 : v = 103
      · subst h3
        rfl
      · by_cases h4 : v = 112
        · subst h4
          rfl
        · by_cases h5 : v = 114
          · subst h5
            rfl
          · unfold fX7_numbers nbN
            rw [if_neg h1, if_neg h4, if_neg h2, if_neg h5, if_neg h3, if_neg h1, if_neg h2, if_neg h3, if_neg h4, if_neg h5]
            rfl
theorem nb3 (v : Int32) : nbN v ≤ 3 := by
  unfold nbN
  split
  · omega
  · split
    · omega
    · split
      · omega
      · split
        · omega
        · split <;> omega
theorem form_lp {l u : Nat} (hu : u ≤ 3) (hu0 : 1 ≤ u) : ∀ (j i n n' p : Nat) (c x : kM1), TR c x l p → i + j = u → (∀ q, q < i → c 5 q = x 6 q) → j < n → j + 1 < n' → ∃ r c' x', fX4_readOrder_b25 n c (nI u) (nI i) = some (r, c') ∧ fX7_readsForm_b12 (nI u) n' x 1 (nI i) = some (r, x') ∧ TF c c' x x' ∧ (r = 0 ∨ (r = 1 ∧ (∃ p', p ≤ p' ∧ TR c' x' l p') ∧ ∀ q, q < u → c' 5 q = x' 6 q)) := by
  intro j
  induction j with
  | zero =>
    intro i n n' p c x T hi hq hn hn'
    obtain ⟨n, rfl⟩ : ∃ z, n = z + 1 := ⟨n - 1, by omega⟩
    obtain ⟨n', rfl⟩ : ∃ z, n' = z + 1 := ⟨n' - 1, by omega⟩
    have ei : i = u := by omega
    subst ei
    rw [fX4_readOrder_b25, if_pos (lp_out (Nat.le_refl _) (by omega)), if_neg (show ¬ nI i ≤ (0 : Int32) from nI_ge (a := 0) (by omega) (by omega)), fX7_readsForm_b12, if_pos (lp_out (Nat.le_refl _) (by omega))]
    unfold fX7_readsForm_b54
    rw [if_neg n10]
    rcases sign_eq T 59 with ⟨hp, c', x', s1, s2, s3, s4, s5, s6⟩ | ⟨x', s1, s2, s4⟩
    · rw [s1, bd_s, s2, bd_s, if_neg n10, if_neg n10]
      exact ⟨1, c', x', rfl, rfl, s4, Or.inr ⟨rfl, ⟨p + 1, by omega, s3⟩, fun q h => by rw [s5, s6]; exact hq q h⟩⟩
    · rw [s1, bd_s, s2, bd_s, if_pos z00, if_pos z00]
      exact ⟨0, c, x', rfl, rfl, s4, Or.inl rfl⟩
  | succ j ih =>
    intro i n n' p c x T hi hq hn hn'
    obtain ⟨n, rfl⟩ : ∃ z, n = z + 1 := ⟨n - 1, by omega⟩
    obtain ⟨n', rfl⟩ : ∃ z, n' = z + 1 := ⟨n' - 1, by omega⟩
    have stop : ∀ (x : kM1) (k : Nat), fX7_readsForm_b12 (nI u) n' x 0 (nI k) = some (0, x) := by
      intro x k
      obtain ⟨n', rfl⟩ : ∃ z, n' = z + 1 := ⟨n' - 1, by omega⟩
      rw [fX7_readsForm_b12]
      unfold fX7_readsForm_b54
      rw [if_pos z00, if_pos z00, ite_self]
    have num : ∀ (c x : kM1) (p0 : Nat), p ≤ p0 → TR c x l p0 → (∀ q, q < i → c 5 q = x 6 q) → ∃ r c' x', fX4_readOrder_b43 (fX4_readOrder_b25 n) c (nI u) (nI i) = some (r, c') ∧ fX7_readsForm_b34 (nI u) (fX7_readsForm_b12 (nI u) n') x (nI i) = some (r, x') ∧ TF c c' x x' ∧ (r = 0 ∨ (r = 1 ∧ (∃ p', p ≤ p' ∧ TR c' x' l p') ∧ ∀ q, q < u → c' 5 q = x' 6 q)) := by
      intro c x p0 hp0 T hq
      unfold fX4_readOrder_b43 fX7_readsForm_b34 fX7_readsForm_b46 fX7_readsForm_b47
      obtain ⟨r, v', c', x', p', q1, q2, q3, q4, q5, q6, q7, q8⟩ := number_eq T (i := i) (by omega)
      rw [q1, bd_s, q2, bd_s]
      rcases q3 with z | z
      · subst z
        rw [if_pos z00, if_pos z00, klet, nI_1, stop]
        exact ⟨0, c', x', rfl, rfl, q6, Or.inl rfl⟩
      · subst z
        rw [if_neg n10, if_neg n10, klet, klet, nI_1]
        obtain ⟨r, c'', x'', y1, y2, y3, y4⟩ := ih (i + 1) n n' p' c' x' q4 (by omega) (fun q hq' => by
          rw [q7, q8]
          by_cases z : q = i
          · subst z
            rw [upd_eq, upd_eq]
          · rw [upd_ne z, upd_ne z]
            exact hq q (by omega)) (by omega) (by omega)
        refine ⟨r, c'', x'', y1, y2, q6.tr y3, ?_⟩
        rcases y4 with z | ⟨z, ⟨p'', z1, z2⟩, z3⟩
        · exact Or.inl z
        · exact Or.inr ⟨z, ⟨p'', by omega, z2⟩, z3⟩
    rw [fX4_readOrder_b25, if_neg (lp_in (n := 3) (by omega) hu (by decide)), fX7_readsForm_b12, if_neg (lp_in (n := 3) (by omega) hu (by decide)), if_neg n10]
    by_cases h0 : i = 0
    · subst h0
      rw [if_pos (show nI 0 ≤ (0 : Int32) from nI_le (Nat.le_refl 0) (by decide)), if_pos (show nI 0 = 0 from rfl)]
      exact num c x p (Nat.le_refl _) T hq
    · rw [if_neg (show ¬ nI i ≤ (0 : Int32) from nI_ge (a := 0) (by omega) (by omega)), if_neg (show ¬ nI i = 0 from fun z => h0 (nI_inj (by omega) (by decide) (z.trans (show (0 : Int32) = nI 0 from rfl))))]
      rcases sign_eq T 44 with ⟨hp, c', x', s1, s2, s3, s4, s5, s6⟩ | ⟨x', s1, s2, s4⟩
      · rw [s1, bd_s, s2, bd_s, if_neg n10, if_neg n10]
        obtain ⟨r, c'', x'', y1, y2, y3, y4⟩ := num c' x' (p + 1) (by omega) s3 (fun q h => by rw [s5, s6]; exact hq q h)
        exact ⟨r, c'', x'', y1, y2, s4.tr y3, y4⟩
      · rw [s1, bd_s, s2, bd_s, if_pos z00, if_pos z00]
        unfold fX7_readsForm_b46 fX7_readsForm_b47
        rw [klet, nI_1, stop]
        exact ⟨0, c, x', rfl, rfl, s4, Or.inl rfl⟩
/-- an order is read: its letter, then its numbers -/
theorem order_eq {c x : kM1} {l p : Nat} (T : TR c x l p) (h : p < l) : ∃ r c' x', fX4_readOrder c = some (r, c') ∧ (bd (fX7_numbers (mu x 0 7 (nI (p + 1))) (x 5 p)) fun r4 m5 => fX7_readsForm m5 r4) = some (r, x') ∧ TF c c' x x' ∧ (r = 0 ∨ (r = 1 ∧ 1 ≤ nbN (x 5 p) ∧ (∃ p', p < p' ∧ TR c' x' l p') ∧ ∀ q, q < nbN (x 5 p) → c' 5 q = x' 6 q)) := by
  obtain ⟨t1, t2, t3, t4, t5, t6, t7⟩ := id T
  have h3 := nb3 (x 5 p)
  unfold fX4_readOrder fX7_readsForm fX7_readsForm_b9
  rw [t5, if_pos (inb_nI (show p < 60 by omega) (by decide)), c_nI (by omega), t4 p h, k_nb, bd_s, klet, t5, nI_1, g_nb, bd_s]
  have T1 := T.go h
  by_cases h0 : nbN (x 5 p) = 0
  · rw [h0, if_pos (show nI 0 ≤ (0 : Int32) from nI_le (Nat.le_refl 0) (by decide)), show kFu = 4999 + 1 from rfl, fX4_readOrder_b25, if_pos (show nI 0 ≤ (0 : Int32) from nI_le (Nat.le_refl 0) (by decide)), if_pos (show nI 0 ≤ (0 : Int32) from nI_le (Nat.le_refl 0) (by decide)), fX7_readsForm_b12, if_pos (show nI 0 ≤ (0 : Int32) from nI_le (Nat.le_refl 0) (by decide))]
    unfold fX7_readsForm_b54
    rw [if_pos z00]
    exact ⟨0, _, _, rfl, rfl, TF.go _ _ _ _, Or.inl rfl⟩
  · rw [if_neg (show ¬ nI (nbN (x 5 p)) ≤ (0 : Int32) from nI_ge (a := 0) (by omega) (by omega))]
    obtain ⟨r, c', x', y1, y2, y3, y4⟩ := form_lp h3 (by omega) (nbN (x 5 p)) 0 kFu kFu (p + 1) _ _ T1 (by omega) (fun q hq => by omega) (by unfold kFu; omega) (by unfold kFu; omega)
    rw [nI_0] at y1 y2
    refine ⟨r, c', x', y1, y2, (TF.go _ _ _ _).tr y3, ?_⟩
    rcases y4 with z | ⟨z, ⟨p', z1, z2⟩, z3⟩
    · exact Or.inl z
    · exact Or.inr ⟨z, by omega, ⟨p', by omega, z2⟩, z3⟩
