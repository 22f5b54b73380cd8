/-! pledges that fall, a step, steps -/
theorem IM.day {a : kM1} {K F S t : Nat} {D D' : Nat → Int} (R : IM a K F S t D) (h : ∀ j, j < S → SVd (a (20 + j)) ((t : Int) / 96) (D' j)) : IM a K F S t D' :=
  ⟨R.l, R.n, R.w, R.st, R.a, R.k, R.f, fun s hs => ⟨R.so hs, R.sr hs, R.sp hs, h s hs⟩⟩
section SP
variable {K F S t : Nat}
theorem k_fall {a : kM1} {D D' : Nat → Int} (R : IM a K F S t D) {s : Nat} (hs : s < S) (hp : 0 < (a (20 + s) 11).toInt) (hD : ∀ j, j ≠ s → D' j = D j) : ∃ a', fX5_fall a (20 + s) = some (0, a') ∧ IM a' K F S t D' := by
  obtain ⟨so, sr, ⟨⟨x1, x2, x3, x4, x5, x6, x7, x8⟩, sp2⟩, sd⟩ := R.s s hs
  have r5 : (a (20 + s) 5).toInt ≤ 200 := sr.2.2.2.1.2
  have es : (a (20 + s) 15 + a (20 + s) 11).toInt = (a (20 + s) 15).toInt + (a (20 + s) 11).toInt := i_add (by omega) (by omega)
  unfold fX5_fall fX5_endPledge
  simp only [klet, bd_s]
  refine ⟨_, rfl, R.sk hs (fun j hj => by rw [mu_ne hj, mu_ne hj, mu_ne hj, mu_ne hj, mu_ne hj]) ?_ ?_ ?_ hD ?_⟩
  · simp only [mu_eq]; rfl
  · simp only [mu_eq]; exact Iff.rfl
  · simp only [mu_eq]; exact fun z => z
  · simp only [mu_eq]
    refine ⟨so, sr, ⟨?_, ?_⟩, fun z => absurd z (by show ¬ 0 < (0 : Int32).toInt; decide)⟩
    · show 0 ≤ (a (20 + s) 7).toInt ∧ (a (20 + s) 7).toInt ≤ (a (20 + s) 5).toInt ∧ 0 ≤ (a (20 + s) 9).toInt ∧ 0 ≤ (a (20 + s) 10).toInt ∧ 0 ≤ (0 : Int32).toInt ∧ 0 ≤ (a (20 + s) 15 + a (20 + s) 11).toInt ∧ 0 ≤ (a (20 + s) 16).toInt ∧ (a (20 + s) 9).toInt + (a (20 + s) 10).toInt + (0 : Int32).toInt + (a (20 + s) 15 + a (20 + s) 11).toInt ≤ (a (20 + s) 7).toInt
      rw [t_lit0]
      omega
    · refine Or.inr (Or.inr (Or.inl ⟨?_, ?_, ?_⟩))
      · show (a (20 + s) 6).toInt = 2; omega
      · show (a (20 + s) 7).toInt = (a (20 + s) 5).toInt; omega
      · show (a (20 + s) 16).toInt = 0; omega
theorem drop_lp (d : Int) : ∀ (j k n : Nat) (a : kM1), k + j = S → j < n → IM a K F S t (fun i => if i < k then (t : Int) / 96 else d) → ∃ a', fX3_dropOldPledges_b2 n a (nI k) = some (0, a') ∧ IM a' K F S t (dt t) := by
  intro j
  induction j with
  | zero =>
    intro k n a hk hn R
    obtain ⟨n, rfl⟩ : ∃ z, n = z + 1 := ⟨n - 1, by omega⟩
    have hS := R.S24
    rw [fX3_dropOldPledges_b2, R.e7, if_pos (lp_out (by omega) (by omega))]
    refine ⟨a, rfl, R.day (fun j hj => ?_)⟩
    have h := R.sd hj
    rw [if_pos (show j < k by omega)] at h
    exact h
  | succ j ih =>
    intro k n a hk hn R
    obtain ⟨n, rfl⟩ : ∃ z, n = z + 1 := ⟨n - 1, by omega⟩
    have hS := R.S24
    have hks : k < S := by omega
    have hDn : ∀ i, i ≠ k → (fun i => if i < k + 1 then (t : Int) / 96 else d) i = (fun i => if i < k then (t : Int) / 96 else d) i := fun i hi => by
      show (if i < k + 1 then (t : Int) / 96 else d) = if i < k then (t : Int) / 96 else d
      by_cases h : i < k
      · rw [if_pos h, if_pos (by omega)]
      · rw [if_neg h, if_neg (by omega)]
    have keep : SVd (a (20 + k)) ((t : Int) / 96) ((t : Int) / 96) → IM a K F S t (fun i => if i < k + 1 then (t : Int) / 96 else d) := fun h => R.day (fun i hi => by
      by_cases hik : i = k
      · subst hik
        rw [if_pos (show i < i + 1 by omega)]
        exact h
      · have h2 := R.sd hi
        have h3 := hDn i hik
        show SVd (a (20 + i)) ((t : Int) / 96) ((fun i => if i < k + 1 then (t : Int) / 96 else d) i)
        rw [h3]
        exact h2)
    rw [fX3_dropOldPledges_b2, R.e7, if_neg (lp_in hks hS (by decide)), if_pos (inb_nI (show k < 24 by omega) (by decide)), c_nI (by omega), k_hasP, bd_s, if_pos (inb24 (show k < 24 by omega)), k_today R, bd_s, if_pos (inb24 (show k < 24 by omega))]
    simp only [fX3_dropOldPledges_b47, klet, nI_1]
    have ht := R.l.2.2.2
    by_cases c : 0 < (a (20 + k) 11).toInt
    · rw [if_pos c, if_neg (show ¬ (1 : Int32) = 0 by decide)]
      by_cases c2 : nI (t / 96) ≤ a (20 + k) 14
      · rw [if_pos c2]
        rw [i_le, t_nI (by omega)] at c2
        refine ih (k + 1) n a (by omega) (by omega) (keep (fun z => ?_))
        obtain ⟨h1, h2, h3, h4⟩ := R.sd hks z
        exact ⟨h1, h2, h3, by omega⟩
      · rw [if_neg c2]
        obtain ⟨a', g1, g2⟩ := k_fall (D' := fun i => if i < k + 1 then (t : Int) / 96 else d) R hks c hDn
        rw [g1, bd_s]
        exact ih (k + 1) n a' (by omega) (by omega) g2
    · rw [if_neg c, if_pos rfl]
      exact ih (k + 1) n a (by omega) (by omega) (keep (fun z => absurd z c))
theorem k_drop {a : kM1} {d : Int} (R : IM a K F S t (fun _ => d)) : ∃ a', fX3_dropOldPledges a = some (0, a') ∧ IM a' K F S t (dt t) := by
  have hS := R.S24
  refine drop_lp d S 0 kFu a (by omega) (by unfold kFu; omega) (R.day (fun j hj => ?_))
  rw [if_neg (Nat.not_lt_zero j)]
  exact R.sd hj
theorem k_b24 {a : kM1} {D : Nat → Int} (R : IM a K F S t D) : ∃ a', fX3_step_b24 a = some (0, a') ∧ IM a' K F S t D := by
  have ht := R.l.2.2.2
  have hb := sea_rng R (v := t) (by omega)
  unfold fX3_step_b24
  rw [R.e8, k_sea R, bd_s]
  obtain ⟨a1, h1, R1⟩ := k_flow R hb
  rw [h1, bd_s]
  obtain ⟨a2, h2, R2⟩ := k_leak R1 hb
  rw [h2, bd_s]
  obtain ⟨a3, h3, R3⟩ := k_grind R2 (seaV a (nI t))
  rw [h3, bd_s]
  exact ⟨a3, rfl, R3⟩
theorem IM.tick {a : kM1} {D : Nat → Int} (R : IM a K F S t D) (ht : t < 20000) : IM (mu a 0 8 (nI (t + 1))) K F S (t + 1) D := by
  obtain ⟨l1, l2, l3, l4⟩ := R.l
  have hn : ∀ j, j ≠ 0 → mu a 0 8 (nI (t + 1)) j = a j := fun j hj => mu_ne hj
  obtain ⟨n1, n2, n3, n4⟩ := R.n
  refine ⟨⟨l1, l2, l3, by omega⟩, ?_, ?_, ?_, ?_, fun k hk => by rw [hn (6 + k) (by omega)]; exact R.k k hk, fun f hf => (R.f f hf).cg (fun q _ => by rw [hn (12 + f) (by omega)]) (fun j _ q _ => by rw [hn (20 + j) (by omega)]), fun s hs => ?_⟩
  · unfold NV
    rw [mu_eq]
    exact ⟨n1, n2, n3, rfl⟩
  · unfold WV
    rw [mu_eq]
    exact R.w
  · unfold ST
    rw [mu_eq]
    rcases R.st with ⟨q1, q2⟩ | ⟨o, q1, q2, q3⟩
    · exact Or.inl ⟨q1, fun s hs => by rw [hn (20 + s) (by omega)]; exact q2 s hs⟩
    · exact Or.inr ⟨o, q1, q2, fun s hs => by rw [hn (20 + s) (by omega)]; exact q3 s hs⟩
  · unfold AV
    rw [hn 1 (by decide), hn 2 (by decide)]
    exact R.a
  · rw [hn (20 + s) (by omega)]
    refine ⟨R.so hs, R.sr hs, R.sp hs, fun z => ?_⟩
    obtain ⟨h1, h2, h3, h4⟩ := R.sd hs z
    exact ⟨h1, h2, by omega, h4⟩
theorem k_step {a : kM1} (R : IM a K F S t (dt t)) (ht : t < 20000) : ∃ a', fX3_step a = some (0, a') ∧ IM a' K F S (t + 1) (dt (t + 1)) := by
  have R1 := R.tick ht
  unfold fX3_step
  simp only [klet, R.e8, nI_1]
  rw [R1.e8, show (96 : Int32) = nI 96 from rfl, r_nI (by omega) (by decide) (by decide)]
  by_cases c : (t + 1) % 96 = 0
  · rw [if_pos (show nI ((t + 1) % 96) = 0 by rw [c]; rfl)]
    obtain ⟨a2, h2, R2⟩ := k_drop (d := (t : Int) / 96) R1
    rw [h2, bd_s]
    exact k_b24 R2
  · rw [if_neg (show ¬ nI ((t + 1) % 96) = 0 from fun z => c (nI_inj (b := 0) (by omega) (by decide) z))]
    refine k_b24 (R1.day (fun j hj => ?_))
    have h := R1.sd hj
    have e : dt (t + 1) j = dt t j := by
      show ((t + 1 : Nat) : Int) / 96 = (t : Int) / 96
      omega
    rw [e]
    exact h
theorem pass_lp (st : Nat) (hst : st < 1000) : ∀ (j k n : Nat) (a : kM1), k + j = st → j < n → IM a K F S (t + k) (dt (t + k)) → t + st ≤ 20000 → ∃ a', fX3_letPass_b31 (nI st) n a (nI k) = some (nI (t + st), a') ∧ IM a' K F S (t + st) (dt (t + st)) := by
  intro j
  induction j with
  | zero =>
    intro k n a hk hn R h2
    obtain ⟨n, rfl⟩ : ∃ z, n = z + 1 := ⟨n - 1, by omega⟩
    have : k = st := by omega
    subst this
    rw [fX3_letPass_b31, if_pos (nI_le (Nat.le_refl _) (by omega)), R.e8]
    exact ⟨a, rfl, R⟩
  | succ j ih =>
    intro k n a hk hn R h2
    obtain ⟨n, rfl⟩ : ∃ z, n = z + 1 := ⟨n - 1, by omega⟩
    obtain ⟨a1, h1, R1⟩ := k_step R (by omega)
    rw [fX3_letPass_b31, if_neg (nI_ge (show k < st by omega) (by omega)), h1, bd_s, klet, nI_1]
    exact ih (k + 1) n a1 (by omega) (by omega) R1 h2
theorem k_pass {a : kM1} (R : IM a K F S t (dt t)) {st : Nat} (h1 : 1 ≤ st ∧ st ≤ 200) (h2 : t + st ≤ 10000) : ∃ a', fX3_letPass a (nI st) = some (nI (t + st), a') ∧ IM a' K F S (t + st) (dt (t + st)) := by
  unfold fX3_letPass
  rw [k_inY a (by rw [t_nI (by omega)]; exact ⟨by show (1 : Int) ≤ _; omega, by show _ ≤ (200 : Int); omega⟩), bd_s, if_neg (show ¬ (1 : Int32) = 0 by decide), R.e8, nI_add, if_pos (show nI (t + st) ≤ 10000 from nI_le h2 (by decide))]
  exact pass_lp st (by omega) st 0 kFu a (by omega) (by unfold kFu; omega) R (by omega)
end SP
