/-! numbers, and the text's characters -/
theorem count_eq {M : kM2} {m : kM1} {d : Nat → Int32} (W : RW M m d) (u : Int32) : RD M m d (fX6_count M u) (fX7_count (sD m d) u) := by
  obtain ⟨⟨K, F, S, t, R, ht⟩, ⟨fi, n, hf, hn, q1, q2, q3, -⟩, ⟨l, l1, l2, l3, -⟩⟩ := W
  obtain ⟨n1, n2, n3, n4, -⟩ := R.n
  unfold fX6_count fX7_count
  rw [k_in, bd_s]
  by_cases h : (20 : Int32).toInt ≤ u.toInt ∧ u.toInt ≤ (32 : Int32).toInt
  · have u0 : 20 ≤ u.toInt := h.1
    have u1 : u.toInt ≤ 32 := h.2
    have N : ∀ i : Nat, i ≤ 10 → ¬ u = nI i := fun i hi z => by
      rw [z, t_nI (by omega)] at u0
      omega
    rw [if_pos h, if_neg n10, if_neg (show ¬ u = 0 from N 0 (by decide)), if_neg (show ¬ u = 1 from N 1 (by decide)), if_neg (show ¬ u = 2 from N 2 (by decide)), if_neg (show ¬ u = 3 from N 3 (by decide)), if_neg (show ¬ u = 4 from N 4 (by decide)), if_neg (show ¬ u = 5 from N 5 (by decide)), if_neg (show ¬ u = 6 from N 6 (by decide)), if_neg (show ¬ u = 7 from N 7 (by decide)), if_neg (show ¬ u = 8 from N 8 (by decide)), if_neg (show ¬ u = 9 from N 9 (by decide)), if_neg (show ¬ u = 10 from N 10 (by decide)), g_in, bd_s, if_pos h, if_neg n10]
    obtain ⟨i, hi, ei⟩ := nI_rng (n := 13) (x := u - 20) (by rw [i_sub] <;> have : (20 : Int32).toInt = 20 := rfl <;> omega) (by rw [i_sub] <;> have : (20 : Int32).toInt = 20 := rfl <;> omega)
    rw [ei, if_pos (inb_nI hi (by decide)), if_pos (n368 (by omega)), c_nI (by omega), (R.a.1 i hi).1, sD_1]
    exact RD.mk _
  · rw [if_neg h, if_pos z00]
    by_cases h2 : 0 ≤ u.toInt ∧ u.toInt ≤ 10
    · obtain ⟨i, hi, rfl⟩ := nI_rng (n := 11) h2.1 (by omega)
      rw [q2, l2, sD_ne (show (0 : Nat) ≠ 1 by decide), q3, l3, sD_1]
      unfold fX3_countOf fX3_today
      simp only [bd_id]
      rw [n1.1, n2.1, n3.1, n4.1, n4.2]
      rcases (show i = 0 ∨ i = 1 ∨ i = 2 ∨ i = 3 ∨ i = 4 ∨ i = 5 ∨ i = 6 ∨ i = 7 ∨ i = 8 ∨ i = 9 ∨ i = 10 by omega) with rfl | rfl | rfl | rfl | rfl | rfl | rfl | rfl | rfl | rfl | rfl
      · rw [if_neg (show ¬ nI 0 = 9 by decide), if_neg (show ¬ nI 0 = 10 by decide), if_pos (show nI 0 = 0 by decide), if_pos (show nI 0 = 0 by decide), on_id, show (27 : Int32) + nI 0 = nI 27 from rfl, if_pos (n368 (by decide)), c_nI (by decide), n1.2]
        exact RD.mk _
      · rw [if_neg (show ¬ nI 1 = 9 by decide), if_neg (show ¬ nI 1 = 10 by decide), if_neg (show ¬ nI 1 = 0 by decide), if_pos (show nI 1 = 1 by decide), if_neg (show ¬ nI 1 = 0 by decide), if_pos (show nI 1 = 1 by decide), on_id, show (27 : Int32) + nI 1 = nI 28 from rfl, if_pos (n368 (by decide)), c_nI (by decide), n2.2]
        exact RD.mk _
      · rw [if_neg (show ¬ nI 2 = 9 by decide), if_neg (show ¬ nI 2 = 10 by decide), if_neg (show ¬ nI 2 = 0 by decide), if_neg (show ¬ nI 2 = 1 by decide), if_pos (show nI 2 = 2 by decide), if_neg (show ¬ nI 2 = 0 by decide), if_neg (show ¬ nI 2 = 1 by decide), if_pos (show nI 2 = 2 by decide), on_id, show (27 : Int32) + nI 2 = nI 29 from rfl, if_pos (n368 (by decide)), c_nI (by decide), n3.2]
        exact RD.mk _
      · rw [if_neg (show ¬ nI 3 = 9 by decide), if_neg (show ¬ nI 3 = 10 by decide), if_neg (show ¬ nI 3 = 0 by decide), if_neg (show ¬ nI 3 = 1 by decide), if_neg (show ¬ nI 3 = 2 by decide), if_pos (show nI 3 = 3 by decide), if_neg (show ¬ nI 3 = 0 by decide), if_neg (show ¬ nI 3 = 1 by decide), if_neg (show ¬ nI 3 = 2 by decide), if_pos (show nI 3 = 3 by decide)]
        exact RD.on2 (stage_eq R 0)
      · rw [if_neg (show ¬ nI 4 = 9 by decide), if_neg (show ¬ nI 4 = 10 by decide), if_neg (show ¬ nI 4 = 0 by decide), if_neg (show ¬ nI 4 = 1 by decide), if_neg (show ¬ nI 4 = 2 by decide), if_neg (show ¬ nI 4 = 3 by decide), if_pos (show nI 4 = 4 by decide), if_neg (show ¬ nI 4 = 0 by decide), if_neg (show ¬ nI 4 = 1 by decide), if_neg (show ¬ nI 4 = 2 by decide), if_neg (show ¬ nI 4 = 3 by decide), if_pos (show nI 4 = 4 by decide), show nI 4 - 2 = (2 : Int32) by decide]
        exact RD.on2 (stage_eq R 2)
      · rw [if_neg (show ¬ nI 5 = 9 by decide), if_neg (show ¬ nI 5 = 10 by decide), if_neg (show ¬ nI 5 = 0 by decide), if_neg (show ¬ nI 5 = 1 by decide), if_neg (show ¬ nI 5 = 2 by decide), if_neg (show ¬ nI 5 = 3 by decide), if_neg (show ¬ nI 5 = 4 by decide), if_pos (show nI 5 = 5 by decide), if_neg (show ¬ nI 5 = 0 by decide), if_neg (show ¬ nI 5 = 1 by decide), if_neg (show ¬ nI 5 = 2 by decide), if_neg (show ¬ nI 5 = 3 by decide), if_neg (show ¬ nI 5 = 4 by decide), if_pos (show nI 5 = 5 by decide), show nI 5 - 2 = (3 : Int32) by decide]
        exact RD.on2 (stage_eq R 3)
      · rw [if_neg (show ¬ nI 6 = 9 by decide), if_neg (show ¬ nI 6 = 10 by decide), if_neg (show ¬ nI 6 = 0 by decide), if_neg (show ¬ nI 6 = 1 by decide), if_neg (show ¬ nI 6 = 2 by decide), if_neg (show ¬ nI 6 = 3 by decide), if_neg (show ¬ nI 6 = 4 by decide), if_neg (show ¬ nI 6 = 5 by decide), if_pos (show nI 6 = 6 by decide), if_neg (show ¬ nI 6 = 0 by decide), if_neg (show ¬ nI 6 = 1 by decide), if_neg (show ¬ nI 6 = 2 by decide), if_neg (show ¬ nI 6 = 3 by decide), if_neg (show ¬ nI 6 = 4 by decide), if_neg (show ¬ nI 6 = 5 by decide), if_pos (show nI 6 = 6 by decide)]
        exact RD.on2 (pledges_eq (p := -1) R (Or.inl rfl))
      · rw [if_neg (show ¬ nI 7 = 9 by decide), if_neg (show ¬ nI 7 = 10 by decide), if_neg (show ¬ nI 7 = 0 by decide), if_neg (show ¬ nI 7 = 1 by decide), if_neg (show ¬ nI 7 = 2 by decide), if_neg (show ¬ nI 7 = 3 by decide), if_neg (show ¬ nI 7 = 4 by decide), if_neg (show ¬ nI 7 = 5 by decide), if_neg (show ¬ nI 7 = 6 by decide), if_pos (show nI 7 = 7 by decide), if_neg (show ¬ nI 7 = 0 by decide), if_neg (show ¬ nI 7 = 1 by decide), if_neg (show ¬ nI 7 = 2 by decide), if_neg (show ¬ nI 7 = 3 by decide), if_neg (show ¬ nI 7 = 4 by decide), if_neg (show ¬ nI 7 = 5 by decide), if_neg (show ¬ nI 7 = 6 by decide), if_pos (show nI 7 = 7 by decide), on_id]
        exact RD.mk _
      · rw [if_neg (show ¬ nI 8 = 9 by decide), if_neg (show ¬ nI 8 = 10 by decide), if_neg (show ¬ nI 8 = 0 by decide), if_neg (show ¬ nI 8 = 1 by decide), if_neg (show ¬ nI 8 = 2 by decide), if_neg (show ¬ nI 8 = 3 by decide), if_neg (show ¬ nI 8 = 4 by decide), if_neg (show ¬ nI 8 = 5 by decide), if_neg (show ¬ nI 8 = 6 by decide), if_neg (show ¬ nI 8 = 7 by decide), if_pos (show nI 8 = 8 by decide), if_neg (show ¬ nI 8 = 0 by decide), if_neg (show ¬ nI 8 = 1 by decide), if_neg (show ¬ nI 8 = 2 by decide), if_neg (show ¬ nI 8 = 3 by decide), if_neg (show ¬ nI 8 = 4 by decide), if_neg (show ¬ nI 8 = 5 by decide), if_neg (show ¬ nI 8 = 6 by decide), if_neg (show ¬ nI 8 = 7 by decide), if_pos (show nI 8 = 8 by decide), on_id]
        exact RD.mk _
      · rw [if_pos (show nI 9 = 9 by decide), if_neg (show ¬ nI 9 = 0 by decide), if_neg (show ¬ nI 9 = 1 by decide), if_neg (show ¬ nI 9 = 2 by decide), if_neg (show ¬ nI 9 = 3 by decide), if_neg (show ¬ nI 9 = 4 by decide), if_neg (show ¬ nI 9 = 5 by decide), if_neg (show ¬ nI 9 = 6 by decide), if_neg (show ¬ nI 9 = 7 by decide), if_neg (show ¬ nI 9 = 8 by decide), if_pos (show nI 9 = 9 by decide)]
        exact RD.mk _
      · rw [if_neg (show ¬ nI 10 = 9 by decide), if_pos (show nI 10 = 10 by decide), if_neg (show ¬ nI 10 = 0 by decide), if_neg (show ¬ nI 10 = 1 by decide), if_neg (show ¬ nI 10 = 2 by decide), if_neg (show ¬ nI 10 = 3 by decide), if_neg (show ¬ nI 10 = 4 by decide), if_neg (show ¬ nI 10 = 5 by decide), if_neg (show ¬ nI 10 = 6 by decide), if_neg (show ¬ nI 10 = 7 by decide), if_neg (show ¬ nI 10 = 8 by decide), if_neg (show ¬ nI 10 = 9 by decide), if_pos (show nI 10 = 10 by decide)]
        exact RD.mk _
    · have N : ∀ i : Nat, i ≤ 10 → ¬ u = nI i := fun i hi z => h2 (by rw [z, t_nI (by omega)]; omega)
      unfold fX3_countOf
      rw [if_neg (show ¬ u = 9 from N 9 (by decide)), if_neg (show ¬ u = 10 from N 10 (by decide)), if_neg (show ¬ u = 0 from N 0 (by decide)), if_neg (show ¬ u = 1 from N 1 (by decide)), if_neg (show ¬ u = 2 from N 2 (by decide)), if_neg (show ¬ u = 3 from N 3 (by decide)), if_neg (show ¬ u = 4 from N 4 (by decide)), if_neg (show ¬ u = 5 from N 5 (by decide)), if_neg (show ¬ u = 6 from N 6 (by decide)), if_neg (show ¬ u = 7 from N 7 (by decide)), if_neg (show ¬ u = 8 from N 8 (by decide)), on_id, bd_s, if_neg (show ¬ u = 0 from N 0 (by decide)), if_neg (show ¬ u = 1 from N 1 (by decide)), if_neg (show ¬ u = 2 from N 2 (by decide)), if_neg (show ¬ u = 3 from N 3 (by decide)), if_neg (show ¬ u = 4 from N 4 (by decide)), if_neg (show ¬ u = 5 from N 5 (by decide)), if_neg (show ¬ u = 6 from N 6 (by decide)), if_neg (show ¬ u = 7 from N 7 (by decide)), if_neg (show ¬ u = 8 from N 8 (by decide)), if_neg (show ¬ u = 9 from N 9 (by decide)), if_neg (show ¬ u = 10 from N 10 (by decide)), g_in, bd_s, if_neg h, if_pos z00]
      exact RD.mk _
theorem RW.tx {M : kM2} {m : kM1} {d : Nat → Int32} (W : RW M m d) {y m' : kM1} (hy : y 1 = M 7 1) (h0 : m' 0 4 = m 0 4) (h2 : m' 2 = m 2) (hT : RT (up M 7 y) m') : RW (up M 7 y) m' d := by
  obtain ⟨W1, ⟨f, n, hf, hn, e1, e2, e3, W2⟩, -⟩ := W
  refine ⟨by rw [up_ne _ _ (by decide)]; exact W1, ⟨f, n, hf, hn, by rw [up_same, hy]; exact e1, by rw [up_same, hy]; exact e2, by rw [h0]; exact e3, fun j hj => ?_⟩, hT⟩
  rw [up_ne _ _ (by omega), h2]
  exact W2 j hj
theorem top_type {M : kM2} {m : kM1} {d : Nat → Int32} (W : RW M m d) (v : Int32) : ∃ r M' m' d', fX6_type M v = some (r, M') ∧ fX7_type (sD m d) v = some (r, sD m' d') ∧ RW M' m' d' := by
  obtain ⟨-, -, ⟨l, l1, l2, l3, l4⟩⟩ := id W
  unfold fX6_type fX7_type
  rw [k_in, bd_s, g_in, bd_s]
  by_cases h : (32 : Int32).toInt ≤ v.toInt ∧ v.toInt ≤ (126 : Int32).toInt
  · rw [if_pos h, if_neg n10, if_neg n10, bd_id]
    generalize (v.toUInt32 % 65536).toInt32 = c
    unfold fX4_append
    rw [l2, sD_ne (show (0 : Nat) ≠ 1 by decide), l3]
    by_cases h2 : l < 60
    · have L : nI l < 60 := nI_lt h2 (by decide)
      have N : ¬ nI l = 60 := fun z => by have := nI_inj (by omega) (by decide) (z.trans (show (60 : Int32) = nI 60 from rfl)); omega
      rw [if_pos L, if_pos (inb_nI h2 (by decide)), c_nI (by omega), klet, klet, on_some, mu_ne (show (3 : Nat) ≠ 4 by decide), l2, nI_1, mu_eq, upd_eq, if_neg N, if_pos (inbk h2 (by decide)), klet, klet, sD_mu_ne _ _ _ _ (show (5 : Nat) ≠ 1 by decide), sD_ne (show (0 : Nat) ≠ 1 by decide), mu_ne (show (0 : Nat) ≠ 5 by decide), l3, nI_1, sD_mu_ne _ _ _ _ (show (0 : Nat) ≠ 1 by decide), sD_ne (show (0 : Nat) ≠ 1 by decide), mu_eq, upd_eq]
      refine ⟨_, _, _, _, rfl, rfl, W.tx (by rw [mu_ne (by decide), mu_ne (by decide)]) (by rw [mu_eq, upd_ne (by decide), mu_ne (by decide)]) (by rw [mu_ne (by decide), mu_ne (by decide)]) ⟨l + 1, h2, by rw [up_same, mu_eq, upd_eq], by rw [mu_eq, upd_eq], fun k hk => ?_⟩⟩
      rw [up_same, mu_ne (by decide), mu_eq, mu_ne (by decide), mu_eq]
      by_cases z : k = l
      · subst z
        rw [upd_eq, upd_eq]
      · rw [upd_ne z, upd_ne z]
        exact l4 k (by omega)
    · have L : ¬ nI l < 60 := fun y => by rw [i_lt, t_nI (by omega)] at y; have : (60 : Int32).toInt = 60 := rfl; omega
      have N : nI l = 60 := by rw [show l = 60 by omega]; rfl
      rw [if_neg L, on_id, if_pos N]
      exact ⟨_, M, m, d, rfl, rfl, W⟩
  · rw [if_neg h, if_pos z00, if_pos z00]
    exact ⟨_, M, m, d, rfl, rfl, W⟩
theorem top_clear {M : kM2} {m : kM1} {d : Nat → Int32} (W : RW M m d) : ∃ r M' m' d', fX6_clearText M = some (r, M') ∧ fX7_clearText (sD m d) = some (r, sD m' d') ∧ RW M' m' d' := by
  obtain ⟨-, -, ⟨l, l1, l2, l3, l4⟩⟩ := id W
  unfold fX6_clearText fX7_clearText fX4_empty
  rw [bd_id, klet, klet, on_some, l2, klet, klet, sD_mu_ne _ _ _ _ (show (0 : Nat) ≠ 1 by decide), sD_ne (show (0 : Nat) ≠ 1 by decide), l3]
  exact ⟨_, _, _, _, rfl, rfl, W.tx (by rw [mu_ne (by decide)]) (by rw [mu_eq, upd_ne (by decide)]) (by rw [mu_ne (by decide)]) ⟨0, by decide, by rw [up_same, mu_eq, upd_eq]; rfl, by rw [mu_eq, upd_eq]; rfl, fun k hk => by omega⟩⟩
