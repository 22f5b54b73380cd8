/-! what is foretold -/
theorem lay_ne {m : kM1} {d : Nat → Int32} {j : Nat} (h : j ≠ 3) : lay m d j = m j := rs_ne h
theorem lay_3 (m : kM1) (d : Nat → Int32) : lay m d 3 = pre (m 3) d 368 := rs_eq _ _ _
theorem RW.trial {M : kM2} {m : kM1} {d d' : Nat → Int32} (W : RW M m d) (x : kM1) (h : ∀ k, k < 368 → d' k = d k) : RW (up M 1 x) (lay m d) d' := by
  obtain ⟨W1, ⟨f, n, hf, hn, e1, e2, e3, W2⟩, ⟨l, l1, l2, l3, l4⟩⟩ := W
  have e7 : up M 1 x 7 = M 7 := up_ne _ _ (by decide)
  refine ⟨by rw [up_ne _ _ (by decide)]; exact W1.cg h, ⟨f, n, hf, hn, by rw [e7]; exact e1, by rw [e7]; exact e2, by rw [lay_ne (by decide)]; exact e3, fun j hj => ?_⟩, ⟨l, l1, by rw [e7]; exact l2, by rw [lay_ne (by decide)]; exact l3, fun k hk => by rw [e7, lay_ne (by decide)]; exact l4 k hk⟩⟩
  rw [up_ne _ _ (by omega), lay_ne (by decide)]
  exact W2 j hj
theorem lt2 {x : Int32} : x < 2 ↔ x.toInt < 2 := i_lt
theorem le1 {x : Int32} : x ≤ 1 ↔ x.toInt ≤ 1 := i_le
theorem ge2 {x : Int32} : 2 ≤ x ↔ 2 ≤ x.toInt := i_le
theorem is2 {x : Int32} : x = 2 ↔ x.toInt = 2 := i_eq
theorem is3 {x : Int32} : x = 3 ↔ x.toInt = 3 := i_eq
theorem fs_lp (M : kM2) (m : kM1) {K F S s : Nat} (hs : s < S) : ∀ (j k n n' : Nat) (x : kM1) (d : Nat → Int32) (t : Nat), RM x d K F S t → (d (56 + 13 * s + 3)).toInt ≤ 1 → k + j = 1000 → t + j ≤ 100000 → j < n → j < n' → ∃ r x' d', fX6_foresee_b46 (nI s) n (up M 1 x) (nI (k + 1)) = some (r, up M 1 x') ∧ fX7_foresee_b30 (nI s) n' (sD m d) (nI k) = bd (fX7_restores (sD m d')) fun _ m14 => some (r, m14) := by
  intro j
  induction j with
  | zero =>
    intro k n n' x d t R hd hk ht hn hn'
    have hS := R.S24
    obtain ⟨n, rfl⟩ : ∃ z, n = z + 1 := ⟨n - 1, by omega⟩
    obtain ⟨n', rfl⟩ : ∃ z, n' = z + 1 := ⟨n' - 1, by omega⟩
    refine ⟨-1000004, x, d, ?_, ?_⟩
    · rw [fX6_foresee_b46, if_pos (show (1000 : Int32) < nI (k + 1) from nI_lt (a := 1000) (by omega) (by omega))]
    · rw [fX7_foresee_b30, if_pos (lit_le (c := 1000) (S := 1000) rfl (by omega) (by omega))]
      unfold fX7_foresee_b57 fX7_foresee_b73
      rw [g_of3 m d (by omega), bd_s, if_neg (fun z => by rw [is2] at z; omega)]
  | succ j ih =>
    intro k n n' x d t R hd hk ht hn hn'
    have hS := R.S24
    obtain ⟨n, rfl⟩ : ∃ z, n = z + 1 := ⟨n - 1, by omega⟩
    obtain ⟨n', rfl⟩ : ∃ z, n' = z + 1 := ⟨n' - 1, by omega⟩
    obtain ⟨x1, d1, s1, s2, s3, s4, s5⟩ := step_eq R m (by omega)
    have e6 : x1 (20 + s) 6 = d1 (56 + 13 * s + 3) := (s3.se hs).2.1
    rw [fX6_foresee_b46, if_neg (show ¬ (1000 : Int32) < nI (k + 1) from fun z => by rw [i_lt, t_nI (by omega)] at z; have : (1000 : Int32).toInt = 1000 := rfl; omega), up_same, s1, on_some, bd_s, up_up, if_pos (inb_nI (show s < 24 by omega) (by decide)), c_nI (by omega), up_same, e6, fX7_foresee_b30, if_neg (lit_nle (c := 1000) (S := 1000) rfl (by omega) (by decide)), g_of3 m d (by omega), bd_s, if_neg (show ¬ 2 ≤ d (56 + 13 * s + 3) from fun z => by rw [ge2] at z; omega), s2, bd_s, klet (nI k + 1), nI_1 k]
    by_cases h : d1 (56 + 13 * s + 3) = 2
    · rw [if_pos h]
      refine ⟨nI (k + 1), x1, d1, rfl, ?_⟩
      obtain ⟨n', rfl⟩ : ∃ z, n' = z + 1 := ⟨n' - 1, by omega⟩
      have F : fX7_foresee_b57 (nI s) (sD m d1) (nI (k + 1)) = bd (fX7_restores (sD m d1)) fun _ m14 => some (nI (k + 1), m14) := by
        unfold fX7_foresee_b57 fX7_foresee_b73
        rw [g_of3 m d1 (by omega), bd_s, if_pos h]
      rw [fX7_foresee_b30, g_of3 m d1 (by omega), bd_s, if_pos (show 2 ≤ d1 (56 + 13 * s + 3) by rw [h]; decide), F, ite_self]
    · rw [if_neg h, klet, nI_1]
      have hb : 0 ≤ (d1 (56 + 13 * s + 3)).toInt ∧ (d1 (56 + 13 * s + 3)).toInt ≤ 3 := (s3.sb hs).2.1
      have h3 : ¬ d1 (56 + 13 * s + 3) = 3 := fun z => by have := s5 s z; rw [is3] at this; omega
      rw [is2] at h
      rw [is3] at h3
      exact ih (k + 1) n n' x1 d1 (t + 1) s3 (by omega) (by omega) (by omega) (by omega) (by omega)
theorem top_foresee {M : kM2} {m : kM1} {d : Nat → Int32} (W : RW M m d) (v : Int32) : ∃ r M' m' d', fX6_foresee M v = some (r, M') ∧ fX7_foresee (sD m d) v = some (r, sD m' d') ∧ RW M' m' d' := by
  obtain ⟨K, F, S, t, R, ht⟩ := W.1
  have hS := R.S24
  unfold fX6_foresee fX7_foresee
  rw [k_hasSack (M 0) v (by omega) R.e7, on_some, bd_s, up_self, g_isSack m d v (by omega) R.e29, bd_s]
  by_cases h : 0 ≤ v.toInt ∧ v.toInt < (S : Int)
  · obtain ⟨s, hs, rfl⟩ := nI_rng h.1 h.2
    rw [if_pos h, if_neg n10, if_neg n10, if_pos (inb_nI (show s < 24 by omega) (by decide)), c_nI (by omega), (R.se hs).2.1, g_of3 m d (by omega), bd_s]
    by_cases h2 : (d (56 + 13 * s + 3)).toInt ≤ 1
    · obtain ⟨x, c1, c2⟩ := copy_eq (M := M) (i := 1) (i1 := 0) (by decide) R
      obtain ⟨r, x', d', l1, l2⟩ := fs_lp M (lay m d) hs 1000 0 kFu kFu x d t c2 h2 (by omega) (by omega) (by unfold kFu; omega) (by unfold kFu; omega)
      rw [nI_0] at l2
      rw [if_pos (lt2.mpr (by omega)), if_pos (le1.mpr h2), c1, bd_s, g_lays, bd_s, l2, g_rest, bd_s]
      exact ⟨r, _, _, _, l1, rfl, W.trial x' (fun k hk => by rw [pre_lt hk, lay_3, pre_lt hk])⟩
    · rw [if_neg (fun z => by rw [lt2] at z; omega), if_neg (fun z => h2 (le1.mp z))]
      exact ⟨_, M, m, d, rfl, rfl, W⟩
  · rw [if_neg h, if_pos z00, if_pos z00]
    exact ⟨_, M, m, d, rfl, rfl, W⟩
theorem bg_in (M : kM2) (m : kM1) {K F S st : Nat} (hst : st ≤ 200) (op b2 b3 b4 : Int32) (rec : kM1 → Int32 → Int32 → Int32 → Option (Int32 × kM1)) : ∀ (j k n n' : Nat) (x : kM1) (d : Nat → Int32) (t : Nat), RM x d K F S t → k + j = st → t + j ≤ 100000 → j < n → j < n' → ∃ x' d', fX6_groundBy_b21 op (nI st) n (up M 1 x) (nI k) = some (x' 0 17 - M 0 0 17, up M 1 x') ∧ fX7_bestGate_b47 (nI st) rec n' (sD m d) b2 b3 b4 (nI k) = (if d' 23 ≤ b3 then rec (sD m d') b2 b3 (b4 + 1) else rec (sD m d') b4 (d' 23) (b4 + 1)) ∧ RM x' d' K F S (t + j) ∧ (d 23).toInt ≤ (d' 23).toInt := by
  intro j
  induction j with
  | zero =>
    intro k n n' x d t R hk ht hn hn'
    obtain ⟨n, rfl⟩ : ∃ z, n = z + 1 := ⟨n - 1, by omega⟩
    obtain ⟨n', rfl⟩ : ∃ z, n' = z + 1 := ⟨n' - 1, by omega⟩
    refine ⟨x, d, ?_, ?_, R, Int.le_refl _⟩
    · rw [fX6_groundBy_b21, if_pos (lp_out (by omega) (by omega)), up_same, up_ne _ _ (show (0 : Nat) ≠ 1 by decide)]
    · rw [fX7_bestGate_b47, if_pos (lp_out (by omega) (by omega)), sD_1]
      unfold fX7_bestGate_b80 fX7_bestGate_b103
      simp only [klet]
      rw [sD_1]
      by_cases h : d 23 ≤ b3
      · rw [if_pos h, if_pos h, if_pos h]
      · rw [if_neg h, if_neg h, if_neg h]
  | succ j ih =>
    intro k n n' x d t R hk ht hn hn'
    obtain ⟨n, rfl⟩ : ∃ z, n = z + 1 := ⟨n - 1, by omega⟩
    obtain ⟨n', rfl⟩ : ∃ z, n' = z + 1 := ⟨n' - 1, by omega⟩
    obtain ⟨x1, d1, s1, s2, s3, s4, -⟩ := step_eq R m (by omega)
    obtain ⟨x', d', h1, h2, h3, h4⟩ := ih (k + 1) n n' x1 d1 (t + 1) s3 (by omega) (by omega) (by omega) (by omega)
    rw [show t + 1 + j = t + (j + 1) by omega] at h3
    refine ⟨x', d', ?_, ?_, h3, Int.le_trans s4 h4⟩
    · rw [fX6_groundBy_b21, if_neg (lp_in (n := 200) (by omega) hst (by decide)), up_same, s1, on_some, bd_s, up_up, klet, nI_1]
      exact h1
    · rw [fX7_bestGate_b47, if_neg (lp_in (n := 200) (by omega) hst (by decide)), s2, bd_s, klet, nI_1]
      exact h2
theorem bg_lp {M : kM2} {m : kM1} {d : Nat → Int32} {K F S t st : Nat} (R : RM (M 0) d K F S t) (ht : t ≤ 10000) (hst : st ≤ 200) (hm : ∀ q, q < 368 → m 3 q = d q) : ∀ (j k n n' : Nat) (x : kM1) (e : Nat → Int32) (best mc mr : Int32), k + j = 4 → j < n → j < n' → ((mc = -1 ∧ mr = -1) ∨ ((d 23).toInt ≤ mr.toInt ∧ mr.toInt ≤ 20000000 ∧ mc.toInt = mr.toInt - (d 23).toInt)) → ∃ r x' d', fX6_bestGate_b21 (nI st) n (up M 1 x) best mc (nI k) = some (r, up M 1 x') ∧ fX7_bestGate_b25 (nI st) n' (sD m e) best mr (nI k) = some (r, sD m (pre d' (m 3) 368)) := by
  intro j
  induction j with
  | zero =>
    intro k n n' x e best mc mr hk hn hn' hi
    obtain ⟨n, rfl⟩ : ∃ z, n = z + 1 := ⟨n - 1, by omega⟩
    obtain ⟨n', rfl⟩ : ∃ z, n' = z + 1 := ⟨n' - 1, by omega⟩
    refine ⟨best, x, e, ?_, ?_⟩
    · rw [fX6_bestGate_b21, if_pos (lit_le (c := 4) (S := 4) rfl (by omega) (by omega))]
    · rw [fX7_bestGate_b25, if_pos (lit_le (c := 4) (S := 4) rfl (by omega) (by omega)), g_rest, bd_s]
  | succ j ih =>
    intro k n n' x e best mc mr hk hn hn' hi
    obtain ⟨n, rfl⟩ : ∃ z, n = z + 1 := ⟨n - 1, by omega⟩
    obtain ⟨n', rfl⟩ : ∃ z, n' = z + 1 := ⟨n' - 1, by omega⟩
    have R0 : RM ((up M 1 x) 0) d K F S t := by rw [up_ne _ _ (by decide)]; exact R
    obtain ⟨x1, c1, c2⟩ := copy_eq (M := up M 1 x) (i := 1) (i1 := 0) (by decide) R0
    rw [up_up] at c1
    have k4 : 0 ≤ (nI k).toInt ∧ (nI k).toInt ≤ 3 := by rw [t_nI (by omega)]; omega
    have R1 := (c2.congr (d' := pre e (m 3) 368) (fun q hq => by rw [pre_lt hq]; exact hm q hq) (fun _ _ _ => rfl) (fun _ _ => rfl) (fun _ _ => rfl) (fun _ _ _ _ => rfl) (fun _ _ _ _ => rfl) (fun _ _ _ _ => rfl)).gat k4
    obtain ⟨x', d', g1, g2, g3, g4⟩ := bg_in M m hst (nI k) best mr (nI k) (fX7_bestGate_b25 (nI st) n') st 0 kFu kFu _ _ t R1 (by omega) (by omega) (by unfold kFu; omega) (by unfold kFu; omega)
    rw [upd_ne (by decide), pre_lt (by decide), hm 23 (by decide)] at g4
    rw [nI_0] at g1 g2
    have e17 : M 0 0 17 = d 23 := R.n.2.2.2.2.2.2.2.2.2.2.2.2
    have e17' : x' 0 17 = d' 23 := g3.n.2.2.2.2.2.2.2.2.2.2.2.2
    obtain ⟨-, -, -, b4, b5⟩ := g3.b
    obtain ⟨-, -, -, c4, c5⟩ := R.b
    have er : (d' 23 - d 23).toInt = (d' 23).toInt - (d 23).toInt := i_sub (by omega) (by omega)
    rw [fX6_bestGate_b21, if_neg (lit_nle (c := 4) (S := 4) rfl (by omega) (by decide))]
    unfold fX6_groundBy
    rw [c1, bd_s, klet, mw_up, g1, bd_s, e17, e17', fX7_bestGate_b25, if_neg (lit_nle (c := 4) (S := 4) rfl (by omega) (by decide)), g_rest, bd_s, klet, sD_mu, g2]
    unfold fX6_bestGate_b48
    rw [klet, klet, nI_1]
    by_cases h : d' 23 ≤ mr
    · have h' := h
      rw [i_le] at h'
      have hc : d' 23 - d 23 ≤ mc := by
        rw [i_le, er]
        rcases hi with ⟨q1, q2⟩ | ⟨q1, q2, q3⟩
        · rw [q2, t_m1] at h'
          omega
        · omega
      rw [if_pos h, if_pos hc]
      exact ih (k + 1) n n' x' d' best mc mr (by omega) (by omega) (by omega) hi
    · have h' := h
      rw [i_le] at h'
      have hc : ¬ d' 23 - d 23 ≤ mc := by
        rw [i_le, er]
        rcases hi with ⟨q1, q2⟩ | ⟨q1, q2, q3⟩
        · rw [q1, t_m1]
          omega
        · omega
      rw [if_neg h, if_neg hc]
      exact ih (k + 1) n n' x' d' (nI k) (d' 23 - d 23) (d' 23) (by omega) (by omega) (by omega) (Or.inr ⟨g4, by omega, er⟩)
theorem top_bestGate {M : kM2} {m : kM1} {d : Nat → Int32} (W : RW M m d) (v : Int32) : ∃ r M' m' d', fX6_bestGate M v = some (r, M') ∧ fX7_bestGate (sD m d) v = some (r, sD m' d') ∧ RW M' m' d' := by
  obtain ⟨K, F, S, t, R, ht⟩ := W.1
  unfold fX6_bestGate fX7_bestGate
  rw [k_in, bd_s, g_in, bd_s]
  by_cases h : (1 : Int32).toInt ≤ v.toInt ∧ v.toInt ≤ (200 : Int32).toInt
  · obtain ⟨st, hst, rfl⟩ := nI_rng (n := 201) (show 0 ≤ v.toInt from Int.le_trans (by decide) h.1) (by have : v.toInt ≤ 200 := h.2; omega)
    rw [if_pos h, if_neg n10, if_neg n10, g_lays, bd_s]
    obtain ⟨r, x', d', l1, l2⟩ := bg_lp (m := lay m d) R ht (st := st) (by omega) (fun q hq => by rw [lay_3, pre_lt hq]) 4 0 kFu kFu (M 1) d 0 (-1) (-1) (by omega) (by unfold kFu; omega) (by unfold kFu; omega) (Or.inl ⟨rfl, rfl⟩)
    rw [up_self, nI_0] at l1
    rw [nI_0] at l2
    exact ⟨r, _, _, _, l1, l2, W.trial x' (fun k hk => by rw [pre_lt hk, lay_3, pre_lt hk])⟩
  · rw [if_neg h, if_pos z00, if_pos z00]
    exact ⟨_, M, m, d, rfl, rfl, W⟩
