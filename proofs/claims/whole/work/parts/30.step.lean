/-! a step of time, alike -/
theorem RM.tick {a : kM1} {d : Nat → Int32} {K F S t : Nat} (R : RM a d K F S t) (ht : t < 100000) : RM (mu a 0 8 (nI (t + 1))) (upd d 26 (nI (t + 1))) K F S (t + 1) := by
  obtain ⟨⟨l1, l2, l3, l4⟩, hn, ⟨b1, b2, b3, b4, b5⟩, hA, hK, hF, hR⟩ := R
  refine ⟨⟨l1, l2, l3, ht⟩, ?_, ⟨b1, b2, RB.up b3 rfl (fun k hk => upd_ne (by omega)), b4, ?_⟩, ⟨fun q hq => ?_, fun q hq => ?_⟩, fun j q => ?_, fun f q => ?_, fun s q => ?_⟩
  · obtain ⟨n1, n2, n3, n4, n9, n10, n11, n12, n13, n14, n15, n16, n17⟩ := hn
    exact ⟨n1, n2, n3, ⟨rfl, rfl⟩, n9, n10, n11, n12, n13, n14, n15, n16, n17⟩
  · show (d 23).toInt ≤ 200 * ((t + 1 : Nat) : Int)
    omega
  · rw [mu_ne (by omega), upd_ne (by omega)]
    exact hA.1 q hq
  · rw [mu_ne (by omega), upd_ne (by omega)]
    exact hA.2 q hq
  · have z := hK j q
    unfold RK at z ⊢
    rw [mu_ne (by omega), upd_ne (by omega), upd_ne (by omega), upd_ne (by omega)]
    exact z
  · have z := hF f q
    unfold RF at z ⊢
    rw [mu_ne (by omega), upd_ne (by omega), cnt_congr f (fun j hj => ⟨upd_ne (by omega), upd_ne (by omega)⟩)]
    exact z
  · exact RS.cg (hR s q) (fun w hw => by rw [mu_ne (by omega)]) (fun w hw => upd_ne (by omega)) (fun k w h1 h2 => upd_ne (by omega)) (Nat.le_refl _) (Nat.le_refl _) (Nat.le_succ _)

theorem RM.vo {a : kM1} {d : Nat → Int32} {K F S t : Nat} (R : RM a d K F S t) (v : Int32) : RM (mu a 0 9 v) (upd d 19 v) K F S t := by
  obtain ⟨n1, n2, n3, n4, n9, n10, n11, n12, n13, n14, n15, n16, n17⟩ := R.n
  obtain ⟨b1, b2, b3, b4, b5⟩ := R.b
  exact R.nu (fun j h => mu_ne h) (fun k h => upd_ne (by omega)) ⟨n1, n2, n3, n4, rfl, n10, n11, n12, n13, n14, n15, n16, n17⟩ ⟨b1, b2, RB.up b3 rfl (fun k hk => upd_ne (by omega)), b4, b5⟩

theorem RM.fi {a : kM1} {d : Nat → Int32} {K F S t : Nat} (R : RM a d K F S t) (v : Int32) : RM (mu a 0 14 v) (upd d 20 v) K F S t := by
  obtain ⟨n1, n2, n3, n4, n9, n10, n11, n12, n13, n14, n15, n16, n17⟩ := R.n
  obtain ⟨b1, b2, b3, b4, b5⟩ := R.b
  exact R.nu (fun j h => mu_ne h) (fun k h => upd_ne (by omega)) ⟨n1, n2, n3, n4, n9, n10, n11, n12, n13, rfl, n15, n16, n17⟩ ⟨b1, b2, RB.up b3 rfl (fun k hk => upd_ne (by omega)), b4, b5⟩

theorem RM.lo {a : kM1} {d : Nat → Int32} {K F S t : Nat} (R : RM a d K F S t) (v : Int32) : RM (mu a 0 15 v) (upd d 21 v) K F S t := by
  obtain ⟨n1, n2, n3, n4, n9, n10, n11, n12, n13, n14, n15, n16, n17⟩ := R.n
  obtain ⟨b1, b2, b3, b4, b5⟩ := R.b
  exact R.nu (fun j h => mu_ne h) (fun k h => upd_ne (by omega)) ⟨n1, n2, n3, n4, n9, n10, n11, n12, n13, n14, rfl, n16, n17⟩ ⟨b1, b2, RB.up b3 rfl (fun k hk => upd_ne (by omega)), b4, b5⟩

theorem RM.us {a : kM1} {d : Nat → Int32} {K F S t : Nat} (R : RM a d K F S t) (v : Int32) : RM (mu a 0 16 v) (upd d 22 v) K F S t := by
  obtain ⟨n1, n2, n3, n4, n9, n10, n11, n12, n13, n14, n15, n16, n17⟩ := R.n
  obtain ⟨b1, b2, b3, b4, b5⟩ := R.b
  exact R.nu (fun j h => mu_ne h) (fun k h => upd_ne (by omega)) ⟨n1, n2, n3, n4, n9, n10, n11, n12, n13, n14, n15, rfl, n17⟩ ⟨b1, b2, RB.up b3 rfl (fun k hk => upd_ne (by omega)), b4, b5⟩

theorem RM.gr {a : kM1} {d : Nat → Int32} {K F S t : Nat} (R : RM a d K F S t) {v : Int32} (h0 : 0 ≤ v.toInt) (h1 : v.toInt ≤ 200 * (t : Int)) : RM (mu a 0 17 v) (upd d 23 v) K F S t := by
  obtain ⟨n1, n2, n3, n4, n9, n10, n11, n12, n13, n14, n15, n16, n17⟩ := R.n
  obtain ⟨b1, b2, b3, b4, b5⟩ := R.b
  exact R.nu (fun j h => mu_ne h) (fun k h => upd_ne (by omega)) ⟨n1, n2, n3, n4, n9, n10, n11, n12, n13, n14, n15, n16, rfl⟩ ⟨b1, b2, RB.up b3 rfl (fun k hk => upd_ne (by omega)), h0, h1⟩
theorem RM.off {a : kM1} {d : Nat → Int32} {K F S t : Nat} (R : RM a d K F S t) : RM (mu a 0 12 (-1)) (upd d 24 (-1)) K F S t := by
  obtain ⟨n1, n2, n3, n4, n9, n10, n11, n12, n13, n14, n15, n16, n17⟩ := R.n
  obtain ⟨b1, b2, b3, b4, b5⟩ := R.b
  exact R.nu (fun j h => mu_ne h) (fun k h => upd_ne (by omega)) ⟨n1, n2, n3, n4, n9, n10, n11, rfl, n13, n14, n15, n16, n17⟩ ⟨b1, b2, Or.inl rfl, b4, b5⟩
def no3 (d d' : Nat → Int32) : Prop := ∀ j, d' (56 + 13 * j + 3) = 3 → d (56 + 13 * j + 3) = 3
/-! pledges that fall -/
theorem k_fall (x : kM1) (j : Nat) : fX5_fall x j = some (0, mu (mu (mu (mu (mu x j 15 (x j 15 + x j 11)) j 11 0) j 12 0) j 13 0) j 14 0) := rfl
theorem falls_lp (m : kM1) {K F S t : Nat} : ∀ (j k n n' : Nat) (a : kM1) (d : Nat → Int32), RM a d K F S t → k + j = S → j < n → j < n' → ∃ a' d', fX3_dropOldPledges_b2 n a (nI k) = some (0, a') ∧ fX7_falls_b2 n' (sD m d) (nI k) = some (0, sD m d') ∧ RM a' d' K F S t ∧ ∀ i, (i < 56 ∨ (i - 56) % 13 = 3) → d' i = d i := by
  intro j
  induction j with
  | zero =>
    intro k n n' a d R hk hn hn'
    have hS := R.S24
    obtain ⟨n, rfl⟩ : ∃ z, n = z + 1 := ⟨n - 1, by omega⟩
    obtain ⟨n', rfl⟩ : ∃ z, n' = z + 1 := ⟨n' - 1, by omega⟩
    refine ⟨a, d, ?_, ?_, R, fun _ _ => rfl⟩
    · rw [fX3_dropOldPledges_b2, R.e7, if_pos (lp_out (by omega) (by omega))]
    · rw [fX7_falls_b2, sD_1, R.e29, if_pos (lp_out (by omega) (by omega))]
  | succ j ih =>
    intro k n n' a d R hk hn hn'
    have hS := R.S24
    obtain ⟨n, rfl⟩ : ∃ z, n = z + 1 := ⟨n - 1, by omega⟩
    obtain ⟨n', rfl⟩ : ∃ z, n' = z + 1 := ⟨n' - 1, by omega⟩
    have hks : k < S := by omega
    have e := R.se hks
    obtain ⟨so, ⟨e2, e3, e4, e5, e6, e10, e11⟩, ⟨m9, m10⟩, hp, ⟨b2, b3, b4, b5, b6, b10, b11⟩, ⟨t0, t1, t2, t3⟩⟩ := RS_iff.mp (R.s k hks)
    rw [fX3_dropOldPledges_b2, R.e7, if_neg (lp_in hks hS (by decide)), if_pos (inb_nI (show k < 24 by omega) (by decide)), c_nI (by omega), k_hasP, bd_s, e.2.2.2.2.1, fX7_falls_b2, sD_1, R.e29, if_neg (lp_in hks hS (by decide)), g_of6 m d (by omega), bd_s]
    unfold fX3_dropOldPledges_b47 fX7_falls_b73 fX3_today
    by_cases h : (d (56 + 13 * k + 6)).toInt ≤ 0
    · rw [if_pos h, if_pos z00, if_pos (g_has6.mpr h), klet, klet, nI_1]
      exact ih (k + 1) n n' a d R (by omega) (by omega) (by omega)
    · have hl : a (20 + k) 14 = d (56 + 13 * k + 9) := (R.sp hks (by omega)).2.2.1
      rw [if_neg h, if_neg n10, if_neg (fun z => h (g_has6.mp z)), if_pos (inbk (show k < 24 by omega) (by decide)), bd_s, R.n.2.2.2.1.1, hl, g_of9 m d (by omega), bd_s, sD_1, R.n.2.2.2.1.2]
      by_cases h2 : nI t / 96 ≤ d (56 + 13 * k + 9)
      · rw [if_pos h2, if_pos h2, klet, klet, nI_1]
        exact ih (k + 1) n n' a d R (by omega) (by omega) (by omega)
      · rw [if_neg h2, if_neg h2, if_pos (inbk (show k < 24 by omega) (by decide)), k_fall, bd_s, g_of10 m d (by omega), bd_s, g_of6 m d (by omega), bd_s, g_put10 m d _ (by omega), bd_s, g_put6 m _ _ (by omega), bd_s, klet, klet, nI_1, e.2.2.2.2.1, e.2.2.2.2.2.1]
        have R1 : RM (mu (mu (mu (mu (mu a (20 + k) 15 (d (56 + 13 * k + 10) + d (56 + 13 * k + 6))) (20 + k) 11 0) (20 + k) 12 0) (20 + k) 13 0) (20 + k) 14 0) (upd (upd d (56 + 13 * k + 10) (d (56 + 13 * k + 10) + d (56 + 13 * k + 6))) (56 + 13 * k + 6) 0) K F S t := by
          refine R.sk hks (fun j hj => ?_) (fun i hi => ?_) ?_ (fun y => ?_) ?_
          · rw [mu_ne hj, mu_ne hj, mu_ne hj, mu_ne hj, mu_ne hj]
          · rw [upd_ne (by omega), upd_ne (by omega)]
          · rw [upd_ne (by omega), upd_ne (by omega)]
          · rw [upd_ne (by omega), upd_ne (by omega)]
            exact y
          · rw [mu_eq, mu_eq, mu_eq, mu_eq, mu_eq, wS_up, wS_up]
            obtain ⟨r1, r2, r3⟩ := td_rng R hks
            have z2 : (d (56 + 13 * k + 4)).toInt ≤ (d (56 + 13 * k + 2)).toInt := b4.2
            have z3 : (d (56 + 13 * k + 2)).toInt ≤ 200 := b2.2
            have z6 : 0 ≤ (d (56 + 13 * k + 6)).toInt := b6
            have z10 : 0 ≤ (d (56 + 13 * k + 10)).toInt := b10
            have z11 : (d (56 + 13 * k + 6)).toInt + (d (56 + 13 * k + 10)).toInt ≤ (d (56 + 13 * k + 4)).toInt - (a (20 + k) 9).toInt - (a (20 + k) 10).toInt := b11
            have es : (d (56 + 13 * k + 10) + d (56 + 13 * k + 6)).toInt = (d (56 + 13 * k + 10)).toInt + (d (56 + 13 * k + 6)).toInt := i_add (by omega) (by omega)
            have y10 : 0 ≤ (d (56 + 13 * k + 10) + d (56 + 13 * k + 6)).toInt := by omega
            have y4 : (0 : Int32).toInt + (d (56 + 13 * k + 10) + d (56 + 13 * k + 6)).toInt ≤ (wS d k 4).toInt - (a (20 + k) 9).toInt - (a (20 + k) 10).toInt := by
              show (0 : Int32).toInt + (d (56 + 13 * k + 10) + d (56 + 13 * k + 6)).toInt ≤ (d (56 + 13 * k + 4)).toInt - (a (20 + k) 9).toInt - (a (20 + k) 10).toInt
              rw [t_lit0]
              omega
            have y5 : ¬ (wS d k 3).toInt ≤ 1 := by
              intro z
              have z1 : d (56 + 13 * k + 6) = 0 := (t3 z).1
              rw [z1] at h
              exact h (by decide)
            exact ⟨so, ⟨e2, e3, e4, e5, rfl, rfl, e11⟩, ⟨m9, m10⟩, fun z => absurd z np0, ⟨b2, b3, b4, b5, t00, y10, y4⟩, ⟨t0, t1, t2, fun z => absurd z y5⟩⟩
        obtain ⟨a', d', q1, q2, q3, q4⟩ := ih (k + 1) n n' _ _ R1 (by omega) (by omega) (by omega)
        exact ⟨a', d', q1, q2, q3, fun i hi => by rw [q4 i hi, upd_ne (by omega), upd_ne (by omega)]⟩
theorem falls_eq {a : kM1} {d : Nat → Int32} {K F S t : Nat} (R : RM a d K F S t) (m : kM1) : ∃ a' d', fX3_dropOldPledges a = some (0, a') ∧ fX7_falls (sD m d) = some (0, sD m d') ∧ RM a' d' K F S t ∧ ∀ i, (i < 56 ∨ (i - 56) % 13 = 3) → d' i = d i := by
  have hS := R.S24
  have h := falls_lp m S 0 kFu kFu a d R (by omega) (by unfold kFu; omega) (by unfold kFu; omega)
  rw [nI_0] at h
  exact h
/-! water -/
theorem seaV_cg {d d' : Nat → Int32} (v : Int32) (h : ∀ k, k < 13 → d' k = d k) : seaV d' v = seaV d v := by
  unfold seaV
  rw [h 1 (by decide), h 2 (by decide), h 3 (by decide), h 4 (by decide)]
theorem flowIn_eq {a : kM1} {d : Nat → Int32} {K F S t : Nat} (R : RM a d K F S t) (m : kM1) (sea : Int32) (hsea : sea = seaV d (d 26)) : ∃ a' d', fX3_flowIn a sea = some (0, a') ∧ fX7_flows (sD m d) = fX7_flows_b75 (sD m d') ∧ RM a' d' K F S t ∧ ∀ i, i < 19 ∨ 21 ≤ i → d' i = d i := by
  have e5 : a 1 5 = d 5 := (R.a.1 5 (by decide)).1
  have e0 : a 1 0 = d 0 := R.area.1
  unfold fX3_flowIn fX7_flows
  rw [k_level R, bd_s, klet, g_head R, bd_s, ← hsea, klet (-(d 19 / d 0 - sea)), Int32.neg_sub, R.n.2.2.2.2.2.1, sD_1, e5, e0]
  rcases R.b.1 with h | h
  · rw [h, if_neg n01, if_pos z00]
    by_cases h2 : 0 < sea - d 19 / d 0
    · rw [if_pos h2, if_neg (show ¬ sea - d 19 / d 0 ≤ 0 from fun z => by rw [i_lt, t_lit0] at h2; rw [i_le, t_lit0] at z; omega)]
      unfold fX7_flows_b50
      have key : ∀ y : Int32, ∃ a' d', (k_let (y * (sea - d 19 / d 0)) fun v8 => k_let (mu a 0 9 (a 0 9 + v8)) fun m9 => k_let (mu m9 0 14 (m9 0 14 + v8)) fun m10 => some ((0 : Int32), m10)) = some (0, a') ∧ (k_let (y * (sea - d 19 / d 0)) fun v27 => k_let (mu (sD m d) 1 19 (sD m d 1 19 + v27)) fun m30 => k_let (mu m30 1 20 (m30 1 20 + v27)) fun m33 => fX7_flows_b75 m33) = fX7_flows_b75 (sD m d') ∧ RM a' d' K F S t ∧ ∀ i, i < 19 ∨ 21 ≤ i → d' i = d i := by
        intro y
        simp only [klet]
        rw [sD_mu, sD_mu, sD_1, mu_eq, upd_ne (show 14 ≠ 9 by decide), sD_1, upd_ne (show 20 ≠ 19 by decide), R.n.2.2.2.2.1, R.n.2.2.2.2.2.2.2.2.2.1]
        exact ⟨_, _, rfl, rfl, (R.vo _).fi _, fun i hi => by rw [upd_ne (by omega), upd_ne (by omega)]⟩
      by_cases h3 : d 0 < d 5
      · rw [if_pos h3, if_pos (show d 0 ≤ d 5 by rw [i_lt] at h3; rw [i_le]; omega)]
        exact key _
      · rw [if_neg h3]
        by_cases h4 : d 0 ≤ d 5
        · have h5 : d 0 = d 5 := i_eq.mpr (by rw [i_lt] at h3; rw [i_le] at h4; omega)
          rw [if_pos h4, h5]
          have k := key (d 5)
          rw [h5] at k
          exact k
        · rw [if_neg h4]
          exact key _
    · rw [if_neg h2, if_pos (show sea - d 19 / d 0 ≤ 0 by rw [i_lt, t_lit0] at h2; rw [i_le, t_lit0]; omega)]
      exact ⟨a, d, rfl, rfl, R, fun _ _ => rfl⟩
  · rw [h, if_pos rfl, if_neg n10]
    exact ⟨a, d, rfl, rfl, R, fun _ _ => rfl⟩
theorem leaks_lp (m : kM1) {K F S t : Nat} (hd : Int32) (sea : Int32) (hp : 0 < hd) : ∀ (j k n n' : Nat) (a : kM1) (d : Nat → Int32), RM a d K F S t → k + j = 4 → j < n → j < n' → ∃ a' d', fX3_leakOut_b14 sea n a hd (nI k) = some (0, a') ∧ fX7_flows_b82 n' (sD m d) hd (nI k) = some (0, sD m d') ∧ RM a' d' K F S t ∧ ∀ i, i < 19 ∨ 22 ≤ i → d' i = d i := by
  intro j
  induction j with
  | zero =>
    intro k n n' a d R hk hn hn'
    obtain ⟨n, rfl⟩ : ∃ z, n = z + 1 := ⟨n - 1, by omega⟩
    obtain ⟨n', rfl⟩ : ∃ z, n' = z + 1 := ⟨n' - 1, by omega⟩
    refine ⟨a, d, ?_, ?_, R, fun _ _ => rfl⟩
    · rw [fX3_leakOut_b14, if_pos (lit_le (c := 4) (S := 4) rfl (by omega) (by omega))]
    · rw [fX7_flows_b82, if_pos (lit_le (c := 4) (S := 4) rfl (by omega) (by omega))]
  | succ j ih =>
    intro k n n' a d R hk hn hn'
    obtain ⟨n, rfl⟩ : ∃ z, n = z + 1 := ⟨n - 1, by omega⟩
    obtain ⟨n', rfl⟩ : ∃ z, n' = z + 1 := ⟨n' - 1, by omega⟩
    have e13 : a 2 k = d (13 + k) := (R.a.2 k (by omega)).1
    have key : ∀ y : Int32, ∃ a' d', (k_let y fun v7 => k_let (mu a 0 9 (a 0 9 - v7)) fun m8 => k_let (mu m8 0 15 (m8 0 15 + v7)) fun m9 => k_let (nI k + 1) fun v10 => fX3_leakOut_b14 sea n m9 hd v10) = some (0, a') ∧ fX7_flows_b128 (fX7_flows_b82 n') (sD m d) hd (nI k) y = some (0, sD m d') ∧ RM a' d' K F S t ∧ ∀ i, i < 19 ∨ 22 ≤ i → d' i = d i := by
      intro y
      unfold fX7_flows_b128
      simp only [klet]
      rw [sD_mu, sD_mu, sD_1, mu_eq, upd_ne (show 15 ≠ 9 by decide), sD_1, upd_ne (show 21 ≠ 19 by decide), R.n.2.2.2.2.1, R.n.2.2.2.2.2.2.2.2.2.2.1, nI_1]
      obtain ⟨a', d', q1, q2, q3, q4⟩ := ih (k + 1) n n' _ _ ((R.vo (d 19 - y)).lo (d 21 + y)) (by omega) (by omega) (by omega)
      exact ⟨a', d', q1, q2, q3, fun i hi => by rw [q4 i hi, upd_ne (by omega), upd_ne (by omega)]⟩
    rw [fX3_leakOut_b14, if_neg (lit_nle (c := 4) (S := 4) rfl (by omega) (by decide)), if_pos (inb_nI (show k < 4 by omega) (by decide)), c_nI (by omega), e13, R.n.2.2.2.2.1, fX7_flows_b82, if_neg (lit_nle (c := 4) (S := 4) rfl (by omega) (by decide)), if_neg (show ¬ hd ≤ 0 from fun z => by rw [i_lt, t_lit0] at hp; rw [i_le, t_lit0] at z; omega), show (13 : Int32) + nI k = nI (13 + k) by rw [show (13 : Int32) = nI 13 from rfl, nI_add], if_pos (n368 (by omega)), c_nI (by omega), klet (sD m d 1 (13 + k) * hd), sD_1]
    rw [R.n.2.2.2.2.1] at key
    by_cases h : d (13 + k) * hd ≤ d 19
    · rw [if_pos h, if_neg (show ¬ d 19 < d (13 + k) * hd from fun z => by rw [i_lt] at z; rw [i_le] at h; omega)]
      exact key _
    · rw [if_neg h, if_pos (show d 19 < d (13 + k) * hd by rw [i_le] at h; rw [i_lt]; omega)]
      exact key _
theorem leakOut_eq {a : kM1} {d : Nat → Int32} {K F S t : Nat} (R : RM a d K F S t) (m : kM1) (sea : Int32) (hsea : sea = seaV d (d 26)) : ∃ a' d', fX3_leakOut a sea = some (0, a') ∧ fX7_flows_b75 (sD m d) = some (0, sD m d') ∧ RM a' d' K F S t ∧ ∀ i, i < 19 ∨ 22 ≤ i → d' i = d i := by
  unfold fX3_leakOut fX7_flows_b75
  rw [k_level R, bd_s, klet, g_head R, bd_s, ← hsea]
  by_cases h : 0 < d 19 / d 0 - sea
  · rw [if_pos h]
    have h2 := leaks_lp m (d 19 / d 0 - sea) sea h 4 0 kFu kFu a d R (by omega) (by unfold kFu; omega) (by unfold kFu; omega)
    rw [nI_0] at h2
    exact h2
  · rw [if_neg h]
    refine ⟨a, d, rfl, ?_, R, fun _ _ => rfl⟩
    rw [show kFu = 4999 + 1 from rfl, fX7_flows_b82, if_neg (by decide), if_pos (by rw [i_lt, t_lit0] at h; rw [i_le, t_lit0]; omega)]
/-! the stones -/
theorem n1e2 : ¬ (1 : Int32) = 2 := by decide
theorem cnt_come {d d' : Nat → Int32} {s f : Nat} (hf : f < 2147483648) (h0 : ∀ j, d' (56 + 13 * j) = d (56 + 13 * j)) (h12 : ∀ j, j ≠ s → d' (56 + 13 * j + 12) = d (56 + 13 * j + 12)) (es : d (56 + 13 * s) = nI f) (e12 : d (56 + 13 * s + 12) = 0) (e12' : d' (56 + 13 * s + 12) = 1) {g : Nat} (hg : g < 2147483648) : ∀ n, cnt d' n g = cnt d n g + if s < n ∧ g = f then 1 else 0 := by
  intro n
  induction n with
  | zero => rfl
  | succ n ih =>
    unfold cnt
    rw [ih, h0]
    by_cases hn : n = s
    · subst hn
      rw [e12, e12', es, if_neg (show ¬ (n < n ∧ g = f) by omega), if_neg (show ¬ (nI f = nI g ∧ (0 : Int32) = 1) from fun z => n01 z.2)]
      by_cases h : g = f
      · subst h
        rw [if_pos ⟨rfl, rfl⟩, if_pos ⟨by omega, rfl⟩]
      · rw [if_neg (fun z => h (nI_inj hf hg z.1).symm), if_neg (fun z => h z.2)]
    · rw [h12 n hn]
      by_cases h : s < n ∧ g = f
      · rw [if_pos h, if_pos (show s < n + 1 ∧ g = f from ⟨by omega, h.2⟩)]
        omega
      · rw [if_neg h, if_neg (show ¬ (s < n + 1 ∧ g = f) from fun z => h ⟨by omega, z.2⟩)]
        omega
theorem comes_eq {a : kM1} {d : Nat → Int32} {K F S t : Nat} (R : RM a d K F S t) (m : kM1) {s : Nat} (hs : s < S) (h3 : d (56 + 13 * s + 3) = 0) : ∃ a' d', fX3_putOnStones a (nI s) = some (0, a') ∧ fX7_comes (sD m d) (nI s) = some (0, sD m d') ∧ RM a' d' K F S t ∧ d' 24 = nI s ∧ (∀ i, i < 24 ∨ (26 ≤ i ∧ i < 56) → d' i = d i) ∧ no3 d d' := by
  have hS := R.S24
  have l1 := R.lim.1
  have l2 := R.lim.2.1
  have R' := R
  obtain ⟨-, ⟨n1, n2, n3, n4, n9, nn10, n11, n12, n13, n14, n15, n16, n17⟩, ⟨b1, b2, b3, b4, b5⟩, hA, hK, hF, hR⟩ := R'
  obtain ⟨⟨⟨f, hf, f1, f2⟩, ⟨k, hk, k1, k2, k3, k4, k5⟩⟩, ⟨e2, e3, e4, e5, e6, e10, e11⟩, ⟨m9, m10⟩, hp, ⟨c2, c3, c4, c5, c6, c10, c11⟩, ⟨t0, t1, t2, t3⟩⟩ := RS_iff.mp (R.s s hs)
  have f2 : d (56 + 13 * s) = nI f := f2
  have k2 : d (56 + 13 * s + 1) = nI k := k2
  have k1 : a (20 + s) 1 = nI k := k1
  obtain ⟨a8, c8, c9⟩ := R.a.1 8 (by decide)
  have c8 : 0 ≤ (d 8).toInt := c8
  have c9 : (d 8).toInt ≤ 50 := c9
  have z12 : d (56 + 13 * s + 12) = 0 := (t0 h3).2
  have z4 : d (56 + 13 * s + 4) = 0 := (t0 h3).1
  unfold fX3_putOnStones fX7_comes
  rw [k_hasSack a _ (by omega) R.e7, bd_s, if_pos (show 0 ≤ (nI s).toInt ∧ (nI s).toInt < (S : Int) by rw [t_nI (by omega)]; omega), if_neg n10, if_pos (inb_nI (show s < 24 by omega) (by decide)), c_nI (by omega), klet, klet, klet, klet, mu_ne (show 1 ≠ 20 + s by omega), a8, mu_ne (show 20 + s ≠ 0 by omega), mu_eq, mu_eq, upd_ne (show 1 ≠ 8 by decide), upd_ne (show 1 ≠ 6 by decide), k1]
  rw [mu_ne (show 20 + s ≠ 0 by omega), mu_ne (show 20 + s ≠ 0 by omega), mu_eq, mu_eq, upd_ne (show 0 ≠ 8 by decide), upd_ne (show 0 ≠ 6 by decide), f1, k_hasFarmer _ (nI f) (S := F) (by omega) (by rw [mu_eq, upd_ne (by decide), mu_eq, upd_ne (by decide), mu_ne (by omega), mu_ne (by omega)]; exact n2.1), bd_s, if_pos (show 0 ≤ (nI f).toInt ∧ (nI f).toInt < (F : Int) by rw [t_nI (by omega)]; omega), if_neg n10, mu_ne (show 20 + s ≠ 0 by omega), mu_ne (show 20 + s ≠ 0 by omega), mu_eq, mu_eq, upd_ne (show 0 ≠ 8 by decide), upd_ne (show 0 ≠ 6 by decide), f1, if_pos (inb_nI (show f < 8 by omega) (by decide)), c_nI (by omega), klet, mu_ne (show 12 + f ≠ 0 by omega), mu_ne (show 12 + f ≠ 0 by omega), mu_ne (show 12 + f ≠ 20 + s by omega), mu_ne (show 12 + f ≠ 20 + s by omega), (hF f hf).2.2, nI_1]
  rw [klet, sD_mu, g_of1 _ _ (by omega), bd_s, klet, upd_ne (show 56 + 13 * s + 1 ≠ 24 by omega), k2, sD_mu, g_put3 _ _ _ (by omega), bd_s, g_put12 _ _ _ (by omega), bd_s, sD_1, upd_ne (show 8 ≠ 56 + 13 * s + 12 by omega), upd_ne (show 8 ≠ 56 + 13 * s + 3 by omega), upd_ne (show 8 ≠ 25 by decide), upd_ne (show 8 ≠ 24 by decide), g_put5 _ _ _ (by omega), bd_s]
  have hd : ∀ i, i ≠ 24 → i ≠ 25 → i ≠ 56 + 13 * s + 3 → i ≠ 56 + 13 * s + 12 → i ≠ 56 + 13 * s + 5 → upd (upd (upd (upd (upd d 24 (nI s)) 25 (nI k)) (56 + 13 * s + 3) 1) (56 + 13 * s + 12) 1) (56 + 13 * s + 5) (d 8) i = d i := fun i h1 h2 h3 h4 h5 => by rw [upd_ne h5, upd_ne h4, upd_ne h3, upd_ne h2, upd_ne h1]
  have g24 : upd (upd (upd (upd (upd d 24 (nI s)) 25 (nI k)) (56 + 13 * s + 3) 1) (56 + 13 * s + 12) 1) (56 + 13 * s + 5) (d 8) 24 = nI s := by rw [upd_ne (by omega), upd_ne (by omega), upd_ne (by omega), upd_ne (by omega), upd_eq]
  have g25 : upd (upd (upd (upd (upd d 24 (nI s)) 25 (nI k)) (56 + 13 * s + 3) 1) (56 + 13 * s + 12) 1) (56 + 13 * s + 5) (d 8) 25 = nI k := by rw [upd_ne (by omega), upd_ne (by omega), upd_ne (by omega), upd_eq]
  have g3 : upd (upd (upd (upd (upd d 24 (nI s)) 25 (nI k)) (56 + 13 * s + 3) 1) (56 + 13 * s + 12) 1) (56 + 13 * s + 5) (d 8) (56 + 13 * s + 3) = 1 := by rw [upd_ne (by omega), upd_ne (by omega), upd_eq]
  have g12 : upd (upd (upd (upd (upd d 24 (nI s)) 25 (nI k)) (56 + 13 * s + 3) 1) (56 + 13 * s + 12) 1) (56 + 13 * s + 5) (d 8) (56 + 13 * s + 12) = 1 := by rw [upd_ne (by omega), upd_eq]
  have gw : wS (upd (upd (upd (upd (upd d 24 (nI s)) 25 (nI k)) (56 + 13 * s + 3) 1) (56 + 13 * s + 12) 1) (56 + 13 * s + 5) (d 8)) s = upd (upd (upd (wS d s) 3 1) 12 1) 5 (d 8) := by rw [wS_up, wS_up, wS_up, wS_lo (by omega), wS_lo (by omega)]
  refine ⟨_, _, rfl, rfl, ?_, g24, fun i hi => hd i (by omega) (by omega) (by omega) (by omega) (by omega), fun j hj => ?_⟩
  rotate_left
  · by_cases h : j = s
    · subst h
      exact absurd (g3.symm.trans hj) (by decide)
    · rw [hd _ (by omega) (by omega) (by omega) (by omega) (by omega)] at hj
      exact hj
  generalize upd (upd (upd (upd (upd d 24 (nI s)) 25 (nI k)) (56 + 13 * s + 3) 1) (56 + 13 * s + 12) 1) (56 + 13 * s + 5) (d 8) = d' at *
  refine R.fr s (fun j h1 h2 h3 => by rw [mu_ne (by omega), mu_ne h1, mu_ne h1, mu_ne h3, mu_ne h3]) (fun i h => hd i (by omega) (by omega) (by omega) (by omega) (by omega)) (fun i h1 h2 h3 => hd i (by omega) (by omega) (by omega) (by omega) (by omega)) hS (fun j h _ => h) ?_ ⟨by rw [hd 17 (by omega) (by omega) (by omega) (by omega) (by omega)]; exact b1, by rw [hd 18 (by omega) (by omega) (by omega) (by omega) (by omega)]; exact b2, Or.inr ⟨s, hs, g24, g3⟩, by rw [hd 23 (by omega) (by omega) (by omega) (by omega) (by omega)]; exact b4, by rw [hd 23 (by omega) (by omega) (by omega) (by omega) (by omega)]; exact b5⟩ (fun g q => ?_) (fun _ => ?_)
  · unfold RN
    rw [mu_ne (show 0 ≠ 12 + f by omega), mu_eq, mu_eq, mu_ne (show 0 ≠ 20 + s by omega), mu_ne (show 0 ≠ 20 + s by omega), g24, g25, hd 17 (by omega) (by omega) (by omega) (by omega) (by omega), hd 18 (by omega) (by omega) (by omega) (by omega) (by omega), hd 19 (by omega) (by omega) (by omega) (by omega) (by omega), hd 20 (by omega) (by omega) (by omega) (by omega) (by omega), hd 21 (by omega) (by omega) (by omega) (by omega) (by omega), hd 22 (by omega) (by omega) (by omega) (by omega) (by omega), hd 23 (by omega) (by omega) (by omega) (by omega) (by omega), hd 26 (by omega) (by omega) (by omega) (by omega) (by omega), hd 27 (by omega) (by omega) (by omega) (by omega) (by omega), hd 28 (by omega) (by omega) (by omega) (by omega) (by omega), hd 29 (by omega) (by omega) (by omega) (by omega) (by omega)]
    exact ⟨n1, n2, n3, n4, n9, nn10, n11, rfl, rfl, n14, n15, n16, n17⟩
  · have z := hF g q
    unfold RF at z ⊢
    rw [hd (48 + g) (by omega) (by omega) (by omega) (by omega) (by omega), cnt_come (d := d) (s := s) (f := f) (by omega) (fun j => hd _ (by omega) (by omega) (by omega) (by omega) (by omega)) (fun j hj => hd _ (by omega) (by omega) (by omega) (by omega) (by omega)) f2 z12 g12 (by omega) S]
    by_cases h : g = f
    · subst h
      rw [mu_eq, upd_eq, upd_ne (by decide), mu_ne (show 12 + g ≠ 0 by omega), mu_ne (show 12 + g ≠ 0 by omega), mu_ne (show 12 + g ≠ 20 + s by omega), mu_ne (show 12 + g ≠ 20 + s by omega), if_pos ⟨hs, rfl⟩]
      exact ⟨z.1, z.2.1, rfl⟩
    · rw [mu_ne (by omega), mu_ne (show 12 + g ≠ 0 by omega), mu_ne (show 12 + g ≠ 0 by omega), mu_ne (show 12 + g ≠ 20 + s by omega), mu_ne (show 12 + g ≠ 20 + s by omega), if_neg (fun y => h y.2), Nat.add_zero]
      exact z
  · rw [mu_ne (show 20 + s ≠ 12 + f by omega), mu_ne (show 20 + s ≠ 0 by omega), mu_ne (show 20 + s ≠ 0 by omega), mu_eq, mu_eq, gw]
    have q9 : a (20 + s) 9 = 0 := by
      have z : a (20 + s) 9 = d (56 + 13 * s + 4) * d (56 + 13 * s + 5) / 100 := m9
      rw [z, z4, Int32.zero_mul]
      rfl
    have x9 : a (20 + s) 9 = wS d s 4 * d 8 / 100 := by
      show a (20 + s) 9 = d (56 + 13 * s + 4) * d 8 / 100
      rw [q9, z4, Int32.zero_mul]
      rfl
    have x4 : (wS d s 4).toInt < (wS d s 2).toInt := by
      have y : 1 ≤ (wS d s 2).toInt := c2.1
      have y2 : wS d s 4 = 0 := z4
      rw [y2, t_lit0]
      omega
    have x0 : (0 : Int) ≤ (1 : Int32).toInt := by decide
    have x1 : (1 : Int32).toInt ≤ 3 := by decide
    have x3 : (wS d s 3).toInt ≤ 1 := by
      have y2 : wS d s 3 = 0 := h3
      rw [y2]
      decide
    have new : RSV (upd (upd (a (20 + s)) 6 1) 8 (d 8)) (upd (upd (upd (wS d s) 3 1) 12 1) 5 (d 8)) (wK d) K F t := ⟨⟨⟨f, hf, f1, f2⟩, ⟨k, hk, k1, k2, k3, k4, k5⟩⟩, ⟨e2, rfl, e4, rfl, e6, e10, e11⟩, ⟨x9, m10⟩, hp, ⟨c2, ⟨x0, x1⟩, c4, ⟨c8, c9⟩, c6, c10, c11⟩, ⟨fun z => absurd z n10, fun _ => x4, fun z => absurd z n1e2, fun _ => t3 x3⟩⟩
    exact RSV.cg new (fun _ _ => rfl) (fun _ _ => rfl) (fun k w h1 h2 => hd _ (by omega) (by omega) (by omega) (by omega) (by omega)) (Nat.le_refl _) (Nat.le_refl _) (Nat.le_refl _)
