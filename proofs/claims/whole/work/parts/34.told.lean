/-! what is only told -/
def RD (M : kM2) (m : kM1) (d : Nat → Int32) (o1 : Option (Int32 × kM2)) (o2 : Option (Int32 × kM1)) : Prop := ∃ r, o1 = some (r, M) ∧ o2 = some (r, sD m d)
theorem RD.mk {M : kM2} {m : kM1} {d : Nat → Int32} (r : Int32) : RD M m d (some (r, M)) (some (r, sD m d)) := ⟨r, rfl, rfl⟩
theorem RD.top {M : kM2} {m : kM1} {d : Nat → Int32} {o1 : Option (Int32 × kM2)} {o2 : Option (Int32 × kM1)} (W : RW M m d) (h : RD M m d o1 o2) : ∃ r M' m' d', o1 = some (r, M') ∧ o2 = some (r, sD m' d') ∧ RW M' m' d' := by
  obtain ⟨r, h1, h2⟩ := h
  exact ⟨r, M, m, d, h1, h2, W⟩
theorem on_id (M : kM2) (i : Nat) (r : Int32) : k_on M i (some (r, M i)) = some (r, M) := by rw [on_some, up_self]
/-- one group's answer, whole -/
theorem RD.on {M : kM2} {m : kM1} {d : Nat → Int32} {o : Option (Int32 × kM1)} {o2 : Option (Int32 × kM1)} (h : ∃ r, o = some (r, M 0) ∧ o2 = some (r, sD m d)) : RD M m d (bd (k_on M 0 o) fun r M8 => some (r, M8)) o2 := by
  obtain ⟨r, h1, h2⟩ := h
  rw [h1, on_id, bd_id]
  exact ⟨r, rfl, h2⟩
theorem RD.on2 {M : kM2} {m : kM1} {d : Nat → Int32} {o : Option (Int32 × kM1)} {o2 : Option (Int32 × kM1)} (h : ∃ r, o = some (r, M 0) ∧ o2 = some (r, sD m d)) : RD M m d (k_on M 0 o) o2 := by
  obtain ⟨r, h1, h2⟩ := h
  rw [h1, on_id]
  exact ⟨r, rfl, h2⟩
theorem kindOf_eq {M : kM2} {d : Nat → Int32} {K F S t : Nat} (R : RM (M 0) d K F S t) (m : kM1) (u v : Int32) : RD M m d (fX6_kindOf M u v) (fX7_kindOf (sD m d) u v) := by
  have l1 := R.lim.1
  unfold fX6_kindOf fX7_kindOf
  rw [k_hasKind (M 0) u (by omega) R.n.1.1, on_id, bd_s, g_isKind m d u (by omega) R.n.1.2, bd_s]
  by_cases h : 0 ≤ u.toInt ∧ u.toInt < (K : Int)
  · obtain ⟨k, hk, rfl⟩ := nI_rng h.1 h.2
    rw [if_pos h, if_neg n10, if_neg n10, k_in, bd_s, g_in, bd_s]
    by_cases h2 : (0 : Int32).toInt ≤ v.toInt ∧ v.toInt ≤ (5 : Int32).toInt
    · obtain ⟨i, hi, rfl⟩ := nI_rng (n := 6) (show 0 ≤ v.toInt from h2.1) (by have : v.toInt ≤ 5 := h2.2; omega)
      rw [if_pos h2, if_neg n10, if_neg n10]
      apply RD.on
      unfold fX3_tellKind fX7_kindOf_b71
      simp only [bd_id]
      obtain ⟨k0, k1, k2, -⟩ := R.k k hk
      have hp : nI k = -1 ∨ 0 ≤ (nI k).toInt := Or.inr h.1
      rw [ix_k, nI_add, if_pos (inb_nI (show k < 6 by omega) (by decide)), if_pos (inb_nI (show k < 6 by omega) (by decide)), if_pos (inb_nI (show k < 6 by omega) (by decide)), c_nI (show k < 2147483648 by omega), if_pos (n368 (show 30 + 3 * k + i < 368 by omega)), c_nI (by omega), sD_1]
      rcases (show i = 0 ∨ i = 1 ∨ i = 2 ∨ i = 3 ∨ i = 4 ∨ i = 5 by omega) with rfl | rfl | rfl | rfl | rfl | rfl
      · exact ⟨_, rfl, by rw [k0]; rfl⟩
      · exact ⟨_, rfl, by rw [k1]; rfl⟩
      · exact ⟨_, rfl, by rw [k2]; rfl⟩
      · obtain ⟨r, q1, q2⟩ := brought_eq (m := m) R (p := -1) (Or.inl rfl) hp
        exact ⟨r, q1, q2⟩
      · obtain ⟨r, q1, q2⟩ := sum_eq (m := m) R (p := -1) (v := 6) (Or.inl rfl) hp (by decide)
        exact ⟨r, q1, q2⟩
      · obtain ⟨r, q1, q2⟩ := sum_eq (m := m) R (p := -1) (v := 9) (Or.inl rfl) hp (by decide)
        exact ⟨r, q1, q2⟩
    · rw [if_neg h2, if_pos z00, if_pos z00]
      exact RD.mk _
  · rw [if_neg h, if_pos z00, if_pos z00]
    exact RD.mk _
theorem farmerOf_eq {M : kM2} {d : Nat → Int32} {K F S t : Nat} (R : RM (M 0) d K F S t) (m : kM1) (u v : Int32) : RD M m d (fX6_farmerOf M u v) (fX7_farmerOf (sD m d) u v) := by
  have l2 := R.lim.2.1
  have hS := R.S24
  unfold fX6_farmerOf fX7_farmerOf
  rw [k_hasFarmer (M 0) u (by omega) R.n.2.1.1, on_id, bd_s, g_isFarmer m d u (by omega) R.n.2.1.2, bd_s]
  by_cases h : 0 ≤ u.toInt ∧ u.toInt < (F : Int)
  · obtain ⟨f, hf, rfl⟩ := nI_rng h.1 h.2
    rw [if_pos h, if_neg n10, if_neg n10, k_in, bd_s, g_in, bd_s]
    by_cases h2 : (0 : Int32).toInt ≤ v.toInt ∧ v.toInt ≤ (5 : Int32).toInt
    · obtain ⟨i, hi, rfl⟩ := nI_rng (n := 6) (show 0 ≤ v.toInt from h2.1) (by have : v.toInt ≤ 5 := h2.2; omega)
      rw [if_pos h2, if_neg n10, if_neg n10]
      apply RD.on
      unfold fX3_tellFarmer fX7_farmerOf_b98
      simp only [bd_id]
      obtain ⟨f0, f1, f2⟩ := R.f f hf
      have hp : nI f = -1 ∨ 0 ≤ (nI f).toInt := Or.inr h.1
      rw [ix_f, if_pos (inb_nI (show f < 8 by omega) (by decide)), if_pos (inb_nI (show f < 8 by omega) (by decide)), c_nI (show f < 2147483648 by omega), if_pos (n368 (show 48 + f < 368 by omega)), c_nI (by omega), sD_1]
      rcases (show i = 0 ∨ i = 1 ∨ i = 2 ∨ i = 3 ∨ i = 4 ∨ i = 5 by omega) with rfl | rfl | rfl | rfl | rfl | rfl
      · exact ⟨_, rfl, by rw [f0]; rfl⟩
      · obtain ⟨r, q1, q2⟩ := brought_eq (m := m) R (q := -1) hp (Or.inl rfl)
        exact ⟨r, q1, q2⟩
      · exact ⟨_, rfl, by rw [f2]; exact g_came m d hS R.e29 f⟩
      · obtain ⟨r, q1, q2⟩ := pledges_eq (m := m) R hp
        exact ⟨r, q1, q2⟩
      · obtain ⟨r, q1, q2⟩ := sum_eq (m := m) R (q := -1) (v := 5) hp (Or.inl rfl) (by decide)
        exact ⟨r, q1, q2⟩
      · obtain ⟨r, q1, q2⟩ := sum_eq (m := m) R (q := -1) (v := 10) hp (Or.inl rfl) (by decide)
        exact ⟨r, q1, q2⟩
    · rw [if_neg h2, if_pos z00, if_pos z00]
      exact RD.mk _
  · rw [if_neg h, if_pos z00, if_pos z00]
    exact RD.mk _
theorem sackOf_eq {M : kM2} {d : Nat → Int32} {K F S t : Nat} (R : RM (M 0) d K F S t) (m : kM1) (u v : Int32) : RD M m d (fX6_sackOf M u v) (fX7_sackOf (sD m d) u v) := by
  have hS := R.S24
  unfold fX6_sackOf fX7_sackOf
  rw [k_hasSack (M 0) u (by omega) R.e7, on_id, bd_s, g_isSack m d u (by omega) R.e29, bd_s]
  by_cases h : 0 ≤ u.toInt ∧ u.toInt < (S : Int)
  · obtain ⟨s, hs, rfl⟩ := nI_rng h.1 h.2
    rw [if_pos h, if_neg n10, if_neg n10, k_in, bd_s, g_in, bd_s]
    by_cases h2 : (0 : Int32).toInt ≤ v.toInt ∧ v.toInt ≤ (11 : Int32).toInt
    · have v0 : 0 ≤ v.toInt := h2.1
      have v1 : v.toInt ≤ 11 := h2.2
      have e11 : (11 : Int32).toInt = 11 := rfl
      rw [if_pos h2, if_neg n10, if_neg n10]
      by_cases h3 : v = 11
      · rw [if_pos h3, if_pos (show (11 : Int32) ≤ v by rw [h3]; decide)]
        apply RD.on
        rw [g_of3 m d (by omega), bd_s]
        by_cases h4 : d (56 + 13 * s + 3) = 0
        · obtain ⟨r, q1, q2⟩ := place_eq (m := m) R hs h4
          rw [if_pos h4, bd_id]
          exact ⟨r, q1, q2⟩
        · rw [if_neg h4]
          refine ⟨_, ?_, rfl⟩
          unfold fX3_placeInQueue
          rw [if_pos (inb_nI (show s < 24 by omega) (by decide)), c_nI (by omega), (R.se hs).2.1, if_neg h4]
      · have h4 : v.toInt ≤ 10 := by
          have : ¬ v.toInt = (11 : Int32).toInt := fun z => h3 (i_eq.mpr z)
          omega
        rw [if_neg h3, if_neg (show ¬ (11 : Int32) ≤ v from fun z => by rw [i_le] at z; omega), if_pos (inb_nI (show s < 24 by omega) (by decide)), c_nI (by omega), bd_id, bd_id]
        apply RD.on2
        exact tell_eq R hs ⟨v0, h4⟩
    · rw [if_neg h2, if_pos z00, if_pos z00]
      exact RD.mk _
  · rw [if_neg h, if_pos z00, if_pos z00]
    exact RD.mk _
theorem queue_eq {M : kM2} {d : Nat → Int32} {K F S t : Nat} (R : RM (M 0) d K F S t) (m : kM1) (u : Int32) : RD M m d (fX6_queueAt M u) (fX7_queueAt (sD m d) u) := by
  have hS := R.S24
  unfold fX6_queueAt fX7_queueAt
  by_cases h : 0 ≤ u
  · rw [if_pos h, if_pos h]
    apply RD.on
    rcases queueAt_eq (m := m) R (v := u) (by rw [i_le] at h; exact h) with ⟨s, hs, q1, q2⟩ | ⟨q1, q2⟩
    · exact ⟨_, q1, by rw [q2, bd_s, if_neg (fun z => by rw [i_eq, t_nI (by omega), t_m1] at z; omega)]⟩
    · exact ⟨_, q1, by rw [q2, bd_s, if_pos rfl]⟩
  · rw [if_neg h, if_neg h]
    exact RD.mk _
theorem t_pred {F : Nat} (h : F ≤ 24) : (nI F - 1).toInt = (F : Int) - 1 := by
  rw [i_sub, t_nI (by omega)] <;> first | rfl | (rw [t_nI (by omega)]; have : (1 : Int32).toInt = 1 := rfl; omega)
theorem m1_iff {u : Int32} : u = -1 ↔ u.toInt = -1 := i_eq
theorem account_eq {M : kM2} {d : Nat → Int32} {K F S t : Nat} (R : RM (M 0) d K F S t) (m : kM1) (u v z : Int32) : RD M m d (fX6_account M u v z) (fX7_account (sD m d) u v z) := by
  have l1 := R.lim.1
  have l2 := R.lim.2.1
  have A : ∀ x : Int32, fX6_account_b37 u v z M 0 = some (-1000001, M) := fun _ => by unfold fX6_account_b37; rw [if_pos z00]
  have B : (u = -1 ∨ 0 ≤ u.toInt) → (v = -1 ∨ 0 ≤ v.toInt) → RD M m d (fX6_account_b37 u v z M 1) (if z = 2 then fX7_account_b52 u v z (sD m d) else bd (fX7_in (sD m d) z 4 10) fun r12 m13 => if r12 = 0 then some ((-1000001), m13) else fX7_account_b52 u v z m13) := by
    intro hu hv
    have C : (0 ≤ z.toInt ∧ z.toInt ≤ 10) → RD M m d (fX6_account_b62 u v z M) (fX7_account_b52 u v z (sD m d)) := by
      intro hz
      unfold fX6_account_b62 fX7_account_b52
      rw [bd_id, bd_id]
      apply RD.on2
      exact sum_eq R hu hv hz
    unfold fX6_account_b37
    rw [if_neg n10]
    by_cases h : z = 2
    · rw [if_pos h, if_pos h]
      exact C (by rw [h]; decide)
    · rw [if_neg h, if_neg h, k_in, bd_s, g_in, bd_s]
      by_cases h2 : (4 : Int32).toInt ≤ z.toInt ∧ z.toInt ≤ (10 : Int32).toInt
      · rw [if_pos h2, if_neg n10, if_neg n10]
        exact C ⟨Int.le_trans (by decide) h2.1, h2.2⟩
      · rw [if_neg h2, if_pos z00, if_pos z00]
        exact RD.mk _
  unfold fX6_account fX7_account fX6_account_b16 fX6_account_b32 fX6_account_b36
  rw [g_in, bd_s, sD_1, R.n.2.1.2, t_pred (by omega), t_m1, k_hasFarmer (M 0) u (by omega) R.n.2.1.1, on_id, bd_s, k_hasKind (M 0) v (by omega) R.n.1.1, on_id, bd_s, A 0]
  by_cases h : -1 ≤ u.toInt ∧ u.toInt ≤ (F : Int) - 1
  · have hu : u = -1 ∨ 0 ≤ u.toInt := by
      rw [m1_iff]
      omega
    rw [if_pos h, if_neg n10, g_in, bd_s, R.n.1.2, t_pred (by omega), t_m1]
    have D : RD M m d (if v = -1 then fX6_account_b37 u v z M 1 else if (if 0 ≤ v.toInt ∧ v.toInt < (K : Int) then (1 : Int32) else 0) = 0 then some (-1000001, M) else fX6_account_b37 u v z M 1) (if (if -1 ≤ v.toInt ∧ v.toInt ≤ (K : Int) - 1 then (1 : Int32) else 0) = 0 then some (-1000001, sD m d) else if z = 2 then fX7_account_b52 u v z (sD m d) else bd (fX7_in (sD m d) z 4 10) fun r12 m13 => if r12 = 0 then some ((-1000001), m13) else fX7_account_b52 u v z m13) := by
      by_cases h2 : -1 ≤ v.toInt ∧ v.toInt ≤ (K : Int) - 1
      · rw [if_pos h2, if_neg n10]
        by_cases h3 : v = -1
        · rw [if_pos h3]
          exact B hu (Or.inl h3)
        · have h4 : 0 ≤ v.toInt ∧ v.toInt < (K : Int) := by
            rw [m1_iff] at h3
            omega
          rw [if_neg h3, if_pos h4, if_neg n10]
          exact B hu (Or.inr h4.1)
      · have h3 : ¬ v = -1 := by
          rw [m1_iff]
          omega
        rw [if_neg h2, if_pos z00, if_neg h3, if_neg (show ¬ (0 ≤ v.toInt ∧ v.toInt < (K : Int)) by omega), if_pos z00]
        exact RD.mk _
    by_cases h3 : u = -1
    · rw [if_pos h3]
      exact D
    · rw [if_neg h3, if_pos (show 0 ≤ u.toInt ∧ u.toInt < (F : Int) by rw [m1_iff] at h3; omega), if_neg n10]
      exact D
  · have h3 : ¬ u = -1 := by
      rw [m1_iff]
      omega
    rw [if_neg h, if_pos z00, if_neg h3, if_neg (show ¬ (0 ≤ u.toInt ∧ u.toInt < (F : Int)) by omega), if_pos z00]
    exact RD.mk _
theorem owed_eq {M : kM2} {d : Nat → Int32} {K F S t : Nat} (R : RM (M 0) d K F S t) (m : kM1) (u : Int32) : RD M m d (fX6_owed M u) (fX7_owed (sD m d) u) := by
  have hS := R.S24
  unfold fX6_owed fX7_owed
  rw [k_hasSack (M 0) u (by omega) R.e7, on_id, bd_s, g_isSack m d u (by omega) R.e29, bd_s]
  by_cases h : 0 ≤ u.toInt ∧ u.toInt < (S : Int)
  · obtain ⟨s, hs, rfl⟩ := nI_rng h.1 h.2
    have b6 : 0 ≤ (d (56 + 13 * s + 6)).toInt := (R.sb hs).2.2.2.2.1
    rw [if_pos h, if_neg n10, if_neg n10, if_pos (inb_nI (show s < 24 by omega) (by decide)), c_nI (by omega), k_hasP, on_id, bd_s, (R.se hs).2.2.2.2.1, g_of6 m d (by omega), bd_s]
    by_cases h6 : (d (56 + 13 * s + 6)).toInt ≤ 0
    · rw [if_pos h6, if_pos z00, if_pos ((has60 b6).mpr h6)]
      exact RD.mk _
    · obtain ⟨r, q1, q2, -⟩ := debt_eq (m := m) R hs (by omega)
      rw [if_neg h6, if_neg n10, if_neg (fun y => h6 ((has60 b6).mp y)), if_pos (inbk (show s < 24 by omega) (by decide)), bd_id, bd_id]
      apply RD.on2
      exact ⟨r, q1, q2⟩
  · rw [if_neg h, if_pos z00, if_pos z00]
    exact RD.mk _
theorem pledgeAt_eq {M : kM2} {d : Nat → Int32} {K F S t : Nat} (R : RM (M 0) d K F S t) (m : kM1) (u v : Int32) : RD M m d (fX6_pledgeAt M u v) (fX7_pledgeAt (sD m d) u v) := by
  have hS := R.S24
  unfold fX6_pledgeAt fX7_pledgeAt
  by_cases h : u < 0
  · rw [if_pos h, if_pos h]
    exact RD.mk _
  · rw [if_neg h, if_neg h, k_in, bd_s, g_in, bd_s]
    by_cases h2 : (0 : Int32).toInt ≤ v.toInt ∧ v.toInt ≤ (4 : Int32).toInt
    · obtain ⟨i, hi, rfl⟩ := nI_rng (n := 5) (show 0 ≤ v.toInt from h2.1) (by have : v.toInt ≤ 4 := h2.2; omega)
      rw [if_pos h2, if_neg n10, if_neg n10]
      unfold fX3_sackOfPledge
      have P := p_pat (m := m) R u (nI i) S 0 kFu kFu (by omega) (by unfold kFu; omega) (by unfold kFu; omega)
      rw [nI_0] at P
      rcases P with ⟨s, hs, hp, q1, q2⟩ | ⟨q1, q2⟩
      · rw [q1, on_id, bd_s, q2, if_neg (show ¬ nI s = -1 from fun z => by rw [i_eq, t_nI (by omega), t_m1] at z; omega)]
        apply RD.on
        obtain ⟨p1, p2, p3, -⟩ := R.sp hs hp
        have e6 := (R.se hs).2.2.2.2.1
        unfold fX3_tellPledge
        rw [if_pos (inb_nI (show s < 24 by omega) (by decide)), c_nI (by omega), bd_id, p1, p2, p3, e6]
        rcases (show i = 0 ∨ i = 1 ∨ i = 2 ∨ i = 3 ∨ i = 4 by omega) with rfl | rfl | rfl | rfl | rfl
        · exact ⟨_, rfl, rfl⟩
        · exact ⟨_, rfl, g_of6 m d (by omega)⟩
        · exact ⟨_, rfl, g_of7 m d (by omega)⟩
        · exact ⟨_, rfl, g_of8 m d (by omega)⟩
        · exact ⟨_, rfl, g_of9 m d (by omega)⟩
      · rw [q1, on_id, bd_s, q2, if_pos (rfl : (-1 : Int32) = -1)]
        exact RD.mk _
    · rw [if_neg h2, if_pos z00, if_pos z00]
      exact RD.mk _
theorem seaIn_eq {M : kM2} {d : Nat → Int32} {K F S t : Nat} (R : RM (M 0) d K F S t) (m : kM1) (u : Int32) : RD M m d (fX6_seaIn M u) (fX7_seaIn (sD m d) u) := by
  unfold fX6_seaIn fX7_seaIn
  rw [k_in, bd_s, g_in, bd_s]
  by_cases h2 : (0 : Int32).toInt ≤ u.toInt ∧ u.toInt ≤ (5000 : Int32).toInt
  · rw [if_pos h2, if_neg n10, if_neg n10, bd_id, bd_id]
    apply RD.on2
    rw [k_sea R, sD_1, g_sea R, R.n.2.2.2.1.1, R.n.2.2.2.1.2]
    exact ⟨_, rfl, rfl⟩
  · rw [if_neg h2, if_pos z00, if_pos z00]
    exact RD.mk _
theorem i_mod {a b : Nat} (ha : a < 2147483648) (hb : 0 < b) (hb2 : b < 2147483648) : nI a - nI a / nI b * nI b = nI (a % b) := by
  have e : (nI a / nI b).toInt = (a / b : Nat) := by
    rw [i_div (by rw [t_nI (by omega)]; omega) (by rw [t_nI (by omega)]; omega), t_nI (by omega), t_nI (by omega)]
    rfl
  have h1 : a / b ≤ a := Nat.div_le_self a b
  have e2 : nI a / nI b = nI (a / b) := by rw [i_eq, e, t_nI (by omega)]
  have h2 : a / b * b ≤ a := Nat.div_mul_le_self a b
  rw [e2, nI_mul, nI_sub h2]
  congr 1
  have h3 := Nat.div_add_mod a b
  rw [Nat.mul_comm] at h3
  omega
theorem nh_lp (m : kM1) {d : Nat → Int32} {t p r : Nat} (ht : t ≤ 100000) (hp : 4 ≤ p ∧ p ≤ 100) (e26 : d 26 = nI t) (e4 : d 4 = nI p) (hr : r ≤ p) (h1 : (t + r) % p = p / 2) (h2 : ∀ n, 1 ≤ n → n < r → ¬ (t + n) % p = p / 2) : ∀ (j k n : Nat), 1 ≤ k → k + j = r → j < n → fX7_nextHigh_b2 n (sD m d) (nI k) = some (nI r, sD m d) := by
  intro j
  have eh : nI p / 2 = nI (p / 2) := by
    rw [i_eq, i_div (by rw [t_nI (by omega)]; omega) (by decide), t_nI (by omega), t_nI (by omega)]
    rfl
  have n4 : ¬ nI p = 0 := fun z => by have := nI_inj (by omega) (by decide) (z.trans (show (0 : Int32) = nI 0 from rfl)); omega
  have hm : ∀ k, (t + k) % p < p := fun k => Nat.mod_lt _ (by omega)
  induction j with
  | zero =>
    intro k n hk hkr hn
    obtain ⟨n, rfl⟩ : ∃ z, n = z + 1 := ⟨n - 1, by omega⟩
    have : k = r := by omega
    subst this
    rw [fX7_nextHigh_b2, sD_1, e4, e26, nI_add, i_mod (by omega) (by omega) (by omega), eh, if_pos n4, if_pos (by rw [h1])]
  | succ j ih =>
    intro k n hk hkr hn
    obtain ⟨n, rfl⟩ : ∃ z, n = z + 1 := ⟨n - 1, by omega⟩
    have hmk := hm k
    rw [fX7_nextHigh_b2, sD_1, e4, e26, nI_add, i_mod (by omega) (by omega) (by omega), eh, if_pos n4, if_neg (fun z => h2 k hk (by omega) (nI_inj (by omega) (by omega) z)), klet, nI_1]
    exact ih (k + 1) n (by omega) (by omega) (by omega)
theorem nh_num {t p : Nat} (hp : 4 ≤ p) : ∃ r, 1 ≤ r ∧ r ≤ p ∧ (t + r) % p = p / 2 ∧ (∀ n, 1 ≤ n → n < r → ¬ (t + n) % p = p / 2) ∧ (r : Int) = if p / 2 ≤ t % p then ((p / 2 : Nat) : Int) - ((t % p : Nat) : Int) + (p : Int) else ((p / 2 : Nat) : Int) - ((t % p : Nat) : Int) := by
  have hf : t % p < p := Nat.mod_lt _ (by omega)
  have key : ∀ n, (t + n) % p = (t % p + n) % p := fun n => by rw [Nat.add_mod, Nat.add_mod (t % p) n, Nat.mod_mod]
  by_cases h : p / 2 ≤ t % p
  · refine ⟨p / 2 + p - t % p, by omega, by omega, ?_, fun n h1 h2 => ?_, ?_⟩
    · rw [key, show t % p + (p / 2 + p - t % p) = p / 2 + p by omega, Nat.add_mod_right, Nat.mod_eq_of_lt (by omega)]
    · rw [key]
      by_cases h3 : t % p + n < p
      · rw [Nat.mod_eq_of_lt h3]
        omega
      · rw [Nat.mod_eq_sub_mod (by omega), Nat.mod_eq_of_lt (by omega)]
        omega
    · rw [if_pos h]
      omega
  · refine ⟨p / 2 - t % p, by omega, by omega, ?_, fun n h1 h2 => ?_, ?_⟩
    · rw [key, show t % p + (p / 2 - t % p) = p / 2 by omega, Nat.mod_eq_of_lt (by omega)]
    · rw [key, Nat.mod_eq_of_lt (by omega)]
      omega
    · rw [if_neg h]
      omega
theorem nextHigh_eq {M : kM2} {d : Nat → Int32} {K F S t : Nat} (R : RM (M 0) d K F S t) (m : kM1) : RD M m d (fX6_nextHigh M) (fX7_nextHigh (sD m d)) := by
  have ht := R.lim.2.2.2
  obtain ⟨e4, p1, p2⟩ := R.per
  obtain ⟨p, hp, ep⟩ := nI_rng (n := 101) (x := d 4) (by omega) (by omega)
  rw [ep, t_nI (by omega)] at p1
  unfold fX6_nextHigh
  apply RD.on
  obtain ⟨r, r1, r2, r3, r4, r5⟩ := nh_num (t := t) (p := p) (by omega)
  have L := nh_lp m (d := d) ht ⟨by omega, by omega⟩ R.n.2.2.2.1.2 ep r2 r3 r4 (r - 1) 1 kFu (by omega) (by omega) (by unfold kFu; omega)
  refine ⟨nI r, ?_, L⟩
  unfold fX3_stepsToHigh
  have hmp : t % p < p := Nat.mod_lt _ (by omega)
  have eh : nI p / 2 = nI (p / 2) := by
    rw [i_eq, i_div (by rw [t_nI (by omega)]; omega) (by decide), t_nI (by omega), t_nI (by omega)]
    rfl
  have ev : (nI (p / 2) - nI (t % p)).toInt = ((p / 2 : Nat) : Int) - ((t % p : Nat) : Int) := by rw [i_sub, t_nI (by omega), t_nI (by omega)] <;> rw [t_nI (by omega), t_nI (by omega)] <;> omega
  rw [klet, e4, ep, k_quot (M 0) _ (nI p) (by rw [t_nI (by omega)]; omega), bd_s, klet, R.n.2.2.2.1.1, i_mod (by omega) (by omega) (by omega), eh, klet]
  by_cases h : p / 2 ≤ t % p
  · rw [if_pos h] at r5
    rw [if_pos (show nI (p / 2) - nI (t % p) ≤ 0 by rw [i_le, ev, t_lit0]; omega)]
    have e : nI (p / 2) - nI (t % p) + nI p = nI r := by
      rw [i_eq, i_add, ev, t_nI (by omega), t_nI (by omega)]
      · omega
      · rw [ev, t_nI (by omega)]
        omega
      · rw [ev, t_nI (by omega)]
        omega
    rw [e]
  · rw [if_neg h] at r5
    rw [if_neg (show ¬ nI (p / 2) - nI (t % p) ≤ 0 by rw [i_le, ev, t_lit0]; omega)]
    have e : nI (p / 2) - nI (t % p) = nI r := by
      rw [i_eq, ev, t_nI (by omega)]
      omega
    rw [e]
theorem pond_eq {M : kM2} {d : Nat → Int32} {K F S t : Nat} (R : RM (M 0) d K F S t) (m : kM1) (u : Int32) : RD M m d (fX6_pond M u) (fX7_pond (sD m d) u) := by
  obtain ⟨n1, n2, n3, n4, n9, nn10, n11, n12, n13, n14, n15, n16, n17⟩ := R.n
  obtain ⟨e0, a1, a2⟩ := R.area
  have h0 : ¬ d 0 = 0 := fun z => by rw [z, t_lit0] at a1; omega
  unfold fX6_pond
  rw [k_in, bd_s]
  by_cases h2 : (0 : Int32).toInt ≤ u.toInt ∧ u.toInt ≤ (14 : Int32).toInt
  · obtain ⟨i, hi, rfl⟩ := nI_rng (n := 15) (show 0 ≤ u.toInt from h2.1) (by have : u.toInt ≤ 14 := h2.2; omega)
    rw [if_pos h2, if_neg n10]
    apply RD.on
    unfold fX3_tellPond fX7_pond
    simp only [bd_id]
    rw [k_level R, k_sea R, g_head R, n4.1, sD_1, n4.2, g_sea R, if_pos h0]
    rcases (show i = 0 ∨ i = 1 ∨ i = 2 ∨ i = 3 ∨ i = 4 ∨ i = 5 ∨ i = 6 ∨ i = 7 ∨ i = 8 ∨ i = 9 ∨ i = 10 ∨ i = 11 ∨ i = 12 ∨ i = 13 ∨ i = 14 by omega) with rfl | rfl | rfl | rfl | rfl | rfl | rfl | rfl | rfl | rfl | rfl | rfl | rfl | rfl | rfl
    · exact ⟨_, rfl, by rw [n9]; rfl⟩
    · exact ⟨_, rfl, rfl⟩
    · exact ⟨_, rfl, rfl⟩
    · refine ⟨d 19 / d 0 - seaV d (nI t), ?_, by rw [← n4.2]; rfl⟩
      show (bd (some (d 19 / d 0, M 0)) fun r9 m10 => bd (fX3_seaAt m10 (m10 0 8)) fun r11 m12 => some (r9 - r11, m12)) = _
      rw [bd_s, k_sea R, bd_s, n4.1]
    · exact ⟨_, rfl, by rw [n11]; rfl⟩
    · exact ⟨_, rfl, by rw [nn10]; rfl⟩
    · show ∃ r, (if (M 0 0 12) = (-1) then some ((-1000004), M 0) else some (M 0 0 12, M 0)) = some (r, M 0) ∧ (if (d 24) = (-1) then some ((-1000004), sD m d) else some (d 24, sD m d)) = some (r, sD m d)
      rw [n12]
      by_cases h : d 24 = -1
      · rw [if_pos h, if_pos h]
        exact ⟨_, rfl, rfl⟩
      · rw [if_neg h, if_neg h]
        exact ⟨_, rfl, rfl⟩
    · exact ⟨_, rfl, by rw [n14]; rfl⟩
    · exact ⟨_, rfl, by rw [n15]; rfl⟩
    · exact ⟨_, rfl, by rw [n16]; rfl⟩
    · exact ⟨_, rfl, by rw [n17]; rfl⟩
    · exact ⟨d 13, congrArg (fun z => some (z, M 0)) (R.a.2 0 (by decide)).1, rfl⟩
    · exact ⟨d 14, congrArg (fun z => some (z, M 0)) (R.a.2 1 (by decide)).1, rfl⟩
    · exact ⟨d 15, congrArg (fun z => some (z, M 0)) (R.a.2 2 (by decide)).1, rfl⟩
    · exact ⟨d 16, congrArg (fun z => some (z, M 0)) (R.a.2 3 (by decide)).1, rfl⟩
  · rw [if_neg h2, if_pos z00]
    have N : ∀ i : Nat, i ≤ 14 → ¬ u = nI i := fun i hi z => h2 (by rw [z, t_nI (by omega)]; exact ⟨by rw [t_lit0]; omega, by have : (14 : Int32).toInt = 14 := rfl; omega⟩)
    unfold fX7_pond
    rw [if_neg (show ¬ u = 0 from N 0 (by decide)), if_neg (show ¬ u = 1 from N 1 (by decide)), if_neg (show ¬ u = 2 from N 2 (by decide)), if_neg (show ¬ u = 3 from N 3 (by decide)), if_neg (show ¬ u = 4 from N 4 (by decide)), if_neg (show ¬ u = 5 from N 5 (by decide)), if_neg (show ¬ u = 6 from N 6 (by decide)), if_neg (show ¬ u = 7 from N 7 (by decide)), if_neg (show ¬ u = 8 from N 8 (by decide)), if_neg (show ¬ u = 9 from N 9 (by decide)), if_neg (show ¬ u = 10 from N 10 (by decide)), g_in, bd_s, if_neg (show ¬ ((11 : Int32).toInt ≤ u.toInt ∧ u.toInt ≤ (14 : Int32).toInt) from fun z => h2 ⟨Int.le_trans (by decide) z.1, z.2⟩), if_pos z00]
    exact RD.mk _
