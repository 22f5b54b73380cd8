/-! what the law asks of every state -/
section HO
variable {M : kM2} {K F S t : Nat}
theorem ho395 (R : IM (M 0) K F S t (dt t)) : fL_holds_b395 M 1 = some (1, M) := by
  have ac : ∀ v : Int32, (v = 2 ∨ (4 ≤ v.toInt ∧ v.toInt ≤ 10)) → fX6_account M (-1) (-1) v = some (sm S fun s => tv (M 0 (20 + s)) v, M) := fun v hv => by
    rw [x_account R (Or.inl rfl) (Or.inl rfl) hv, sum_all]
  have e : (sm S fun s => tv (M 0 (20 + s)) 2) = (sm S fun s => tv (M 0 (20 + s)) 4) + (sm S fun s => tv (M 0 (20 + s)) 5) + (sm S fun s => tv (M 0 (20 + s)) 6) + (sm S fun s => tv (M 0 (20 + s)) 7) + (sm S fun s => tv (M 0 (20 + s)) 8) + (sm S fun s => tv (M 0 (20 + s)) 9) + (sm S fun s => tv (M 0 (20 + s)) 10) := by
    rw [← sm_add, ← sm_add, ← sm_add, ← sm_add, ← sm_add, ← sm_add]
    exact sm_cg (fun s hs => (sack_sum (R.s s hs)).2.2.symm)
  unfold fL_holds_b395
  rw [if_neg n10, ac 2 (Or.inl rfl), bd_s, ac 4 (Or.inr (by decide)), bd_s, ac 5 (Or.inr (by decide)), bd_s, ac 6 (Or.inr (by decide)), bd_s, ac 7 (Or.inr (by decide)), bd_s, ac 8 (Or.inr (by decide)), bd_s, ac 9 (Or.inr (by decide)), bd_s, ac 10 (Or.inr (by decide)), bd_s, if_pos e, l_accounts R, bd_s, if_neg n10, l_farmers R, bd_s, if_neg n10]
theorem ho298 (R : IM (M 0) K F S t (dt t)) : fL_holds_b298 M 1 = some (1, M) := by
  obtain ⟨⟨w1, w2⟩, w3, w4, w5⟩ := R.w
  obtain ⟨a1, a2⟩ := R.area
  have p0 : fX6_pond M 0 = some (M 0 0 9, M) := x_pond R (v := 0) (by decide)
  have p1 : fX6_pond M 1 = some (M 0 0 9 / M 0 1 0, M) := x_pond R (v := 1) (by decide)
  have p2 : fX6_pond M 2 = some (seaV (M 0) (nI t), M) := x_pond R (v := 2) (by decide)
  have p3 : fX6_pond M 3 = some (M 0 0 9 / M 0 1 0 - seaV (M 0) (nI t), M) := x_pond R (v := 3) (by decide)
  have p7 : fX6_pond M 7 = some (M 0 0 14, M) := x_pond R (v := 7) (by decide)
  have p8 : fX6_pond M 8 = some (M 0 0 15, M) := x_pond R (v := 8) (by decide)
  have p9 : fX6_pond M 9 = some (M 0 0 16, M) := x_pond R (v := 9) (by decide)
  have c20 : fX6_count M 20 = some (M 0 1 0, M) := x_countS (w := 0) (by decide) rfl (by decide)
  unfold fL_holds_b298
  rw [if_neg n10, p0, bd_s, if_neg (by rw [z_neg]; omega), p0, bd_s, p8, bd_s, p9, bd_s, p7, bd_s, if_pos w5, p3, bd_s, p1, bd_s, p2, bd_s, if_pos rfl, p2, bd_s, x_sea0 R, bd_s, if_pos rfl, p1, bd_s, p0, bd_s, c20, bd_s, if_pos (fun z => by rw [z, t_lit0] at a1; omega), if_pos rfl]
  exact ho395 R
theorem ho143_lp (R : IM (M 0) K F S t (dt t)) : ∀ (j k n : Nat), k + j = cn S (plB (M 0)) → j < n → fL_holds_b143 n M 1 (nI k) = some (1, M) := by
  have hS := R.S24
  have ht := R.l.2.2.2
  have hc := cn_le S (plB (M 0))
  intro j
  induction j with
  | zero =>
    intro k n hk hn
    obtain ⟨n, rfl⟩ : ∃ z, n = z + 1 := ⟨n - 1, by omega⟩
    rw [fL_holds_b143, x_count6 R, bd_s, if_pos (lp_out (by omega) (by omega))]
    exact ho298 R
  | succ j ih =>
    intro k n hk hn
    obtain ⟨n, rfl⟩ : ∃ z, n = z + 1 := ⟨n - 1, by omega⟩
    obtain ⟨s, hs, hp, hpl, hat⟩ := pledge_in R (v := k) (by omega)
    have q := @x_pledgeAt M K F S t R k s (by omega) hs hat
    have hp' : 0 < (M 0 (20 + s) 11).toInt := of_decide_eq_true hp
    obtain ⟨d1, d2, d3, d4⟩ := R.sd hs hp'
    have q0 : fX6_pledgeAt M (nI k) 0 = some (nI s, M) := q (w := 0) (by decide)
    have q1 : fX6_pledgeAt M (nI k) 1 = some (M 0 (20 + s) 11, M) := q (w := 1) (by decide)
    have q2 : fX6_pledgeAt M (nI k) 2 = some (M 0 (20 + s) 12, M) := q (w := 2) (by decide)
    have q4 : fX6_pledgeAt M (nI k) 4 = some (M 0 (20 + s) 14, M) := q (w := 4) (by decide)
    have e8 : fX6_sackOf M (nI s) 8 = some (M 0 (20 + s) 11, M) := x_sackOf R hs (v := 8) (by decide)
    have good : fL_holds_b224 (fL_holds_b143 n) M (nI k) (nI s) = some (1, M) := by
      unfold fL_holds_b224 fL_holds_b229
      rw [if_neg n10, q1, bd_s, e8, bd_s, if_pos rfl]
      rcases x_owed R hs with ⟨h, -⟩ | ⟨-, r, -, h1, h2, h3⟩
      · exact absurd hp' h
      · have n1 : ¬ r < M 0 (20 + s) 12 := by rw [i_lt]; omega
        have n2 : ¬ M 0 (20 + s) 14 < nI (t / 96) := by
          have et : (nI (t / 96)).toInt = (t : Int) / 96 := by rw [t_nI (by omega)]; rfl
          have d4' : (t : Int) / 96 ≤ (M 0 (20 + s) 14).toInt := d4
          rw [i_lt]
          omega
        rw [h1, bd_s, q2, bd_s, if_neg n1, q4, bd_s, x_count8 R, bd_s, if_neg n2]
        unfold fL_holds_b291
        rw [klet, nI_1]
        exact ih (k + 1) n (by omega) (by omega)
    rw [fL_holds_b143, x_count6 R, bd_s, if_neg (lp_in (n := 24) (show k < cn S (plB (M 0)) by omega) (by omega) (by decide)), if_neg n10, q0, bd_s]
    by_cases hk0 : k = 0
    · rw [if_pos (show nI k = 0 by rw [hk0]; rfl)]
      exact good
    · rw [if_neg (show ¬ nI k = 0 from fun z => hk0 (nI_inj (b := 0) (by omega) (by decide) z))]
      obtain ⟨s', hs', hp2, hpl2, hat2⟩ := pledge_in R (v := k - 1) (by omega)
      have ek : nI k - 1 = nI (k - 1) := by rw [show (1 : Int32) = nI 1 from rfl, nI_sub (by omega)]
      have z := @x_pledgeAt M K F S t R (k - 1) s' (by omega) hs' hat2
      have z0 : fX6_pledgeAt M (nI (k - 1)) 0 = some (nI s', M) := z (w := 0) (by decide)
      have z4 : fX6_pledgeAt M (nI (k - 1)) 4 = some (M 0 (20 + s') 14, M) := z (w := 4) (by decide)
      have ha : ahP (M 0) s' s = true := rank_ah (S := S) (p := plB (M 0)) (ahP_irr (M 0)) (ahP_tr (M 0)) (ahP_tot (M 0) S) hs' hs hp (by
        have h1 : plP (M 0) S s' < plP (M 0) S s := by omega
        exact h1)
      have ha' := of_decide_eq_true ha
      rw [ek, z4, bd_s, q4, bd_s]
      by_cases c1 : M 0 (20 + s') 14 < M 0 (20 + s) 14
      · rw [if_pos c1]
        exact good
      · obtain ⟨c2, c3⟩ := ha'.resolve_left c1
        rw [if_neg c1, z4, bd_s, q4, bd_s, if_pos c2, z0, bd_s, if_neg (nI_ge c3 (by omega))]
        exact good
theorem ho82_lp (R : IM (M 0) K F S t (dt t)) : ∀ (j k n : Nat), k + j = cn S (wtB (M 0)) → j < n → fL_holds_b82 n M (nI (cn S (wtB (M 0)))) 1 (nI k) = some (1, M) := by
  have hS := R.S24
  have hc := cn_le S (wtB (M 0))
  intro j
  induction j with
  | zero =>
    intro k n hk hn
    obtain ⟨n, rfl⟩ : ∃ z, n = z + 1 := ⟨n - 1, by omega⟩
    rw [fL_holds_b82, if_pos (lp_out (by omega) (by omega))]
    unfold fL_holds_b140
    have hc2 := cn_le S (plB (M 0))
    exact ho143_lp R (cn S (plB (M 0))) 0 kFu (by omega) (by unfold kFu; omega)
  | succ j ih =>
    intro k n hk hn
    obtain ⟨n, rfl⟩ : ∃ z, n = z + 1 := ⟨n - 1, by omega⟩
    obtain ⟨s, hs, hw, hpl, hat⟩ := x_queue R (v := k) (by omega)
    have hw' : M 0 (20 + s) 6 = 0 := of_decide_eq_true hw
    have e3 : fX6_sackOf M (nI s) 3 = some (M 0 (20 + s) 6, M) := x_sackOf R hs (v := 3) (by decide)
    rw [fL_holds_b82, if_neg (lp_in (n := 24) (show k < cn S (wtB (M 0)) by omega) (by omega) (by decide)), if_neg n10, hat, bd_s, if_neg (nI_pos (by omega)), x_place R hs, bd_s, if_pos hw', if_pos (by rw [hpl]), e3, bd_s, if_pos hw']
    unfold fL_holds_b133
    rw [klet, nI_1]
    exact ih (k + 1) n (by omega) (by omega)
theorem ho78 (R : IM (M 0) K F S t (dt t)) : fL_holds_b73 M (nI (cn S (wtB (M 0)))) = some (1, M) := by
  have hS := R.S24
  have hc := cn_le S (wtB (M 0))
  unfold fL_holds_b73 fL_holds_b78
  exact ho82_lp R (cn S (wtB (M 0))) 0 kFu (by omega) (by unfold kFu; omega)
theorem stages (R : IM (M 0) K F S t (dt t)) : cn S (wtB (M 0)) + cn S (fun s => decide (M 0 (20 + s) 6 = 1)) + cn S (fun s => decide (M 0 (20 + s) 6 = 2)) + cn S (fun s => decide (M 0 (20 + s) 6 = 3)) = S := by
  have h1 : cn S (fun s => decide (M 0 (20 + s) 6 = 0 ∨ M 0 (20 + s) 6 = 1)) = cn S (wtB (M 0)) + cn S (fun s => decide (M 0 (20 + s) 6 = 1)) := cn_or (fun i _ => by simp only [wtB, decide_eq_true_eq]) (fun i _ => by
    simp only [wtB, decide_eq_true_eq]
    intro z1 z2
    rw [z1] at z2
    exact absurd z2 (by decide))
  have h2 : cn S (fun s => decide (M 0 (20 + s) 6 = 0 ∨ M 0 (20 + s) 6 = 1 ∨ M 0 (20 + s) 6 = 2)) = cn S (fun s => decide (M 0 (20 + s) 6 = 0 ∨ M 0 (20 + s) 6 = 1)) + cn S (fun s => decide (M 0 (20 + s) 6 = 2)) := cn_or (fun i _ => by simp only [decide_eq_true_eq, or_assoc]) (fun i _ => by
    simp only [decide_eq_true_eq]
    rintro (z1 | z1) z2
    · rw [z1] at z2
      exact absurd z2 (by decide)
    · rw [z1] at z2
      exact absurd z2 (by decide))
  have h3 : cn S (fun _ => true) = cn S (fun s => decide (M 0 (20 + s) 6 = 0 ∨ M 0 (20 + s) 6 = 1 ∨ M 0 (20 + s) 6 = 2)) + cn S (fun s => decide (M 0 (20 + s) 6 = 3)) := cn_or (fun i hi => by
    simp only [decide_eq_true_eq, true_iff]
    obtain ⟨-, -, ⟨-, sp2⟩, -⟩ := R.s i hi
    rcases sp2 with h | h | h | h
    · exact Or.inl (Or.inl (i_eq.mpr h.1))
    · exact Or.inl (Or.inr (Or.inl (i_eq.mpr h.1)))
    · exact Or.inl (Or.inr (Or.inr (i_eq.mpr h.1)))
    · exact Or.inr (i_eq.mpr h.1)) (fun i _ => by
    simp only [decide_eq_true_eq]
    rintro (z1 | z1 | z1) z2
    · rw [z1] at z2
      exact absurd z2 (by decide)
    · rw [z1] at z2
      exact absurd z2 (by decide)
    · rw [z1] at z2
      exact absurd z2 (by decide))
  rw [cn_all (fun _ _ => rfl)] at h3
  omega
theorem z_holds (R : IM (M 0) K F S t (dt t)) : fL_holds M = some (1, M) := by
  have hS := R.S24
  have hst := stages R
  have p6 : fX6_pond M 6 = some (if M 0 0 12 = -1 then -1000004 else M 0 0 12, M) := x_pond R (v := 6) (by decide)
  unfold fL_holds
  rw [x_count3 R, bd_s, p6, bd_s]
  rcases R.st with ⟨q1, q2⟩ | ⟨o, q1, q2, q3⟩
  · rw [if_pos q1, if_neg (by decide)]
    have c1 : cn S (fun s => decide (M 0 (20 + s) 6 = 1)) = 0 := cn_zero (fun i hi z => q2 i hi (of_decide_eq_true z))
    unfold fL_holds_b20
    rw [x_queueNo R, bd_s, if_pos rfl, x_count4 R, bd_s, x_count5 R, bd_s, x_count2 R, bd_s, Int32.add_zero, nI_add, nI_add, if_pos (by congr 1; omega), if_pos rfl]
    exact ho78 R
  · have n1 : ¬ nI o = -1 := fun z => by rw [i_eq, t_nI (by omega), t_m1] at z; omega
    have e3 : fX6_sackOf M (nI o) 3 = some (M 0 (20 + o) 6, M) := x_sackOf R q1 (v := 3) (by decide)
    rw [q2, if_neg n1] at p6 ⊢
    rw [if_pos (nI_pos' (by omega))]
    have c1 : cn S (fun s => decide (M 0 (20 + s) 6 = 1)) = 1 := cn_is1 q1 (decide_eq_true ((q3 o q1).mpr rfl)) (fun i hi z => (q3 i hi).mp (of_decide_eq_true z))
    unfold fL_holds_b20
    rw [x_queueNo R, bd_s, if_pos rfl, x_count4 R, bd_s, x_count5 R, bd_s, x_count2 R, bd_s, nI_1, nI_add, nI_add, if_pos (by congr 1; omega), if_neg n10, p6, bd_s, e3, bd_s, if_pos ((q3 o q1).mpr rfl)]
    exact ho78 R
end HO
