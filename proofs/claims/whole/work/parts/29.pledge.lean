/-! pledges put and redeemed, alike -/
theorem loan_eq {a m : kM1} {d : Nat → Int32} {K F S t : Nat} (R : RM a d K F S t) {s k : Nat} (hk : k < K) (e4 : a (20 + s) 4 = d (30 + 3 * k + 2)) {p : Int32} (hp : 1 ≤ p.toInt ∧ p.toInt ≤ 200) : ∃ r1 q r2 : Int32, fX3_loanFor a (20 + s) p = some (r1, a) ∧ fX7_product (sD m d) p (d (30 + 3 * k + 2)) = some (q, sD m d) ∧ fX7_product (sD m d) q (d 11) = some (r2, sD m d) ∧ ((r1 = -1 ∧ r2.toInt < 0) ∨ (0 ≤ r1.toInt ∧ 0 ≤ r2.toInt ∧ r2 / 100 = r1)) := by
  obtain ⟨-, -, -, -, -, -, -, c1, c2⟩ := R.k k hk
  obtain ⟨i0, i1, i2⟩ := R.a.1 11 (by decide)
  have h1 : 1 ≤ (d 11).toInt := i1
  have h2 : (d 11).toInt ≤ 100 := i2
  obtain ⟨q, hq, vq⟩ := g_prod (sD m d) (a := p) (b := d (30 + 3 * k + 2)) (by omega)
  obtain ⟨r2, hr, vr⟩ := g_prod (sD m d) (a := q) (b := d 11) (by omega)
  have hc : ∃ r1 : Int32, fX3_loanFor a (20 + s) p = some (r1, a) ∧ r1.toInt = if 2147483647 < p.toInt * (d (30 + 3 * k + 2)).toInt * (d 11).toInt then -1 else p.toInt * (d (30 + 3 * k + 2)).toInt * (d 11).toInt / 100 := by
    unfold fX3_loanFor
    rw [klet, klet, e4, i0]
    generalize d (30 + 3 * k + 2) = Q at *
    generalize d 11 = H at *
    have m0 : 0 ≤ p.toInt * Q.toInt := Int.mul_nonneg (by omega) (by omega)
    have m1 : p.toInt * Q.toInt ≤ 200 * 1000000 := Int.mul_le_mul hp.2 c2 (by omega) (by decide)
    have m2 : 0 ≤ p.toInt * Q.toInt * H.toInt := Int.mul_nonneg m0 (by omega)
    have m3 : p.toInt * Q.toInt * H.toInt ≤ 200 * 1000000 * 100 := Int.mul_le_mul m1 h2 (by omega) (by decide)
    have e1 : (p.toInt64 * Q.toInt64).toInt = p.toInt * Q.toInt := by rw [l_mul, l_i, l_i] <;> rw [l_i, l_i] <;> omega
    have e2 : (p.toInt64 * Q.toInt64 * H.toInt64).toInt = p.toInt * Q.toInt * H.toInt := by rw [l_mul, e1, l_i] <;> rw [e1, l_i] <;> omega
    rw [if_neg (show ¬ 0 < lg_cmp (p.toInt64 * Q.toInt64) 2147483647 by rw [lc_gt, e1, t_max]; omega)]
    generalize p.toInt * Q.toInt * H.toInt = Z at *
    by_cases h : Z ≤ 2147483647
    · rw [if_pos (show lg_cmp (p.toInt64 * Q.toInt64 * H.toInt64) 2147483647 ≤ 0 by rw [lc_le, e2, t_max]; exact h), if_neg (by omega)]
      have e3 : (p.toInt64 * Q.toInt64 * H.toInt64 / 100).toInt = Z / 100 := by rw [l_div (by rw [e2]; exact m2) (by rw [e2]; omega) (by decide), e2]; rfl
      exact ⟨_, rfl, by rw [l_32 (by rw [e3]; omega) (by rw [e3]; omega), e3]⟩
    · rw [if_neg (show ¬ lg_cmp (p.toInt64 * Q.toInt64 * H.toInt64) 2147483647 ≤ 0 by rw [lc_le, e2, t_max]; exact h), if_pos (by omega)]
      exact ⟨_, rfl, t_m1⟩
  obtain ⟨r1, hc1, vc⟩ := hc
  refine ⟨r1, q, r2, hc1, hq, hr, ?_⟩
  unfold prI at vq vr
  have m0 : 0 ≤ p.toInt * (d (30 + 3 * k + 2)).toInt := Int.mul_nonneg (by omega) (by omega)
  have m1 : p.toInt * (d (30 + 3 * k + 2)).toInt ≤ 200 * 1000000 := Int.mul_le_mul hp.2 c2 (by omega) (by decide)
  rw [if_neg (by omega)] at vq
  rw [vq] at vr
  have m2 : 0 ≤ p.toInt * (d (30 + 3 * k + 2)).toInt * (d 11).toInt := Int.mul_nonneg m0 (by omega)
  by_cases h : 2147483647 < p.toInt * (d (30 + 3 * k + 2)).toInt * (d 11).toInt
  · rw [if_pos h] at vc
    rw [if_pos (Or.inr h)] at vr
    exact Or.inl ⟨i_eq.mpr vc, by rw [vr]; decide⟩
  · rw [if_neg h] at vc
    rw [if_neg (show ¬ (p.toInt * (d (30 + 3 * k + 2)).toInt < 0 ∨ 2147483647 < p.toInt * (d (30 + 3 * k + 2)).toInt * (d 11).toInt) by omega)] at vr
    have e : (r2 / 100).toInt = p.toInt * (d (30 + 3 * k + 2)).toInt * (d 11).toInt / 100 := by rw [i_div (by rw [vr]; exact m2) (by decide), vr]; rfl
    refine Or.inr ⟨by rw [vc]; omega, by rw [vr]; exact m2, i_eq.mpr (by rw [e, vc])⟩
theorem t_day {t : Nat} (h : t ≤ 100000) : (nI t / 96).toInt = (t : Int) / 96 := by rw [i_div (by rw [t_nI (by omega)]; omega) (by decide), t_nI (by omega)]; rfl
theorem pledgesC_eq {a : kM1} {d : Nat → Int32} {K F S t : Nat} (R : RM a d K F S t) (m : kM1) (v p : Int32) : CH m a d t (fX3_putInPledge a v p) (fX7_pledges (sD m d) v p) := by
  have hS := R.S24
  have l1 := R.lim.1
  have l2 := R.lim.2.1
  have l4 := R.lim.2.2.2
  unfold fX3_putInPledge fX7_pledges
  rw [k_hasSack a v (by omega) R.e7, bd_s, g_isSack m d v (by omega) R.e29, bd_s]
  by_cases h : 0 ≤ v.toInt ∧ v.toInt < (S : Int)
  · obtain ⟨s, hs, rfl⟩ := nI_rng h.1 h.2
    have e := R.se hs
    have hfl := flr_in R hs
    obtain ⟨⟨⟨f, hf, f1, f2⟩, ⟨k, hk, k1, k2, k3, k4, k5⟩⟩, ⟨e2, e3, e4, e5, e6, e10, e11⟩, ⟨m9, m10⟩, hp, ⟨b2, b3, b4, b5, b6, b10, b11⟩, ⟨t0, t1, t2, t3⟩⟩ := RS_iff.mp (R.s s hs)
    have f2 : d (56 + 13 * s) = nI f := f2
    have k2 : d (56 + 13 * s + 1) = nI k := k2
    rw [if_pos h, if_neg n10, if_neg n10, k_in, bd_s, g_in, bd_s]
    by_cases h2 : (1 : Int32).toInt ≤ p.toInt ∧ p.toInt ≤ (200 : Int32).toInt
    · rw [if_pos h2, if_neg n10, if_neg n10, if_pos (inb_nI (show s < 24 by omega) (by decide)), c_nI (by omega), e.2.1, g_of3 m d (by omega), bd_s]
      by_cases h3 : d (56 + 13 * s + 3) = 2
      · rw [if_pos h3, if_pos h3, k_hasP, bd_s, e.2.2.2.2.1, g_of6 m d (by omega), bd_s]
        by_cases h6 : (d (56 + 13 * s + 6)).toInt ≤ 0
        · rw [if_pos h6, if_pos z00, if_neg (show ¬ 0 < d (56 + 13 * s + 6) by rw [i_lt, t_lit0]; omega), k_flour e, bd_s, g_flour R hs, bd_s]
          obtain ⟨fl1, fl2⟩ := hfl (fun y => absurd (y.symm.trans h3) n32)
          by_cases h7 : p.toInt ≤ (flr a d s).toInt
          · obtain ⟨p1, p2, p3⟩ := R.f f hf
            obtain ⟨r1, q, r2, L1, L2, L3, L4⟩ := loan_eq (m := m) R (s := s) hk k5 h2
            rw [if_neg (show ¬ flr a d s < p by rw [i_lt]; omega), if_pos (show p ≤ flr a d s by rw [i_le]; exact h7), f1, k_hasFarmer a (nI f) (by omega) R.n.2.1.1, bd_s, if_pos (show 0 ≤ (nI f).toInt ∧ (nI f).toInt < (F : Int) by rw [t_nI (by omega)]; omega), if_neg n10, f1, if_pos (inb_nI (show f < 8 by omega) (by decide)), c_nI (by omega), L1, bd_s, g_of1 m d (by omega), bd_s, k2, ix_k, show (2 : Int32) = nI 2 from rfl, nI_add, if_pos (n368 (by omega)), c_nI (by omega), sD_1, L2, bd_s, sD_1, L3, bd_s, g_of0 m d (by omega), bd_s, f2, ix_f, if_pos (n368 (by omega)), c_nI (by omega), sD_1, p1, klet (d (48 + f))]
            have pm := i_max (d (48 + f))
            rcases L4 with ⟨c1, c2⟩ | ⟨c1, c2, c3⟩
            · rw [if_pos c1, if_pos (show r2 < 0 by rw [i_lt, t_lit0]; exact c2)]
              exact CH.er (by decide)
            · rw [if_neg (show ¬ r1 = -1 from fun y => by rw [y, t_m1] at c1; omega), if_neg (show ¬ r2 < 0 by rw [i_lt, t_lit0]; omega), c3]
              have rm := i_max r1
              have x1 : ((d (48 + f)).toInt64 + r1.toInt64).toInt = (d (48 + f)).toInt + r1.toInt := by rw [l_add, l_i, l_i] <;> rw [l_i, l_i] <;> omega
              have x2 : (2147483647 - d (48 + f)).toInt = 2147483647 - (d (48 + f)).toInt := by rw [i_sub, t_imax] <;> rw [t_imax] <;> omega
              by_cases h8 : (d (48 + f)).toInt + r1.toInt ≤ 2147483647
              · have x3 : (d (48 + f) + r1).toInt = (d (48 + f)).toInt + r1.toInt := add_q rfl rfl p2 c1 h8
                have R1 := R.pu (v := d (48 + f) + r1) hf (by rw [x3]; exact Int.add_nonneg p2 c1)
                rw [if_pos (show lg_cmp ((d (48 + f)).toInt64 + r1.toInt64) 2147483647 ≤ 0 by rw [lc_le, x1, t_max]; exact h8), if_pos (show r1 ≤ 2147483647 - d (48 + f) by rw [i_le, x2]; omega)]
                unfold fX3_today
                simp only [klet, bd_s]
                rw [g_put6 _ d _ (by omega), bd_s, g_put7 _ _ _ (by omega), bd_s, sD_1, upd_ne (show 26 ≠ 56 + 13 * s + 7 by omega), upd_ne (show 26 ≠ 56 + 13 * s + 6 by omega), R.n.2.2.2.1.2, g_put8 _ _ _ (by omega), bd_s, sD_1, upd_ne (show 26 ≠ 56 + 13 * s + 8 by omega), upd_ne (show 26 ≠ 56 + 13 * s + 7 by omega), upd_ne (show 26 ≠ 56 + 13 * s + 6 by omega), R.n.2.2.2.1.2, upd_ne (show 10 ≠ 56 + 13 * s + 8 by omega), upd_ne (show 10 ≠ 56 + 13 * s + 7 by omega), upd_ne (show 10 ≠ 56 + 13 * s + 6 by omega), g_put9 _ _ _ (by omega), bd_s, g_of0 _ _ (by omega), bd_s, upd_ne (show 56 + 13 * s ≠ 56 + 13 * s + 9 by omega), upd_ne (show 56 + 13 * s ≠ 56 + 13 * s + 8 by omega), upd_ne (show 56 + 13 * s ≠ 56 + 13 * s + 7 by omega), upd_ne (show 56 + 13 * s ≠ 56 + 13 * s + 6 by omega), f2, ix_f, if_pos (n368 (by omega)), if_pos (n368 (by omega)), c_nI (by omega), sD_1, upd_ne (show 48 + f ≠ 56 + 13 * s + 9 by omega), upd_ne (show 48 + f ≠ 56 + 13 * s + 8 by omega), upd_ne (show 48 + f ≠ 56 + 13 * s + 7 by omega), upd_ne (show 48 + f ≠ 56 + 13 * s + 6 by omega), sD_mu]
                simp only [mu_ne (show (0 : Nat) ≠ 20 + s by omega), mu_ne (show (1 : Nat) ≠ 20 + s by omega), mu_ne (show (0 : Nat) ≠ 12 + f by omega), mu_ne (show (1 : Nat) ≠ 12 + f by omega)]
                rw [R.n.2.2.2.1.1, (R.a.1 10 (by decide)).1]
                refine CH.ok c1 (R1.sk hs (fun j hj => ?_) (fun i hi => ?_) ?_ (fun y => ?_) ?_)
                · rw [mu_ne hj, mu_ne hj, mu_ne hj, mu_ne hj]
                · by_cases z : i = 48 + f
                  · subst z
                    rw [upd_eq, upd_eq]
                  · rw [upd_ne z, upd_ne z, upd_ne (by omega), upd_ne (by omega), upd_ne (by omega), upd_ne (by omega)]
                · rw [upd_ne (by omega), upd_ne (by omega), upd_ne (by omega), upd_ne (by omega), upd_ne (by omega), upd_ne (by omega)]
                · rw [upd_ne (by omega), h3] at y
                  exact absurd y (by decide)
                · rw [mu_eq, mu_eq, mu_eq, mu_eq, mu_ne (show 20 + s ≠ 12 + f by omega), wS_lo (show 48 + f < 56 by omega), wS_up, wS_up, wS_up, wS_up]
                  have td := t_day l4
                  have y1 : 0 ≤ (nI t / 96).toInt := by rw [td]; omega
                  have y2 : (nI t / 96).toInt ≤ (t : Int) / 96 := by rw [td]; exact Int.le_refl _
                  have y3 : 0 ≤ p.toInt := Int.le_trans (by decide) h2.1
                  have y4 : p.toInt + (wS d s 10).toInt ≤ (wS d s 4).toInt - (a (20 + s) 9).toInt - (a (20 + s) 10).toInt := by
                    have z6 : 0 ≤ (d (56 + 13 * s + 6)).toInt := b6
                    show p.toInt + (d (56 + 13 * s + 10)).toInt ≤ (d (56 + 13 * s + 4)).toInt - (a (20 + s) 9).toInt - (a (20 + s) 10).toInt
                    omega
                  have y5 : ¬ (wS d s 3).toInt ≤ 1 := by
                    show ¬ (d (56 + 13 * s + 3)).toInt ≤ 1
                    rw [h3]
                    decide
                  have new : RSV (upd (upd (upd (upd (a (20 + s)) 11 p) 12 r1) 13 (nI t / 96)) 14 (nI t / 96 + d 10)) (upd (upd (upd (upd (wS d s) 6 p) 7 r1) 8 (nI t / 96)) 9 (nI t / 96 + d 10)) (wK d) K F t := ⟨⟨⟨f, hf, f1, f2⟩, ⟨k, hk, k1, k2, k3, k4, k5⟩⟩, ⟨e2, e3, e4, e5, rfl, e10, e11⟩, ⟨m9, m10⟩, fun _ => ⟨rfl, rfl, rfl, c1, y1, y2⟩, ⟨b2, b3, b4, b5, y3, b10, y4⟩, ⟨t0, t1, t2, fun z => absurd z y5⟩⟩
                  exact RSV.cg new (fun _ _ => rfl) (fun _ _ => rfl) (fun k w h1 h2 => upd_ne (by omega)) (Nat.le_refl _) (Nat.le_refl _) (Nat.le_refl _)
              · rw [if_neg (show ¬ lg_cmp ((d (48 + f)).toInt64 + r1.toInt64) 2147483647 ≤ 0 by rw [lc_le, x1, t_max]; exact h8), if_neg (show ¬ r1 ≤ 2147483647 - d (48 + f) by rw [i_le, x2]; omega)]
                exact CH.er (by decide)
          · rw [if_pos (show flr a d s < p by rw [i_lt]; omega), if_neg (show ¬ p ≤ flr a d s by rw [i_le]; exact h7)]
            exact CH.er (by decide)
        · rw [if_neg h6, if_neg n10, if_pos (show 0 < d (56 + 13 * s + 6) by rw [i_lt, t_lit0]; omega)]
          exact CH.er (by decide)
      · rw [if_neg h3, if_neg h3]
        exact CH.er (by decide)
    · rw [if_neg h2, if_pos z00, if_pos z00]
      exact CH.er (by decide)
  · rw [if_neg h, if_pos z00, if_pos z00]
    exact CH.er (by decide)
theorem pledge_eq {a : kM1} {d : Nat → Int32} {K F S t : Nat} (R : RM a d K F S t) (m : kM1) (v p : Int32) : CK m a d t (fX3_putInPledge a v p) (fX7_pledge (sD m d) v p) := CH.CK (g := fun x => fX7_pledges x v p) (pledgesC_eq R _ v p)
theorem k_endP (x : kM1) (j : Nat) : fX5_endPledge x j = some (0, mu (mu (mu (mu x j 11 0) j 12 0) j 13 0) j 14 0) := rfl
theorem has60 {d : Nat → Int32} {s : Nat} (h : 0 ≤ (d (56 + 13 * s + 6)).toInt) : d (56 + 13 * s + 6) = 0 ↔ (d (56 + 13 * s + 6)).toInt ≤ 0 := by
  constructor
  · intro z
    rw [z]
    decide
  · intro z
    exact i_eq.mpr (by rw [t_lit0]; omega)
theorem redeems_eq {a : kM1} {d : Nat → Int32} {K F S t : Nat} (R : RM a d K F S t) (m : kM1) (v : Int32) : CH m a d t (fX3_redeemPledge a v) (fX7_redeems (sD m d) v) := by
  have hS := R.S24
  have l1 := R.lim.1
  have l2 := R.lim.2.1
  unfold fX3_redeemPledge fX7_redeems
  rw [k_hasSack a v (by omega) R.e7, bd_s, g_isSack m d v (by omega) R.e29, bd_s]
  by_cases h : 0 ≤ v.toInt ∧ v.toInt < (S : Int)
  · obtain ⟨s, hs, rfl⟩ := nI_rng h.1 h.2
    have e := R.se hs
    obtain ⟨⟨⟨f, hf, f1, f2⟩, so2⟩, ⟨e2, e3, e4, e5, e6, e10, e11⟩, ⟨m9, m10⟩, hp, ⟨b2, b3, b4, b5, b6, b10, b11⟩, ⟨t0, t1, t2, t3⟩⟩ := RS_iff.mp (R.s s hs)
    have f2 : d (56 + 13 * s) = nI f := f2
    have b6' : 0 ≤ (d (56 + 13 * s + 6)).toInt := b6
    rw [if_pos h, if_neg n10, if_neg n10, if_pos (inb_nI (show s < 24 by omega) (by decide)), c_nI (by omega), k_hasP, bd_s, e.2.2.2.2.1, g_of0 m d (by omega), bd_s, klet, g_of6 m d (by omega), bd_s]
    by_cases h6 : (d (56 + 13 * s + 6)).toInt ≤ 0
    · rw [if_pos h6, if_pos z00, if_pos ((has60 b6').mpr h6)]
      exact CH.er (by decide)
    · obtain ⟨r, D1, D2, D3⟩ := debt_eq (m := m) R hs (by omega)
      obtain ⟨p1, p2, p3⟩ := R.f f hf
      rw [if_neg h6, if_neg n10, if_neg (fun y => h6 ((has60 b6').mp y)), f1, f2, k_hasFarmer a (nI f) (by omega) R.n.2.1.1, bd_s, if_pos (show 0 ≤ (nI f).toInt ∧ (nI f).toInt < (F : Int) by rw [t_nI (by omega)]; omega), if_neg n10, f1, if_pos (inb_nI (show f < 8 by omega) (by decide)), c_nI (by omega), D1, bd_s, D2, bd_s, p1, ix_f]
      by_cases h7 : r = 2147483647
      · rw [if_pos h7, if_pos h7]
        exact CH.er (by decide)
      · rw [if_neg h7, if_neg h7, if_pos (n368 (by omega)), D2, bd_s, c_nI (by omega), sD_1]
        by_cases h8 : r.toInt ≤ (d (48 + f)).toInt
        · have pm := i_max (d (48 + f))
          have x3 : (d (48 + f) - r).toInt = (d (48 + f)).toInt - r.toInt := i_sub (by omega) (by omega)
          have R1 := R.pu (v := d (48 + f) - r) hf (by rw [x3]; omega)
          rw [if_pos (show r ≤ d (48 + f) by rw [i_le]; exact h8), if_pos (show r ≤ d (48 + f) by rw [i_le]; exact h8), if_pos (inbk (show 48 + f < 368 by omega) (by decide)), D2, bd_s, if_pos (inbk (show 48 + f < 368 by omega) (by decide)), klet, klet, k_endP, bd_s, sD_mu, g_put6 _ _ _ (by omega), bd_s, if_pos (inbk (show 48 + f < 368 by omega) (by decide)), sD_1, upd_ne (show 48 + f ≠ 56 + 13 * s + 6 by omega), upd_eq, mu_ne (show 12 + f ≠ 20 + s by omega), mu_ne (show 12 + f ≠ 20 + s by omega), mu_ne (show 12 + f ≠ 20 + s by omega), mu_ne (show 12 + f ≠ 20 + s by omega), mu_eq, upd_eq]
          refine CH.ok (by rw [x3]; omega) (R1.sk hs (fun j hj => ?_) (fun i hi => ?_) ?_ (fun y => ?_) ?_)
          · rw [mu_ne hj, mu_ne hj, mu_ne hj, mu_ne hj]
          · rw [upd_ne (by omega)]
          · rw [upd_ne (by omega)]
          · rw [upd_ne (by omega)]
            exact y
          · rw [mu_eq, mu_eq, mu_eq, mu_eq, mu_ne (show 20 + s ≠ 12 + f by omega), wS_up, wS_lo (show 48 + f < 56 by omega)]
            have y4 : (0 : Int32).toInt + (wS d s 10).toInt ≤ (wS d s 4).toInt - (a (20 + s) 9).toInt - (a (20 + s) 10).toInt := by
              have z : (wS d s 6).toInt + (wS d s 10).toInt ≤ (wS d s 4).toInt - (a (20 + s) 9).toInt - (a (20 + s) 10).toInt := b11
              have z6 : 0 ≤ (wS d s 6).toInt := b6
              rw [t_lit0]
              omega
            have new : RSV (upd (upd (upd (upd (a (20 + s)) 11 0) 12 0) 13 0) 14 0) (upd (wS d s) 6 0) (wK d) K F t := ⟨⟨⟨f, hf, f1, f2⟩, so2⟩, ⟨e2, e3, e4, e5, rfl, e10, e11⟩, ⟨m9, m10⟩, fun z => absurd z np0, ⟨b2, b3, b4, b5, t00, b10, y4⟩, ⟨t0, t1, t2, fun z => ⟨rfl, (t3 z).2⟩⟩⟩
            exact RSV.cg new (fun _ _ => rfl) (fun _ _ => rfl) (fun k w h1 h2 => upd_ne (by omega)) (Nat.le_refl _) (Nat.le_refl _) (Nat.le_refl _)
        · rw [if_neg (show ¬ r ≤ d (48 + f) by rw [i_le]; exact h8), if_neg (show ¬ r ≤ d (48 + f) by rw [i_le]; exact h8)]
          exact CH.er (by decide)
  · rw [if_neg h, if_pos z00, if_pos z00]
    exact CH.er (by decide)
theorem redeem_eq {a : kM1} {d : Nat → Int32} {K F S t : Nat} (R : RM a d K F S t) (m : kM1) (v : Int32) : CK m a d t (fX3_redeemPledge a v) (fX7_redeem (sD m d) v) := CH.CK (g := fun x => fX7_redeems x v) (redeems_eq R _ v)
