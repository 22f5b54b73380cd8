/-! the law's own course, read purely -/
theorem andmax (v : Int32) : ∃ n, n < 2147483648 ∧ v &&& 2147483647 = nI n := by
  refine ⟨v.toBitVec.toNat % 2147483648, Nat.mod_lt _ (by decide), ?_⟩
  apply Int32.toBitVec_inj.mp
  rw [Int32.toBitVec_and]
  apply BitVec.eq_of_toNat_eq
  rw [BitVec.toNat_and]
  have e1 : (2147483647 : Int32).toBitVec.toNat = 2 ^ 31 - 1 := by decide
  have e2 : (nI (v.toBitVec.toNat % 2147483648)).toBitVec.toNat = (v.toBitVec.toNat % 2147483648) % 2 ^ 32 := rfl
  rw [e1, e2, Nat.and_two_pow_sub_one_eq_mod]
  omega
section PL
variable {M : kM2} {K F S t sl : Nat} {sx : Nat → Int32}
theorem z_cell (hsl : sl ≤ 260) (M : kM2) {k : Nat} (hk : k < 1000) : ∃ y, y < 2147483648 ∧ fL_cell M sl sx (nI k) = some (nI y, M) := by
  unfold fL_cell fL_cell_b19
  by_cases h : nI sl ≤ nI k
  · rw [if_pos h]
    obtain ⟨y, h1, h2⟩ := andmax (15485959 * nI k + 109)
    exact ⟨y, h1, by rw [h2]⟩
  · rw [if_neg h]
    have hks : k < sl := by
      rw [nI_leI (by omega) (by omega)] at h
      omega
    rw [if_pos (inb_nI hks (by omega)), c_nI (by omega)]
    obtain ⟨y, h1, h2⟩ := andmax (sx k)
    exact ⟨y, h1, by rw [h2]⟩
/-- what a part of the class's own rests on stays where only the trial has changed -/
theorem WI.tr (W : WI M K F S t) {M' : kM2} (h0 : M' 0 = M 0) (h7 : M' 7 = M 7) : WI M' K F S t := by
  obtain ⟨R, f, n, H⟩ := W
  refine ⟨by rw [h0]; exact R, f, n, H.1, H.2.1, ?_, ?_⟩
  · rw [h7]; exact H.2.2.1
  · rw [h7]; exact H.2.2.2
theorem w749 (W : WI M K F S t) (hS0 : 0 < S) (ht : t ≤ 9000) : ∃ M', fL_law_b749 sl sx M 1 = some (1, M') := by
  have R := W.1
  obtain ⟨-, f, n, H⟩ := id W
  have hn := H.2.1
  have p0 : fX6_pond M 0 = some (M 0 0 9, M) := x_pond R (v := 0) (by decide)
  have p10 : fX6_pond M 10 = some (M 0 0 17, M) := x_pond R (v := 10) (by decide)
  obtain ⟨r1, M1, g1, g2, g3, g4⟩ := z_foresee W hS0 (by omega)
  have W1 := W.tr g3 g4
  obtain ⟨r2, M2, g5, g6, g7, g8⟩ := z_best W1.1 (by omega)
  have W2 := W1.tr g7 g8
  have R2 := W2.1
  have e2 : M2 0 = M 0 := g7.trans g3
  have q0 : fX6_pond M2 0 = some (M 0 0 9, M2) := (x_pond R2 (v := 0) (by decide)).trans (by rw [← e2]; rfl)
  have q10 : fX6_pond M2 10 = some (M 0 0 17, M2) := (x_pond R2 (v := 10) (by decide)).trans (by rw [← e2]; rfl)
  have H2 : HI M2 f n := ⟨H.1, H.2.1, by rw [g8, g4]; exact H.2.2.1, by rw [g8, g4]; exact H.2.2.2⟩
  obtain ⟨a', h1, R'⟩ := k_pass R2 (st := 100) (by decide) (by omega)
  obtain ⟨M3, f3, h2, h3, H3, hE⟩ := top_ok R2 H2 (fun m => fX3_letPass m (nI 100)) h1 (by rw [t_nI (by omega)]; omega)
  have R3 : IM (M3 0) K F S (t + 100) (dt (t + 100)) := by rw [h3]; exact R'
  obtain ⟨p, hp⟩ : ∃ p, nx n = p + 1 := ⟨nx n - 1, by unfold nx; split <;> omega⟩
  rw [hp] at H3 hE
  rw [Nat.add_sub_cancel] at hE
  obtain ⟨M4, h4, hE4, H4⟩ := undo_s H3 (R2.cg hE)
  have hE5 := hE4.tr hE
  have R4 := R2.cg hE5
  have v9 : M4 0 0 9 = M 0 0 9 := by rw [hE5.1 9 (by decide) (by decide), e2]
  have v17 : M4 0 0 17 = M 0 0 17 := by rw [hE5.1 17 (by decide) (by decide), e2]
  have u0 : fX6_pond M4 0 = some (M4 0 0 9, M4) := x_pond R4 (v := 0) (by decide)
  have u10 : fX6_pond M4 10 = some (M4 0 0 17, M4) := x_pond R4 (v := 10) (by decide)
  unfold fL_law_b749
  rw [p0, bd_s, p10, bd_s, x_count9 H, bd_s, if_neg n10, g1, bd_s, if_neg g2, g5, bd_s, if_neg (by rw [z_neg]; omega), q0, bd_s, if_pos rfl, q10, bd_s, if_pos rfl]
  unfold fL_law_b819
  have hpass : fX6_pass M2 100 = some (nI (t + 100), M3) := h2
  rw [if_neg n10, hpass, bd_s, if_neg (nI_nle (by omega) (by omega)), z_holds R3, bd_s, if_neg n10, h4, bd_s]
  have fin : ∀ c : Int32, nI p = c → fL_law_b856 sl sx M4 (M 0 0 9) (M 0 0 17) c (nI p) = some (1, M4) := by
    intro c hc
    unfold fL_law_b856
    rw [if_pos hc, u0, bd_s, if_pos v9, u10, bd_s, if_pos v17, z_holds R4, bd_s, if_neg n10]
  by_cases h44 : n = 4
  · subst h44
    rw [if_pos (show (4 : Int32) ≤ nI 4 by decide)]
    have : p = 3 := by have : nx 4 = 4 := rfl
                       omega
    subst this
    exact ⟨_, fin 3 rfl⟩
  · rw [if_neg (show ¬ (4 : Int32) ≤ nI n from nI_ge (a := n) (b := 4) (by omega) (by decide))]
    have : p = n := by have : nx n = n + 1 := by unfold nx; rw [if_neg h44]
                       omega
    subst this
    exact ⟨_, fin _ rfl⟩
theorem aft (W : WI M K F S t) (rec238 : kM2 → Int32 → Int32 → Option (Int32 × kM2)) (k : Nat) : fL_law_b726 sl sx rec238 M 1 (nI k) = rec238 M 1 (nI (k + 1)) := by
  unfold fL_law_b726 fL_law_b742
  rw [if_neg n10, z_holds W.1, bd_s, if_neg n10, klet, nI_1]
end PL
section CA
variable {M : kM2} {S t sl : Nat} {sx : Nat → Int32}
theorem ca_0 (W : WI M 3 3 S t) (z : Nat) (hz : z < 2147483648) : ∃ M1 M2 r1 r2, fX6_set M 3 (nI (z % 40)) = some (r1, M1) ∧ ¬ r1 < 0 ∧ fX6_count M1 23 = some (nI (z % 40), M1) ∧ fX6_set M1 5 (nI (z / 64 % 200)) = some (r2, M2) ∧ ¬ r2 < 0 ∧ WI M2 3 3 S t := by
  have R := W.1
  have m1 := Nat.mod_lt z (show 0 < 40 by decide)
  have m2 := Nat.mod_lt (z / 64) (show 0 < 200 by decide)
  have b3 : 0 ≤ (M 0 1 3).toInt := (R.a.1 3 (by decide)).1
  obtain ⟨s1, s2⟩ := k_set R (w := 3) (by decide) (v := nI (z % 40)) (by rw [t_nI (by omega)]; exact ⟨by show (0 : Int) ≤ _; omega, by show _ ≤ (100 : Int); omega⟩)
  obtain ⟨M1, g1, g2, W1⟩ := W.ok (fun m => fX3_changeSetting m (nI 3) (nI (z % 40))) s1 b3 s2
  have R1 := W1.1
  have b5 : 0 ≤ (M1 0 1 5).toInt := (R1.a.1 5 (by decide)).1
  obtain ⟨s3, s4⟩ := k_set R1 (w := 5) (by decide) (v := nI (z / 64 % 200)) (by rw [t_nI (by omega)]; exact ⟨by show (0 : Int) ≤ _; omega, by show _ ≤ (200 : Int); omega⟩)
  obtain ⟨M2, g3, g4, W2⟩ := W1.ok (fun m => fX3_changeSetting m (nI 5) (nI (z / 64 % 200))) s3 b5 s4
  refine ⟨M1, M2, _, _, g1, by rw [z_neg]; omega, ?_, g3, by rw [z_neg]; omega, W2⟩
  rw [x_countS (w := 3) (by decide) rfl (by decide), g2, mu_eq, upd_eq]
theorem ca_1 (W : WI M 3 3 S t) (z : Nat) (hz : z < 2147483648) : ∃ M1 M2 r1 r2, fX6_gate M (nI (z % 4)) = some (r1, M1) ∧ ¬ r1 < 0 ∧ fX6_lock M1 (nI (z / 4 % 2)) = some (r2, M2) ∧ ¬ r2 < 0 ∧ fX6_pond M2 4 = some (nI (z % 4), M2) ∧ fX6_pond M2 5 = some (nI (z / 4 % 2), M2) ∧ WI M2 3 3 S t := by
  have R := W.1
  have m1 := Nat.mod_lt z (show 0 < 4 by decide)
  have m2 := Nat.mod_lt (z / 4) (show 0 < 2 by decide)
  obtain ⟨s1, s2⟩ := k_gate R (v := nI (z % 4)) (by rw [t_nI (by omega)]; omega)
  have b1 := R.w.2.2.1.1
  obtain ⟨M1, g1, g2, W1⟩ := W.ok (fun m => fX3_changeOpening m (nI (z % 4))) s1 b1 s2
  have R1 := W1.1
  obtain ⟨s3, s4⟩ := k_lock R1 (v := nI (z / 4 % 2)) (by
    rcases (show z / 4 % 2 = 0 ∨ z / 4 % 2 = 1 by omega) with h | h
    · rw [h]; exact Or.inl rfl
    · rw [h]; exact Or.inr rfl)
  have b2 : 0 ≤ (M1 0 0 10).toInt := by
    rcases R1.w.2.1 with h | h
    · rw [h]; decide
    · rw [h]; decide
  obtain ⟨M2, g3, g4, W2⟩ := W1.ok (fun m => fX3_changeLock m (nI (z / 4 % 2))) s3 b2 s4
  refine ⟨M1, M2, _, _, g1, by rw [z_neg]; omega, g3, by rw [z_neg]; omega, ?_, ?_, W2⟩
  · have h : fX6_pond M2 4 = some (M2 0 0 11, M2) := x_pond W2.1 (v := 4) (by decide)
    rw [h, g4, mu_eq, upd_ne (by decide), g2, mu_eq, upd_eq]
  · have h : fX6_pond M2 5 = some (M2 0 0 10, M2) := x_pond W2.1 (v := 5) (by decide)
    rw [h, g4, mu_eq, upd_eq]
theorem w238_body (hsl : sl ≤ 260) {n k : Nat} (hk : k < 28) (W : WI M 3 3 S t) (hS : 5 ≤ S) (ht : t ≤ 120 * k) (ih : ∀ (M : kM2) (S t : Nat), WI M 3 3 S t → 5 ≤ S → t ≤ 120 * (k + 1) → ∃ M', fL_law_b238 sl sx n M 1 (nI (k + 1)) = some (1, M')) : ∃ M', fL_law_b238 sl sx (n + 1) M 1 (nI k) = some (1, M') := by
  have R := W.1
  have hS24 := R.S24
  obtain ⟨y, hy, hc⟩ := z_cell (sl := sl) (sx := sx) hsl M (k := 11 + k) (by omega)
  have hz2 := Nat.div_le_self y 8
  obtain ⟨z, ez⟩ : ∃ z, z = y / 8 := ⟨_, rfl⟩
  rw [← ez] at hz2
  have hzS := Nat.mod_lt z (show 0 < S by omega)
  have e1 : (11 : Int32) + nI k = nI (11 + k) := nI_add 11 k
  have e2 : nI y / 8 = nI z := by rw [ez]; exact d_nI (b := 8) hy (by decide) (by decide)
  have e3 : irm (nI y) 8 = nI (y % 8) := r_nI (b := 8) hy (by decide) (by decide)
  have e4 : irm (nI z) (nI S) = nI (z % S) := r_nI (by omega) (by omega) (by omega)
  have e5 : irm (nI z) 40 = nI (z % 40) := r_nI (b := 40) (by omega) (by decide) (by decide)
  have e6 : irm (nI z / 64) 200 = nI (z / 64 % 200) := by rw [show nI z / 64 = nI (z / 64) from d_nI (b := 64) (by omega) (by decide) (by decide)]; exact r_nI (b := 200) (by omega) (by decide) (by decide)
  have e7 : irm (nI z) 4 = nI (z % 4) := r_nI (b := 4) (by omega) (by decide) (by decide)
  have e8 : irm (nI z / 4) 2 = nI (z / 4 % 2) := by rw [show nI z / 4 = nI (z / 4) from d_nI (b := 4) (by omega) (by decide) (by decide)]; exact r_nI (b := 2) (by omega) (by decide) (by decide)
  have e9 : irm (nI z) 3 = nI (z % 3) := r_nI (b := 3) (by omega) (by decide) (by decide)
  have e10 : irm (nI z / 4) 3 = nI (z / 4 % 3) := by rw [show nI z / 4 = nI (z / 4) from d_nI (b := 4) (by omega) (by decide) (by decide)]; exact r_nI (b := 3) (by omega) (by decide) (by decide)
  have e11 : 1 + irm (nI z / 16) 40 = nI (1 + z / 16 % 40) := by rw [show nI z / 16 = nI (z / 16) from d_nI (b := 16) (by omega) (by decide) (by decide), show irm (nI (z / 16)) 40 = nI (z / 16 % 40) from r_nI (b := 40) (by omega) (by decide) (by decide), one_add]
  have e12 : nI z / 32 = nI (z / 32) := d_nI (b := 32) (by omega) (by decide) (by decide)
  have e13 : 1 + irm (nI z) 120 = nI (1 + z % 120) := by rw [show irm (nI z) 120 = nI (z % 120) from r_nI (b := 120) (by omega) (by decide) (by decide), one_add]
  have nS : ¬ nI S = 0 := fun q => by have := nI_inj (b := 0) (by omega) (by decide) q; omega
  rw [fL_law_b238, if_neg (show ¬ (28 : Int32) ≤ nI k from nI_ge (b := 28) hk (by decide)), if_neg n10, e1, hc, bd_s]
  simp only [klet]
  rw [e2, x_count2 R, bd_s, if_pos nS, x_count7 R, bd_s, e3, e4, e5, e6, e7, e8, e9, e10, e11, e12, e13]
  have hy8 := Nat.mod_lt y (show 0 < 8 by decide)
  rcases (show y % 8 = 0 ∨ y % 8 = 1 ∨ y % 8 = 2 ∨ y % 8 = 3 ∨ y % 8 = 4 ∨ y % 8 = 5 ∨ y % 8 = 6 ∨ y % 8 = 7 by omega) with h | h | h | h | h | h | h | h
  · rw [h, if_pos (by decide)]
    obtain ⟨M1, M2, r1, r2, g1, g2, g3, g4, g5, W2⟩ := ca_0 W z (by omega)
    rw [g1, bd_s, if_neg g2, g3, bd_s, if_pos rfl, g4, bd_s, if_neg g5]
    unfold fL_law_b378
    rw [aft W2]
    exact ih M2 S t W2 hS (by omega)
  · rw [h, if_neg (by decide), if_pos (by decide)]
    obtain ⟨M1, M2, r1, r2, g1, g2, g3, g4, g5, g6, W2⟩ := ca_1 W z (by omega)
    rw [g1, bd_s, if_neg g2, g3, bd_s, if_neg g4, g5, bd_s, if_pos rfl, g6, bd_s, if_pos rfl]
    unfold fL_law_b437
    rw [aft W2]
    exact ih M2 S t W2 hS (by omega)
  · rw [h, if_neg (by decide), if_neg (by decide), if_pos (by decide)]
    have s3 : fX6_sackOf M (nI (z % S)) 3 = some (M 0 (20 + z % S) 6, M) := x_sackOf R hzS (v := 3) (by decide)
    rw [s3, bd_s]
    rcases k_withdraw R hzS with ⟨c1, c2⟩ | ⟨c1, a', c2, c3, c4, c5⟩
    · obtain ⟨M1, g1, g2, W1⟩ := W.no (fun m => fX3_withdrawSack m (nI (z % S))) c2 (by decide)
      have g1' : fX6_withdraw M (nI (z % S)) = some (-1000002, M1) := g1
      rw [g1', bd_s, if_neg c1, if_pos rfl]
      unfold fL_law_b508
      rw [aft W1]
      exact ih M1 S t W1 hS (by omega)
    · have r5 := (R.sr hzS).2.2.2.1
      obtain ⟨M1, g1, g2, W1⟩ := W.ok (fun m => fX3_withdrawSack m (nI (z % S))) c2 (by omega) c3
      have g1' : fX6_withdraw M (nI (z % S)) = some (M 0 (20 + z % S) 5, M1) := g1
      have s2' : fX6_sackOf M1 (nI (z % S)) 2 = some (M1 0 (20 + z % S) 5, M1) := x_sackOf W1.1 hzS (v := 2) (by decide)
      have s10' : fX6_sackOf M1 (nI (z % S)) 10 = some (M1 0 (20 + z % S) 16, M1) := x_sackOf W1.1 hzS (v := 10) (by decide)
      rw [g1', bd_s, if_pos c1, s2', bd_s, g2, if_pos c4.symm, s10', bd_s, g2, if_pos c5]
      unfold fL_law_b508
      rw [aft W1]
      exact ih M1 S t W1 hS (by omega)
  · rw [h, if_neg (by decide), if_neg (by decide), if_neg (by decide), if_pos (by decide)]
    have s5 : fX6_sackOf M (nI (z % S)) 5 = some (fl (M 0 (20 + z % S)), M) := x_sackOf R hzS (v := 5) (by decide)
    rw [s5, bd_s]
    unfold fL_law_b564 fL_law_b569
    rcases k_fetch R hzS with c2 | ⟨a', c2, c3, c4, c5⟩
    · obtain ⟨M1, g1, g2, W1⟩ := W.no (fun m => fX3_fetchSack m (nI (z % S))) c2 (by decide)
      have g1' : fX6_fetch M (nI (z % S)) = some (-1000002, M1) := g1
      rw [g1', bd_s, if_pos rfl, aft W1]
      exact ih M1 S t W1 hS (by omega)
    · obtain ⟨M1, g1, g2, W1⟩ := W.ok (fun m => fX3_fetchSack m (nI (z % S))) c2 c3 c4
      have g1' : fX6_fetch M (nI (z % S)) = some (fl (M 0 (20 + z % S)), M1) := g1
      have nr : ¬ fl (M 0 (20 + z % S)) = -1000002 := fun q => by rw [q] at c3; exact absurd c3 (by decide)
      have s3' : fX6_sackOf M1 (nI (z % S)) 3 = some (M1 0 (20 + z % S) 6, M1) := x_sackOf W1.1 hzS (v := 3) (by decide)
      have s5' : fX6_sackOf M1 (nI (z % S)) 5 = some (fl (M1 0 (20 + z % S)), M1) := x_sackOf W1.1 hzS (v := 5) (by decide)
      have f0 : fl (M1 0 (20 + z % S)) = 0 := by unfold fl; rw [g2, if_pos c5]
      rw [g1', bd_s, if_neg nr, if_pos rfl, s3', bd_s, g2, if_pos c5, s5', bd_s, if_pos f0, aft W1]
      exact ih M1 S t W1 hS (by omega)
  · rw [h, if_neg (by decide), if_neg (by decide), if_neg (by decide), if_neg (by decide), if_pos (by decide)]
    have m3 := Nat.mod_lt z (show 0 < 3 by decide)
    have m3' := Nat.mod_lt (z / 4) (show 0 < 3 by decide)
    have m40 := Nat.mod_lt (z / 16) (show 0 < 40 by decide)
    have hp : 1 ≤ (nI (1 + z / 16 % 40)).toInt ∧ (nI (1 + z / 16 % 40)).toInt ≤ 200 := by rw [t_nI (by omega)]; omega
    unfold fL_law_b661
    by_cases cS : S < 24
    · obtain ⟨a', c1, c2, c3, c4, -⟩ := k_bring R cS m3 m3' hp
      obtain ⟨M1, g1, g2, W1⟩ := W.ok (fun m => fX3_addSack m (nI (z % 3)) (nI (z / 4 % 3)) (nI (1 + z / 16 % 40))) c1 (by rw [t_nI (by omega)]; omega) (c2 (dt t) (fun _ _ => rfl))
      have g1' : fX6_bring M (nI (z % 3)) (nI (z / 4 % 3)) (nI (1 + z / 16 % 40)) = some (nI S, M1) := g1
      have nr : ¬ nI S = -1000003 := fun q => by rw [i_eq, t_nI (by omega)] at q; have : (-1000003 : Int32).toInt = -1000003 := by decide
                                                 omega
      have eS : nI (S + 1) - 1 = nI S := by rw [show (1 : Int32) = nI 1 from rfl, nI_sub (by omega)]; rfl
      have s4' : fX6_sackOf M1 (nI S) 4 = some (gr (M1 0 (20 + S)), M1) := x_sackOf W1.1 (show S < S + 1 by omega) (v := 4) (by decide)
      rw [g1', bd_s, if_neg nr, x_count2 W1.1, bd_s, eS, if_pos rfl, s4', bd_s, g2, if_pos c4, aft W1]
      exact ih M1 (S + 1) t W1 (by omega) (by omega)
    · have cS' : S = 24 := by omega
      have c1 := k_bringNo R cS' m3 m3' hp
      obtain ⟨M1, g1, g2, W1⟩ := W.no (fun m => fX3_addSack m (nI (z % 3)) (nI (z / 4 % 3)) (nI (1 + z / 16 % 40))) c1 (by decide)
      have g1' : fX6_bring M (nI (z % 3)) (nI (z / 4 % 3)) (nI (1 + z / 16 % 40)) = some (-1000003, M1) := g1
      rw [g1', bd_s, if_pos rfl, x_count2 W1.1, bd_s, if_pos (by rw [cS']; rfl), aft W1]
      exact ih M1 S t W1 hS (by omega)
  · rw [h, if_neg (by decide), if_neg (by decide), if_neg (by decide), if_neg (by decide), if_neg (by decide), if_pos (by decide)]
    obtain ⟨M1, g1, W1⟩ := z_money W hzS (z := z / 32) (by omega)
    rw [g1, bd_s, aft W1]
    exact ih M1 S t W1 hS (by omega)
  all_goals
    rw [h, if_neg (by decide), if_neg (by decide), if_neg (by decide), if_neg (by decide), if_neg (by decide), if_neg (by decide)]
    have m120 := Nat.mod_lt z (show 0 < 120 by decide)
    obtain ⟨a', c1, c2⟩ := k_pass R (st := 1 + z % 120) (by omega) (by omega)
    obtain ⟨M1, g1, g2, W1⟩ := W.ok (fun m => fX3_letPass m (nI (1 + z % 120))) c1 (by rw [t_nI (by omega)]; omega) c2
    have g1' : fX6_pass M (nI (1 + z % 120)) = some (nI (t + (1 + z % 120)), M1) := g1
    rw [g1', bd_s, nI_add, if_pos rfl, x_count8 W1.1, bd_s, if_pos (show nI ((t + (1 + z % 120)) / 96) = nI (t + (1 + z % 120)) / 96 from (d_nI (b := 96) (by omega) (by decide) (by decide)).symm)]
    unfold fL_law_b725
    rw [aft W1]
    exact ih M1 S _ W1 hS (by omega)
theorem w238 (hsl : sl ≤ 260) : ∀ (j k n : Nat) (M : kM2) (S t : Nat), k + j = 28 → j < n → WI M 3 3 S t → 5 ≤ S → t ≤ 120 * k → ∃ M', fL_law_b238 sl sx n M 1 (nI k) = some (1, M') := by
  intro j
  induction j with
  | zero =>
    intro k n M S t hk hn W hS ht
    obtain ⟨n, rfl⟩ : ∃ z, n = z + 1 := ⟨n - 1, by omega⟩
    have hS24 := W.1.S24
    rw [fL_law_b238, if_pos (show (28 : Int32) ≤ nI k from nI_le (a := 28) (by omega) (by omega))]
    exact w749 W (by omega) (by omega)
  | succ j ih =>
    intro k n M S t hk hn W hS ht
    obtain ⟨n, rfl⟩ : ∃ z, n = z + 1 := ⟨n - 1, by omega⟩
    exact w238_body hsl (by omega) W hS ht (fun M' S' t' W' hS' ht' => ih (k + 1) n M' S' t' (by omega) (by omega) W' hS' ht')
end CA
section BE
variable {sl : Nat} {sx : Nat → Int32}
/-- what a new mill has, that the law asks for by number -/
def NW (M : kM2) : Prop := M 0 1 7 = 200 ∧ M 0 1 12 = 0 ∧ M 0 0 11 = 0
theorem w163 {M : kM2} (hsl : sl ≤ 260) (W : WI M 3 3 5 0) (N : NW M) : ∃ M', fL_law_b163 sl sx M 1 = some (1, M') := by
  obtain ⟨n1, n2, n3⟩ := N
  obtain ⟨y1, hy1, c1⟩ := z_cell (sl := sl) (sx := sx) hsl M (k := 8) (by omega)
  have m3 := Nat.mod_lt y1 (show 0 < 3 by decide)
  have ey1 : 1 + irm (nI y1) 3 = nI (1 + y1 % 3) := by rw [show irm (nI y1) 3 = nI (y1 % 3) from r_nI (b := 3) hy1 (by decide) (by decide), one_add]
  obtain ⟨s1, s2⟩ := k_gate W.1 (v := nI (1 + y1 % 3)) (by rw [t_nI (by omega)]; omega)
  obtain ⟨M1, g1, g2, W1⟩ := W.ok (fun m => fX3_changeOpening m (nI (1 + y1 % 3))) s1 (by rw [n3]; decide) s2
  have g1' : fX6_gate M (nI (1 + y1 % 3)) = some (M 0 0 11, M1) := g1
  obtain ⟨y2, hy2, c2⟩ := z_cell (sl := sl) (sx := sx) hsl M1 (k := 9) (by omega)
  have m200 := Nat.mod_lt y2 (show 0 < 200 by decide)
  have ey2 : irm (nI y2) 200 = nI (y2 % 200) := r_nI (b := 200) hy2 (by decide) (by decide)
  have e7 : M1 0 1 7 = 200 := by rw [g2, mu_ne (by decide)]; exact n1
  obtain ⟨s3, s4⟩ := k_set W1.1 (w := 7) (by decide) (v := nI (y2 % 200)) (by rw [t_nI (by omega)]; exact ⟨by show (0 : Int) ≤ _; omega, by show _ ≤ (2000 : Int); omega⟩)
  obtain ⟨M2, g3, g4, W2⟩ := W1.ok (fun m => fX3_changeSetting m (nI 7) (nI (y2 % 200))) s3 (by rw [e7]; decide) s4
  have g3' : fX6_set M1 7 (nI (y2 % 200)) = some (M1 0 1 7, M2) := g3
  obtain ⟨y3, hy3, c3⟩ := z_cell (sl := sl) (sx := sx) hsl M2 (k := 10) (by omega)
  have m4 := Nat.mod_lt y3 (show 0 < 4 by decide)
  have ey3 : irm (nI y3) 4 = nI (y3 % 4) := r_nI (b := 4) hy3 (by decide) (by decide)
  have e12 : M2 0 1 12 = 0 := by rw [g4, mu_eq, upd_ne (by decide), g2, mu_ne (by decide)]; exact n2
  obtain ⟨s5, s6⟩ := k_set W2.1 (w := 12) (by decide) (v := nI (y3 % 4)) (by rw [t_nI (by omega)]; exact ⟨by show (0 : Int) ≤ _; omega, by show _ ≤ (3 : Int); omega⟩)
  obtain ⟨M3, g5, g6, W3⟩ := W2.ok (fun m => fX3_changeSetting m (nI 12) (nI (y3 % 4))) s5 (by rw [e12]; decide) s6
  have g5' : fX6_set M2 12 (nI (y3 % 4)) = some (M2 0 1 12, M3) := g5
  have c1' : fL_cell M sl sx 8 = some (nI y1, M) := c1
  have c2' : fL_cell M1 sl sx 9 = some (nI y2, M1) := c2
  have c3' : fL_cell M2 sl sx 10 = some (nI y3, M2) := c3
  unfold fL_law_b163
  rw [if_neg n10, c1', bd_s, ey1, g1', bd_s, if_pos n3, c2', bd_s, ey2, g3', bd_s, if_pos e7, c3', bd_s, ey3, g5', bd_s, if_pos e12, z_holds W3.1, bd_s, if_neg n10]
  unfold fL_law_b235
  exact w238 hsl 28 0 kFu M3 5 0 (by omega) (by unfold kFu; omega) W3 (by omega) (by omega)
theorem w105 (hsl : sl ≤ 260) : ∀ (j k n : Nat) (M : kM2), k + j = 5 → j < n → WI M 3 3 k 0 → NW M → ∃ M', fL_law_b105 sl sx n M 1 (nI k) = some (1, M') := by
  intro j
  induction j with
  | zero =>
    intro k n M hk hn W N
    obtain ⟨n, rfl⟩ : ∃ z, n = z + 1 := ⟨n - 1, by omega⟩
    have : k = 5 := by omega
    subst this
    rw [fL_law_b105, if_pos (by decide)]
    exact w163 hsl W N
  | succ j ih =>
    intro k n M hk hn W N
    obtain ⟨n, rfl⟩ : ∃ z, n = z + 1 := ⟨n - 1, by omega⟩
    obtain ⟨y, hy, hc⟩ := z_cell (sl := sl) (sx := sx) hsl M (k := 3 + k) (by omega)
    have e1 : (3 : Int32) + nI k = nI (3 + k) := nI_add 3 k
    have e9 : irm (nI y) 3 = nI (y % 3) := r_nI (b := 3) (by omega) (by decide) (by decide)
    have e10 : irm (nI y / 4) 3 = nI (y / 4 % 3) := by rw [show nI y / 4 = nI (y / 4) from d_nI (b := 4) (by omega) (by decide) (by decide)]; exact r_nI (b := 3) (by omega) (by decide) (by decide)
    have e11 : 1 + irm (nI y / 16) 30 = nI (1 + y / 16 % 30) := by rw [show nI y / 16 = nI (y / 16) from d_nI (b := 16) (by omega) (by decide) (by decide), show irm (nI (y / 16)) 30 = nI (y / 16 % 30) from r_nI (b := 30) (by omega) (by decide) (by decide), one_add]
    have m3 := Nat.mod_lt y (show 0 < 3 by decide)
    have m3' := Nat.mod_lt (y / 4) (show 0 < 3 by decide)
    have m40 := Nat.mod_lt (y / 16) (show 0 < 30 by decide)
    obtain ⟨a', c1, c2, c3, c4, c5⟩ := k_bring W.1 (show k < 24 by omega) m3 m3' (p := nI (1 + y / 16 % 30)) (by rw [t_nI (by omega)]; omega)
    obtain ⟨M1, g1, g2, W1⟩ := W.ok (fun m => fX3_addSack m (nI (y % 3)) (nI (y / 4 % 3)) (nI (1 + y / 16 % 30))) c1 (by rw [t_nI (by omega)]; omega) (c2 (dt 0) (fun _ _ => rfl))
    have g1' : fX6_bring M (nI (y % 3)) (nI (y / 4 % 3)) (nI (1 + y / 16 % 30)) = some (nI k, M1) := g1
    rw [fL_law_b105, if_neg (show ¬ (5 : Int32) ≤ nI k from nI_ge (b := 5) (by omega) (by decide)), if_neg n10, e1, hc, bd_s, e9, e10, e11, g1', bd_s, if_pos rfl]
    unfold fL_law_b156
    rw [klet, nI_1]
    exact ih (k + 1) n M1 (by omega) (by omega) W1 ⟨by rw [g2, c3 1 (by omega) (by omega)]; exact N.1, by rw [g2, c3 1 (by omega) (by omega)]; exact N.2.1, by rw [g2, c5]; exact N.2.2⟩
theorem w32 (hsl : sl ≤ 260) : ∀ (j k n : Nat) (M : kM2), k + j = 3 → j < n → WI M k k 0 0 → NW M → ∃ M', fL_law_b32 sl sx n M 1 (nI k) = some (1, M') := by
  intro j
  induction j with
  | zero =>
    intro k n M hk hn W N
    obtain ⟨n, rfl⟩ : ∃ z, n = z + 1 := ⟨n - 1, by omega⟩
    have : k = 3 := by omega
    subst this
    rw [fL_law_b32, if_pos (by decide)]
    unfold fL_law_b103
    exact w105 hsl 5 0 kFu M (by omega) (by unfold kFu; omega) W N
  | succ j ih =>
    intro k n M hk hn W N
    obtain ⟨n, rfl⟩ : ∃ z, n = z + 1 := ⟨n - 1, by omega⟩
    obtain ⟨y, hy, hc⟩ := z_cell (sl := sl) (sx := sx) hsl M (k := k) (by omega)
    have e9 : 1 + irm (nI y) 9 = nI (1 + y % 9) := by rw [show irm (nI y) 9 = nI (y % 9) from r_nI (b := 9) (by omega) (by decide) (by decide), one_add]
    have e10 : irm (nI y / 16) 21 = nI (y / 16 % 21) := by rw [show nI y / 16 = nI (y / 16) from d_nI (b := 16) (by omega) (by decide) (by decide)]; exact r_nI (b := 21) (by omega) (by decide) (by decide)
    have e11 : 1 + irm (nI y / 512) 5000 = nI (1 + y / 512 % 5000) := by rw [show nI y / 512 = nI (y / 512) from d_nI (b := 512) (by omega) (by decide) (by decide), show irm (nI (y / 512)) 5000 = nI (y / 512 % 5000) from r_nI (b := 5000) (by omega) (by decide) (by decide), one_add]
    have m9 := Nat.mod_lt y (show 0 < 9 by decide)
    have m21 := Nat.mod_lt (y / 16) (show 0 < 21 by decide)
    have m5000 := Nat.mod_lt (y / 512) (show 0 < 5000 by decide)
    obtain ⟨a', c1, c2, c3, c4⟩ := k_kind W.1 (show k < 6 by omega) (h := nI (1 + y % 9)) (d := nI (y / 16 % 21)) (c := nI (1 + y / 512 % 5000)) (by rw [t_nI (by omega)]; omega) (by rw [t_nI (by omega)]; omega) (by rw [t_nI (by omega)]; omega)
    obtain ⟨M1, g1, g2, W1⟩ := W.ok (fun m => fX3_addKind m (nI (1 + y % 9)) (nI (y / 16 % 21)) (nI (1 + y / 512 % 5000))) c1 (by rw [t_nI (by omega)]; omega) c2
    have g1' : fX6_kind M (nI (1 + y % 9)) (nI (y / 16 % 21)) (nI (1 + y / 512 % 5000)) = some (nI k, M1) := g1
    obtain ⟨b', d1, d2, d3, d4⟩ := k_farmer W1.1 (show k < 8 by omega)
    obtain ⟨M2, g3, g4, W2⟩ := W1.ok fX3_addFarmer d1 (by rw [t_nI (by omega)]; omega) d2
    have g3' : fX6_farmer M1 = some (nI k, M2) := g3
    rw [fL_law_b32, if_neg (show ¬ (3 : Int32) ≤ nI k from nI_ge (b := 3) (by omega) (by decide)), if_neg n10, hc, bd_s, e9, e10, e11, g1', bd_s, if_pos rfl, g3', bd_s, if_pos rfl]
    unfold fL_law_b96
    rw [klet, nI_1]
    have x1 : M2 0 1 = M 0 1 := by rw [g4, d3 1 (by omega) (by omega), g2, c3 1 (by omega) (by omega)]
    have x0 : M2 0 0 11 = M 0 0 11 := by rw [g4, d4, g2, c4]
    exact ih (k + 1) n M2 (by omega) (by omega) W2 ⟨by rw [x1]; exact N.1, by rw [x1]; exact N.2.1, by rw [x0]; exact N.2.2⟩
/-- from a new object on, the law comes to 1 -/
theorem w8 {M : kM2} (hsl : sl ≤ 260) (R : IM (M 0) 0 0 0 0 (dt 0)) (H : HI M 0 0) (N : NW M) : ∃ M', fL_law_b8 sl sx M = some (1, M') := by
  unfold fL_law_b8
  rw [z_holds R, bd_s, if_neg n10, undo_0 H, bd_s, if_pos rfl]
  unfold fL_law_b29
  exact w32 hsl 3 0 kFu M (by omega) (by unfold kFu; omega) ⟨R, 0, 0, H⟩ N
end BE
