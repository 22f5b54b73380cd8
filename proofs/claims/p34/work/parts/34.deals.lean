/-! money, foretelling -/
/-- the whole of it: the mill, its ring of states -/
def WI (M : kM2) (K F S t : Nat) : Prop := IM (M 0) K F S t (dt t) ∧ ∃ f n, HI M f n
section DE
variable {M : kM2} {K F S t : Nat}
theorem WI.ok (W : WI M K F S t) (g : kM1 → Option (Int32 × kM1)) {r : Int32} {a' : kM1} {K' F' S' t' : Nat} (hg : g (M 0) = some (r, a')) (hr : 0 ≤ r.toInt) (R' : IM a' K' F' S' t' (dt t')) : ∃ M', (bd (fX1_hold M 0) fun _ M2 => bd (k_on M2 0 (g (M2 0))) fun r3 M4 => bd (k_on M4 7 (fX1_keepIfDone (M4 7) r3)) fun r5 M6 => some (r5, M6)) = some (r, M') ∧ M' 0 = a' ∧ WI M' K' F' S' t' := by
  obtain ⟨R, f, n, H⟩ := W
  obtain ⟨M', f', h1, h2, h3, -⟩ := top_ok R H g hg hr
  exact ⟨M', h1, h2, by rw [h2]; exact R', f', _, h3⟩
theorem WI.no (W : WI M K F S t) (g : kM1 → Option (Int32 × kM1)) {r : Int32} (hg : g (M 0) = some (r, M 0)) (hr : r.toInt < 0) : ∃ M', (bd (fX1_hold M 0) fun _ M2 => bd (k_on M2 0 (g (M2 0))) fun r3 M4 => bd (k_on M4 7 (fX1_keepIfDone (M4 7) r3)) fun r5 M6 => some (r5, M6)) = some (r, M') ∧ M' 0 = M 0 ∧ WI M' K F S t := by
  obtain ⟨R, f, n, H⟩ := W
  obtain ⟨M', h1, h2, h3⟩ := top_no R H g hg hr
  exact ⟨M', h1, h2, by rw [h2]; exact R, f, n, h3⟩
theorem one_add (n : Nat) : 1 + nI n = nI (1 + n) := nI_add 1 n
theorem z_money (W : WI M K F S t) {s z : Nat} (hs : s < S) (hz : z < 2147483648) : ∃ M', fL_money M (nI s) (nI z) = some (1, M') ∧ WI M' K F S t := by
  have R := W.1
  have hF := R.F8
  obtain ⟨⟨f, hf, e0⟩, -⟩ := R.so hs
  have hz2 := Nat.div_le_self z 2
  have hm := Nat.mod_lt (z / 2) (show 0 < 9 by decide)
  have s0 : fX6_sackOf M (nI s) 0 = some (nI f, M) := (x_sackOf R hs (v := 0) (by decide)).trans (by rw [tv_0, e0])
  have f0 : fX6_farmerOf M (nI f) 0 = some (M 0 (12 + f) 0, M) := x_farmer R hf (v := 0) (by decide)
  have s5 : fX6_sackOf M (nI s) 5 = some (fl (M 0 (20 + s)), M) := x_sackOf R hs (v := 5) (by decide)
  have s8 : fX6_sackOf M (nI s) 8 = some (M 0 (20 + s) 11, M) := x_sackOf R hs (v := 8) (by decide)
  unfold fL_money
  rw [s0, bd_s, f0, bd_s, s5, bd_s, s8, bd_s, show (2 : Int32) = nI 2 from rfl, r_nI hz (by decide) (by decide), d_nI hz (by decide) (by decide), show (9 : Int32) = nI 9 from rfl, r_nI (by omega) (by decide) (by decide), one_add]
  by_cases c : z % 2 = 0
  · rw [if_pos (show nI (z % 2) = 0 by rw [c]; rfl), klet]
    have en : (nI (1 + z / 2 % 9)).toInt = (1 + z / 2 % 9 : Nat) := t_nI (by omega)
    rcases k_pledge R hs hf e0 (v := nI (1 + z / 2 % 9)) (by omega) with h | ⟨r, a', h1, h2, h3, h4, h5, h6, h7, h8⟩
    · obtain ⟨M', g1, g2, g3⟩ := W.no (fun m => fX3_putInPledge m (nI s) (nI (1 + z / 2 % 9))) h (by decide)
      unfold fX6_pledge
      rw [g1, bd_s, if_pos rfl]
      have f0' : fX6_farmerOf M' (nI f) 0 = some (M' 0 (12 + f) 0, M') := x_farmer g3.1 hf (v := 0) (by decide)
      rw [f0', bd_s, g2, if_pos rfl]
      exact ⟨M', rfl, g3⟩
    · obtain ⟨M', g1, g2, g3⟩ := W.ok (fun m => fX3_putInPledge m (nI s) (nI (1 + z / 2 % 9))) h1 h2 h3
      unfold fX6_pledge
      have nr : ¬ r = -1000002 := fun q => by rw [q] at h2; exact absurd h2 (by decide)
      have f0' : fX6_farmerOf M' (nI f) 0 = some (M' 0 (12 + f) 0, M') := x_farmer g3.1 hf (v := 0) (by decide)
      have s5' : fX6_sackOf M' (nI s) 5 = some (fl (M' 0 (20 + s)), M') := x_sackOf g3.1 hs (v := 5) (by decide)
      have s8' : fX6_sackOf M' (nI s) 8 = some (M' 0 (20 + s) 11, M') := x_sackOf g3.1 hs (v := 8) (by decide)
      rw [g1, bd_s, if_neg nr, if_neg (by rw [z_neg]; omega), if_pos h4, f0', bd_s, g2, if_pos h5, s5', bd_s, g2, if_pos h7, s8', bd_s, g2, if_pos h8]
      exact ⟨M', rfl, g3⟩
  · rw [if_neg (show ¬ nI (z % 2) = 0 from fun q => c (nI_inj (b := 0) (by omega) (by decide) q))]
    have pu := (R.f f hf).1
    rcases k_redeem R hs hf e0 with ⟨h1, h2⟩ | ⟨h1, d, h2, h3, h4⟩
    · rcases x_owed R hs with ⟨-, o1⟩ | ⟨o1, -⟩
      · obtain ⟨M', g1, g2, g3⟩ := W.no (fun m => fX3_redeemPledge m (nI s)) h2 (by decide)
        unfold fX6_redeem
        rw [o1, bd_s, g1, bd_s, if_pos rfl, if_pos (by decide)]
        exact ⟨M', rfl, g3⟩
      · exact absurd o1 h1
    · rcases x_owed R hs with ⟨o1, -⟩ | ⟨o1, r, o2, o3, -, -⟩
      · exact absurd h1 o1
      · have er : r = d := by rw [h2] at o2; exact (congrArg Prod.fst (Option.some.inj o2)).symm
        subst er
        rcases h4 with ⟨h5, h6⟩ | ⟨a', h5, h6, h7, h8, h9⟩
        · obtain ⟨M', g1, g2, g3⟩ := W.no (fun m => fX3_redeemPledge m (nI s)) h6 (by decide)
          unfold fX6_redeem fL_money_b179
          rw [o3, bd_s, g1, bd_s, if_pos rfl, if_neg (by rw [z_neg]; omega)]
          by_cases c2 : M 0 (12 + f) 0 < r
          · rw [if_pos c2]
            exact ⟨M', rfl, g3⟩
          · rw [if_neg c2, if_pos (h5.resolve_right c2)]
            exact ⟨M', rfl, g3⟩
        · obtain ⟨M', g1, g2, g3⟩ := W.ok (fun m => fX3_redeemPledge m (nI s)) h5 h6 h7
          unfold fX6_redeem
          have nr : ¬ M 0 (12 + f) 0 - r = -1000002 := fun q => by rw [q] at h6; exact absurd h6 (by decide)
          have s5' : fX6_sackOf M' (nI s) 5 = some (fl (M' 0 (20 + s)), M') := x_sackOf g3.1 hs (v := 5) (by decide)
          rw [o3, bd_s, g1, bd_s, if_neg nr, if_pos rfl, s5', bd_s, g2, if_pos h8]
          rcases x_owed g3.1 hs with ⟨-, o4⟩ | ⟨o4, -⟩
          · rw [o4, bd_s, if_pos rfl]
            exact ⟨M', rfl, g3⟩
          · rw [g2, h9] at o4
            exact absurd o4 (by decide)
/-- on the trial's side of it -/
theorem fs_lp (sk : Nat) (hsk : sk < 24) : ∀ (j k n : Nat) (x : kM1), k + j = 1001 → j < n → 1 ≤ k → IM x K F S t (dt t) → t + j ≤ 20000 → ∃ r x', fX6_foresee_b46 (nI sk) n (up M 1 x) (nI k) = some (r, up M 1 x') ∧ ¬ r = -1000001 := by
  have main : ∀ (j k n : Nat) (x : kM1) (t : Nat), k + j = 1001 → j < n → 1 ≤ k → IM x K F S t (dt t) → t + j ≤ 20000 → ∃ r x', fX6_foresee_b46 (nI sk) n (up M 1 x) (nI k) = some (r, up M 1 x') ∧ ¬ r = -1000001 := by
    intro j
    induction j with
    | zero =>
      intro k n x t hk hn h1 R ht
      obtain ⟨n, rfl⟩ : ∃ z, n = z + 1 := ⟨n - 1, by omega⟩
      rw [fX6_foresee_b46, if_pos (show (1000 : Int32) < nI k from nI_lt (a := 1000) (by omega) (by omega))]
      exact ⟨_, x, rfl, by decide⟩
    | succ j ih =>
      intro k n x t hk hn h1 R ht
      obtain ⟨n, rfl⟩ : ∃ z, n = z + 1 := ⟨n - 1, by omega⟩
      obtain ⟨x1, g1, R1⟩ := k_step R (by omega)
      rw [fX6_foresee_b46, if_neg (show ¬ (1000 : Int32) < nI k from nI_nlt (b := k) (a := 1000) (by omega) (by decide)), up_same, g1, on_some, bd_s, if_pos (inb_nI hsk (by decide)), c_nI (by omega), up_up, up_same]
      by_cases c : x1 (20 + sk) 6 = 2
      · rw [if_pos c]
        exact ⟨_, x1, rfl, fun z => by rw [i_eq, t_nI (by omega)] at z; have : (-1000001 : Int32).toInt = -1000001 := by decide
                                       omega⟩
      · rw [if_neg c, klet, nI_1]
        exact ih (k + 1) n x1 (t + 1) (by omega) (by omega) (by omega) R1 (by omega)
  exact fun j k n x hk hn h1 R ht => main j k n x t hk hn h1 R ht
theorem z_foresee (W : WI M K F S t) (hS0 : 0 < S) (ht : t ≤ 10000) : ∃ r M', fX6_foresee M 0 = some (r, M') ∧ ¬ r = -1000001 ∧ M' 0 = M 0 ∧ M' 7 = M 7 := by
  have R := W.1
  have hS := R.S24
  show ∃ r M', fX6_foresee M (nI 0) = some (r, M') ∧ ¬ r = -1000001 ∧ M' 0 = M 0 ∧ M' 7 = M 7
  unfold fX6_foresee
  rw [y_hasS R hS0, on_self, bd_s, if_neg n10, if_pos (inb_nI (show 0 < 24 by decide) (by decide)), c_nI (by decide)]
  by_cases c : M 0 (20 + 0) 6 < 2
  · rw [if_pos c]
    obtain ⟨x, c1, c2⟩ := copy_eq (M := M) (i := 1) (i1 := 0) (by decide) R
    rw [c1, bd_s]
    obtain ⟨r, x', h1, h2⟩ := fs_lp (M := M) 0 (by decide) 1000 1 kFu x (by omega) (by unfold kFu; omega) (by omega) (R.cg c2) (by omega)
    exact ⟨r, _, h1, h2, up_ne _ _ (by decide), up_ne _ _ (by decide)⟩
  · rw [if_neg c]
    exact ⟨_, M, rfl, by decide, rfl, rfl⟩
theorem gb_lp (st : Nat) (hst : st ≤ 200) (op : Int32) : ∀ (j k n : Nat) (x : kM1) (t : Nat), k + j = st → j < n → IM x K F S t (dt t) → t + j ≤ 20000 → ∃ r x', fX6_groundBy_b21 op (nI st) n (up M 1 x) (nI k) = some (r, up M 1 x') := by
  intro j
  induction j with
  | zero =>
    intro k n x t hk hn R ht
    obtain ⟨n, rfl⟩ : ∃ z, n = z + 1 := ⟨n - 1, by omega⟩
    rw [fX6_groundBy_b21, if_pos (lp_out (by omega) (by omega))]
    exact ⟨_, x, rfl⟩
  | succ j ih =>
    intro k n x t hk hn R ht
    obtain ⟨n, rfl⟩ : ∃ z, n = z + 1 := ⟨n - 1, by omega⟩
    obtain ⟨x1, g1, R1⟩ := k_step R (by omega)
    rw [fX6_groundBy_b21, if_neg (lp_in (n := 200) (show k < st by omega) hst (by decide)), up_same, g1, on_some, bd_s, up_up, klet, nI_1]
    exact ih (k + 1) n x1 (t + 1) (by omega) (by omega) R1 (by omega)
theorem z_ground (R : IM (M 0) K F S t (dt t)) (ht : t ≤ 10000) {st : Nat} (hst : st ≤ 200) {op : Nat} (hop : op ≤ 3) (y : kM1) : ∃ r x', fX6_groundBy (up M 1 y) (nI op) (nI st) = some (r, up M 1 x') := by
  obtain ⟨x, c1, c2⟩ := copy_eq (M := up M 1 y) (i := 1) (i1 := 0) (by decide) (by rw [up_ne _ _ (by decide)]; exact R)
  rw [up_up] at c1
  rw [up_ne _ _ (by decide)] at c2
  unfold fX6_groundBy
  rw [c1, bd_s, klet, mw_up]
  have R1 := (k_gate (R.cg c2) (v := nI op) (by rw [t_nI (by omega)]; omega)).2
  exact gb_lp st hst (nI op) st 0 kFu _ t (by omega) (by unfold kFu; omega) R1 (by omega)
theorem bg_lp (R : IM (M 0) K F S t (dt t)) (ht : t ≤ 10000) {st : Nat} (hst : st ≤ 200) : ∀ (j k n : Nat) (y : kM1) (b2 b3 : Int32), k + j = 4 → j < n → 0 ≤ b2.toInt → ∃ r x', fX6_bestGate_b21 (nI st) n (up M 1 y) b2 b3 (nI k) = some (r, up M 1 x') ∧ 0 ≤ r.toInt := by
  intro j
  induction j with
  | zero =>
    intro k n y b2 b3 hk hn hb
    obtain ⟨n, rfl⟩ : ∃ z, n = z + 1 := ⟨n - 1, by omega⟩
    rw [fX6_bestGate_b21, if_pos (show (4 : Int32) ≤ nI k from nI_le (a := 4) (by omega) (by omega))]
    exact ⟨b2, y, rfl, hb⟩
  | succ j ih =>
    intro k n y b2 b3 hk hn hb
    obtain ⟨n, rfl⟩ : ∃ z, n = z + 1 := ⟨n - 1, by omega⟩
    obtain ⟨r, x', h1⟩ := z_ground R ht hst (op := k) (by omega) y
    rw [fX6_bestGate_b21, if_neg (show ¬ (4 : Int32) ≤ nI k from nI_ge (a := k) (b := 4) (by omega) (by decide)), h1, bd_s]
    unfold fX6_bestGate_b48
    simp only [klet, nI_1]
    by_cases c : r ≤ b3
    · rw [if_pos c]
      exact ih (k + 1) n x' b2 b3 (by omega) (by omega) hb
    · rw [if_neg c]
      exact ih (k + 1) n x' (nI k) r (by omega) (by omega) (by rw [t_nI (by omega)]; omega)
theorem z_best (R : IM (M 0) K F S t (dt t)) (ht : t ≤ 10000) : ∃ r M', fX6_bestGate M 50 = some (r, M') ∧ 0 ≤ r.toInt ∧ M' 0 = M 0 ∧ M' 7 = M 7 := by
  unfold fX6_bestGate
  rw [k_inY M (v := 50) (a := 1) (b := 200) (by decide), bd_s, if_neg n10]
  obtain ⟨r, x', h1, h2⟩ := bg_lp R ht (st := 50) (by decide) 4 0 kFu (M 1) 0 (-1) (by omega) (by unfold kFu; omega) (by decide)
  rw [up_self] at h1
  exact ⟨r, _, h1, h2, up_ne _ _ (by decide), up_ne _ _ (by decide)⟩
end DE
