/-! the law's accounts and farmers -/
theorem tv_0 (r : Nat → Int32) : tv r 0 = r 0 := rfl
theorem tv_2 (r : Nat → Int32) : tv r 2 = r 5 := rfl
theorem tv_3 (r : Nat → Int32) : tv r 3 = r 6 := rfl
theorem tv_4 (r : Nat → Int32) : tv r 4 = gr r := rfl
theorem tv_5 (r : Nat → Int32) : tv r 5 = fl r := rfl
theorem tv_6 (r : Nat → Int32) : tv r 6 = r 9 := rfl
theorem tv_7 (r : Nat → Int32) : tv r 7 = r 10 := rfl
theorem tv_8 (r : Nat → Int32) : tv r 8 = r 11 := rfl
theorem tv_9 (r : Nat → Int32) : tv r 9 = r 15 := rfl
theorem tv_10 (r : Nat → Int32) : tv r 10 = r 16 := rfl
/-- what a sack's pounds have become is at least nothing each, and all together what was brought -/
theorem sack_sum {r : Nat → Int32} {K F : Nat} {d0 d1 : Int} (h : SV r K F d0 d1) : 0 ≤ (gr r).toInt ∧ 0 ≤ (fl r).toInt ∧ gr r + fl r + r 9 + r 10 + r 11 + r 15 + r 16 = r 5 := by
  have h' := h
  obtain ⟨so, sr, ⟨⟨x1, x2, x3, x4, x5, x6, x7, x8⟩, sp2⟩, sd⟩ := h
  have r5 := sr.2.2.2.1
  by_cases c : r 6 = 3
  · have i6 : (r 6).toInt = 3 := by rw [c]; rfl
    have eg : gr r = 0 := by unfold gr; rw [if_pos c]
    have ef : fl r = 0 := by unfold fl; rw [if_pos c]
    rw [eg, ef]
    refine ⟨by decide, by decide, ?_⟩
    rw [show (0 : Int32) + 0 = 0 from rfl, Int32.zero_add, i_eq]
    have e1 : (r 9 + r 10).toInt = (r 9).toInt + (r 10).toInt := i_add (by omega) (by omega)
    have e2 : (r 9 + r 10 + r 11).toInt = (r 9 + r 10).toInt + (r 11).toInt := i_add (by omega) (by omega)
    have e3 : (r 9 + r 10 + r 11 + r 15).toInt = (r 9 + r 10 + r 11).toInt + (r 15).toInt := i_add (by omega) (by omega)
    rw [i_add (by omega) (by omega)]
    omega
  · have i6 : ¬ (r 6).toInt = 3 := fun z => c (i_eq.mpr z)
    have eg : (gr r).toInt = (r 5).toInt - (r 7).toInt := by
      unfold gr
      rw [if_neg c]
      exact i_sub (by omega) (by omega)
    have ef := fl_toInt h' c
    refine ⟨by omega, by omega, ?_⟩
    rw [i_eq]
    have e0 : (gr r + fl r).toInt = (gr r).toInt + (fl r).toInt := i_add (by omega) (by omega)
    have e1 : (gr r + fl r + r 9).toInt = (gr r + fl r).toInt + (r 9).toInt := i_add (by omega) (by omega)
    have e2 : (gr r + fl r + r 9 + r 10).toInt = (gr r + fl r + r 9).toInt + (r 10).toInt := i_add (by omega) (by omega)
    have e3 : (gr r + fl r + r 9 + r 10 + r 11).toInt = (gr r + fl r + r 9 + r 10).toInt + (r 11).toInt := i_add (by omega) (by omega)
    have e4 : (gr r + fl r + r 9 + r 10 + r 11 + r 15).toInt = (gr r + fl r + r 9 + r 10 + r 11).toInt + (r 15).toInt := i_add (by omega) (by omega)
    rw [i_add (by omega) (by omega)]
    omega
theorem tv_pos {r : Nat → Int32} {K F : Nat} {d0 d1 : Int} (h : SV r K F d0 d1) {w : Nat} (hw : 4 ≤ w ∧ w ≤ 10) : ¬ tv r (nI w) < 0 := by
  obtain ⟨g0, f0, -⟩ := sack_sum h
  obtain ⟨so, sr, ⟨⟨x1, x2, x3, x4, x5, x6, x7, x8⟩, sp2⟩, sd⟩ := h
  rw [z_neg]
  rcases (show w = 4 ∨ w = 5 ∨ w = 6 ∨ w = 7 ∨ w = 8 ∨ w = 9 ∨ w = 10 by omega) with rfl | rfl | rfl | rfl | rfl | rfl | rfl
  · show ¬ (gr r).toInt < 0; omega
  · show ¬ (fl r).toInt < 0; omega
  · show ¬ (r 9).toInt < 0; omega
  · show ¬ (r 10).toInt < 0; omega
  · show ¬ (r 11).toInt < 0; omega
  · show ¬ (r 15).toInt < 0; omega
  · show ¬ (r 16).toInt < 0; omega
section SU
variable {a : kM1} {K F S t : Nat} {D : Nat → Int}
theorem of_far (a : kM1) (f s : Nat) (hf : f < 24) : ofB a (nI f) (-1) s = true ↔ a (20 + s) 0 = nI f := by
  unfold ofB
  simp only [Bool.and_eq_true, decide_eq_true_eq]
  have n1 : ¬ nI f = -1 := fun z => by rw [i_eq, t_nI (by omega), t_m1] at z; omega
  exact ⟨fun z => z.1.resolve_left n1, fun z => ⟨Or.inr z, Or.inl trivial⟩⟩
theorem of_kin (a : kM1) (k s : Nat) (hk : k < 24) : ofB a (-1) (nI k) s = true ↔ a (20 + s) 1 = nI k := by
  unfold ofB
  simp only [Bool.and_eq_true, decide_eq_true_eq]
  have n1 : ¬ nI k = -1 := fun z => by rw [i_eq, t_nI (by omega), t_m1] at z; omega
  exact ⟨fun z => z.2.resolve_left n1, fun z => ⟨Or.inl trivial, Or.inr z⟩⟩
theorem of_all (a : kM1) (s : Nat) : ofB a (-1) (-1) s = true := by unfold ofB; simp
theorem sum_all (a : kM1) (S : Nat) (v : Nat → Int32) : (sm S fun s => if ofB a (-1) (-1) s = true then v s else 0) = sm S v := sm_cg (fun i _ => if_pos (of_all a i))
theorem sum_far (R : IM a K F S t D) (v : Nat → Int32) : (sm F fun f => sm S fun s => if ofB a (nI f) (-1) s = true then v s else 0) = sm S v := by
  have hF := R.F8
  have h := sm_by (n := S) (F := F) (fun s => (a (20 + s) 0).toNatClampNeg) v (fun i hi => by
    obtain ⟨⟨f, h1, h2⟩, -⟩ := R.so hi
    show (a (20 + i) 0).toNatClampNeg < F
    rw [h2, c_nI (by omega)]
    exact h1)
  rw [← h]
  refine sm_cg (fun f hf => sm_cg (fun s hs => ite_i ?_))
  rw [of_far a f s (by omega)]
  obtain ⟨⟨g, h1, h2⟩, -⟩ := R.so hs
  rw [h2, c_nI (by omega)]
  exact ⟨fun z => nI_inj (by omega) (by omega) z, fun z => by rw [z]⟩
theorem sum_kin (R : IM a K F S t D) (v : Nat → Int32) : (sm K fun f => sm S fun s => if ofB a (-1) (nI f) s = true then v s else 0) = sm S v := by
  have hK := R.l.1
  have h := sm_by (n := S) (F := K) (fun s => (a (20 + s) 1).toNatClampNeg) v (fun i hi => by
    obtain ⟨-, ⟨f, h1, h2⟩⟩ := R.so hi
    show (a (20 + i) 1).toNatClampNeg < K
    rw [h2, c_nI (by omega)]
    exact h1)
  rw [← h]
  refine sm_cg (fun f hf => sm_cg (fun s hs => ite_i ?_))
  rw [of_kin a f s (by omega)]
  obtain ⟨-, ⟨g, h1, h2⟩⟩ := R.so hs
  rw [h2, c_nI (by omega)]
  exact ⟨fun z => nI_inj (by omega) (by omega) z, fun z => by rw [z]⟩
theorem sm_ones (S : Nat) : (sm S fun _ => (1 : Int32)) = nI S := by
  have h := nI_cn S (fun _ => true)
  rw [cn_all (fun _ _ => rfl)] at h
  exact h.symm
theorem cnt_far (R : IM a K F S t D) : (sm F fun f => nI (cn S (ofB a (nI f) (-1)))) = nI S := by
  rw [← sm_ones S, ← sum_far R]
  exact sm_cg (fun f _ => nI_cn S _)
theorem cnt_kin (R : IM a K F S t D) : (sm K fun f => nI (cn S (ofB a (-1) (nI f)))) = nI S := by
  rw [← sm_ones S, ← sum_kin R]
  exact sm_cg (fun f _ => nI_cn S _)
theorem pl_far (R : IM a K F S t D) : (sm F fun f => nI (cn S fun s => plB a s && ofB a (nI f) (-1) s)) = nI (cn S (plB a)) := by
  rw [nI_cn, ← sum_far R]
  refine sm_cg (fun f _ => (nI_cn S _).trans (sm_cg (fun s _ => ?_)))
  by_cases h1 : plB a s = true
  · by_cases h2 : ofB a (nI f) (-1) s = true
    · rw [if_pos h2, if_pos h1, if_pos (by rw [h1, h2]; rfl)]
    · rw [if_neg h2, if_neg (fun z => h2 (by simp only [Bool.and_eq_true] at z; exact z.2))]
  · rw [if_neg h1, ite_self, if_neg (fun z => h1 (by simp only [Bool.and_eq_true] at z; exact z.1))]
end SU
section AC
variable {M : kM2} {K F S t : Nat}
theorem ac22 (R : IM (M 0) K F S t (dt t)) {s : Nat} (hs : s < S) (rec4 : kM2 → Int32 → Int32 → Option (Int32 × kM2)) {w n : Nat} (hw : 4 ≤ w ∧ w ≤ 10) (acc : Int32) : fL_accounts_b22 rec4 (n + 1) M 1 (nI s) acc (nI w) = fL_accounts_b22 rec4 n M 1 (nI s) (acc + tv (M 0 (20 + s)) (nI w)) (nI (w + 1)) := by
  rw [fL_accounts_b22, if_neg (show ¬ (11 : Int32) ≤ nI w from nI_ge (a := w) (b := 11) (by omega) (by decide)), x_sackOf R hs (v := nI w) (by rw [t_nI (by omega)]; omega), bd_s, if_neg n10, if_neg (tv_pos (R.s s hs) hw)]
  unfold fL_accounts_b52
  rw [klet, klet, nI_1]
theorem ac_sack (R : IM (M 0) K F S t (dt t)) {s : Nat} (hs : s < S) (rec4 : kM2 → Int32 → Int32 → Option (Int32 × kM2)) : fL_accounts_b22 rec4 kFu M 1 (nI s) 0 4 = rec4 M 1 (nI (s + 1)) := by
  have hsum := (sack_sum (R.s s hs)).2.2
  rw [show kFu = 4992 + 1 + 1 + 1 + 1 + 1 + 1 + 1 + 1 from rfl, show (4 : Int32) = nI 4 from rfl, ac22 R hs rec4 (by omega), ac22 R hs rec4 (by omega), ac22 R hs rec4 (by omega), ac22 R hs rec4 (by omega), ac22 R hs rec4 (by omega), ac22 R hs rec4 (by omega), ac22 R hs rec4 (by omega), fL_accounts_b22, if_pos (show (11 : Int32) ≤ nI (4 + 1 + 1 + 1 + 1 + 1 + 1 + 1) by decide), if_neg n10, x_sackOf R hs (v := 2) (by decide), bd_s]
  have e : 0 + tv (M 0 (20 + s)) (nI 4) + tv (M 0 (20 + s)) (nI (4 + 1)) + tv (M 0 (20 + s)) (nI (4 + 1 + 1)) + tv (M 0 (20 + s)) (nI (4 + 1 + 1 + 1)) + tv (M 0 (20 + s)) (nI (4 + 1 + 1 + 1 + 1)) + tv (M 0 (20 + s)) (nI (4 + 1 + 1 + 1 + 1 + 1)) + tv (M 0 (20 + s)) (nI (4 + 1 + 1 + 1 + 1 + 1 + 1)) = tv (M 0 (20 + s)) 2 := by
    rw [Int32.zero_add]
    exact hsum
  rw [if_pos e]
  unfold fL_accounts_b83
  rw [klet, nI_1]
theorem ac4_lp (R : IM (M 0) K F S t (dt t)) : ∀ (j k n : Nat), k + j = S → j < n → fL_accounts_b4 n M 1 (nI k) = fL_accounts_b90 M 1 := by
  have hS := R.S24
  intro j
  induction j with
  | zero =>
    intro k n hk hn
    obtain ⟨n, rfl⟩ : ∃ z, n = z + 1 := ⟨n - 1, by omega⟩
    rw [fL_accounts_b4, x_count2 R, bd_s, if_pos (lp_out (by omega) (by omega))]
  | succ j ih =>
    intro k n hk hn
    obtain ⟨n, rfl⟩ : ∃ z, n = z + 1 := ⟨n - 1, by omega⟩
    rw [fL_accounts_b4, x_count2 R, bd_s, if_neg (lp_in (show k < S by omega) hS (by decide)), if_neg n10, ac_sack R (by omega)]
    exact ih (k + 1) n (by omega) (by omega)
theorem ac151_lp (R : IM (M 0) K F S t (dt t)) (rec92 : kM2 → Int32 → Int32 → Option (Int32 × kM2)) {w : Nat} (hw : 4 ≤ w ∧ w ≤ 10) {b3 b4 : Int32} (h34 : b3 = b4) (h3 : b3 = sm K fun k => sm S fun s => if ofB (M 0) (-1) (nI k) s = true then tv (M 0 (20 + s)) (nI w) else 0) : ∀ (j k n : Nat), k + j = K → j < n → fL_accounts_b151 rec92 n M (nI w) b3 b4 (sm k fun k => sm S fun s => if ofB (M 0) (-1) (nI k) s = true then tv (M 0 (20 + s)) (nI w) else 0) (nI k) = rec92 M 1 (nI (w + 1)) := by
  have hK := R.l.1
  intro j
  induction j with
  | zero =>
    intro k n hk hn
    obtain ⟨n, rfl⟩ : ∃ z, n = z + 1 := ⟨n - 1, by omega⟩
    have : k = K := by omega
    subst this
    rw [fL_accounts_b151, x_count0 R, bd_s, if_pos (lp_out (by omega) (by omega)), if_pos h34, if_pos h3]
    unfold fL_accounts_b197
    rw [klet, nI_1]
  | succ j ih =>
    intro k n hk hn
    obtain ⟨n, rfl⟩ : ∃ z, n = z + 1 := ⟨n - 1, by omega⟩
    rw [fL_accounts_b151, x_count0 R, bd_s, if_neg (lp_in (n := 6) (show k < K by omega) (by omega) (by decide)), x_account R (p := -1) (q := nI k) (v := nI w) (Or.inl rfl) (Or.inr ⟨k, by omega, rfl⟩) (Or.inr (by rw [t_nI (by omega)]; omega)), bd_s, klet, klet, nI_1]
    exact ih (k + 1) n (by omega) (by omega)
theorem ac119_lp (R : IM (M 0) K F S t (dt t)) (rec92 : kM2 → Int32 → Int32 → Option (Int32 × kM2)) {w : Nat} (b3 b5 : Int32) (hw : 4 ≤ w ∧ w ≤ 10) : ∀ (j k n : Nat), k + j = F → j < n → fL_accounts_b119 rec92 n M (nI w) b3 (sm k fun k => sm S fun s => if ofB (M 0) (nI k) (-1) s = true then tv (M 0 (20 + s)) (nI w) else 0) b5 (nI k) = fL_accounts_b151 rec92 kFu M (nI w) b3 (sm F fun k => sm S fun s => if ofB (M 0) (nI k) (-1) s = true then tv (M 0 (20 + s)) (nI w) else 0) b5 0 := by
  have hF := R.F8
  intro j
  induction j with
  | zero =>
    intro k n hk hn
    obtain ⟨n, rfl⟩ : ∃ z, n = z + 1 := ⟨n - 1, by omega⟩
    have : k = F := by omega
    subst this
    rw [fL_accounts_b119, x_count1 R, bd_s, if_pos (lp_out (by omega) (by omega))]
  | succ j ih =>
    intro k n hk hn
    obtain ⟨n, rfl⟩ : ∃ z, n = z + 1 := ⟨n - 1, by omega⟩
    rw [fL_accounts_b119, x_count1 R, bd_s, if_neg (lp_in (n := 8) (show k < F by omega) (by omega) (by decide)), x_account R (p := nI k) (q := -1) (v := nI w) (Or.inr ⟨k, by omega, rfl⟩) (Or.inl rfl) (Or.inr (by rw [t_nI (by omega)]; omega)), bd_s, klet, klet, nI_1]
    exact ih (k + 1) n (by omega) (by omega)
theorem ac92_lp (R : IM (M 0) K F S t (dt t)) : ∀ (j k n : Nat), k + j = 11 → 4 ≤ k → j < n → fL_accounts_b92 n M 1 (nI k) = fL_accounts_b204 M 1 := by
  have hF := R.F8
  have hK := R.l.1
  intro j
  induction j with
  | zero =>
    intro k n hk hk4 hn
    obtain ⟨n, rfl⟩ : ∃ z, n = z + 1 := ⟨n - 1, by omega⟩
    rw [fL_accounts_b92, if_pos (show (11 : Int32) ≤ nI k from nI_le (a := 11) (by omega) (by omega))]
  | succ j ih =>
    intro k n hk hk4 hn
    obtain ⟨n, rfl⟩ : ∃ z, n = z + 1 := ⟨n - 1, by omega⟩
    rw [fL_accounts_b92, if_neg (show ¬ (11 : Int32) ≤ nI k from nI_ge (b := 11) (by omega) (by decide)), if_neg n10, x_account R (p := -1) (q := -1) (v := nI k) (Or.inl rfl) (Or.inl rfl) (Or.inr (by rw [t_nI (by omega)]; omega)), bd_s, sum_all]
    have h1 := ac119_lp R (fL_accounts_b92 n) (w := k) (sm S fun s => tv (M 0 (20 + s)) (nI k)) 0 (by omega) F 0 kFu (by omega) (by unfold kFu; omega)
    have h2 := ac151_lp R (fL_accounts_b92 n) (w := k) (by omega) (b3 := sm S fun s => tv (M 0 (20 + s)) (nI k)) (b4 := sm F fun k' => sm S fun s => if ofB (M 0) (nI k') (-1) s = true then tv (M 0 (20 + s)) (nI k) else 0) (sum_far R _).symm (sum_kin R _).symm K 0 kFu (by omega) (by unfold kFu; omega)
    exact (h1.trans h2).trans (ih (k + 1) n (by omega) (by omega) (by omega))
theorem ac214_lp (R : IM (M 0) K F S t (dt t)) : ∀ (j k n : Nat), k + j = K → j < n → fL_accounts_b214 n M 1 (sm k fun k => sm S fun s => if ofB (M 0) (-1) (nI k) s = true then tv (M 0 (20 + s)) 6 else 0) (sm k fun k => sm S fun s => if ofB (M 0) (-1) (nI k) s = true then tv (M 0 (20 + s)) 9 else 0) (sm k fun k => nI (cn S (ofB (M 0) (-1) (nI k)))) (nI k) = some (1, M) := by
  have hK := R.l.1
  intro j
  induction j with
  | zero =>
    intro k n hk hn
    obtain ⟨n, rfl⟩ : ∃ z, n = z + 1 := ⟨n - 1, by omega⟩
    have : k = K := by omega
    subst this
    rw [fL_accounts_b214, x_count0 R, bd_s, if_pos (lp_out (by omega) (by omega))]
    unfold fL_accounts_b266
    rw [if_neg n10, x_account R (p := -1) (q := -1) (v := 6) (Or.inl rfl) (Or.inl rfl) (Or.inr (by decide)), bd_s, sum_all, if_pos (sum_kin R _), x_account R (p := -1) (q := -1) (v := 9) (Or.inl rfl) (Or.inl rfl) (Or.inr (by decide)), bd_s, sum_all, if_pos (sum_kin R _), x_count2 R, bd_s, if_pos (cnt_kin R)]
  | succ j ih =>
    intro k n hk hn
    obtain ⟨n, rfl⟩ : ∃ z, n = z + 1 := ⟨n - 1, by omega⟩
    have hk2 : k < K := by omega
    rw [fL_accounts_b214, x_count0 R, bd_s, if_neg (lp_in (n := 6) hk2 (by omega) (by decide)), if_neg n10, x_kind4 R hk2, bd_s, klet, x_kind5 R hk2, bd_s, klet, x_kind3 R hk2, bd_s, klet, klet, nI_1]
    exact ih (k + 1) n (by omega) (by omega)
theorem l_accounts (R : IM (M 0) K F S t (dt t)) : fL_accounts M = some (1, M) := by
  have hS := R.S24
  have hK := R.l.1
  unfold fL_accounts
  have h1 := ac4_lp R S 0 kFu (by omega) (by unfold kFu; omega)
  have h2 := ac92_lp R 7 4 kFu (by omega) (by omega) (by unfold kFu; omega)
  have h3 := ac214_lp R K 0 kFu (by omega) (by unfold kFu; omega)
  refine h1.trans ?_
  unfold fL_accounts_b90
  refine h2.trans ?_
  unfold fL_accounts_b204
  exact h3
theorem fa_lp (R : IM (M 0) K F S t (dt t)) : ∀ (j k n : Nat), k + j = F → j < n → fL_farmers_b9 n M (sm k fun f => nI (cn S (ofB (M 0) (nI f) (-1)))) (sm k fun f => nI (cn S fun s => plB (M 0) s && ofB (M 0) (nI f) (-1) s)) 1 (nI k) = some (1, M) := by
  have hF := R.F8
  have hS := R.S24
  intro j
  induction j with
  | zero =>
    intro k n hk hn
    obtain ⟨n, rfl⟩ : ∃ z, n = z + 1 := ⟨n - 1, by omega⟩
    have : k = F := by omega
    subst this
    rw [fL_farmers_b9, x_count1 R, bd_s, if_pos (lp_out (by omega) (by omega))]
    unfold fL_farmers_b119
    rw [if_neg n10, x_count2 R, bd_s, if_pos (cnt_far R), x_count6 R, bd_s, if_pos (pl_far R)]
  | succ j ih =>
    intro k n hk hn
    obtain ⟨n, rfl⟩ : ∃ z, n = z + 1 := ⟨n - 1, by omega⟩
    have hk2 : k < F := by omega
    obtain ⟨q1, m, q2, q3⟩ := R.f k hk2
    have cb : cn S (ofB (M 0) (nI k) (-1)) = cn S (fun s => decide (M 0 (20 + s) 0 = nI k)) := cn_cg (fun i hi => by
      rw [Bool.eq_iff_iff, of_far (M 0) k i (by omega), decide_eq_true_eq])
    have c1 := cn_le S (ofB (M 0) (nI k) (-1))
    have f1 : fX6_farmerOf M (nI k) 1 = some (nI (cn S (ofB (M 0) (nI k) (-1))), M) := x_farmer R hk2 (v := 1) (by decide)
    have f3 : fX6_farmerOf M (nI k) 3 = some (nI (cn S fun s => plB (M 0) s && ofB (M 0) (nI k) (-1) s), M) := x_farmer R hk2 (v := 3) (by decide)
    have f0 : fX6_farmerOf M (nI k) 0 = some (M 0 (12 + k) 0, M) := x_farmer R hk2 (v := 0) (by decide)
    have f2 : fX6_farmerOf M (nI k) 2 = some (M 0 (12 + k) 1, M) := x_farmer R hk2 (v := 2) (by decide)
    have f4 : fX6_farmerOf M (nI k) 4 = some (sm S fun s => if ofB (M 0) (nI k) (-1) s = true then tv (M 0 (20 + s)) 5 else 0, M) := x_farmer R hk2 (v := 4) (by decide)
    have f5 : fX6_farmerOf M (nI k) 5 = some (sm S fun s => if ofB (M 0) (nI k) (-1) s = true then tv (M 0 (20 + s)) 10 else 0, M) := x_farmer R hk2 (v := 5) (by decide)
    rw [fL_farmers_b9, x_count1 R, bd_s, if_neg (lp_in (n := 8) hk2 (by omega) (by decide)), if_neg n10, f1, bd_s, klet, f3, bd_s, klet, f0, bd_s, if_neg (by rw [z_neg]; omega), f2, bd_s, f1, bd_s, if_neg (by rw [q2]; exact nI_nlt (by omega) (by omega)), f4, bd_s, x_account R (p := nI k) (q := -1) (v := 5) (Or.inr ⟨k, hk2, rfl⟩) (Or.inl rfl) (Or.inr (by decide)), bd_s, if_pos rfl, f5, bd_s, x_account R (p := nI k) (q := -1) (v := 10) (Or.inr ⟨k, hk2, rfl⟩) (Or.inl rfl) (Or.inr (by decide)), bd_s, if_pos rfl]
    unfold fL_farmers_b112
    rw [klet, nI_1]
    exact ih (k + 1) n (by omega) (by omega)
theorem l_farmers (R : IM (M 0) K F S t (dt t)) : fL_farmers M = some (1, M) := by
  have hF := R.F8
  exact fa_lp R F 0 kFu (by omega) (by unfold kFu; omega)
end AC
