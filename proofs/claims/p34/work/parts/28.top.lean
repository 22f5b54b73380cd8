/-! a mill copied; the states; changes and undo -/
def rs (m : kM1) (j : Nat) (f : Nat → Int32) : kM1 := fun j' => if j' = j then f else m j'
def pre (f g : Nat → Int32) (n : Nat) : Nat → Int32 := fun k => if k < n then g k else f k
theorem rs_eq (m : kM1) (j : Nat) (f : Nat → Int32) : rs m j f j = f := by unfold rs; rw [if_pos rfl]
theorem rs_ne {m : kM1} {j j' : Nat} {f : Nat → Int32} (h : j' ≠ j) : rs m j f j' = m j' := by unfold rs; rw [if_neg h]
theorem rs_rs (m : kM1) (j : Nat) (f g : Nat → Int32) : rs (rs m j f) j g = rs m j g := by
  funext j'
  unfold rs
  split <;> rfl
theorem mu_rs (m : kM1) (j k : Nat) (v : Int32) : mu m j k v = rs m j (upd (m j) k v) := rfl
theorem pre_lt {f g : Nat → Int32} {n k : Nat} (h : k < n) : pre f g n k = g k := by unfold pre; rw [if_pos h]
theorem mw_up (M : kM2) (i j k : Nat) (x : kM1) (v : Int32) : mw (up M i x) i j k v = up M i (mu x j k v) := by
  unfold mw
  rw [up_same, up_up]
theorem cp_up (M : kM2) {i i1 : Nat} (h : i1 ≠ i) (x : kM1) (j n : Nat) : k_cp (up M i x) i i1 j n = up M i (rs x j (pre (x j) (M i1 j) n)) := by
  unfold k_cp
  rw [up_up, up_ne M x h, up_same]
  congr 1
  funext j'
  unfold rs
  by_cases h1 : j' = j
  · rw [if_pos h1, if_pos h1]
    funext q
    unfold va_cpy pre
    by_cases h2 : q < n
    · rw [if_pos h2, if_pos (by omega), Nat.sub_zero, Nat.zero_add]
    · rw [if_neg h2, if_neg (by omega)]
  · rw [if_neg h1, if_neg h1]
/-- the first n fields of a row -/
def tk (f g : Nat → Int32) : Nat → Nat → Int32
  | 0 => f
  | n + 1 => upd (tk f g n) n (g n)
theorem tk_eq (f g : Nat → Int32) {n q : Nat} (h : q < n) : tk f g n q = g q := by
  induction n with
  | zero => omega
  | succ n ih =>
    unfold tk
    by_cases h1 : q = n
    · subst h1
      rw [upd_eq]
    · rw [upd_ne h1]
      exact ih (by omega)

theorem kK_take (M : kM2) {i i1 : Nat} (h : i1 ≠ i) (x : kM1) (j j1 : Nat) : fX2_takeFrom (up M i x) i j i1 j1 = some (0, up M i (rs x j (tk (x j) (M i1 j1) 3))) := by
  unfold fX2_takeFrom
  simp only [klet, mw_up, up_ne M _ h]
  simp only [mu_rs, rs_eq, rs_rs]
  rfl

theorem kF_take (M : kM2) {i i1 : Nat} (h : i1 ≠ i) (x : kM1) (j j1 : Nat) : fX0_takeFrom (up M i x) i j i1 j1 = some (0, up M i (rs x j (tk (x j) (M i1 j1) 2))) := by
  unfold fX0_takeFrom
  simp only [klet, mw_up, up_ne M _ h]
  simp only [mu_rs, rs_eq, rs_rs]
  rfl

theorem kS_take (M : kM2) {i i1 : Nat} (h : i1 ≠ i) (x : kM1) (j j1 : Nat) : fX5_takeFrom (up M i x) i j i1 j1 = some (0, up M i (rs x j (tk (x j) (M i1 j1) 17))) := by
  unfold fX5_takeFrom
  simp only [klet, mw_up, up_ne M _ h]
  simp only [mu_rs, rs_eq, rs_rs]
  rfl

theorem cs_lp (M : kM2) {i i1 : Nat} (h : i1 ≠ i) {C : Nat} (hC : C ≤ 24) : ∀ (j k n : Nat) (x : kM1), x 0 7 = nI C → k + j = C → j < n → ∃ x', fX3_copyGrainFrom_b88 i i1 n (up M i x) (nI k) = some (0, up M i x') ∧ (∀ q, k ≤ q → q < C → ∀ u, u < 17 → x' (20 + q) u = M i1 (20 + q) u) ∧ ∀ q, (q < 20 + k ∨ 20 + C ≤ q) → x' q = x q := by
  intro j
  induction j with
  | zero =>
    intro k n x e hk hn
    obtain ⟨n, rfl⟩ : ∃ z, n = z + 1 := ⟨n - 1, by omega⟩
    refine ⟨x, ?_, fun q h1 h2 => by omega, fun q _ => rfl⟩
    rw [fX3_copyGrainFrom_b88, up_same, e, if_pos (lp_out (by omega) (by omega))]
  | succ j ih =>
    intro k n x e hk hn
    obtain ⟨n, rfl⟩ : ∃ z, n = z + 1 := ⟨n - 1, by omega⟩
    obtain ⟨x', h1, h2, h3⟩ := ih (k + 1) n (rs x (20 + k) (tk (x (20 + k)) (M i1 (20 + k)) 17)) (by rw [rs_ne (by omega)]; exact e) (by omega) (by omega)
    refine ⟨x', ?_, fun q q1 q2 u hu => ?_, fun q hq => ?_⟩
    · rw [fX3_copyGrainFrom_b88, up_same, e, if_neg (lp_in (n := 24) (by omega) hC (by decide)), if_pos (inb_nI (show k < 24 by omega) (by decide)), if_pos (inb_nI (show k < 24 by omega) (by decide)), c_nI (by omega), kS_take M h, bd_s, klet, nI_1]
      exact h1
    · by_cases z : q = k
      · subst z
        rw [h3 (20 + q) (by omega), rs_eq, tk_eq _ _ hu]
      · exact h2 q (by omega) q2 u hu
    · rw [h3 q (by omega), rs_ne (by omega)]

theorem cf_lp (M : kM2) {i i1 : Nat} (h : i1 ≠ i) {C : Nat} (hC : C ≤ 8) : ∀ (j k n : Nat) (x : kM1), x 0 6 = nI C → k + j = C → j < n → ∃ x', fX3_copyGrainFrom_b57 i i1 n (up M i x) (nI k) = fX3_copyGrainFrom_b88 i i1 kFu (up M i x') 0 ∧ (∀ q, k ≤ q → q < C → ∀ u, u < 2 → x' (12 + q) u = M i1 (12 + q) u) ∧ ∀ q, (q < 12 + k ∨ 12 + C ≤ q) → x' q = x q := by
  intro j
  induction j with
  | zero =>
    intro k n x e hk hn
    obtain ⟨n, rfl⟩ : ∃ z, n = z + 1 := ⟨n - 1, by omega⟩
    refine ⟨x, ?_, fun q h1 h2 => by omega, fun q _ => rfl⟩
    rw [fX3_copyGrainFrom_b57, up_same, e, if_pos (lp_out (by omega) (by omega))]
  | succ j ih =>
    intro k n x e hk hn
    obtain ⟨n, rfl⟩ : ∃ z, n = z + 1 := ⟨n - 1, by omega⟩
    obtain ⟨x', h1, h2, h3⟩ := ih (k + 1) n (rs x (12 + k) (tk (x (12 + k)) (M i1 (12 + k)) 2)) (by rw [rs_ne (by omega)]; exact e) (by omega) (by omega)
    refine ⟨x', ?_, fun q q1 q2 u hu => ?_, fun q hq => ?_⟩
    · rw [fX3_copyGrainFrom_b57, up_same, e, if_neg (lp_in (n := 8) (by omega) hC (by decide)), if_pos (inb_nI (show k < 8 by omega) (by decide)), if_pos (inb_nI (show k < 8 by omega) (by decide)), c_nI (by omega), kF_take M h, bd_s, klet, nI_1]
      exact h1
    · by_cases z : q = k
      · subst z
        rw [h3 (12 + q) (by omega), rs_eq, tk_eq _ _ hu]
      · exact h2 q (by omega) q2 u hu
    · rw [h3 q (by omega), rs_ne (by omega)]

theorem ck_lp (M : kM2) {i i1 : Nat} (h : i1 ≠ i) {C : Nat} (hC : C ≤ 6) : ∀ (j k n : Nat) (x : kM1), x 0 5 = nI C → k + j = C → j < n → ∃ x', fX3_copyGrainFrom_b26 i i1 n (up M i x) (nI k) = fX3_copyGrainFrom_b57 i i1 kFu (up M i x') 0 ∧ (∀ q, k ≤ q → q < C → ∀ u, u < 3 → x' (6 + q) u = M i1 (6 + q) u) ∧ ∀ q, (q < 6 + k ∨ 6 + C ≤ q) → x' q = x q := by
  intro j
  induction j with
  | zero =>
    intro k n x e hk hn
    obtain ⟨n, rfl⟩ : ∃ z, n = z + 1 := ⟨n - 1, by omega⟩
    refine ⟨x, ?_, fun q h1 h2 => by omega, fun q _ => rfl⟩
    rw [fX3_copyGrainFrom_b26, up_same, e, if_pos (lp_out (by omega) (by omega))]
  | succ j ih =>
    intro k n x e hk hn
    obtain ⟨n, rfl⟩ : ∃ z, n = z + 1 := ⟨n - 1, by omega⟩
    obtain ⟨x', h1, h2, h3⟩ := ih (k + 1) n (rs x (6 + k) (tk (x (6 + k)) (M i1 (6 + k)) 3)) (by rw [rs_ne (by omega)]; exact e) (by omega) (by omega)
    refine ⟨x', ?_, fun q q1 q2 u hu => ?_, fun q hq => ?_⟩
    · rw [fX3_copyGrainFrom_b26, up_same, e, if_neg (lp_in (n := 6) (by omega) hC (by decide)), if_pos (inb_nI (show k < 6 by omega) (by decide)), if_pos (inb_nI (show k < 6 by omega) (by decide)), c_nI (by omega), kK_take M h, bd_s, klet, nI_1]
      exact h1
    · by_cases z : q = k
      · subst z
        rw [h3 (6 + q) (by omega), rs_eq, tk_eq _ _ hu]
      · exact h2 q (by omega) q2 u hu
    · rw [h3 q (by omega), rs_ne (by omega)]
theorem copy_eq {M : kM2} {i i1 : Nat} (h : i1 ≠ i) {K F S t : Nat} {D : Nat → Int} (R : IM (M i1) K F S t D) : ∃ x, fX3_copyFrom M i i1 = some (0, up M i x) ∧ EQm x (M i1) K F S := by
  obtain ⟨l1, l2, l3, l4⟩ := R.l
  have hM : M = up M i (M i) := (up_self M i).symm
  have e5 : M i1 0 5 = nI K := R.e5
  have e6 : M i1 0 6 = nI F := R.e6
  have e7 : M i1 0 7 = nI S := R.e7
  have c1 := cp_up M h (M i) 1 13
  rw [up_self] at c1
  unfold fX3_copyFrom fX3_copyGrainFrom
  rw [c1, klet, cp_up M h, klet, klet, mw_up, up_ne M _ h, e5, klet, mw_up, up_ne M _ h, e6, klet, mw_up, up_ne M _ h, e7]
  generalize hx : mu (mu (mu (rs (rs (M i) 1 (pre (M i 1) (M i1 1) 13)) 2 (pre (rs (M i) 1 (pre (M i 1) (M i1 1) 13) 2) (M i1 2) 4)) 0 5 (nI K)) 0 6 (nI F)) 0 7 (nI S) = x
  have x5 : x 0 5 = nI K := by rw [← hx, mu_eq, upd_ne (by decide), mu_eq, upd_ne (by decide), mu_eq, upd_eq]
  have x6 : x 0 6 = nI F := by rw [← hx, mu_eq, upd_ne (by decide), mu_eq, upd_eq]
  have x7 : x 0 7 = nI S := by rw [← hx, mu_eq, upd_eq]
  have y1 : ∀ k, k < 13 → x 1 k = M i1 1 k := fun k hk => by rw [← hx, mu_ne (by decide), mu_ne (by decide), mu_ne (by decide), rs_ne (by decide), rs_eq, pre_lt hk]
  have y2 : ∀ k, k < 4 → x 2 k = M i1 2 k := fun k hk => by rw [← hx, mu_ne (by decide), mu_ne (by decide), mu_ne (by decide), rs_eq, pre_lt hk]
  obtain ⟨xk, k1, k2, k3⟩ := ck_lp M h l1 K 0 kFu x x5 (by omega) (by unfold kFu; omega)
  obtain ⟨xf, f1, f2, f3⟩ := cf_lp M h l2 F 0 kFu xk (by rw [k3 0 (by omega)]; exact x6) (by omega) (by unfold kFu; omega)
  obtain ⟨xs, s1, s2, s3⟩ := cs_lp M h l3 S 0 kFu xf (by rw [f3 0 (by omega), k3 0 (by omega)]; exact x7) (by omega) (by unfold kFu; omega)
  rw [nI_0] at k1 f1 s1
  rw [k1, f1, s1, bd_s]
  simp only [klet, mw_up, up_ne M _ h]
  have z0 : ∀ q, q < 6 → xs q = x q := fun q hq => by rw [s3 q (by omega), f3 q (by omega), k3 q (by omega)]
  refine ⟨_, rfl, fun k q1 q2 => ?_, fun k q => ?_, fun k q => ?_, fun j q u hu => ?_, fun j q u hu => ?_, fun j q u hu => ?_⟩
  · simp only [mu_eq]
    have c5 : xs 0 5 = M i1 0 5 := by rw [z0 0 (by decide), x5, e5]
    have c6 : xs 0 6 = M i1 0 6 := by rw [z0 0 (by decide), x6, e6]
    have c7 : xs 0 7 = M i1 0 7 := by rw [z0 0 (by decide), x7, e7]
    rcases (show k = 5 ∨ k = 6 ∨ k = 7 ∨ k = 8 ∨ k = 9 ∨ k = 10 ∨ k = 11 ∨ k = 12 ∨ k = 13 ∨ k = 14 ∨ k = 15 ∨ k = 16 ∨ k = 17 by omega) with rfl | rfl | rfl | rfl | rfl | rfl | rfl | rfl | rfl | rfl | rfl | rfl | rfl
    · exact c5
    · exact c6
    · exact c7
    · rfl
    · rfl
    · rfl
    · rfl
    · rfl
    · rfl
    · rfl
    · rfl
    · rfl
    · rfl
  · simp only [mu_ne (show (1 : Nat) ≠ 0 by decide)]
    rw [z0 1 (by decide)]
    exact y1 k q
  · simp only [mu_ne (show (2 : Nat) ≠ 0 by decide)]
    rw [z0 2 (by decide)]
    exact y2 k q
  · simp only [mu_ne (show 6 + j ≠ 0 by omega)]
    rw [s3 (6 + j) (by omega), f3 (6 + j) (by omega)]
    exact k2 j (by omega) q u hu
  · simp only [mu_ne (show 12 + j ≠ 0 by omega)]
    rw [s3 (12 + j) (by omega)]
    exact f2 j (by omega) q u hu
  · simp only [mu_ne (show 20 + j ≠ 0 by omega)]
    exact s2 j (by omega) q u hu
theorem EQm.tr {a b c : kM1} {K F S : Nat} (h1 : EQm a b K F S) (h2 : EQm b c K F S) : EQm a c K F S :=
  ⟨fun k q1 q2 => (h1.1 k q1 q2).trans (h2.1 k q1 q2), fun k q => (h1.2.1 k q).trans (h2.2.1 k q), fun k q => (h1.2.2.1 k q).trans (h2.2.2.1 k q), fun j q u hu => (h1.2.2.2.1 j q u hu).trans (h2.2.2.2.1 j q u hu), fun j q u hu => (h1.2.2.2.2.1 j q u hu).trans (h2.2.2.2.2.1 j q u hu), fun j q u hu => (h1.2.2.2.2.2 j q u hu).trans (h2.2.2.2.2.2 j q u hu)⟩
theorem EQm.rf (a : kM1) (K F S : Nat) : EQm a a K F S := ⟨fun _ _ _ => rfl, fun _ _ => rfl, fun _ _ => rfl, fun _ _ _ _ => rfl, fun _ _ _ _ => rfl, fun _ _ _ _ => rfl⟩
/-- the ring of states: where it begins, how many there are -/
def HI (M : kM2) (f n : Nat) : Prop := f < 5 ∧ n ≤ 4 ∧ M 7 1 1 = nI f ∧ M 7 1 2 = nI n
theorem m5 {a : Nat} (h : a < 1000) : irm (nI a) 5 = nI (a % 5) := r_nI (b := 5) (by omega) (by decide) (by decide)
theorem bd_id {μ : Type} (o : Option (Int32 × μ)) : (bd o fun r x => some (r, x)) = o := by
  cases o with
  | none => rfl
  | some q => rfl
theorem on_some (M : kM2) (i : Nat) (r : Int32) (x : kM1) : k_on M i (some (r, x)) = some (r, up M i x) := rfl
theorem on_self (M : kM2) (i : Nat) (r : Int32) : k_on M i (some (r, M i)) = some (r, M) := by rw [on_some, up_self]
theorem hold_eq {M : kM2} {K F S t : Nat} {D : Nat → Int} (R : IM (M 0) K F S t D) {f n : Nat} (H : HI M f n) : ∃ x, fX1_hold M 0 = some (0, up M (2 + (f + n) % 5) x) ∧ EQm x (M 0) K F S := by
  obtain ⟨hf, hn, e1, e2⟩ := H
  obtain ⟨x, c1, c2⟩ := copy_eq (M := M) (i := 2 + (f + n) % 5) (i1 := 0) (by omega) R
  refine ⟨x, ?_, c2⟩
  unfold fX1_hold
  rw [e1, e2, nI_add, m5 (by omega), if_pos (inb_nI (show (f + n) % 5 < 5 by omega) (by decide)), c_nI (by omega), c1, bd_s]
def nx (n : Nat) : Nat := if n = 4 then 4 else n + 1
/-- a change that is done -/
theorem top_ok {M : kM2} {K F S t : Nat} {D : Nat → Int} (R : IM (M 0) K F S t D) {f n : Nat} (H : HI M f n) (g : kM1 → Option (Int32 × kM1)) {r : Int32} {a' : kM1} (hg : g (M 0) = some (r, a')) (hr : 0 ≤ r.toInt) : ∃ M' f', (bd (fX1_hold M 0) fun _ M2 => bd (k_on M2 0 (g (M2 0))) fun r3 M4 => bd (k_on M4 7 (fX1_keepIfDone (M4 7) r3)) fun r5 M6 => some (r5, M6)) = some (r, M') ∧ M' 0 = a' ∧ HI M' f' (nx n) ∧ EQm (M' (2 + (f' + (nx n - 1)) % 5)) (M 0) K F S := by
  obtain ⟨x, h1, hx⟩ := hold_eq R H
  obtain ⟨hf, hn, e1, e2⟩ := H
  have e7 : up (up M (2 + (f + n) % 5) x) 0 a' 7 = M 7 := by rw [up_ne _ _ (by omega), up_ne _ _ (by omega)]
  rw [h1, bd_s, up_ne _ _ (show 0 ≠ 2 + (f + n) % 5 by omega), hg, on_some, bd_s, bd_id, e7]
  unfold fX1_keepIfDone
  rw [if_neg (show ¬ r < 0 by rw [z_neg]; omega), e2]
  by_cases h4 : n = 4
  · subst h4
    rw [if_pos (show (4 : Int32) ≤ nI 4 by decide), klet, on_some, e1, nI_1, m5 (by omega)]
    refine ⟨_, (f + 1) % 5, rfl, ?_, ⟨by omega, by decide, ?_, ?_⟩, ?_⟩
    · rw [up_ne _ _ (by decide), up_same]
    · rw [up_same, mu_eq, upd_eq]
    · rw [up_same, mu_eq, upd_ne (by decide), e2]; rfl
    · have e : ((f + 1) % 5 + (nx 4 - 1)) % 5 = (f + 4) % 5 := by show ((f + 1) % 5 + 3) % 5 = _; omega
      rw [e, up_ne _ _ (by omega), up_ne _ _ (by omega), up_same]
      exact hx
  · have en : nx n = n + 1 := by unfold nx; rw [if_neg h4]
    rw [if_neg (show ¬ (4 : Int32) ≤ nI n from nI_ge (a := n) (b := 4) (by omega) (by decide)), klet, on_some, nI_1, en]
    refine ⟨_, f, rfl, ?_, ⟨hf, by omega, ?_, ?_⟩, ?_⟩
    · rw [up_ne _ _ (by decide), up_same]
    · rw [up_same, mu_eq, upd_ne (by decide)]; exact e1
    · rw [up_same, mu_eq, upd_eq]
    · rw [Nat.add_sub_cancel, up_ne _ _ (by omega), up_ne _ _ (by omega), up_same]
      exact hx
/-- a change that is not -/
theorem top_no {M : kM2} {K F S t : Nat} {D : Nat → Int} (R : IM (M 0) K F S t D) {f n : Nat} (H : HI M f n) (g : kM1 → Option (Int32 × kM1)) {r : Int32} (hg : g (M 0) = some (r, M 0)) (hr : r.toInt < 0) : ∃ M', (bd (fX1_hold M 0) fun _ M2 => bd (k_on M2 0 (g (M2 0))) fun r3 M4 => bd (k_on M4 7 (fX1_keepIfDone (M4 7) r3)) fun r5 M6 => some (r5, M6)) = some (r, M') ∧ M' 0 = M 0 ∧ HI M' f n := by
  obtain ⟨x, h1, hx⟩ := hold_eq R H
  obtain ⟨hf, hn, e1, e2⟩ := H
  have e7 : up (up M (2 + (f + n) % 5) x) 0 (M 0) 7 = M 7 := by rw [up_ne _ _ (by omega), up_ne _ _ (by omega)]
  rw [h1, bd_s, up_ne _ _ (show 0 ≠ 2 + (f + n) % 5 by omega), hg, on_some, bd_s, bd_id]
  unfold fX1_keepIfDone
  rw [if_pos (z_neg.mpr hr), on_self]
  exact ⟨_, rfl, up_same _ _ _, hf, hn, by rw [e7]; exact e1, by rw [e7]; exact e2⟩
theorem undo_0 {M : kM2} {f : Nat} (H : HI M f 0) : fX6_undo M = some (-1000002, M) := by
  obtain ⟨hf, hn, e1, e2⟩ := H
  unfold fX6_undo
  rw [bd_id]
  unfold fX1_restore
  rw [e2, if_pos (show nI 0 = 0 from rfl)]
theorem undo_s {M : kM2} {K F S t p : Nat} {D : Nat → Int} {f : Nat} (H : HI M f (p + 1)) (R : IM (M (2 + (f + p) % 5)) K F S t D) : ∃ M', fX6_undo M = some (nI p, M') ∧ EQm (M' 0) (M (2 + (f + p) % 5)) K F S ∧ HI M' f p := by
  obtain ⟨hf, hn, e1, e2⟩ := H
  unfold fX6_undo
  rw [bd_id]
  unfold fX1_restore
  have n0 : ¬ nI (p + 1) = 0 := fun z => by have := nI_inj (b := 0) (by omega) (by decide) z; omega
  have ep : nI (p + 1) - 1 = nI p := by rw [show (1 : Int32) = nI 1 from rfl, nI_sub (by omega)]; rfl
  rw [e2, if_neg n0, klet, ep]
  have m1 : mw M 7 1 2 (nI p) 7 1 1 = nI f := by unfold mw; rw [up_same, mu_eq, upd_ne (by decide)]; exact e1
  have m2 : mw M 7 1 2 (nI p) 7 1 2 = nI p := by unfold mw; rw [up_same, mu_eq, upd_eq]
  have mo : ∀ i, i ≠ 7 → mw M 7 1 2 (nI p) i = M i := fun i hi => by unfold mw; rw [up_ne _ _ hi]
  rw [m1, m2, nI_add, m5 (by omega), if_pos (inb_nI (show (f + p) % 5 < 5 by omega) (by decide)), c_nI (by omega)]
  generalize mw M 7 1 2 (nI p) = M2 at *
  obtain ⟨x, c1, c2⟩ := copy_eq (M := M2) (i := 0) (i1 := 2 + (f + p) % 5) (by omega) (K := K) (F := F) (S := S) (t := t) (D := D) (by rw [mo _ (by omega)]; exact R)
  rw [c1, bd_s, up_ne _ _ (show 7 ≠ 0 by decide), m2]
  refine ⟨_, rfl, by rw [up_same, ← mo (2 + (f + p) % 5) (by omega)]; exact c2, hf, by omega, by rw [up_ne _ _ (by decide)]; exact m1, by rw [up_ne _ _ (by decide)]; exact m2⟩
