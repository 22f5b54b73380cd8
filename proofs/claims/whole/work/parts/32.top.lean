/-! a mill copied; the whole relation; changes and undo -/
theorem mw_up (M : kM2) (i j k : Nat) (x : kM1) (v : Int32) : mw (up M i x) i j k v = up M i (mu x j k v) := by
  unfold mw
  rw [up_same, up_up]
theorem cp_up (M : kM2) {i i1 : Nat} (h : i1 ≠ i) (x : kM1) (j n : Nat) : k_cp (up M i x) i i1 j n = up M i (rs x j (pre (x j) (M i1 j) n)) := by
  unfold k_cp
  rw [up_up, up_ne M x h, up_same]
  congr 1
  funext j'
  unfold rs
  by_cases h1 : j' = j
  · rw [if_pos h1, if_pos h1]
    funext q
    unfold va_cpy pre
    by_cases h2 : q < n
    · rw [if_pos h2, if_pos (by omega), Nat.sub_zero, Nat.zero_add]
    · rw [if_neg h2, if_neg (by omega)]
  · rw [if_neg h1, if_neg h1]
/-- the first n fields of a row -/
def tk (f g : Nat → Int32) : Nat → Nat → Int32
  | 0 => f
  | n + 1 => upd (tk f g n) n (g n)
theorem tk_eq (f g : Nat → Int32) {n q : Nat} (h : q < n) : tk f g n q = g q := by
  induction n with
  | zero => omega
  | succ n ih =>
    unfold tk
    by_cases h1 : q = n
    · subst h1
      rw [upd_eq]
    · rw [upd_ne h1]
      exact ih (by omega)

theorem kK_take (M : kM2) {i i1 : Nat} (h : i1 ≠ i) (x : kM1) (j j1 : Nat) : fX2_takeFrom (up M i x) i j i1 j1 = some (0, up M i (rs x j (tk (x j) (M i1 j1) 3))) := by
  unfold fX2_takeFrom
  simp only [klet, mw_up, up_ne M _ h]
  simp only [mu_rs, rs_eq, rs_rs]
  rfl

theorem kF_take (M : kM2) {i i1 : Nat} (h : i1 ≠ i) (x : kM1) (j j1 : Nat) : fX0_takeFrom (up M i x) i j i1 j1 = some (0, up M i (rs x j (tk (x j) (M i1 j1) 2))) := by
  unfold fX0_takeFrom
  simp only [klet, mw_up, up_ne M _ h]
  simp only [mu_rs, rs_eq, rs_rs]
  rfl

theorem kS_take (M : kM2) {i i1 : Nat} (h : i1 ≠ i) (x : kM1) (j j1 : Nat) : fX5_takeFrom (up M i x) i j i1 j1 = some (0, up M i (rs x j (tk (x j) (M i1 j1) 17))) := by
  unfold fX5_takeFrom
  simp only [klet, mw_up, up_ne M _ h]
  simp only [mu_rs, rs_eq, rs_rs]
  rfl

theorem cs_lp (M : kM2) {i i1 : Nat} (h : i1 ≠ i) {C : Nat} (hC : C ≤ 24) : ∀ (j k n : Nat) (x : kM1), x 0 7 = nI C → k + j = C → j < n → ∃ x', fX3_copyGrainFrom_b88 i i1 n (up M i x) (nI k) = some (0, up M i x') ∧ (∀ q, k ≤ q → q < C → ∀ u, u < 17 → x' (20 + q) u = M i1 (20 + q) u) ∧ ∀ q, (q < 20 + k ∨ 20 + C ≤ q) → x' q = x q := by
  intro j
  induction j with
  | zero =>
    intro k n x e hk hn
    obtain ⟨n, rfl⟩ : ∃ z, n = z + 1 := ⟨n - 1, by omega⟩
    refine ⟨x, ?_, fun q h1 h2 => by omega, fun q _ => rfl⟩
    rw [fX3_copyGrainFrom_b88, up_same, e, if_pos (lp_out (by omega) (by omega))]
  | succ j ih =>
    intro k n x e hk hn
    obtain ⟨n, rfl⟩ : ∃ z, n = z + 1 := ⟨n - 1, by omega⟩
    obtain ⟨x', h1, h2, h3⟩ := ih (k + 1) n (rs x (20 + k) (tk (x (20 + k)) (M i1 (20 + k)) 17)) (by rw [rs_ne (by omega)]; exact e) (by omega) (by omega)
    refine ⟨x', ?_, fun q q1 q2 u hu => ?_, fun q hq => ?_⟩
    · rw [fX3_copyGrainFrom_b88, up_same, e, if_neg (lp_in (n := 24) (by omega) hC (by decide)), if_pos (inb_nI (show k < 24 by omega) (by decide)), if_pos (inb_nI (show k < 24 by omega) (by decide)), c_nI (by omega), kS_take M h, bd_s, klet, nI_1]
      exact h1
    · by_cases z : q = k
      · subst z
        rw [h3 (20 + q) (by omega), rs_eq, tk_eq _ _ hu]
      · exact h2 q (by omega) q2 u hu
    · rw [h3 q (by omega), rs_ne (by omega)]

theorem cf_lp (M : kM2) {i i1 : Nat} (h : i1 ≠ i) {C : Nat} (hC : C ≤ 8) : ∀ (j k n : Nat) (x : kM1), x 0 6 = nI C → k + j = C → j < n → ∃ x', fX3_copyGrainFrom_b57 i i1 n (up M i x) (nI k) = fX3_copyGrainFrom_b88 i i1 kFu (up M i x') 0 ∧ (∀ q, k ≤ q → q < C → ∀ u, u < 2 → x' (12 + q) u = M i1 (12 + q) u) ∧ ∀ q, (q < 12 + k ∨ 12 + C ≤ q) → x' q = x q := by
  intro j
  induction j with
  | zero =>
    intro k n x e hk hn
    obtain ⟨n, rfl⟩ : ∃ z, n = z + 1 := ⟨n - 1, by omega⟩
    refine ⟨x, ?_, fun q h1 h2 => by omega, fun q _ => rfl⟩
    rw [fX3_copyGrainFrom_b57, up_same, e, if_pos (lp_out (by omega) (by omega))]
  | succ j ih =>
    intro k n x e hk hn
    obtain ⟨n, rfl⟩ : ∃ z, n = z + 1 := ⟨n - 1, by omega⟩
    obtain ⟨x', h1, h2, h3⟩ := ih (k + 1) n (rs x (12 + k) (tk (x (12 + k)) (M i1 (12 + k)) 2)) (by rw [rs_ne (by omega)]; exact e) (by omega) (by omega)
    refine ⟨x', ?_, fun q q1 q2 u hu => ?_, fun q hq => ?_⟩
    · rw [fX3_copyGrainFrom_b57, up_same, e, if_neg (lp_in (n := 8) (by omega) hC (by decide)), if_pos (inb_nI (show k < 8 by omega) (by decide)), if_pos (inb_nI (show k < 8 by omega) (by decide)), c_nI (by omega), kF_take M h, bd_s, klet, nI_1]
      exact h1
    · by_cases z : q = k
      · subst z
        rw [h3 (12 + q) (by omega), rs_eq, tk_eq _ _ hu]
      · exact h2 q (by omega) q2 u hu
    · rw [h3 q (by omega), rs_ne (by omega)]

theorem ck_lp (M : kM2) {i i1 : Nat} (h : i1 ≠ i) {C : Nat} (hC : C ≤ 6) : ∀ (j k n : Nat) (x : kM1), x 0 5 = nI C → k + j = C → j < n → ∃ x', fX3_copyGrainFrom_b26 i i1 n (up M i x) (nI k) = fX3_copyGrainFrom_b57 i i1 kFu (up M i x') 0 ∧ (∀ q, k ≤ q → q < C → ∀ u, u < 3 → x' (6 + q) u = M i1 (6 + q) u) ∧ ∀ q, (q < 6 + k ∨ 6 + C ≤ q) → x' q = x q := by
  intro j
  induction j with
  | zero =>
    intro k n x e hk hn
    obtain ⟨n, rfl⟩ : ∃ z, n = z + 1 := ⟨n - 1, by omega⟩
    refine ⟨x, ?_, fun q h1 h2 => by omega, fun q _ => rfl⟩
    rw [fX3_copyGrainFrom_b26, up_same, e, if_pos (lp_out (by omega) (by omega))]
  | succ j ih =>
    intro k n x e hk hn
    obtain ⟨n, rfl⟩ : ∃ z, n = z + 1 := ⟨n - 1, by omega⟩
    obtain ⟨x', h1, h2, h3⟩ := ih (k + 1) n (rs x (6 + k) (tk (x (6 + k)) (M i1 (6 + k)) 3)) (by rw [rs_ne (by omega)]; exact e) (by omega) (by omega)
    refine ⟨x', ?_, fun q q1 q2 u hu => ?_, fun q hq => ?_⟩
    · rw [fX3_copyGrainFrom_b26, up_same, e, if_neg (lp_in (n := 6) (by omega) hC (by decide)), if_pos (inb_nI (show k < 6 by omega) (by decide)), if_pos (inb_nI (show k < 6 by omega) (by decide)), c_nI (by omega), kK_take M h, bd_s, klet, nI_1]
      exact h1
    · by_cases z : q = k
      · subst z
        rw [h3 (6 + q) (by omega), rs_eq, tk_eq _ _ hu]
      · exact h2 q (by omega) q2 u hu
    · rw [h3 q (by omega), rs_ne (by omega)]

theorem copy_eq {M : kM2} {i i1 : Nat} (h : i1 ≠ i) {d : Nat → Int32} {K F S t : Nat} (R : RM (M i1) d K F S t) : ∃ x, fX3_copyFrom M i i1 = some (0, up M i x) ∧ RM x d K F S t := by
  obtain ⟨l1, l2, l3, l4⟩ := R.lim
  have hM : M = up M i (M i) := (up_self M i).symm
  have e5 : M i1 0 5 = nI K := R.n.1.1
  have e6 : M i1 0 6 = nI F := R.n.2.1.1
  have e7 : M i1 0 7 = nI S := R.n.2.2.1.1
  have c1 := cp_up M h (M i) 1 13
  rw [up_self] at c1
  unfold fX3_copyFrom fX3_copyGrainFrom
  rw [c1, klet, cp_up M h, klet, klet, mw_up, up_ne M _ h, e5, klet, mw_up, up_ne M _ h, e6, klet, mw_up, up_ne M _ h, e7]
  generalize hx : mu (mu (mu (rs (rs (M i) 1 (pre (M i 1) (M i1 1) 13)) 2 (pre (rs (M i) 1 (pre (M i 1) (M i1 1) 13) 2) (M i1 2) 4)) 0 5 (nI K)) 0 6 (nI F)) 0 7 (nI S) = x
  have x5 : x 0 5 = nI K := by rw [← hx, mu_eq, upd_ne (by decide), mu_eq, upd_ne (by decide), mu_eq, upd_eq]
  have x6 : x 0 6 = nI F := by rw [← hx, mu_eq, upd_ne (by decide), mu_eq, upd_eq]
  have x7 : x 0 7 = nI S := by rw [← hx, mu_eq, upd_eq]
  have y1 : ∀ k, k < 13 → x 1 k = M i1 1 k := fun k hk => by rw [← hx, mu_ne (by decide), mu_ne (by decide), mu_ne (by decide), rs_ne (by decide), rs_eq, pre_lt hk]
  have y2 : ∀ k, k < 4 → x 2 k = M i1 2 k := fun k hk => by rw [← hx, mu_ne (by decide), mu_ne (by decide), mu_ne (by decide), rs_eq, pre_lt hk]
  obtain ⟨xk, k1, k2, k3⟩ := ck_lp M h l1 K 0 kFu x x5 (by omega) (by unfold kFu; omega)
  obtain ⟨xf, f1, f2, f3⟩ := cf_lp M h l2 F 0 kFu xk (by rw [k3 0 (by omega)]; exact x6) (by omega) (by unfold kFu; omega)
  obtain ⟨xs, s1, s2, s3⟩ := cs_lp M h l3 S 0 kFu xf (by rw [f3 0 (by omega), k3 0 (by omega)]; exact x7) (by omega) (by unfold kFu; omega)
  rw [nI_0] at k1 f1 s1
  rw [k1, f1, s1, bd_s]
  simp only [klet, mw_up, up_ne M _ h]
  have z0 : ∀ q, q < 6 → xs q = x q := fun q hq => by rw [s3 q (by omega), f3 q (by omega), k3 q (by omega)]
  refine ⟨_, rfl, R.congr (fun _ _ => rfl) (fun k q1 q2 => ?_) (fun k q => ?_) (fun k q => ?_) (fun j q u hu => ?_) (fun j q u hu => ?_) (fun j q u hu => ?_)⟩
  · simp only [mu_eq]
    have c5 : xs 0 5 = M i1 0 5 := by rw [z0 0 (by decide), x5, e5]
    have c6 : xs 0 6 = M i1 0 6 := by rw [z0 0 (by decide), x6, e6]
    have c7 : xs 0 7 = M i1 0 7 := by rw [z0 0 (by decide), x7, e7]
    rcases (show k = 5 ∨ k = 6 ∨ k = 7 ∨ k = 8 ∨ k = 9 ∨ k = 10 ∨ k = 11 ∨ k = 12 ∨ k = 13 ∨ k = 14 ∨ k = 15 ∨ k = 16 ∨ k = 17 by omega) with rfl | rfl | rfl | rfl | rfl | rfl | rfl | rfl | rfl | rfl | rfl | rfl | rfl
    · exact c5
    · exact c6
    · exact c7
    · rfl
    · rfl
    · rfl
    · rfl
    · rfl
    · rfl
    · rfl
    · rfl
    · rfl
    · rfl
  · simp only [mu_ne (show (1 : Nat) ≠ 0 by decide)]
    rw [z0 1 (by decide)]
    exact y1 k q
  · simp only [mu_ne (show (2 : Nat) ≠ 0 by decide)]
    rw [z0 2 (by decide)]
    exact y2 k q
  · simp only [mu_ne (show 6 + j ≠ 0 by omega)]
    rw [s3 (6 + j) (by omega), f3 (6 + j) (by omega)]
    exact k2 j (by omega) q u hu
  · simp only [mu_ne (show 12 + j ≠ 0 by omega)]
    rw [s3 (12 + j) (by omega)]
    exact f2 j (by omega) q u hu
  · simp only [mu_ne (show 20 + j ≠ 0 by omega)]
    exact s2 j (by omega) q u hu
/-! the whole relation: the mill, the states, the text -/
def RX (a : kM1) (d : Nat → Int32) : Prop := ∃ K F S t, RM a d K F S t ∧ t ≤ 10000
def RH (M : kM2) (m : kM1) : Prop := ∃ f n, f < 5 ∧ n ≤ 4 ∧ M 7 1 1 = nI f ∧ M 7 1 2 = nI n ∧ m 0 4 = nI n ∧ ∀ j, j < n → RX (M (2 + (f + j) % 5)) (fun q => m 2 (368 * j + q))
def RT (M : kM2) (m : kM1) : Prop := ∃ l, l ≤ 60 ∧ M 7 3 2 = nI l ∧ m 0 6 = nI l ∧ ∀ k, k < l → M 7 4 k = m 5 k
def RW (M : kM2) (m : kM1) (d : Nat → Int32) : Prop := RX (M 0) d ∧ RH M m ∧ RT M m
theorem RX.cg {a : kM1} {d d' : Nat → Int32} (h : RX a d) (hd : ∀ k, k < 368 → d' k = d k) : RX a d' := by
  obtain ⟨K, F, S, t, R, ht⟩ := h
  exact ⟨K, F, S, t, R.congr hd (fun _ _ _ => rfl) (fun _ _ => rfl) (fun _ _ => rfl) (fun _ _ _ _ => rfl) (fun _ _ _ _ => rfl) (fun _ _ _ _ => rfl), ht⟩
theorem RX.copy {M : kM2} {i i1 : Nat} (h : i1 ≠ i) {d : Nat → Int32} (R : RX (M i1) d) : ∃ x, fX3_copyFrom M i i1 = some (0, up M i x) ∧ RX x d := by
  obtain ⟨K, F, S, t, R, ht⟩ := R
  obtain ⟨x, h1, h2⟩ := copy_eq h R
  exact ⟨x, h1, K, F, S, t, h2, ht⟩
theorem i_mod5 {a : Nat} (h : a < 1000) : nI a - nI a / 5 * 5 = nI (a % 5) := by
  have e : (nI a / 5).toInt = (a / 5 : Nat) := by rw [i_div (by rw [t_nI (by omega)]; omega) (by decide), t_nI (by omega)]; rfl
  have e2 : nI a / 5 = nI (a / 5) := by rw [i_eq, e, t_nI (by omega)]
  rw [e2, show (5 : Int32) = nI 5 from rfl, nI_mul, nI_sub (by omega)]
  congr 1
  omega
theorem kee_2 (m : kM1) (d : Nat → Int32) : kee m d 2 = m 2 := rs_ne (by decide)
theorem kee_0 (m : kM1) (d : Nat → Int32) : kee m d 0 = m 0 := rs_ne (by decide)
theorem kee_5 (m : kM1) (d : Nat → Int32) : kee m d 5 = m 5 := rs_ne (by decide)
theorem kee_4 (m : kM1) (d : Nat → Int32) : kee m d 4 = pre (m 4) d 368 := rs_eq _ _ _
theorem hold_eq {M : kM2} {m : kM1} {d : Nat → Int32} (W : RW M m d) : ∃ f n x, f < 5 ∧ n ≤ 4 ∧ M 7 1 1 = nI f ∧ M 7 1 2 = nI n ∧ fX1_hold M 0 = some (0, up M (2 + (f + n) % 5) x) ∧ RX x d := by
  obtain ⟨W1, ⟨f, n, hf, hn, e1, e2, e3, W2⟩, W3⟩ := W
  obtain ⟨x, c1, c2⟩ := RX.copy (M := M) (i := 2 + (f + n) % 5) (i1 := 0) (by omega) W1
  refine ⟨f, n, x, hf, hn, e1, e2, ?_, c2⟩
  unfold fX1_hold
  rw [e1, e2, nI_add, i_mod5 (by omega), if_pos (inb_nI (by omega) (by decide)), c_nI (by omega), c1, bd_s]
/-- the states behind a change, from those ahead of it -/
theorem RH.act {M M' : kM2} {m mk : kM1} {d : Nat → Int32} {f n : Nat} {x : kM1} (k2 : mk 2 = m 2) (k4 : mk 4 = pre (m 4) d 368) (hf : f < 5) (hn : n ≤ 4) (hs : ∀ j, j < n → RX (M (2 + (f + j) % 5)) (fun q => m 2 (368 * j + q))) (hx : RX x d) (e1 : M' 7 1 1 = nI (if n = 4 then (f + 1) % 5 else f)) (e2 : M' 7 1 2 = nI (actN n)) (ho : ∀ i, i < 5 → i ≠ (f + n) % 5 → M' (2 + i) = M (2 + i)) (hw : M' (2 + (f + n) % 5) = x) : RH M' (act mk n) := by
  refine ⟨if n = 4 then (f + 1) % 5 else f, actN n, by split <;> omega, by unfold actN; split <;> omega, e1, e2, by rw [act_0, upd_eq], fun j hj => ?_⟩
  rw [act_2, k2, k4]
  unfold actN at hj
  unfold actW
  by_cases h4 : n = 4
  · subst h4
    rw [if_pos rfl] at hj
    rw [if_pos rfl, if_pos rfl]
    by_cases h3 : j = 3
    · subst h3
      have e : ((f + 1) % 5 + 3) % 5 = (f + 4) % 5 := by omega
      rw [e, hw]
      exact hx.cg (fun k hk => by rw [pro_in hk, pre_lt hk])
    · have e : ((f + 1) % 5 + j) % 5 = (f + (j + 1)) % 5 := by omega
      rw [e, ho _ (by omega) (by omega)]
      exact (hs (j + 1) (by omega)).cg (fun k hk => by
        show pro (pre (m 2) (fun q => m 2 (q + 368)) 1104) (pre (m 4) d 368) (368 * 3) 368 (368 * j + k) = m 2 (368 * (j + 1) + k)
        rw [pro_out (by omega), pre_lt (by omega)]
        show m 2 (368 * j + k + 368) = _
        congr 1
        omega)
  · rw [if_neg h4] at hj
    rw [if_neg h4, if_neg h4]
    by_cases h3 : j = n
    · subst h3
      rw [hw]
      exact hx.cg (fun k hk => by rw [pro_in hk, pre_lt hk])
    · rw [ho _ (by omega) (by omega)]
      exact (hs j (by omega)).cg (fun k hk => by
        show pro (m 2) (pre (m 4) d 368) (368 * n) 368 (368 * j + k) = m 2 (368 * j + k)
        rw [pro_out (by omega)])
theorem on_some (M : kM2) (i : Nat) (r : Int32) (x : kM1) : k_on M i (some (r, x)) = some (r, up M i x) := rfl
theorem neg_er {r : Int32} (h : r.toInt ≤ -1000001) : r < 0 := by rw [i_lt, t_lit0]; omega
theorem nneg {r : Int32} (h : 0 ≤ r.toInt) : ¬ r < 0 := by rw [i_lt, t_lit0]; omega
/-- behind a change that is done: both sides record it -/
theorem keep_eq {M : kM2} {m : kM1} {d : Nat → Int32} (W : RW M m d) {mk : kM1} (k2 : mk 2 = m 2) (k4 : mk 4 = pre (m 4) d 368) (k5 : mk 5 = m 5) (k04 : mk 0 4 = m 0 4) (k06 : mk 0 6 = m 0 6) {f n : Nat} {x a' : kM1} {d' : Nat → Int32} (hf : f < 5) (hn : n ≤ 4) (e1 : M 7 1 1 = nI f) (e2 : M 7 1 2 = nI n) (hx : RX x d) {r : Int32} (hr : 0 ≤ r.toInt) (R : RX a' d') : ∃ M' m', k_on (up (up M (2 + (f + n) % 5) x) 0 a') 7 (fX1_keepIfDone (up (up M (2 + (f + n) % 5) x) 0 a' 7) r) = some (r, M') ∧ fX7_acted (sD mk d') r = some (r, sD m' d') ∧ RW M' m' d' := by
  obtain ⟨W1, ⟨f', n', hf', hn', g1, g2, g3, W2⟩, ⟨l, l1, l2, l3, l4⟩⟩ := W
  have ef : f' = f := nI_inj (by omega) (by omega) (g1.symm.trans e1)
  have en : n' = n := nI_inj (by omega) (by omega) (g2.symm.trans e2)
  subst ef
  subst en
  have e7 : up (up M (2 + (f' + n') % 5) x) 0 a' 7 = M 7 := by rw [up_ne _ _ (by omega), up_ne _ _ (by omega)]
  have A := g_acted mk d' (r := r) hn (by rw [k04]; exact g3) hr
  have T : ∀ y : kM1, (∀ q, q = 3 ∨ q = 4 → y q = M 7 q) → RT (up (up (up M (2 + (f' + n') % 5) x) 0 a') 7 y) (act mk n') := fun y hy => by
    refine ⟨l, l1, ?_, ?_, fun k hk => ?_⟩
    · rw [up_same, hy 3 (Or.inl rfl)]
      exact l2
    · rw [act_0, upd_ne (by decide), k06]
      exact l3
    · rw [up_same, hy 4 (Or.inr rfl), act_ne (by decide) (by decide), k5]
      exact l4 k hk
  have X : ∀ y : kM1, up (up (up M (2 + (f' + n') % 5) x) 0 a') 7 y 0 = a' := fun y => by rw [up_ne _ _ (by decide), up_same]
  have O : ∀ (y : kM1) (i : Nat), i < 5 → i ≠ (f' + n') % 5 → up (up (up M (2 + (f' + n') % 5) x) 0 a') 7 y (2 + i) = M (2 + i) := fun y i h1 h2 => by rw [up_ne _ _ (by omega), up_ne _ _ (by omega), up_ne _ _ (by omega)]
  have Y : ∀ y : kM1, up (up (up M (2 + (f' + n') % 5) x) 0 a') 7 y (2 + (f' + n') % 5) = x := fun y => by rw [up_ne _ _ (by omega), up_ne _ _ (by omega), up_same]
  rw [e7, A]
  unfold fX1_keepIfDone
  rw [if_neg (nneg hr), e2]
  by_cases h4 : n' = 4
  · have L : (4 : Int32) ≤ nI n' := lit_le (c := 4) (S := 4) rfl (by omega) (by omega)
    rw [if_pos L, klet, on_some, e1, nI_1, i_mod5 (by omega)]
    refine ⟨_, _, rfl, rfl, by rw [X]; exact R, RH.act k2 k4 hf hn W2 hx ?_ ?_ (O _) (Y _), T _ (fun q hq => mu_ne (by omega))⟩
    · rw [up_same, mu_eq, upd_eq, if_pos h4]
    · rw [up_same, mu_eq, upd_ne (by decide), e2, h4]
      rfl
  · have L : ¬ (4 : Int32) ≤ nI n' := lit_nle (c := 4) (S := 4) rfl (by omega) (by decide)
    rw [if_neg L, klet, on_some, nI_1]
    refine ⟨_, _, rfl, rfl, by rw [X]; exact R, RH.act k2 k4 hf hn W2 hx ?_ ?_ (O _) (Y _), T _ (fun q hq => mu_ne (by omega))⟩
    · rw [up_same, mu_eq, upd_ne (by decide), e1, if_neg h4]
    · rw [up_same, mu_eq, upd_eq]
      unfold actN
      rw [if_neg h4]
theorem top_ch {M : kM2} {m : kM1} {d : Nat → Int32} (W : RW M m d) (g : kM1 → Option (Int32 × kM1)) {o2 : Option (Int32 × kM1)} (hC : ∀ K F S t, RM (M 0) d K F S t → t ≤ 10000 → ∃ t', t' ≤ 10000 ∧ CK m (M 0) d t' (g (M 0)) o2) : ∃ r M' m' d', (bd (fX1_hold M 0) fun _ M2 => bd (k_on M2 0 (g (M2 0))) fun r3 M4 => bd (k_on M4 7 (fX1_keepIfDone (M4 7) r3)) fun r5 M6 => some (r5, M6)) = some (r, M') ∧ o2 = some (r, sD m' d') ∧ RW M' m' d' := by
  obtain ⟨f, n, x, hf, hn, e1, e2, h1, hx⟩ := hold_eq W
  have W' := W
  obtain ⟨⟨K, F, S, t, R, ht⟩, ⟨f', n', hf', hn', g1, g2, g3, W2⟩, ⟨l, l1, l2, l3, l4⟩⟩ := W'
  obtain ⟨t', ht', r, a', d', c1, c2⟩ := hC K F S t R ht
  rw [h1, bd_s, up_ne _ _ (show 0 ≠ 2 + (f + n) % 5 by omega), c1, on_some, bd_s, bd_id]
  rcases c2 with ⟨hr, ha, m', hm, ho⟩ | ⟨hr, ⟨K', F', S', R'⟩, ho⟩
  · subst ha
    have ef : f' = f := nI_inj (by omega) (by omega) (g1.symm.trans e1)
    have en : n' = n := nI_inj (by omega) (by omega) (g2.symm.trans e2)
    subst ef
    subst en
    unfold fX1_keepIfDone
    rw [if_pos (neg_er hr), on_some, up_self]
    have q0 : m' 0 = m 0 := by
      rcases hm with z | z
      · rw [z]
      · rw [z, kee_0]
    have q2 : m' 2 = m 2 := by
      rcases hm with z | z
      · rw [z]
      · rw [z, kee_2]
    have q5 : m' 5 = m 5 := by
      rcases hm with z | z
      · rw [z]
      · rw [z, kee_5]
    have e7 : up (up M (2 + (f' + n') % 5) x) 0 (M 0) 7 = M 7 := by rw [up_ne _ _ (by omega), up_ne _ _ (by omega)]
    refine ⟨r, _, m', d, rfl, ho, by rw [up_same]; exact ⟨K, F, S, t, R, ht⟩, ⟨f', n', hf', hn', by rw [e7]; exact g1, by rw [e7]; exact g2, by rw [q0]; exact g3, fun j hj => ?_⟩, ⟨l, l1, by rw [e7]; exact l2, by rw [q0]; exact l3, fun k hk => by rw [e7, q5]; exact l4 k hk⟩⟩
    rw [up_ne _ _ (by omega), up_ne _ _ (by omega), q2]
    exact W2 j hj
  · obtain ⟨M', m', k1, k2, k3⟩ := keep_eq W (kee_2 m d) (kee_4 m d) (kee_5 m d) (by rw [kee_0]) (by rw [kee_0]) hf hn e1 e2 hx hr ⟨K', F', S', t', R', ht'⟩
    exact ⟨r, M', m', d', k1, ho.trans k2, k3⟩
theorem top_undo {M : kM2} {m : kM1} {d : Nat → Int32} (W : RW M m d) : ∃ r M' m' d', fX6_undo M = some (r, M') ∧ fX7_undo (sD m d) = some (r, sD m' d') ∧ RW M' m' d' := by
  have W0 := W
  obtain ⟨W1, ⟨f, n, hf, hn, e1, e2, e3, W2⟩, ⟨l, l1, l2, l3, l4⟩⟩ := W
  unfold fX6_undo
  rw [bd_id]
  unfold fX1_restore
  cases n with
  | zero =>
    rw [e2, if_pos (show nI 0 = 0 from rfl)]
    unfold fX7_undo
    rw [sD_ne (show (0 : Nat) ≠ 1 by decide), e3, if_pos (show nI 0 = 0 from rfl)]
    exact ⟨_, M, m, d, rfl, rfl, W0⟩
  | succ p =>
    have n0 : ¬ nI (p + 1) = 0 := fun z => by have := nI_inj (by omega) (by decide) (z.trans (show (0 : Int32) = nI 0 from rfl)); omega
    have ep : nI (p + 1) - 1 = nI p := by rw [show (1 : Int32) = nI 1 from rfl, nI_sub (by omega)]; rfl
    rw [e2, if_neg n0, klet, ep, g_undo m d (by omega) e3]
    have m1 : mw M 7 1 2 (nI p) 7 1 1 = nI f := by unfold mw; rw [up_same, mu_eq, upd_ne (by decide)]; exact e1
    have m2 : mw M 7 1 2 (nI p) 7 1 2 = nI p := by unfold mw; rw [up_same, mu_eq, upd_eq]
    have mo : ∀ i, i ≠ 7 → mw M 7 1 2 (nI p) i = M i := fun i hi => by unfold mw; rw [up_ne _ _ hi]
    have m7 : ∀ j, j ≠ 1 → mw M 7 1 2 (nI p) 7 j = M 7 j := fun j hj => by unfold mw; rw [up_same, mu_ne hj]
    rw [m1, m2, nI_add, i_mod5 (by omega), if_pos (inb_nI (by omega) (by decide)), c_nI (by omega)]
    generalize mw M 7 1 2 (nI p) = M2 at *
    obtain ⟨x, c1, c2⟩ := RX.copy (M := M2) (i := 0) (i1 := 2 + (f + p) % 5) (by omega) (by rw [mo _ (by omega)]; exact W2 p (by omega))
    rw [c1, bd_s, up_ne _ _ (show 7 ≠ 0 by decide), m2]
    refine ⟨nI p, _, _, _, rfl, rfl, by rw [up_same]; exact c2.cg (fun k hk => pre_lt hk), ⟨f, p, hf, by omega, by rw [up_ne _ _ (by decide)]; exact m1, by rw [up_ne _ _ (by decide)]; exact m2, by rw [mu_eq, upd_eq], fun j hj => ?_⟩, ⟨l, l1, by rw [up_ne _ _ (by decide), m7 3 (by decide)]; exact l2, by rw [mu_eq, upd_ne (by decide)]; exact l3, fun k hk => by rw [up_ne _ _ (by decide), m7 4 (by decide), mu_ne (by decide)]; exact l4 k hk⟩⟩
    rw [up_ne _ _ (by omega), mo _ (by omega), mu_ne (by decide)]
    exact W2 j (by omega)
/-! time goes by -/
theorem pass_lp (m : kM1) {K F S st : Nat} (hst : st ≤ 200) : ∀ (j k n n' : Nat) (a : kM1) (d : Nat → Int32) (t : Nat), RM a d K F S t → k + j = st → t + j ≤ 100000 → j < n → j < n' → ∃ a' d', fX3_letPass_b31 (nI st) n a (nI k) = some (nI (t + j), a') ∧ fX7_pass_b38 (nI st) n' (sD m d) (nI k) = fX7_acted (sD m d') (nI (t + j)) ∧ RM a' d' K F S (t + j) := by
  intro j
  induction j with
  | zero =>
    intro k n n' a d t R hk ht hn hn'
    obtain ⟨n, rfl⟩ : ∃ z, n = z + 1 := ⟨n - 1, by omega⟩
    obtain ⟨n', rfl⟩ : ∃ z, n' = z + 1 := ⟨n' - 1, by omega⟩
    refine ⟨a, d, ?_, ?_, R⟩
    · rw [fX3_letPass_b31, if_pos (lp_out (by omega) (by omega)), R.n.2.2.2.1.1]
      rfl
    · rw [fX7_pass_b38, if_pos (lp_out (by omega) (by omega)), bd_id, sD_1, R.n.2.2.2.1.2]
      rfl
  | succ j ih =>
    intro k n n' a d t R hk ht hn hn'
    obtain ⟨n, rfl⟩ : ∃ z, n = z + 1 := ⟨n - 1, by omega⟩
    obtain ⟨n', rfl⟩ : ∃ z, n' = z + 1 := ⟨n' - 1, by omega⟩
    obtain ⟨a1, d1, s1, s2, s3, -⟩ := step_eq R m (by omega)
    obtain ⟨a', d', h1, h2, h3⟩ := ih (k + 1) n n' a1 d1 (t + 1) s3 (by omega) (by omega) (by omega) (by omega)
    rw [show t + 1 + j = t + (j + 1) by omega] at h1 h2 h3
    refine ⟨a', d', ?_, ?_, h3⟩
    · rw [fX3_letPass_b31, if_neg (lp_in (n := 200) (by omega) hst (by decide)), s1, bd_s, klet, nI_1]
      exact h1
    · rw [fX7_pass_b38, if_neg (lp_in (n := 200) (by omega) hst (by decide)), s2, bd_s, klet, nI_1]
      exact h2
theorem pass_eq {a : kM1} {d : Nat → Int32} {K F S t : Nat} (R : RM a d K F S t) (ht : t ≤ 10000) (m : kM1) (v : Int32) : ∃ t', t' ≤ 10000 ∧ CK m a d t' (fX3_letPass a v) (fX7_pass (sD m d) v) := by
  unfold fX3_letPass fX7_pass
  rw [k_in, bd_s, g_in, bd_s]
  by_cases h : (1 : Int32).toInt ≤ v.toInt ∧ v.toInt ≤ (200 : Int32).toInt
  · obtain ⟨st, hst, rfl⟩ := nI_rng (n := 201) (show 0 ≤ v.toInt from Int.le_trans (by decide) h.1) (by have : v.toInt ≤ 200 := h.2; omega)
    rw [if_pos h, if_neg n10, if_neg n10, R.n.2.2.2.1.1, nI_add, sD_1, R.n.2.2.2.1.2, nI_add]
    by_cases h2 : t + st ≤ 10000
    · have L : nI (t + st) ≤ 10000 := nI_le h2 (by decide)
      rw [if_pos L, if_pos L, g_keeps, bd_s]
      obtain ⟨a', d', q1, q2, q3⟩ := pass_lp (kee m d) (st := st) (by omega) st 0 kFu kFu a d t R (by omega) (by omega) (by unfold kFu; omega) (by unfold kFu; omega)
      rw [nI_0] at q1 q2
      rw [q1, q2]
      exact ⟨t + st, h2, CK.ok (by rw [t_nI (by omega)]; omega) q3⟩
    · have L : ¬ nI (t + st) ≤ 10000 := nI_ge (a := 10000) (by omega) (by omega)
      rw [if_neg L, if_neg L]
      exact ⟨t, ht, CK.er (by decide)⟩
  · rw [if_neg h, if_pos z00, if_pos z00]
    exact ⟨t, ht, CK.er (by decide)⟩
