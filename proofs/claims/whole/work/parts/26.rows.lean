/-! rows that are copied, and what a change leaves behind -/
def rs (m : kM1) (j : Nat) (f : Nat → Int32) : kM1 := fun j' => if j' = j then f else m j'
def pre (f g : Nat → Int32) (n : Nat) : Nat → Int32 := fun k => if k < n then g k else f k
theorem rs_eq (m : kM1) (j : Nat) (f : Nat → Int32) : rs m j f j = f := by unfold rs; rw [if_pos rfl]
theorem rs_ne {m : kM1} {j j' : Nat} {f : Nat → Int32} (h : j' ≠ j) : rs m j f j' = m j' := by unfold rs; rw [if_neg h]
theorem rs_rs (m : kM1) (j : Nat) (f g : Nat → Int32) : rs (rs m j f) j g = rs m j g := by
  funext j'
  unfold rs
  split <;> rfl
theorem rs_self (m : kM1) (j : Nat) : rs m j (m j) = m := by
  funext j'
  unfold rs
  split
  · next h => rw [h]
  · rfl
theorem mu_rs (m : kM1) (j k : Nat) (v : Int32) : mu m j k v = rs m j (upd (m j) k v) := rfl
theorem sD_rs (m : kM1) (d : Nat → Int32) : sD m d = rs m 1 d := rfl
theorem rs_cm (m : kM1) {j j' : Nat} (f g : Nat → Int32) (h : j ≠ j') : rs (rs m j f) j' g = rs (rs m j' g) j f := by
  funext i
  unfold rs
  by_cases h1 : i = j'
  · rw [if_pos h1, if_neg (fun z => h (z.symm.trans h1)), if_pos h1]
  · rw [if_neg h1]
    by_cases h2 : i = j
    · rw [if_pos h2, if_pos h2]
    · rw [if_neg h2, if_neg h2, if_neg h1]
theorem pre_0 (f g : Nat → Int32) : pre f g 0 = f := rfl
theorem pre_lt {f g : Nat → Int32} {n k : Nat} (h : k < n) : pre f g n k = g k := by unfold pre; rw [if_pos h]
theorem pre_ge {f g : Nat → Int32} {n k : Nat} (h : n ≤ k) : pre f g n k = f k := by unfold pre; rw [if_neg (by omega)]
theorem pre_s (f g : Nat → Int32) (n : Nat) {v : Int32} (h : g n = v) : upd (pre f g n) n v = pre f g (n + 1) := by
  subst h
  funext k
  unfold upd pre
  by_cases h : k = n
  · subst h
    rw [if_pos rfl, if_pos (by omega)]
  · rw [if_neg h]
    by_cases h2 : k < n
    · rw [if_pos h2, if_pos (by omega)]
    · rw [if_neg h2, if_neg (by omega)]
/-- the row g written over f from off on -/
def pro (f g : Nat → Int32) (off n : Nat) : Nat → Int32 := fun i => if off ≤ i ∧ i < off + n then g (i - off) else f i
theorem pro_0 (f g : Nat → Int32) (off : Nat) : pro f g off 0 = f := by
  funext i
  unfold pro
  rw [if_neg (by omega)]
theorem pro_s (f g : Nat → Int32) (off n : Nat) : upd (pro f g off n) (off + n) (g n) = pro f g off (n + 1) := by
  funext i
  unfold upd pro
  by_cases h : i = off + n
  · subst h
    rw [if_pos rfl, if_pos (by omega), show off + n - off = n by omega]
  · rw [if_neg h]
    by_cases h2 : off ≤ i ∧ i < off + n
    · rw [if_pos h2, if_pos (by omega)]
    · rw [if_neg h2, if_neg (by omega)]
theorem pro_in {f g : Nat → Int32} {off n k : Nat} (h : k < n) : pro f g off n (off + k) = g k := by
  unfold pro
  rw [if_pos (by omega), show off + k - off = k by omega]
theorem pro_out {f g : Nat → Int32} {off n i : Nat} (h : i < off ∨ off + n ≤ i) : pro f g off n i = f i := by
  unfold pro
  rw [if_neg (by omega)]
theorem lit_le {S k : Nat} {c : Int32} (hc : c = nI S) (h : S ≤ k) (h2 : k < 2147483648) : c ≤ nI k := by subst hc; exact nI_le h h2
theorem lit_nle {S k : Nat} {c : Int32} (hc : c = nI S) (h : k < S) (h2 : S < 2147483648) : ¬ c ≤ nI k := by subst hc; exact nI_ge h h2
theorem n368 {k : Nat} (h : k < 368) : ¬ nI k < 0 ∧ (nI k).toNatClampNeg < 368 := inb_nI h (by decide)
theorem le368 : ∀ {k : Nat}, 368 ≤ k → k < 2147483648 → (368 : Int32) ≤ nI k := fun h h2 => lp_out (S := 368) h h2
theorem nle368 : ∀ {k : Nat}, k < 368 → ¬ (368 : Int32) ≤ nI k := fun h => lp_in (S := 368) (n := 368) h (by decide) (by decide)

theorem g_keeps_lp (x : kM1) : ∀ (j k n : Nat), k + j = 368 → j < n → fX7_keeps_b2 n (rs x 4 (pre (x 4) (x 1) k)) (nI k) = some (0, rs x 4 (pre (x 4) (x 1) 368)) := by
  intro j
  induction j with
  | zero =>
    intro k n hk hn
    obtain ⟨n, rfl⟩ : ∃ z, n = z + 1 := ⟨n - 1, by omega⟩
    rw [fX7_keeps_b2, if_pos (le368 (by omega) (by omega)), show k = 368 by omega]
  | succ j ih =>
    intro k n hk hn
    obtain ⟨n, rfl⟩ : ∃ z, n = z + 1 := ⟨n - 1, by omega⟩
    rw [fX7_keeps_b2, if_neg (nle368 (by omega)), if_pos (n368 (by omega)), if_pos (n368 (by omega)), klet, klet, c_nI (by omega), mu_rs, rs_eq, rs_rs, rs_ne (show (1 : Nat) ≠ 4 by decide), pre_s _ _ _ rfl, nI_1]
    exact ih (k + 1) n (by omega) (by omega)
theorem g_keeps_x (x : kM1) : fX7_keeps x = some (0, rs x 4 (pre (x 4) (x 1) 368)) := by
  have h := g_keeps_lp x 368 0 kFu (by omega) (by unfold kFu; omega)
  rw [pre_0, rs_self] at h
  exact h

theorem g_lays_lp (x : kM1) : ∀ (j k n : Nat), k + j = 368 → j < n → fX7_lays_b2 n (rs x 3 (pre (x 3) (x 1) k)) (nI k) = some (0, rs x 3 (pre (x 3) (x 1) 368)) := by
  intro j
  induction j with
  | zero =>
    intro k n hk hn
    obtain ⟨n, rfl⟩ : ∃ z, n = z + 1 := ⟨n - 1, by omega⟩
    rw [fX7_lays_b2, if_pos (le368 (by omega) (by omega)), show k = 368 by omega]
  | succ j ih =>
    intro k n hk hn
    obtain ⟨n, rfl⟩ : ∃ z, n = z + 1 := ⟨n - 1, by omega⟩
    rw [fX7_lays_b2, if_neg (nle368 (by omega)), if_pos (n368 (by omega)), if_pos (n368 (by omega)), klet, klet, c_nI (by omega), mu_rs, rs_eq, rs_rs, rs_ne (show (1 : Nat) ≠ 3 by decide), pre_s _ _ _ rfl, nI_1]
    exact ih (k + 1) n (by omega) (by omega)
theorem g_lays_x (x : kM1) : fX7_lays x = some (0, rs x 3 (pre (x 3) (x 1) 368)) := by
  have h := g_lays_lp x 368 0 kFu (by omega) (by unfold kFu; omega)
  rw [pre_0, rs_self] at h
  exact h

theorem g_rest_lp (x : kM1) : ∀ (j k n : Nat), k + j = 368 → j < n → fX7_restores_b2 n (rs x 1 (pre (x 1) (x 3) k)) (nI k) = some (0, rs x 1 (pre (x 1) (x 3) 368)) := by
  intro j
  induction j with
  | zero =>
    intro k n hk hn
    obtain ⟨n, rfl⟩ : ∃ z, n = z + 1 := ⟨n - 1, by omega⟩
    rw [fX7_restores_b2, if_pos (le368 (by omega) (by omega)), show k = 368 by omega]
  | succ j ih =>
    intro k n hk hn
    obtain ⟨n, rfl⟩ : ∃ z, n = z + 1 := ⟨n - 1, by omega⟩
    rw [fX7_restores_b2, if_neg (nle368 (by omega)), if_pos (n368 (by omega)), if_pos (n368 (by omega)), klet, klet, c_nI (by omega), mu_rs, rs_eq, rs_rs, rs_ne (show (3 : Nat) ≠ 1 by decide), pre_s _ _ _ rfl, nI_1]
    exact ih (k + 1) n (by omega) (by omega)
theorem g_rest_x (x : kM1) : fX7_restores x = some (0, rs x 1 (pre (x 1) (x 3) 368)) := by
  have h := g_rest_lp x 368 0 kFu (by omega) (by unfold kFu; omega)
  rw [pre_0, rs_self] at h
  exact h

/-- with d kept aside -/
def kee (m : kM1) (d : Nat → Int32) : kM1 := rs m 4 (pre (m 4) d 368)
def lay (m : kM1) (d : Nat → Int32) : kM1 := rs m 3 (pre (m 3) d 368)
theorem g_keeps (m : kM1) (d : Nat → Int32) : fX7_keeps (sD m d) = some (0, sD (kee m d) d) := by
  rw [g_keeps_x, sD_1, sD_ne (show (4 : Nat) ≠ 1 by decide)]
  unfold kee
  rw [sD_rs, sD_rs, rs_cm m _ _ (by decide)]
theorem g_lays (m : kM1) (d : Nat → Int32) : fX7_lays (sD m d) = some (0, sD (lay m d) d) := by
  rw [g_lays_x, sD_1, sD_ne (show (3 : Nat) ≠ 1 by decide)]
  unfold lay
  rw [sD_rs, sD_rs, rs_cm m _ _ (by decide)]
theorem g_rest (m : kM1) (d : Nat → Int32) : fX7_restores (sD m d) = some (0, sD m (pre d (m 3) 368)) := by
  rw [g_rest_x, sD_1, sD_ne (show (3 : Nat) ≠ 1 by decide), sD_rs, rs_rs, sD_rs]
/-- what acted does to the states -/
theorem ac57 (r : Int32) (x : kM1) {st : Nat} (hst : st < 4) (e : x 0 4 = nI st) : ∀ (j k n : Nat), k + j = 368 → j < n → fX7_acted_b57 r n (rs x 2 (pro (x 2) (x 4) (368 * st) k)) (nI k) = some (r, mu (rs x 2 (pro (x 2) (x 4) (368 * st) 368)) 0 4 (nI (st + 1))) := by
  intro j
  induction j with
  | zero =>
    intro k n hk hn
    obtain ⟨n, rfl⟩ : ∃ z, n = z + 1 := ⟨n - 1, by omega⟩
    rw [fX7_acted_b57, if_pos (le368 (by omega) (by omega)), show k = 368 by omega, klet, rs_ne (show (0 : Nat) ≠ 2 by decide), e, nI_1]
  | succ j ih =>
    intro k n hk hn
    obtain ⟨n, rfl⟩ : ∃ z, n = z + 1 := ⟨n - 1, by omega⟩
    have e1 : (368 : Int32) * nI st + nI k = nI (368 * st + k) := by rw [show (368 : Int32) = nI 368 from rfl, nI_mul, nI_add]
    rw [fX7_acted_b57, if_neg (nle368 (by omega)), if_pos (n368 (by omega)), rs_ne (show (0 : Nat) ≠ 2 by decide), e, e1, if_pos (inb_nI (by omega) (by decide)), klet, klet, c_nI (by omega), c_nI (by omega), mu_rs, rs_eq, rs_rs, rs_ne (show (4 : Nat) ≠ 2 by decide), pro_s, nI_1]
    exact ih (k + 1) n (by omega) (by omega)
theorem ac57_x (r : Int32) (x : kM1) {st : Nat} (hst : st < 4) (e : x 0 4 = nI st) : fX7_acted_b57 r kFu x 0 = some (r, mu (rs x 2 (pro (x 2) (x 4) (368 * st) 368)) 0 4 (nI (st + 1))) := by
  have h := ac57 r x hst e 368 0 kFu (by omega) (by unfold kFu; omega)
  rw [pro_0, rs_self] at h
  exact h
theorem ac16 (r : Int32) (x : kM1) (e : x 0 4 = nI 4) : ∀ (j k n : Nat), k + j = 1104 → j < n → fX7_acted_b16 r n (rs x 2 (pre (x 2) (fun q => x 2 (q + 368)) k)) (nI k) = fX7_acted_b55 r (mu (rs x 2 (pre (x 2) (fun q => x 2 (q + 368)) 1104)) 0 4 (nI 3)) := by
  intro j
  induction j with
  | zero =>
    intro k n hk hn
    obtain ⟨n, rfl⟩ : ∃ z, n = z + 1 := ⟨n - 1, by omega⟩
    rw [fX7_acted_b16, if_pos (lit_le (c := 1104) (S := 1104) rfl (by omega) (by omega)), show k = 1104 by omega, klet, rs_ne (show (0 : Nat) ≠ 2 by decide), e, show nI 4 - 1 = nI 3 from rfl]
  | succ j ih =>
    intro k n hk hn
    obtain ⟨n, rfl⟩ : ∃ z, n = z + 1 := ⟨n - 1, by omega⟩
    have e1 : nI k + 368 = nI (k + 368) := by rw [show (368 : Int32) = nI 368 from rfl, nI_add]
    rw [fX7_acted_b16, if_neg (lit_nle (c := 1104) (S := 1104) rfl (by omega) (by decide)), e1, if_pos (inb_nI (by omega) (by decide)), if_pos (inb_nI (by omega) (by decide)), klet, klet, c_nI (by omega), c_nI (by omega), mu_rs, rs_eq, rs_rs, pre_ge (show k ≤ k + 368 by omega), pre_s _ _ _ rfl, nI_1]
    exact ih (k + 1) n (by omega) (by omega)
/-- the states, then -/
def actW (w b : Nat → Int32) (n : Nat) : Nat → Int32 := if n = 4 then pro (pre w (fun q => w (q + 368)) 1104) b (368 * 3) 368 else pro w b (368 * n) 368
def actN (n : Nat) : Nat := if n = 4 then 4 else n + 1
def act (m : kM1) (n : Nat) : kM1 := mu (rs m 2 (actW (m 2) (m 4) n)) 0 4 (nI (actN n))
theorem act_ne {m : kM1} {n j : Nat} (h : j ≠ 0) (h2 : j ≠ 2) : act m n j = m j := by
  unfold act
  rw [mu_ne h, rs_ne h2]
theorem act_2 (m : kM1) (n : Nat) : act m n 2 = actW (m 2) (m 4) n := by
  unfold act
  rw [mu_ne (by decide), rs_eq]
theorem act_0 (m : kM1) (n : Nat) : act m n 0 = upd (m 0) 4 (nI (actN n)) := by
  unfold act
  rw [mu_eq, rs_ne (by decide)]
theorem act_sD (m : kM1) (d : Nat → Int32) (n : Nat) : act (sD m d) n = sD (act m n) d := by
  funext j
  by_cases h : j = 1
  · subst h
    rw [act_ne (by decide) (by decide)]
    rfl
  · rw [sD_ne h]
    by_cases h0 : j = 0
    · subst h0
      rw [act_0, act_0]
      rfl
    · by_cases h2 : j = 2
      · subst h2
        rw [act_2, act_2]
        rfl
      · rw [act_ne h0 h2, act_ne h0 h2, sD_ne h]
theorem g_acted_x (x : kM1) {r : Int32} {n : Nat} (hn : n ≤ 4) (e : x 0 4 = nI n) (hr : 0 ≤ r.toInt) : fX7_acted x r = some (r, act x n) := by
  unfold fX7_acted act actW actN
  rw [if_neg (fun z => by rw [i_le] at z; have : r.toInt ≤ -1000001 := z; omega), e]
  by_cases h : n = 4
  · subst h
    have h1 := ac16 r x e 1104 0 kFu (by omega) (by unfold kFu; omega)
    rw [pre_0, rs_self, nI_0] at h1
    rw [if_pos (show nI 4 = 4 from rfl), h1, if_pos rfl, if_pos rfl]
    unfold fX7_acted_b55
    rw [ac57_x r _ (st := 3) (by decide) (by rw [mu_eq, upd_eq])]
    refine congrArg (fun z => some (r, z)) ?_
    funext j
    by_cases h0 : j = 0
    · subst h0
      rw [mu_eq, mu_eq, rs_ne (by decide), mu_eq, rs_ne (by decide), rs_ne (by decide)]
      funext q
      by_cases h4 : q = 4
      · subst h4
        rw [upd_eq, upd_eq]
      · rw [upd_ne h4, upd_ne h4, upd_ne h4]
    · rw [mu_ne h0, mu_ne h0]
      by_cases h2 : j = 2
      · subst h2
        rw [rs_eq, rs_eq, mu_ne (by decide), rs_eq, mu_ne (by decide), rs_ne (by decide)]
      · rw [rs_ne h2, rs_ne h2, mu_ne h0, rs_ne h2]
  · rw [if_neg (fun z => h (nI_inj (by omega) (by decide) (z.trans (show (4 : Int32) = nI 4 from rfl)))), if_neg h, if_neg h]
    unfold fX7_acted_b55
    exact ac57_x r x (by omega) e
theorem g_acted (m : kM1) (d : Nat → Int32) {r : Int32} {n : Nat} (hn : n ≤ 4) (e : m 0 4 = nI n) (hr : 0 ≤ r.toInt) : fX7_acted (sD m d) r = some (r, sD (act m n) d) := by
  rw [g_acted_x (sD m d) hn (by rw [sD_ne (by decide)]; exact e) hr, act_sD]
theorem g_acted_er (x : kM1) {r : Int32} (hr : r.toInt ≤ -1000001) : fX7_acted x r = some (r, x) := by
  unfold fX7_acted
  rw [if_pos (by rw [i_le]; exact hr)]
/-- undo's copy -/
theorem un22 (x : kM1) {st : Nat} (hst : st < 4) (e : x 0 4 = nI st) : ∀ (j k n : Nat), k + j = 368 → j < n → fX7_undo_b22 n (rs x 1 (pre (x 1) (fun q => x 2 (368 * st + q)) k)) (nI k) = some (nI st, rs x 1 (pre (x 1) (fun q => x 2 (368 * st + q)) 368)) := by
  intro j
  induction j with
  | zero =>
    intro k n hk hn
    obtain ⟨n, rfl⟩ : ∃ z, n = z + 1 := ⟨n - 1, by omega⟩
    rw [fX7_undo_b22, if_pos (le368 (by omega) (by omega)), show k = 368 by omega, rs_ne (show (0 : Nat) ≠ 1 by decide), e]
  | succ j ih =>
    intro k n hk hn
    obtain ⟨n, rfl⟩ : ∃ z, n = z + 1 := ⟨n - 1, by omega⟩
    have e1 : (368 : Int32) * nI st + nI k = nI (368 * st + k) := by rw [show (368 : Int32) = nI 368 from rfl, nI_mul, nI_add]
    rw [fX7_undo_b22, if_neg (nle368 (by omega)), rs_ne (show (0 : Nat) ≠ 1 by decide), e, e1, if_pos (inb_nI (by omega) (by decide)), if_pos (n368 (by omega)), klet, klet, c_nI (by omega), c_nI (by omega), mu_rs, rs_eq, rs_rs, rs_ne (show (2 : Nat) ≠ 1 by decide), pre_s _ _ _ rfl, nI_1]
    exact ih (k + 1) n (by omega) (by omega)
theorem g_undo (m : kM1) (d : Nat → Int32) {n : Nat} (hn : n < 4) (e : m 0 4 = nI (n + 1)) : fX7_undo (sD m d) = some (nI n, sD (mu m 0 4 (nI n)) (pre d (fun q => m 2 (368 * n + q)) 368)) := by
  unfold fX7_undo
  have e0 : sD m d 0 4 = nI (n + 1) := by rw [sD_ne (by decide)]; exact e
  have e2 : nI (n + 1) - 1 = nI n := by rw [show (1 : Int32) = nI 1 from rfl, nI_sub (by omega)]; rfl
  rw [e0, if_neg (fun z => by have := nI_inj (by omega) (by decide) (z.trans (show (0 : Int32) = nI 0 from rfl)); omega), klet, e2, sD_mu_ne _ _ _ _ (by decide)]
  have h := un22 (sD (mu m 0 4 (nI n)) d) (st := n) hn (by rw [sD_ne (by decide), mu_eq, upd_eq]) 368 0 kFu (by omega) (by unfold kFu; omega)
  rw [pre_0, rs_self, nI_0] at h
  rw [h, sD_1, sD_ne (show (2 : Nat) ≠ 1 by decide), mu_ne (show (2 : Nat) ≠ 0 by decide), sD_rs, rs_rs, sD_rs]
