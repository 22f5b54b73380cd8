/-! the queue -/
theorem g_came_lp (m : kM1) (d : Nat → Int32) {S : Nat} (hS : S ≤ 24) (e29 : d 29 = nI S) (f : Nat) : ∀ (j k n : Nat), k + j = S → j < n → fX7_came_b4 (nI f) n (sD m d) (nI (cnt d k f)) (nI k) = some (nI (cnt d S f), sD m d) := by
  intro j
  induction j with
  | zero =>
    intro k n hk hn
    obtain ⟨n, rfl⟩ : ∃ z, n = z + 1 := ⟨n - 1, by omega⟩
    rw [fX7_came_b4, sD_1, e29, if_pos (lp_out (by omega) (by omega)), show k = S by omega]
  | succ j ih =>
    intro k n hk hn
    obtain ⟨n, rfl⟩ : ∃ z, n = z + 1 := ⟨n - 1, by omega⟩
    have hks : k < S := by omega
    rw [fX7_came_b4, sD_1, e29, if_neg (lp_in hks hS (by decide)), g_of0 m d (by omega), bd_s, g_of12 m d (by omega), bd_s]
    have h2 := ih (k + 1) n (by omega) (by omega)
    by_cases h : d (56 + 13 * k) = nI f
    · rw [if_pos h]
      by_cases h1 : d (56 + 13 * k + 12) = 1
      · rw [if_pos h1, ← h2]
        simp only [fX7_came_b42, klet, nI_1]
        rw [show cnt d (k + 1) f = cnt d k f + 1 by rw [cnt, if_pos ⟨h, h1⟩]]
      · rw [if_neg h1, ← h2]
        simp only [fX7_came_b41, fX7_came_b42, klet, nI_1, Int32.add_zero]
        rw [show cnt d (k + 1) f = cnt d k f by rw [cnt, if_neg (fun z => h1 z.2)]; rfl]
    · rw [if_neg h, ← h2]
      simp only [fX7_came_b41, fX7_came_b42, klet, nI_1, Int32.add_zero]
      rw [show cnt d (k + 1) f = cnt d k f by rw [cnt, if_neg (fun z => h z.1)]; rfl]
theorem g_came (m : kM1) (d : Nat → Int32) {S : Nat} (hS : S ≤ 24) (e29 : d 29 = nI S) (f : Nat) : fX7_came (sD m d) (nI f) = some (nI (cnt d S f), sD m d) := by
  have h := g_came_lp m d hS e29 f S 0 kFu (by omega) (by unfold kFu; omega)
  exact h
theorem g_hard (m : kM1) (d : Nat → Int32) {k : Nat} (hk : k < 6) : fX7_hardness (sD m d) (nI k) = some (d (30 + 3 * k), sD m d) := by
  unfold fX7_hardness
  rw [ix_k, if_pos (inb_nI (by omega) (by decide)), c_nI (by omega)]
  rfl
theorem RM.rule {a : kM1} {d : Nat → Int32} {K F S t : Nat} (R : RM a d K F S t) : a 1 12 = d 12 := (R.a.1 12 (by decide)).1
/-- the two ways to weigh a sack that waits put all sacks in the same order -/
theorem rank_eq {a : kM1} {d : Nat → Int32} {K F S t : Nat} (R : RM a d K F S t) (m : kM1) : ∃ rk wt : Nat → Int32, (∀ s, s < S → fX3_rankInQueue a (20 + s) = some (rk s, a)) ∧ (∀ s, s < S → fX7_weight (sD m d) (nI s) = some (wt s, sD m d)) ∧ ∀ s s', s < S → s' < S → (rk s < rk s' ↔ wt s < wt s') ∧ (rk s = rk s' ↔ wt s = wt s') := by
  have hS := R.S24
  have hK := R.lim.1
  have hF := R.lim.2.1
  have er := R.rule
  have e6 := R.n.2.1.1
  have e13 : a 0 13 = d 25 := R.n.2.2.2.2.2.2.2.2.1
  by_cases h1 : d 12 = 1
  · refine ⟨fun s => d (56 + 13 * s + 2), fun s => d (56 + 13 * s + 2), fun s hs => ?_, fun s hs => ?_, fun s s' _ _ => ⟨Iff.rfl, Iff.rfl⟩⟩
    · unfold fX3_rankInQueue; rw [er, if_pos h1, (R.se hs).1]
    · unfold fX7_weight; rw [sD_1, if_pos h1, g_of2 m d (by omega), bd_s]
  by_cases h2 : d 12 = 2
  · refine ⟨fun s => a (12 + (d (56 + 13 * s)).toNatClampNeg) 1, fun s => a (12 + (d (56 + 13 * s)).toNatClampNeg) 1, fun s hs => ?_, fun s hs => ?_, fun s s' _ _ => ⟨Iff.rfl, Iff.rfl⟩⟩
    · obtain ⟨⟨f, hf, f1, f2⟩, -⟩ := R.so hs
      unfold fX3_rankInQueue
      rw [er, if_neg h1, if_pos h2, f1, k_hasFarmer a (nI f) (show F ≤ 24 by omega) e6, bd_s, t_nI (by omega), if_pos (show (0 : Int) ≤ f ∧ (f : Int) < F by omega), if_neg (show ¬ (1 : Int32) = 0 by decide), f1, if_pos (inb_nI (show f < 8 by omega) (by decide))]
      simp only
      rw [f2]
    · obtain ⟨⟨f, hf, f1, f2⟩, -⟩ := R.so hs
      unfold fX7_weight
      rw [sD_1, if_neg h1, if_pos h2, g_of0 m d (by omega), bd_s, f2, g_came m d hS R.e29, bd_s]
      simp only
      rw [f2, c_nI (by omega), (R.f f hf).2.2]
  by_cases h3 : d 12 = 3
  · have hkx : ∀ s, s < S → ∃ k, k < K ∧ d (56 + 13 * s + 1) = nI k ∧ a (20 + s) 1 = nI k ∧ a (20 + s) 2 = d (30 + 3 * k) ∧ 1 ≤ (a (20 + s) 2).toInt ∧ (a (20 + s) 2).toInt ≤ 9 := by
      intro s hs
      obtain ⟨-, ⟨k, hk, f3, f4, f5, -⟩⟩ := R.so hs
      have := R.k k hk
      exact ⟨k, hk, f4, f3, f5, by rw [f5]; exact this.2.2.2.1, by rw [f5]; exact this.2.2.2.2.1⟩
    refine ⟨fun s => if d (56 + 13 * s + 1) = d 25 then 0 else a (20 + s) 2, fun s => (if d (56 + 13 * s + 1) = d 25 then 0 else 10) + a (20 + s) 2, fun s hs => ?_, fun s hs => ?_, fun s s' hs hs' => ?_⟩
    · obtain ⟨k, hk, f4, f3, -⟩ := hkx s hs
      unfold fX3_rankInQueue
      rw [er, if_neg h1, if_neg h2, if_pos h3, e13, f3, ← f4]
      by_cases h : d (56 + 13 * s + 1) = d 25
      · rw [if_pos h]; simp only; rw [if_pos h]
      · rw [if_neg h]; simp only; rw [if_neg h]
    · obtain ⟨k, hk, f4, f3, f5, -⟩ := hkx s hs
      unfold fX7_weight fX7_weight_b72
      rw [sD_1, if_neg h1, if_neg h2, if_pos h3, g_of1 m d (by omega), bd_s]
      rw [sD_1, g_of1 m d (by omega)]
      simp only [bd_s]
      by_cases h : d (56 + 13 * s + 1) = d 25
      · rw [if_pos h, if_pos h, f4, g_hard m d (by omega), bd_s, f5]
      · rw [if_neg h, if_neg h, f4, g_hard m d (by omega), bd_s, f5]
    · obtain ⟨k, hk, f4, -, f5, b1, b2⟩ := hkx s hs
      obtain ⟨k', hk', f4', -, f5', b1', b2'⟩ := hkx s' hs'
      have ad : ∀ {z : Int32}, 1 ≤ z.toInt → z.toInt ≤ 9 → ((10 : Int32) + z).toInt = 10 + z.toInt := fun {z} q1 q2 => i_add (by show -2147483648 ≤ 10 + z.toInt; omega) (by show 10 + z.toInt < 2147483648; omega)
      have az : ∀ z : Int32, (0 : Int32) + z = z := fun z => Int32.zero_add z
      simp only
      by_cases h : d (56 + 13 * s + 1) = d 25
      · by_cases h' : d (56 + 13 * s' + 1) = d 25
        · have ek : k = k' := nI_inj (by omega) (by omega) (by rw [← f4, ← f4', h, h'])
          subst ek
          rw [if_pos h, if_pos h', if_pos h, if_pos h', f5, f5']
          exact ⟨⟨fun z => absurd z (by decide), fun z => by rw [i_lt] at z; omega⟩, ⟨fun _ => rfl, fun _ => rfl⟩⟩
        · rw [if_pos h, if_neg h', if_pos h, if_neg h', az, i_lt, i_lt, i_eq, i_eq, ad b1' b2', t_lit0]
          omega
      · by_cases h' : d (56 + 13 * s' + 1) = d 25
        · rw [if_neg h, if_pos h', if_neg h, if_pos h', az, i_lt, i_lt, i_eq, i_eq, ad b1 b2, t_lit0]
          omega
        · rw [if_neg h, if_neg h', if_neg h, if_neg h', i_lt, i_lt, i_eq, i_eq, ad b1 b2, ad b1' b2']
          omega
  · refine ⟨fun _ => 0, fun _ => 0, fun s hs => ?_, fun s hs => ?_, fun s s' _ _ => ⟨Iff.rfl, Iff.rfl⟩⟩
    · unfold fX3_rankInQueue; rw [er, if_neg h1, if_neg h2, if_neg h3]
    · unfold fX7_weight; rw [sD_1, if_neg h1, if_neg h2, if_neg h3]
/-- a sack that waits ahead of another -/
def ahd (d : Nat → Int32) (wt : Nat → Int32) (o s : Nat) : Prop := d (56 + 13 * o + 3) = 0 ∧ (wt o < wt s ∨ (wt o = wt s ∧ o < s))
noncomputable def plc (d : Nat → Int32) (wt : Nat → Int32) (s : Nat) : Nat → Nat
  | 0 => 0
  | n + 1 => plc d wt s n + (if d (56 + 13 * n + 3) = 0 ∧ (wt n < wt s ∨ (wt n = wt s ∧ n < s)) then 1 else 0)
theorem plc_le (d : Nat → Int32) (wt : Nat → Int32) (s n : Nat) : plc d wt s n ≤ n := by
  induction n with
  | zero => exact Nat.le_refl 0
  | succ n ih =>
    unfold plc
    split <;> omega
theorem plc_0 (d : Nat → Int32) (wt : Nat → Int32) (s n : Nat) : plc d wt s n = 0 ↔ ∀ o, o < n → ¬ ahd d wt o s := by
  induction n with
  | zero => exact ⟨fun _ o ho => by omega, fun _ => rfl⟩
  | succ n ih =>
    unfold plc
    constructor
    · intro h o ho
      by_cases hon : o = n
      · subst hon
        intro hz
        rw [if_pos (show d (56 + 13 * o + 3) = 0 ∧ (wt o < wt s ∨ (wt o = wt s ∧ o < s)) from hz)] at h
        omega
      · exact ih.mp (by omega) o (by omega)
    · intro h
      rw [if_neg (show ¬ (d (56 + 13 * n + 3) = 0 ∧ (wt n < wt s ∨ (wt n = wt s ∧ n < s))) from h n (by omega)), ih.mpr (fun o ho => h o (by omega))]
theorem k_ahd {a : kM1} {rk : Nat → Int32} {S : Nat} (hS : S ≤ 24) (hr : ∀ s, s < S → fX3_rankInQueue a (20 + s) = some (rk s, a)) {o s : Nat} (ho : o < S) (hs : s < S) : fX3_waitsAheadOf a (nI o) (nI s) = some (if rk o < rk s ∨ (rk o = rk s ∧ o < s) then 1 else 0, a) := by
  unfold fX3_waitsAheadOf fX3_waitsAheadOf_b40
  rw [if_pos (inb_nI (show o < 24 by omega) (by decide)), c_nI (by omega), hr o ho, bd_s, if_pos (inb_nI (show s < 24 by omega) (by decide)), c_nI (by omega), hr s hs, bd_s]
  by_cases h1 : rk o < rk s
  · rw [if_pos h1, if_pos (Or.inl h1)]
  · rw [if_neg h1]
    by_cases h2 : rk o = rk s
    · rw [if_pos h2]
      by_cases h3 : o < s
      · rw [if_neg (nI_ge h3 (by omega)), if_pos (Or.inr ⟨h2, h3⟩)]
      · rw [if_pos (nI_le (by omega) (by omega)), if_neg (fun z => z.elim h1 (fun y => h3 y.2))]
    · rw [if_neg h2, if_neg (fun z => z.elim h1 (fun y => h2 y.1))]
theorem k_place_lp {a : kM1} {d : Nat → Int32} {K F S t : Nat} (R : RM a d K F S t) {rk wt : Nat → Int32} (hr : ∀ s, s < S → fX3_rankInQueue a (20 + s) = some (rk s, a)) (hw : ∀ s s', s < S → s' < S → (rk s < rk s' ↔ wt s < wt s') ∧ (rk s = rk s' ↔ wt s = wt s')) {s : Nat} (hs : s < S) : ∀ (j k n : Nat), k + j = S → j < n → fX3_placeInQueue_b19 (nI s) n a (nI (plc d wt s k)) (nI k) = some (nI (plc d wt s S), a) := by
  have hS := R.S24
  intro j
  induction j with
  | zero =>
    intro k n hk hn
    obtain ⟨n, rfl⟩ : ∃ z, n = z + 1 := ⟨n - 1, by omega⟩
    rw [fX3_placeInQueue_b19, R.e7, if_pos (lp_out (by omega) (by omega)), show k = S by omega]
  | succ j ih =>
    intro k n hk hn
    obtain ⟨n, rfl⟩ : ∃ z, n = z + 1 := ⟨n - 1, by omega⟩
    have hks : k < S := by omega
    have h2 := ih (k + 1) n (by omega) (by omega)
    rw [fX3_placeInQueue_b19, R.e7, if_neg (lp_in hks hS (by decide)), if_pos (inb_nI (by omega) (by decide)), c_nI (by omega), (R.se hks).2.1, k_ahd hS hr hks hs, bd_s]
    by_cases h : d (56 + 13 * k + 3) = 0
    · rw [if_pos h]
      have hq := hw k s hks hs
      by_cases h1 : wt k < wt s ∨ (wt k = wt s ∧ k < s)
      · rw [if_pos (show rk k < rk s ∨ (rk k = rk s ∧ k < s) from h1.imp hq.1.mpr (fun z => ⟨hq.2.mpr z.1, z.2⟩)), if_neg (show ¬ (1 : Int32) = 0 by decide), ← h2]
        simp only [fX3_placeInQueue_b51, klet, nI_1]
        rw [show plc d wt s (k + 1) = plc d wt s k + 1 by rw [plc, if_pos ⟨h, h1⟩]]
      · rw [if_neg (show ¬ (rk k < rk s ∨ (rk k = rk s ∧ k < s)) from fun y => h1 (y.imp hq.1.mp (fun z => ⟨hq.2.mp z.1, z.2⟩))), if_pos rfl, ← h2]
        simp only [fX3_placeInQueue_b51, klet, nI_1]
        rw [show plc d wt s (k + 1) = plc d wt s k by rw [plc, if_neg (fun z => h1 z.2)]; rfl]
    · rw [if_neg h, ← h2]
      simp only [fX3_placeInQueue_b51, klet, nI_1]
      rw [show plc d wt s (k + 1) = plc d wt s k by rw [plc, if_neg (fun z => h z.1)]; rfl]
theorem g_place_lp (m : kM1) (d : Nat → Int32) {S : Nat} (hS : S ≤ 24) (e29 : d 29 = nI S) {wt : Nat → Int32} (hw : ∀ s, s < S → fX7_weight (sD m d) (nI s) = some (wt s, sD m d)) {s : Nat} (hs : s < S) : ∀ (j k n : Nat), k + j = S → j < n → fX7_placeOf_b4 (nI s) n (sD m d) (nI (plc d wt s k)) (nI k) = some (nI (plc d wt s S), sD m d) := by
  intro j
  induction j with
  | zero =>
    intro k n hk hn
    obtain ⟨n, rfl⟩ : ∃ z, n = z + 1 := ⟨n - 1, by omega⟩
    rw [fX7_placeOf_b4, sD_1, e29, if_pos (lp_out (by omega) (by omega)), show k = S by omega]
  | succ j ih =>
    intro k n hk hn
    obtain ⟨n, rfl⟩ : ∃ z, n = z + 1 := ⟨n - 1, by omega⟩
    have hks : k < S := by omega
    have h2 := ih (k + 1) n (by omega) (by omega)
    have hb : ∀ t0 : Int32, fX7_placeOf_b51 (nI s) (fX7_placeOf_b4 (nI s) n) (sD m d) (nI (plc d wt s k)) (nI k) t0 = if d (56 + 13 * k + 3) = 0 ∧ k ≠ s ∧ t0 ≠ 0 then fX7_placeOf_b4 (nI s) n (sD m d) (nI (plc d wt s k + 1)) (nI (k + 1)) else fX7_placeOf_b4 (nI s) n (sD m d) (nI (plc d wt s k)) (nI (k + 1)) := by
      intro t0
      unfold fX7_placeOf_b51 fX7_placeOf_b77 fX7_placeOf_b78
      rw [g_of3 m d (by omega), bd_s]
      simp only [klet, nI_1, Int32.add_zero]
      by_cases h : d (56 + 13 * k + 3) = 0
      · rw [if_pos h]
        by_cases h1 : k = s
        · rw [if_pos (by rw [h1]), if_neg (fun z => z.2.1 h1)]
        · rw [if_neg (fun z => h1 (nI_inj (by omega) (by omega) z))]
          by_cases h3 : t0 = 0
          · rw [if_pos h3, if_neg (fun z => z.2.2 h3)]
          · rw [if_neg h3, if_pos ⟨h, h1, h3⟩]
      · rw [if_neg h, if_neg (fun z => h z.1)]
    rw [fX7_placeOf_b4, sD_1, e29, if_neg (lp_in hks hS (by decide)), hw k hks, bd_s, hw s hs, bd_s, hw k hks, bd_s, hw s hs, bd_s]
    unfold fX7_placeOf_b46 fX7_placeOf_b50
    rw [hb, hb]
    by_cases h : d (56 + 13 * k + 3) = 0
    · by_cases h1 : wt k < wt s
      · have hne : k ≠ s := fun z => by subst z; rw [i_lt] at h1; omega
        rw [if_pos h1, if_pos ⟨h, hne, by decide⟩, ← h2, show plc d wt s (k + 1) = plc d wt s k + 1 by rw [plc, if_pos ⟨h, Or.inl h1⟩]]
      · rw [if_neg h1]
        by_cases h3 : wt k = wt s
        · rw [if_pos h3]
          by_cases h4 : k < s
          · rw [if_neg (nI_ge h4 (by omega)), if_pos ⟨h, by omega, by decide⟩, ← h2, show plc d wt s (k + 1) = plc d wt s k + 1 by rw [plc, if_pos ⟨h, Or.inr ⟨h3, h4⟩⟩]]
          · rw [if_pos (nI_le (by omega) (by omega)), if_neg (fun z => z.2.2 rfl), ← h2, show plc d wt s (k + 1) = plc d wt s k by rw [plc, if_neg (fun z => z.2.elim h1 (fun y => h4 y.2))]; rfl]
        · rw [if_neg h3, if_neg (fun z => z.2.2 rfl), ← h2, show plc d wt s (k + 1) = plc d wt s k by rw [plc, if_neg (fun z => z.2.elim h1 (fun y => h3 y.1))]; rfl]
    · have hz : ∀ t0 : Int32, ¬ (d (56 + 13 * k + 3) = 0 ∧ k ≠ s ∧ t0 ≠ 0) := fun _ z => h z.1
      rw [if_neg (hz 1), if_neg (hz 0), ite_self, ite_self, ite_self, ← h2, show plc d wt s (k + 1) = plc d wt s k by rw [plc, if_neg (fun z => h z.1)]; rfl]
theorem k_place {a : kM1} {d : Nat → Int32} {K F S t : Nat} (R : RM a d K F S t) {rk wt : Nat → Int32} (hr : ∀ s, s < S → fX3_rankInQueue a (20 + s) = some (rk s, a)) (hw : ∀ s s', s < S → s' < S → (rk s < rk s' ↔ wt s < wt s') ∧ (rk s = rk s' ↔ wt s = wt s')) {s : Nat} (hs : s < S) : fX3_placeInQueue a (nI s) = some (if d (56 + 13 * s + 3) = 0 then nI (plc d wt s S) else -1000004, a) := by
  have hS := R.S24
  unfold fX3_placeInQueue
  rw [if_pos (inb_nI (by omega) (by decide)), c_nI (by omega), (R.se hs).2.1]
  by_cases h : d (56 + 13 * s + 3) = 0
  · rw [if_pos h, if_pos h]
    exact k_place_lp R hr hw hs S 0 kFu (by omega) (by unfold kFu; omega)
  · rw [if_neg h, if_neg h]
theorem g_place (m : kM1) (d : Nat → Int32) {S : Nat} (hS : S ≤ 24) (e29 : d 29 = nI S) {wt : Nat → Int32} (hw : ∀ s, s < S → fX7_weight (sD m d) (nI s) = some (wt s, sD m d)) {s : Nat} (hs : s < S) : fX7_placeOf (sD m d) (nI s) = some (nI (plc d wt s S), sD m d) := g_place_lp m d hS e29 hw hs S 0 kFu (by omega) (by unfold kFu; omega)
/-- the two searches of a place -/
theorem at_lp {a m : kM1} {d : Nat → Int32} {K F S t : Nat} (R : RM a d K F S t) {rk wt : Nat → Int32} (hr : ∀ s, s < S → fX3_rankInQueue a (20 + s) = some (rk s, a)) (hg : ∀ s, s < S → fX7_weight (sD m d) (nI s) = some (wt s, sD m d)) (hw : ∀ s s', s < S → s' < S → (rk s < rk s' ↔ wt s < wt s') ∧ (rk s = rk s' ↔ wt s = wt s')) {v : Int32} (hv : 0 ≤ v.toInt) : ∀ (j k n n' : Nat), k + j = S → j < n → j < n' → (∃ s, s < S ∧ d (56 + 13 * s + 3) = 0 ∧ nI (plc d wt s S) = v ∧ fX3_sackAtPlace_b2 v n a (nI k) = some (nI s, a) ∧ fX7_waitingAt_b2 v n' (sD m d) (nI k) = some (nI s, sD m d)) ∨ ((∀ s, k ≤ s → s < S → ¬ (d (56 + 13 * s + 3) = 0 ∧ nI (plc d wt s S) = v)) ∧ fX3_sackAtPlace_b2 v n a (nI k) = some (-1000004, a) ∧ fX7_waitingAt_b2 v n' (sD m d) (nI k) = some (-1, sD m d)) := by
  have hS := R.S24
  intro j
  induction j with
  | zero =>
    intro k n n' hk hn hn'
    obtain ⟨n, rfl⟩ : ∃ z, n = z + 1 := ⟨n - 1, by omega⟩
    obtain ⟨n', rfl⟩ : ∃ z, n' = z + 1 := ⟨n' - 1, by omega⟩
    refine Or.inr ⟨fun s h1 h2 => by omega, ?_, ?_⟩
    · rw [fX3_sackAtPlace_b2, R.e7, if_pos (lp_out (by omega) (by omega))]
    · rw [fX7_waitingAt_b2, sD_1, R.e29, if_pos (lp_out (by omega) (by omega))]
  | succ j ih =>
    intro k n n' hk hn hn'
    obtain ⟨n, rfl⟩ : ∃ z, n = z + 1 := ⟨n - 1, by omega⟩
    obtain ⟨n', rfl⟩ : ∃ z, n' = z + 1 := ⟨n' - 1, by omega⟩
    have hks : k < S := by omega
    rw [fX3_sackAtPlace_b2, R.e7, if_neg (lp_in hks hS (by decide)), k_place R hr hw hks, bd_s, fX7_waitingAt_b2, sD_1, R.e29, if_neg (lp_in hks hS (by decide)), g_of3 m d (by omega), bd_s]
    by_cases h : d (56 + 13 * k + 3) = 0
    · rw [if_pos h, if_pos h, g_place m d hS R.e29 hg hks, bd_s]
      by_cases h1 : nI (plc d wt k S) = v
      · rw [if_pos h1, if_pos h1]
        exact Or.inl ⟨k, hks, h, h1, rfl, rfl⟩
      · rw [if_neg h1, if_neg h1]
        simp only [fX7_waitingAt_b33, klet, nI_1]
        rcases ih (k + 1) n n' (by omega) (by omega) (by omega) with z | ⟨z1, z2⟩
        · exact Or.inl z
        · refine Or.inr ⟨fun s q1 q2 => ?_, z2⟩
          by_cases hsk : s = k
          · subst hsk; exact fun y => h1 y.2
          · exact z1 s (by omega) q2
    · rw [if_neg h, if_neg h, if_neg (fun z => by rw [← z] at hv; exact absurd hv (by decide))]
      simp only [fX7_waitingAt_b33, klet, nI_1]
      rcases ih (k + 1) n n' (by omega) (by omega) (by omega) with z | ⟨z1, z2⟩
      · exact Or.inl z
      · refine Or.inr ⟨fun s q1 q2 => ?_, z2⟩
        by_cases hsk : s = k
        · subst hsk; exact fun y => h y.1
        · exact z1 s (by omega) q2
theorem queueAt_eq {a m : kM1} {d : Nat → Int32} {K F S t : Nat} (R : RM a d K F S t) {v : Int32} (hv : 0 ≤ v.toInt) : (∃ s, s < S ∧ fX3_sackAtPlace a v = some (nI s, a) ∧ fX7_waitingAt (sD m d) v = some (nI s, sD m d)) ∨ (fX3_sackAtPlace a v = some (-1000004, a) ∧ fX7_waitingAt (sD m d) v = some (-1, sD m d)) := by
  have hS := R.S24
  obtain ⟨rk, wt, hr, hg, hw⟩ := rank_eq R m
  rcases at_lp R hr hg hw hv S 0 kFu kFu (by omega) (by unfold kFu; omega) (by unfold kFu; omega) with ⟨s, h1, -, -, h2, h3⟩ | ⟨-, h2, h3⟩
  · exact Or.inl ⟨s, h1, h2, h3⟩
  · exact Or.inr ⟨h2, h3⟩
theorem place_eq {a m : kM1} {d : Nat → Int32} {K F S t : Nat} (R : RM a d K F S t) {s : Nat} (hs : s < S) (h0 : d (56 + 13 * s + 3) = 0) : ∃ r, fX3_placeInQueue a (nI s) = some (r, a) ∧ fX7_placeOf (sD m d) (nI s) = some (r, sD m d) := by
  obtain ⟨rk, wt, hr, hg, hw⟩ := rank_eq R m
  refine ⟨nI (plc d wt s S), ?_, g_place m d R.S24 R.e29 hg hs⟩
  rw [k_place R hr hw hs, if_pos h0]
/-- the first of the queue, sought by the class -/
theorem k_first_lp {a : kM1} {d : Nat → Int32} {K F S t : Nat} (R : RM a d K F S t) {rk : Nat → Int32} (hr : ∀ s, s < S → fX3_rankInQueue a (20 + s) = some (rk s, a)) : ∀ (j k n : Nat), k + j = S → j < n →
    ((∀ s, s < k → ¬ d (56 + 13 * s + 3) = 0) → ∀ b2 : Int32, (∀ s, s < S → ¬ d (56 + 13 * s + 3) = 0) ∧ fX3_firstOfQueue_b6 n a (-1) b2 (nI k) = some (-1, a) ∨ ∃ f, f < S ∧ d (56 + 13 * f + 3) = 0 ∧ (∀ o, o < S → ¬ ahd d rk o f) ∧ fX3_firstOfQueue_b6 n a (-1) b2 (nI k) = some (nI f, a)) ∧
    ∀ f, f < k → d (56 + 13 * f + 3) = 0 → (∀ o, o < k → ¬ ahd d rk o f) → ∃ f', f' < S ∧ d (56 + 13 * f' + 3) = 0 ∧ (∀ o, o < S → ¬ ahd d rk o f') ∧ fX3_firstOfQueue_b6 n a (nI f) (rk f) (nI k) = some (nI f', a) := by
  have hS := R.S24
  intro j
  induction j with
  | zero =>
    intro k n hk hn
    obtain ⟨n, rfl⟩ : ∃ z, n = z + 1 := ⟨n - 1, by omega⟩
    have hkS : k = S := by omega
    subst hkS
    refine ⟨fun hq b2 => Or.inl ⟨hq, ?_⟩, fun f hf h0 hq => ⟨f, hf, h0, hq, ?_⟩⟩
    · rw [fX3_firstOfQueue_b6, R.e7, if_pos (lp_out (by omega) (by omega))]
    · rw [fX3_firstOfQueue_b6, R.e7, if_pos (lp_out (by omega) (by omega))]
  | succ j ih =>
    intro k n hk hn
    obtain ⟨n, rfl⟩ : ∃ z, n = z + 1 := ⟨n - 1, by omega⟩
    have hks : k < S := by omega
    obtain ⟨i1, i2⟩ := ih (k + 1) n (by omega) (by omega)
    have hne : ¬ nI k = -1 := fun z => by
      have h := t_nI (n := k) (by omega)
      rw [z] at h
      have h' : (-1 : Int32).toInt = -1 := by decide
      omega
    constructor
    · intro hq b2
      rw [fX3_firstOfQueue_b6, R.e7, if_neg (lp_in hks hS (by decide)), if_pos (inb_nI (by omega) (by decide)), c_nI (by omega), (R.se hks).2.1, if_pos (inb24 (show k < 24 by omega)), hr k hks, bd_s]
      simp only [fX3_firstOfQueue_b49, fX3_firstOfQueue_b54, klet, nI_1]
      by_cases h : d (56 + 13 * k + 3) = 0
      · rw [if_pos h, if_pos trivial]
        exact Or.inr (i2 k (by omega) h (fun o ho z => by
          by_cases hok : o = k
          · subst hok
            rcases z.2 with y | y
            · rw [i_lt] at y; omega
            · omega
          · exact hq o (by omega) z.1))
      · rw [if_neg h]
        exact i1 (fun s hs => by
          by_cases hsk : s = k
          · subst hsk; exact h
          · exact hq s (by omega)) b2
    · intro f hf h0 hq
      have hnf : ¬ nI f = -1 := fun z => by
        have h := t_nI (n := f) (by omega)
        rw [z] at h
        have h' : (-1 : Int32).toInt = -1 := by decide
        omega
      rw [fX3_firstOfQueue_b6, R.e7, if_neg (lp_in hks hS (by decide)), if_pos (inb_nI (by omega) (by decide)), c_nI (by omega), (R.se hks).2.1, if_pos (inb24 (show k < 24 by omega)), hr k hks, bd_s, if_neg hnf]
      simp only [fX3_firstOfQueue_b49, fX3_firstOfQueue_b54, klet, nI_1]
      by_cases h : d (56 + 13 * k + 3) = 0
      · rw [if_pos h]
        by_cases h1 : rk f ≤ rk k
        · rw [if_pos h1]
          refine i2 f (by omega) h0 (fun o ho z => ?_)
          by_cases hok : o = k
          · subst hok
            rw [i_le] at h1
            rcases z.2 with y | y
            · rw [i_lt] at y; omega
            · omega
          · exact hq o (by omega) z
        · rw [if_neg h1]
          rw [i_le] at h1
          refine i2 k (by omega) h (fun o ho z => ?_)
          by_cases hok : o = k
          · subst hok
            rcases z.2 with y | y
            · rw [i_lt] at y; omega
            · omega
          · refine hq o (by omega) ⟨z.1, Or.inl ?_⟩
            rw [i_lt]
            rcases z.2 with y | y
            · rw [i_lt] at y; omega
            · have := i_eq.mp y.1; omega
      · rw [if_neg h]
        refine i2 f (by omega) h0 (fun o ho z => ?_)
        by_cases hok : o = k
        · subst hok; exact h z.1
        · exact hq o (by omega) z
theorem first_eq {a : kM1} {d : Nat → Int32} {K F S t : Nat} (R : RM a d K F S t) (m : kM1) : ((∀ s, s < S → ¬ d (56 + 13 * s + 3) = 0) ∧ fX3_firstOfQueue a = some (-1, a)) ∨ ∃ f, f < S ∧ d (56 + 13 * f + 3) = 0 ∧ fX3_firstOfQueue a = some (nI f, a) ∧ fX7_waitingAt (sD m d) 0 = some (nI f, sD m d) := by
  have hS := R.S24
  obtain ⟨rk, wt, hr, hg, hw⟩ := rank_eq R m
  have h1 := (k_first_lp R hr S 0 kFu (by omega) (by unfold kFu; omega)).1 (fun s hs => by omega) 0
  rcases h1 with h1 | ⟨f, hf, h0, hq, h1⟩
  · exact Or.inl h1
  · refine Or.inr ⟨f, hf, h0, h1, ?_⟩
    have hqw : ∀ o, o < S → ¬ ahd d wt o f := fun o ho z => hq o ho ⟨z.1, z.2.imp (hw o f ho hf).1.mpr (fun y => ⟨(hw o f ho hf).2.mpr y.1, y.2⟩)⟩
    have p0 : nI (plc d wt f S) = 0 := by rw [(plc_0 d wt f S).mpr hqw]; rfl
    rcases at_lp R hr hg hw (v := 0) (by decide) S 0 kFu kFu (by omega) (by unfold kFu; omega) (by unfold kFu; omega) with ⟨s, s1, s2, s3, -, s5⟩ | ⟨s1, -, -⟩
    · have hp : plc d wt s S = 0 := nI_inj (by have := plc_le d wt s S; omega) (by decide) s3
      have hs := (plc_0 d wt s S).mp hp
      have hsf : s = f := by
        rcases Nat.lt_trichotomy s f with q | q | q
        · have n1 := hqw s s1
          have n2 := hs f hf
          exfalso
          have n1' : ¬ (wt s).toInt < (wt f).toInt := fun y => n1 ⟨s2, Or.inl (i_lt.mpr y)⟩
          have n2' : ¬ (wt f).toInt < (wt s).toInt := fun y => n2 ⟨h0, Or.inl (i_lt.mpr y)⟩
          have y : wt s = wt f := i_eq.mpr (by omega)
          exact n1 ⟨s2, Or.inr ⟨y, q⟩⟩
        · exact q
        · have n1 := hqw s s1
          have n2 := hs f hf
          exfalso
          have n1' : ¬ (wt s).toInt < (wt f).toInt := fun y => n1 ⟨s2, Or.inl (i_lt.mpr y)⟩
          have n2' : ¬ (wt f).toInt < (wt s).toInt := fun y => n2 ⟨h0, Or.inl (i_lt.mpr y)⟩
          have y : wt s = wt f := i_eq.mpr (by omega)
          exact n2 ⟨h0, Or.inr ⟨y.symm, q⟩⟩
      rw [← hsf]
      exact s5
    · exact absurd ⟨h0, p0⟩ (s1 f (by omega) hf)
/-- whether one waits -/
theorem g_none_lp (m : kM1) (d : Nat → Int32) {S : Nat} (hS : S ≤ 24) (e29 : d 29 = nI S) : ∀ (j k c n : Nat), k + j = S → j < n → c ≤ k → ∃ c', c' ≤ S ∧ fX7_sacksIn_b4 0 n (sD m d) (nI c) (nI k) = some (nI c', sD m d) ∧ (c' = 0 ↔ c = 0 ∧ ∀ s, k ≤ s → s < S → ¬ d (56 + 13 * s + 3) = 0) := by
  intro j
  induction j with
  | zero =>
    intro k c n hk hn hc
    obtain ⟨n, rfl⟩ : ∃ z, n = z + 1 := ⟨n - 1, by omega⟩
    refine ⟨c, by omega, ?_, ⟨fun z => ⟨z, fun s h1 h2 => by omega⟩, fun z => z.1⟩⟩
    rw [fX7_sacksIn_b4, sD_1, e29, if_pos (lp_out (by omega) (by omega))]
  | succ j ih =>
    intro k c n hk hn hc
    obtain ⟨n, rfl⟩ : ∃ z, n = z + 1 := ⟨n - 1, by omega⟩
    have hks : k < S := by omega
    rw [fX7_sacksIn_b4, sD_1, e29, if_neg (lp_in hks hS (by decide)), g_of3 m d (by omega), bd_s]
    simp only [fX7_sacksIn_b31, klet, nI_1, Int32.add_zero]
    by_cases h : d (56 + 13 * k + 3) = 0
    · rw [if_pos h]
      obtain ⟨c', h1, h2, h3⟩ := ih (k + 1) (c + 1) n (by omega) (by omega) (by omega)
      exact ⟨c', h1, h2, ⟨fun z => absurd (h3.mp z).1 (by omega), fun z => absurd h (z.2 k (Nat.le_refl k) hks)⟩⟩
    · rw [if_neg h]
      obtain ⟨c', h1, h2, h3⟩ := ih (k + 1) c n (by omega) (by omega) (by omega)
      refine ⟨c', h1, h2, ⟨fun z => ⟨(h3.mp z).1, fun s q1 q2 => ?_⟩, fun z => h3.mpr ⟨z.1, fun s q1 q2 => z.2 s (by omega) q2⟩⟩⟩
      by_cases hsk : s = k
      · subst hsk; exact h
      · exact (h3.mp z).2 s (by omega) q2
theorem g_none (m : kM1) (d : Nat → Int32) {S : Nat} (hS : S ≤ 24) (e29 : d 29 = nI S) : ∃ c, fX7_sacksIn (sD m d) 0 = some (c, sD m d) ∧ (c = 0 ↔ ∀ s, s < S → ¬ d (56 + 13 * s + 3) = 0) := by
  obtain ⟨c, h1, h2, h3⟩ := g_none_lp m d hS e29 S 0 0 kFu (by omega) (by unfold kFu; omega) (Nat.le_refl 0)
  refine ⟨nI c, h2, ⟨fun z s hs => (h3.mp (nI_inj (by omega) (by decide) z)).2 s (Nat.zero_le s) hs, fun z => by rw [h3.mpr ⟨rfl, fun s _ hs => z s hs⟩]; rfl⟩⟩
