/-! the relation of a mill's cells and the reference's row -/
/-- sacks of a farmer that came on the stones, among the first n -/
def cnt (d : Nat → Int32) : Nat → Nat → Nat
  | 0, _ => 0
  | n + 1, f => cnt d n f + (if d (56 + 13 * n) = nI f ∧ d (56 + 13 * n + 12) = 1 then 1 else 0)
theorem cnt_le (d : Nat → Int32) (n f : Nat) : cnt d n f ≤ n := by
  induction n with
  | zero => exact Nat.le_refl 0
  | succ n ih =>
    unfold cnt
    split <;> omega
def RK (a : kM1) (d : Nat → Int32) (k : Nat) : Prop := a (6 + k) 0 = d (30 + 3 * k) ∧ a (6 + k) 1 = d (30 + 3 * k + 1) ∧ a (6 + k) 2 = d (30 + 3 * k + 2) ∧ 1 ≤ (d (30 + 3 * k)).toInt ∧ (d (30 + 3 * k)).toInt ≤ 9 ∧ 0 ≤ (d (30 + 3 * k + 1)).toInt ∧ (d (30 + 3 * k + 1)).toInt ≤ 20 ∧ 1 ≤ (d (30 + 3 * k + 2)).toInt ∧ (d (30 + 3 * k + 2)).toInt ≤ 1000000
def RF (a : kM1) (d : Nat → Int32) (S f : Nat) : Prop := a (12 + f) 0 = d (48 + f) ∧ 0 ≤ (d (48 + f)).toInt ∧ a (12 + f) 1 = nI (cnt d S f)
/-- what of a sack is held alike -/
def RSe (a : kM1) (d : Nat → Int32) (s : Nat) : Prop := a (20 + s) 5 = d (56 + 13 * s + 2) ∧ a (20 + s) 6 = d (56 + 13 * s + 3) ∧ a (20 + s) 7 = d (56 + 13 * s + 4) ∧ a (20 + s) 8 = d (56 + 13 * s + 5) ∧ a (20 + s) 11 = d (56 + 13 * s + 6) ∧ a (20 + s) 15 = d (56 + 13 * s + 10) ∧ a (20 + s) 16 = d (56 + 13 * s + 11)
def RSo (a : kM1) (d : Nat → Int32) (K F s : Nat) : Prop := (∃ f, f < F ∧ a (20 + s) 0 = nI f ∧ d (56 + 13 * s) = nI f) ∧ ∃ k, k < K ∧ a (20 + s) 1 = nI k ∧ d (56 + 13 * s + 1) = nI k ∧ a (20 + s) 2 = d (30 + 3 * k) ∧ a (20 + s) 3 = d (30 + 3 * k + 1) ∧ a (20 + s) 4 = d (30 + 3 * k + 2)
def RSm (a : kM1) (d : Nat → Int32) (s : Nat) : Prop := a (20 + s) 9 = d (56 + 13 * s + 4) * d (56 + 13 * s + 5) / 100 ∧ a (20 + s) 10 = (d (56 + 13 * s + 4) - a (20 + s) 9) * a (20 + s) 3 / 100
def RSp (a : kM1) (d : Nat → Int32) (t s : Nat) : Prop := 0 < (d (56 + 13 * s + 6)).toInt → a (20 + s) 12 = d (56 + 13 * s + 7) ∧ a (20 + s) 13 = d (56 + 13 * s + 8) ∧ a (20 + s) 14 = d (56 + 13 * s + 9) ∧ 0 ≤ (d (56 + 13 * s + 7)).toInt ∧ 0 ≤ (d (56 + 13 * s + 8)).toInt ∧ (d (56 + 13 * s + 8)).toInt ≤ (t : Int) / 96
def RSb (a : kM1) (d : Nat → Int32) (s : Nat) : Prop := (1 ≤ (d (56 + 13 * s + 2)).toInt ∧ (d (56 + 13 * s + 2)).toInt ≤ 200) ∧ (0 ≤ (d (56 + 13 * s + 3)).toInt ∧ (d (56 + 13 * s + 3)).toInt ≤ 3) ∧ (0 ≤ (d (56 + 13 * s + 4)).toInt ∧ (d (56 + 13 * s + 4)).toInt ≤ (d (56 + 13 * s + 2)).toInt) ∧ (0 ≤ (d (56 + 13 * s + 5)).toInt ∧ (d (56 + 13 * s + 5)).toInt ≤ 50) ∧ 0 ≤ (d (56 + 13 * s + 6)).toInt ∧ 0 ≤ (d (56 + 13 * s + 10)).toInt ∧ (d (56 + 13 * s + 6)).toInt + (d (56 + 13 * s + 10)).toInt ≤ (d (56 + 13 * s + 4)).toInt - (a (20 + s) 9).toInt - (a (20 + s) 10).toInt
def RSt (d : Nat → Int32) (s : Nat) : Prop := (d (56 + 13 * s + 3) = 0 → d (56 + 13 * s + 4) = 0 ∧ d (56 + 13 * s + 12) = 0) ∧ (d (56 + 13 * s + 3) = 1 → (d (56 + 13 * s + 4)).toInt < (d (56 + 13 * s + 2)).toInt) ∧ (d (56 + 13 * s + 3) = 2 → d (56 + 13 * s + 4) = d (56 + 13 * s + 2)) ∧ ((d (56 + 13 * s + 3)).toInt ≤ 1 → d (56 + 13 * s + 6) = 0 ∧ d (56 + 13 * s + 10) = 0)
def RS (a : kM1) (d : Nat → Int32) (K F t s : Nat) : Prop := RSo a d K F s ∧ RSe a d s ∧ RSm a d s ∧ RSp a d t s ∧ RSb a d s ∧ RSt d s
/-- the single numbers -/
def RN (a : kM1) (d : Nat → Int32) (K F S t : Nat) : Prop := (a 0 5 = nI K ∧ d 27 = nI K) ∧ (a 0 6 = nI F ∧ d 28 = nI F) ∧ (a 0 7 = nI S ∧ d 29 = nI S) ∧ (a 0 8 = nI t ∧ d 26 = nI t) ∧ a 0 9 = d 19 ∧ a 0 10 = d 17 ∧ a 0 11 = d 18 ∧ a 0 12 = d 24 ∧ a 0 13 = d 25 ∧ a 0 14 = d 20 ∧ a 0 15 = d 21 ∧ a 0 16 = d 22 ∧ a 0 17 = d 23
def RB (d : Nat → Int32) (S t : Nat) : Prop := (d 17 = 0 ∨ d 17 = 1) ∧ (0 ≤ (d 18).toInt ∧ (d 18).toInt ≤ 3) ∧ (d 24 = -1 ∨ ∃ s, s < S ∧ d 24 = nI s ∧ d (56 + 13 * s + 3) = 1) ∧ 0 ≤ (d 23).toInt ∧ (d 23).toInt ≤ 200 * (t : Int)
def RA (a : kM1) (d : Nat → Int32) : Prop := (∀ k, k < 13 → a 1 k = d k ∧ (k_least k).toInt ≤ (d k).toInt ∧ (d k).toInt ≤ (k_great k).toInt) ∧ ∀ k, k < 4 → a 2 k = d (13 + k) ∧ 0 ≤ (d (13 + k)).toInt ∧ (d (13 + k)).toInt ≤ 20
def RM (a : kM1) (d : Nat → Int32) (K F S t : Nat) : Prop := (K ≤ 6 ∧ F ≤ 8 ∧ S ≤ 24 ∧ t ≤ 100000) ∧ RN a d K F S t ∧ RB d S t ∧ RA a d ∧ (∀ k, k < K → RK a d k) ∧ (∀ f, f < F → RF a d S f) ∧ ∀ s, s < S → RS a d K F t s
theorem RM.lim {a : kM1} {d : Nat → Int32} {K F S t : Nat} (h : RM a d K F S t) : K ≤ 6 ∧ F ≤ 8 ∧ S ≤ 24 ∧ t ≤ 100000 := h.1
theorem RM.n {a : kM1} {d : Nat → Int32} {K F S t : Nat} (h : RM a d K F S t) : RN a d K F S t := h.2.1
theorem RM.b {a : kM1} {d : Nat → Int32} {K F S t : Nat} (h : RM a d K F S t) : RB d S t := h.2.2.1
theorem RM.a {a : kM1} {d : Nat → Int32} {K F S t : Nat} (h : RM a d K F S t) : RA a d := h.2.2.2.1
theorem RM.k {a : kM1} {d : Nat → Int32} {K F S t : Nat} (h : RM a d K F S t) : ∀ k, k < K → RK a d k := h.2.2.2.2.1
theorem RM.f {a : kM1} {d : Nat → Int32} {K F S t : Nat} (h : RM a d K F S t) : ∀ f, f < F → RF a d S f := h.2.2.2.2.2.1
theorem RM.s {a : kM1} {d : Nat → Int32} {K F S t : Nat} (h : RM a d K F S t) : ∀ s, s < S → RS a d K F t s := h.2.2.2.2.2.2
/-! reads of the reference -/
theorem g_of (m : kM1) (d : Nat → Int32) {s w : Nat} (hs : s < 24) (hw : w < 13) : fX7_of (sD m d) (nI s) (nI w) = some (d (56 + 13 * s + w), sD m d) := by
  unfold fX7_of
  rw [ix_s, if_pos (inb_nI (by omega) (by decide)), c_nI (by omega)]
  rfl
theorem g_put (m : kM1) (d : Nat → Int32) {s w : Nat} (v : Int32) (hs : s < 24) (hw : w < 13) : fX7_put (sD m d) (nI s) (nI w) v = some (0, sD m (upd d (56 + 13 * s + w) v)) := by
  unfold fX7_put
  rw [ix_s, if_pos (inb_nI (by omega) (by decide)), c_nI (by omega), sD_mu]
  rfl
theorem g_of0 (m : kM1) (d : Nat → Int32) {s : Nat} (hs : s < 24) : fX7_of (sD m d) (nI s) 0 = some (d (56 + 13 * s), sD m d) := g_of m d (w := 0) hs (by decide)
theorem g_put0 (m : kM1) (d : Nat → Int32) {s : Nat} (v : Int32) (hs : s < 24) : fX7_put (sD m d) (nI s) 0 v = some (0, sD m (upd d (56 + 13 * s) v)) := g_put m d (w := 0) v hs (by decide)
theorem g_of1 (m : kM1) (d : Nat → Int32) {s : Nat} (hs : s < 24) : fX7_of (sD m d) (nI s) 1 = some (d (56 + 13 * s + 1), sD m d) := g_of m d (w := 1) hs (by decide)
theorem g_put1 (m : kM1) (d : Nat → Int32) {s : Nat} (v : Int32) (hs : s < 24) : fX7_put (sD m d) (nI s) 1 v = some (0, sD m (upd d (56 + 13 * s + 1) v)) := g_put m d (w := 1) v hs (by decide)
theorem g_of2 (m : kM1) (d : Nat → Int32) {s : Nat} (hs : s < 24) : fX7_of (sD m d) (nI s) 2 = some (d (56 + 13 * s + 2), sD m d) := g_of m d (w := 2) hs (by decide)
theorem g_put2 (m : kM1) (d : Nat → Int32) {s : Nat} (v : Int32) (hs : s < 24) : fX7_put (sD m d) (nI s) 2 v = some (0, sD m (upd d (56 + 13 * s + 2) v)) := g_put m d (w := 2) v hs (by decide)
theorem g_of3 (m : kM1) (d : Nat → Int32) {s : Nat} (hs : s < 24) : fX7_of (sD m d) (nI s) 3 = some (d (56 + 13 * s + 3), sD m d) := g_of m d (w := 3) hs (by decide)
theorem g_put3 (m : kM1) (d : Nat → Int32) {s : Nat} (v : Int32) (hs : s < 24) : fX7_put (sD m d) (nI s) 3 v = some (0, sD m (upd d (56 + 13 * s + 3) v)) := g_put m d (w := 3) v hs (by decide)
theorem g_of4 (m : kM1) (d : Nat → Int32) {s : Nat} (hs : s < 24) : fX7_of (sD m d) (nI s) 4 = some (d (56 + 13 * s + 4), sD m d) := g_of m d (w := 4) hs (by decide)
theorem g_put4 (m : kM1) (d : Nat → Int32) {s : Nat} (v : Int32) (hs : s < 24) : fX7_put (sD m d) (nI s) 4 v = some (0, sD m (upd d (56 + 13 * s + 4) v)) := g_put m d (w := 4) v hs (by decide)
theorem g_of5 (m : kM1) (d : Nat → Int32) {s : Nat} (hs : s < 24) : fX7_of (sD m d) (nI s) 5 = some (d (56 + 13 * s + 5), sD m d) := g_of m d (w := 5) hs (by decide)
theorem g_put5 (m : kM1) (d : Nat → Int32) {s : Nat} (v : Int32) (hs : s < 24) : fX7_put (sD m d) (nI s) 5 v = some (0, sD m (upd d (56 + 13 * s + 5) v)) := g_put m d (w := 5) v hs (by decide)
theorem g_of6 (m : kM1) (d : Nat → Int32) {s : Nat} (hs : s < 24) : fX7_of (sD m d) (nI s) 6 = some (d (56 + 13 * s + 6), sD m d) := g_of m d (w := 6) hs (by decide)
theorem g_put6 (m : kM1) (d : Nat → Int32) {s : Nat} (v : Int32) (hs : s < 24) : fX7_put (sD m d) (nI s) 6 v = some (0, sD m (upd d (56 + 13 * s + 6) v)) := g_put m d (w := 6) v hs (by decide)
theorem g_of7 (m : kM1) (d : Nat → Int32) {s : Nat} (hs : s < 24) : fX7_of (sD m d) (nI s) 7 = some (d (56 + 13 * s + 7), sD m d) := g_of m d (w := 7) hs (by decide)
theorem g_put7 (m : kM1) (d : Nat → Int32) {s : Nat} (v : Int32) (hs : s < 24) : fX7_put (sD m d) (nI s) 7 v = some (0, sD m (upd d (56 + 13 * s + 7) v)) := g_put m d (w := 7) v hs (by decide)
theorem g_of8 (m : kM1) (d : Nat → Int32) {s : Nat} (hs : s < 24) : fX7_of (sD m d) (nI s) 8 = some (d (56 + 13 * s + 8), sD m d) := g_of m d (w := 8) hs (by decide)
theorem g_put8 (m : kM1) (d : Nat → Int32) {s : Nat} (v : Int32) (hs : s < 24) : fX7_put (sD m d) (nI s) 8 v = some (0, sD m (upd d (56 + 13 * s + 8) v)) := g_put m d (w := 8) v hs (by decide)
theorem g_of9 (m : kM1) (d : Nat → Int32) {s : Nat} (hs : s < 24) : fX7_of (sD m d) (nI s) 9 = some (d (56 + 13 * s + 9), sD m d) := g_of m d (w := 9) hs (by decide)
theorem g_put9 (m : kM1) (d : Nat → Int32) {s : Nat} (v : Int32) (hs : s < 24) : fX7_put (sD m d) (nI s) 9 v = some (0, sD m (upd d (56 + 13 * s + 9) v)) := g_put m d (w := 9) v hs (by decide)
theorem g_of10 (m : kM1) (d : Nat → Int32) {s : Nat} (hs : s < 24) : fX7_of (sD m d) (nI s) 10 = some (d (56 + 13 * s + 10), sD m d) := g_of m d (w := 10) hs (by decide)
theorem g_put10 (m : kM1) (d : Nat → Int32) {s : Nat} (v : Int32) (hs : s < 24) : fX7_put (sD m d) (nI s) 10 v = some (0, sD m (upd d (56 + 13 * s + 10) v)) := g_put m d (w := 10) v hs (by decide)
theorem g_of11 (m : kM1) (d : Nat → Int32) {s : Nat} (hs : s < 24) : fX7_of (sD m d) (nI s) 11 = some (d (56 + 13 * s + 11), sD m d) := g_of m d (w := 11) hs (by decide)
theorem g_put11 (m : kM1) (d : Nat → Int32) {s : Nat} (v : Int32) (hs : s < 24) : fX7_put (sD m d) (nI s) 11 v = some (0, sD m (upd d (56 + 13 * s + 11) v)) := g_put m d (w := 11) v hs (by decide)
theorem g_of12 (m : kM1) (d : Nat → Int32) {s : Nat} (hs : s < 24) : fX7_of (sD m d) (nI s) 12 = some (d (56 + 13 * s + 12), sD m d) := g_of m d (w := 12) hs (by decide)
theorem g_put12 (m : kM1) (d : Nat → Int32) {s : Nat} (v : Int32) (hs : s < 24) : fX7_put (sD m d) (nI s) 12 v = some (0, sD m (upd d (56 + 13 * s + 12) v)) := g_put m d (w := 12) v hs (by decide)
theorem g_in {μ : Type} (x : μ) (v a b : Int32) : fX7_in x v a b = some (if a.toInt ≤ v.toInt ∧ v.toInt ≤ b.toInt then 1 else 0, x) := by
  unfold fX7_in
  by_cases h1 : v < a
  · rw [if_pos h1, if_neg (fun z => by rw [i_lt] at h1; omega)]
  · rw [if_neg h1]
    by_cases h2 : b < v
    · rw [if_pos h2, if_neg (fun z => by rw [i_lt] at h2; omega)]
    · rw [if_neg h2, if_pos ⟨by rw [i_lt] at h1; omega, by rw [i_lt] at h2; omega⟩]
theorem k_in {μ : Type} (x : μ) (v a b : Int32) : fX6_within x v a b = some (if a.toInt ≤ v.toInt ∧ v.toInt ≤ b.toInt then 1 else 0, x) := by
  unfold fX6_within
  by_cases h1 : v < a
  · rw [if_pos h1, if_neg (fun z => by rw [i_lt] at h1; omega)]
  · rw [if_neg h1]
    by_cases h2 : b < v
    · rw [if_pos h2, if_neg (fun z => by rw [i_lt] at h2; omega)]
    · rw [if_neg h2, if_pos ⟨by rw [i_lt] at h1; omega, by rw [i_lt] at h2; omega⟩]
theorem ite_i {P Q : Prop} [Decidable P] [Decidable Q] (h : P ↔ Q) {α : Type} {a b : α} : (if P then a else b) = if Q then a else b := by
  by_cases hp : P
  · rw [if_pos hp, if_pos (h.mp hp)]
  · rw [if_neg hp, if_neg (fun z => hp (h.mpr z))]
theorem b01 (P : Prop) [Decidable P] : (if P then (1 : Int32) else 0) = 0 ∨ (if P then (1 : Int32) else 0) = 1 := by by_cases h : P <;> simp [h]
theorem t_lit0 : (0 : Int32).toInt = 0 := rfl
theorem g_isSack (m : kM1) (d : Nat → Int32) (v : Int32) {S : Nat} (hS : S ≤ 24) (h : d 29 = nI S) : fX7_isSack (sD m d) v = some (if 0 ≤ v.toInt ∧ v.toInt < S then 1 else 0, sD m d) := by
  unfold fX7_isSack
  have e : (sD m d 1 29 - 1).toInt = (S : Int) - 1 := by
    rw [sD_1, h, i_sub, t_nI (by omega)] <;> first | rfl | (rw [t_nI (by omega)]; show _ ≤ (S : Int) - 1; omega) | (rw [t_nI (by omega)]; show (S : Int) - 1 < _; omega)
  rw [g_in, bd_s, if_pos (b01 _), e, t_lit0]
  rw [ite_i (show (0 ≤ v.toInt ∧ v.toInt ≤ (S : Int) - 1) ↔ (0 ≤ v.toInt ∧ v.toInt < S) by omega)]
theorem g_isFarmer (m : kM1) (d : Nat → Int32) (v : Int32) {S : Nat} (hS : S ≤ 24) (h : d 28 = nI S) : fX7_isFarmer (sD m d) v = some (if 0 ≤ v.toInt ∧ v.toInt < S then 1 else 0, sD m d) := by
  unfold fX7_isFarmer
  have e : (sD m d 1 28 - 1).toInt = (S : Int) - 1 := by
    rw [sD_1, h, i_sub, t_nI (by omega)] <;> first | rfl | (rw [t_nI (by omega)]; show _ ≤ (S : Int) - 1; omega) | (rw [t_nI (by omega)]; show (S : Int) - 1 < _; omega)
  rw [g_in, bd_s, if_pos (b01 _), e, t_lit0]
  rw [ite_i (show (0 ≤ v.toInt ∧ v.toInt ≤ (S : Int) - 1) ↔ (0 ≤ v.toInt ∧ v.toInt < S) by omega)]
theorem g_isKind (m : kM1) (d : Nat → Int32) (v : Int32) {S : Nat} (hS : S ≤ 24) (h : d 27 = nI S) : fX7_isKind (sD m d) v = some (if 0 ≤ v.toInt ∧ v.toInt < S then 1 else 0, sD m d) := by
  unfold fX7_isKind
  have e : (sD m d 1 27 - 1).toInt = (S : Int) - 1 := by
    rw [sD_1, h, i_sub, t_nI (by omega)] <;> first | rfl | (rw [t_nI (by omega)]; show _ ≤ (S : Int) - 1; omega) | (rw [t_nI (by omega)]; show (S : Int) - 1 < _; omega)
  rw [g_in, bd_s, if_pos (b01 _), e, t_lit0]
  rw [ite_i (show (0 ≤ v.toInt ∧ v.toInt ≤ (S : Int) - 1) ↔ (0 ≤ v.toInt ∧ v.toInt < S) by omega)]
theorem k_has (v : Int32) {S : Nat} (hS : S ≤ 24) : (if v < 0 then (0 : Int32) else if nI S ≤ v then 0 else 1) = if 0 ≤ v.toInt ∧ v.toInt < S then 1 else 0 := by
  have e := t_nI (n := S) (by omega)
  by_cases h1 : v < 0
  · rw [if_pos h1, if_neg (fun z => by rw [i_lt, t_lit0] at h1; omega)]
  · rw [if_neg h1]
    rw [i_lt, t_lit0] at h1
    by_cases h2 : nI S ≤ v
    · rw [if_pos h2, if_neg (fun z => by rw [i_le, e] at h2; omega)]
    · rw [if_neg h2, if_pos]
      rw [i_le, e] at h2
      omega
theorem k_hasSack (a : kM1) (v : Int32) {S : Nat} (hS : S ≤ 24) (h : a 0 7 = nI S) : fX3_hasSack a v = some (if 0 ≤ v.toInt ∧ v.toInt < S then 1 else 0, a) := by
  rw [← k_has v hS]
  unfold fX3_hasSack
  rw [h]
  by_cases h1 : v < 0
  · rw [if_pos h1, if_pos h1]
  · rw [if_neg h1, if_neg h1]
    by_cases h2 : nI S ≤ v
    · rw [if_pos h2, if_pos h2]
    · rw [if_neg h2, if_neg h2]
theorem k_hasFarmer (a : kM1) (v : Int32) {S : Nat} (hS : S ≤ 24) (h : a 0 6 = nI S) : fX3_hasFarmer a v = some (if 0 ≤ v.toInt ∧ v.toInt < S then 1 else 0, a) := by
  rw [← k_has v hS]
  unfold fX3_hasFarmer
  rw [h]
  by_cases h1 : v < 0
  · rw [if_pos h1, if_pos h1]
  · rw [if_neg h1, if_neg h1]
    by_cases h2 : nI S ≤ v
    · rw [if_pos h2, if_pos h2]
    · rw [if_neg h2, if_neg h2]
theorem k_hasKind (a : kM1) (v : Int32) {S : Nat} (hS : S ≤ 24) (h : a 0 5 = nI S) : fX3_hasKind a v = some (if 0 ≤ v.toInt ∧ v.toInt < S then 1 else 0, a) := by
  rw [← k_has v hS]
  unfold fX3_hasKind
  rw [h]
  by_cases h1 : v < 0
  · rw [if_pos h1, if_pos h1]
  · rw [if_neg h1, if_neg h1]
    by_cases h2 : nI S ≤ v
    · rw [if_pos h2, if_pos h2]
    · rw [if_neg h2, if_neg h2]
theorem k_quot {μ : Type} (x : μ) (u v : Int32) (h : 0 < v.toInt) : fX6_quotient x u v = some (u / v, x) := by
  unfold fX6_quotient
  rw [if_neg (fun z => by rw [i_le, t_lit0] at z; omega), if_pos (fun z => by rw [z, t_lit0] at h; omega)]
