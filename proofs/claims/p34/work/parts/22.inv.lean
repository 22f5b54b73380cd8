/-! what holds of every mill -/
/-- a kind's row -/
def KV (r : Nat → Int32) : Prop := (1 ≤ (r 0).toInt ∧ (r 0).toInt ≤ 9) ∧ (0 ≤ (r 1).toInt ∧ (r 1).toInt ≤ 20) ∧ 1 ≤ (r 2).toInt ∧ (r 2).toInt ≤ 1000000
/-- whose a sack is and what it's like -/
def SVo (r : Nat → Int32) (K F : Nat) : Prop := (∃ f, f < F ∧ r 0 = nI f) ∧ ∃ k, k < K ∧ r 1 = nI k
def SVr (r : Nat → Int32) : Prop := (1 ≤ (r 2).toInt ∧ (r 2).toInt ≤ 9) ∧ (0 ≤ (r 3).toInt ∧ (r 3).toInt ≤ 20) ∧ (1 ≤ (r 4).toInt ∧ (r 4).toInt ≤ 1000000) ∧ (1 ≤ (r 5).toInt ∧ (r 5).toInt ≤ 200) ∧ 0 ≤ (r 8).toInt ∧ (r 8).toInt ≤ 50
/-- its pounds -/
def SVp (r : Nat → Int32) : Prop := (0 ≤ (r 7).toInt ∧ (r 7).toInt ≤ (r 5).toInt ∧ 0 ≤ (r 9).toInt ∧ 0 ≤ (r 10).toInt ∧ 0 ≤ (r 11).toInt ∧ 0 ≤ (r 15).toInt ∧ 0 ≤ (r 16).toInt ∧ (r 9).toInt + (r 10).toInt + (r 11).toInt + (r 15).toInt ≤ (r 7).toInt) ∧ (((r 6).toInt = 0 ∧ (r 7).toInt = 0 ∧ (r 16).toInt = 0) ∨ ((r 6).toInt = 1 ∧ (r 7).toInt < (r 5).toInt ∧ (r 11).toInt = 0 ∧ (r 15).toInt = 0 ∧ (r 16).toInt = 0) ∨ ((r 6).toInt = 2 ∧ (r 7).toInt = (r 5).toInt ∧ (r 16).toInt = 0) ∨ ((r 6).toInt = 3 ∧ (r 11).toInt = 0 ∧ (r 9).toInt + (r 10).toInt + (r 15).toInt + (r 16).toInt = (r 5).toInt))
/-- its pledge: not of a day behind d0, not over at the day d1 -/
def SVd (r : Nat → Int32) (d0 d1 : Int) : Prop := 0 < (r 11).toInt → 0 ≤ (r 12).toInt ∧ 0 ≤ (r 13).toInt ∧ (r 13).toInt ≤ d0 ∧ d1 ≤ (r 14).toInt
def SV (r : Nat → Int32) (K F : Nat) (d0 d1 : Int) : Prop := SVo r K F ∧ SVr r ∧ SVp r ∧ SVd r d0 d1
/-- a farmer: his sacks that came on the stones and those that wait are no more than his sacks -/
def FV (a : kM1) (S f : Nat) : Prop := 0 ≤ (a (12 + f) 0).toInt ∧ ∃ n, a (12 + f) 1 = nI n ∧ n + cn S (fun s => decide (a (20 + s) 0 = nI f) && decide (a (20 + s) 6 = 0)) ≤ cn S (fun s => decide (a (20 + s) 0 = nI f))
/-- the sack on the stones -/
def ST (a : kM1) (S : Nat) : Prop := (a 0 12 = -1 ∧ ∀ s, s < S → ¬ a (20 + s) 6 = 1) ∨ ∃ o, o < S ∧ a 0 12 = nI o ∧ ∀ s, s < S → (a (20 + s) 6 = 1 ↔ s = o)
/-- the single numbers -/
def NV (a : kM1) (K F S t : Nat) : Prop := a 0 5 = nI K ∧ a 0 6 = nI F ∧ a 0 7 = nI S ∧ a 0 8 = nI t
def WV (a : kM1) : Prop := (0 ≤ (a 0 9).toInt ∧ (a 0 9).toInt ≤ 501000) ∧ (a 0 10 = 0 ∨ a 0 10 = 1) ∧ (0 ≤ (a 0 11).toInt ∧ (a 0 11).toInt ≤ 3) ∧ a 0 9 + a 0 15 + a 0 16 = a 0 14
def AV (a : kM1) : Prop := (∀ k, k < 13 → (k_least k).toInt ≤ (a 1 k).toInt ∧ (a 1 k).toInt ≤ (k_great k).toInt) ∧ ∀ k, k < 4 → 0 ≤ (a 2 k).toInt ∧ (a 2 k).toInt ≤ 20
def IM (a : kM1) (K F S t : Nat) (D : Nat → Int) : Prop := (K ≤ 6 ∧ F ≤ 8 ∧ S ≤ 24 ∧ t ≤ 20000) ∧ NV a K F S t ∧ WV a ∧ ST a S ∧ AV a ∧ (∀ k, k < K → KV (a (6 + k))) ∧ (∀ f, f < F → FV a S f) ∧ ∀ s, s < S → SV (a (20 + s)) K F ((t : Int) / 96) (D s)
/-- today's bound for every sack -/
def dt (t : Nat) : Nat → Int := fun _ => (t : Int) / 96
theorem IM.a {a : kM1} {K F S t : Nat} {D : Nat → Int} (R : IM a K F S t D) : AV a := R.2.2.2.2.1
section IMs
variable {a : kM1} {K F S t : Nat} {D : Nat → Int}
theorem IM.l (R : IM a K F S t D) : K ≤ 6 ∧ F ≤ 8 ∧ S ≤ 24 ∧ t ≤ 20000 := R.1
theorem IM.S24 (R : IM a K F S t D) : S ≤ 24 := R.1.2.2.1
theorem IM.F8 (R : IM a K F S t D) : F ≤ 8 := R.1.2.1
theorem IM.n (R : IM a K F S t D) : NV a K F S t := R.2.1
theorem IM.e5 (R : IM a K F S t D) : a 0 5 = nI K := R.2.1.1
theorem IM.e6 (R : IM a K F S t D) : a 0 6 = nI F := R.2.1.2.1
theorem IM.e7 (R : IM a K F S t D) : a 0 7 = nI S := R.2.1.2.2.1
theorem IM.e8 (R : IM a K F S t D) : a 0 8 = nI t := R.2.1.2.2.2
theorem IM.w (R : IM a K F S t D) : WV a := R.2.2.1
theorem IM.st (R : IM a K F S t D) : ST a S := R.2.2.2.1
theorem IM.k (R : IM a K F S t D) : ∀ k, k < K → KV (a (6 + k)) := R.2.2.2.2.2.1
theorem IM.f (R : IM a K F S t D) : ∀ f, f < F → FV a S f := R.2.2.2.2.2.2.1
theorem IM.s (R : IM a K F S t D) : ∀ s, s < S → SV (a (20 + s)) K F ((t : Int) / 96) (D s) := R.2.2.2.2.2.2.2
theorem IM.so (R : IM a K F S t D) {s : Nat} (h : s < S) : SVo (a (20 + s)) K F := (R.s s h).1
theorem IM.sr (R : IM a K F S t D) {s : Nat} (h : s < S) : SVr (a (20 + s)) := (R.s s h).2.1
theorem IM.sp (R : IM a K F S t D) {s : Nat} (h : s < S) : SVp (a (20 + s)) := (R.s s h).2.2.1
theorem IM.sd (R : IM a K F S t D) {s : Nat} (h : s < S) : SVd (a (20 + s)) ((t : Int) / 96) (D s) := (R.s s h).2.2.2
theorem IM.per (R : IM a K F S t D) : 4 ≤ (a 1 4).toInt ∧ (a 1 4).toInt ≤ 100 := R.a.1 4 (by decide)
theorem IM.area (R : IM a K F S t D) : 10 ≤ (a 1 0).toInt ∧ (a 1 0).toInt ≤ 1000 := R.a.1 0 (by decide)
end IMs
theorem SV.cg {r r' : Nat → Int32} {K F : Nat} {d0 d1 : Int} (h : SV r K F d0 d1) (e : ∀ q, q < 17 → r' q = r q) : SV r' K F d0 d1 := by
  unfold SV SVo SVr SVp SVd at *
  rw [e 0 (by decide), e 1 (by decide), e 2 (by decide), e 3 (by decide), e 4 (by decide), e 5 (by decide), e 6 (by decide), e 7 (by decide), e 8 (by decide), e 9 (by decide), e 10 (by decide), e 11 (by decide), e 12 (by decide), e 13 (by decide), e 14 (by decide), e 15 (by decide), e 16 (by decide)]
  exact h
/-- two mills that are alike in all that is held -/
def EQm (a' a : kM1) (K F S : Nat) : Prop := (∀ k, 5 ≤ k → k < 18 → a' 0 k = a 0 k) ∧ (∀ k, k < 13 → a' 1 k = a 1 k) ∧ (∀ k, k < 4 → a' 2 k = a 2 k) ∧ (∀ j, j < K → ∀ q, q < 3 → a' (6 + j) q = a (6 + j) q) ∧ (∀ j, j < F → ∀ q, q < 2 → a' (12 + j) q = a (12 + j) q) ∧ ∀ j, j < S → ∀ q, q < 17 → a' (20 + j) q = a (20 + j) q
theorem FV.cg {a a' : kM1} {S f : Nat} (h : FV a S f) (h0 : ∀ q, q < 2 → a' (12 + f) q = a (12 + f) q) (hs : ∀ j, j < S → ∀ q, q < 17 → a' (20 + j) q = a (20 + j) q) : FV a' S f := by
  obtain ⟨h1, n, h2, h3⟩ := h
  refine ⟨by rw [h0 0 (by decide)]; exact h1, n, by rw [h0 1 (by decide)]; exact h2, ?_⟩
  have c1 : cn S (fun s => decide (a' (20 + s) 0 = nI f) && decide (a' (20 + s) 6 = 0)) = cn S (fun s => decide (a (20 + s) 0 = nI f) && decide (a (20 + s) 6 = 0)) := cn_cg (fun i hi => by rw [hs i hi 0 (by decide), hs i hi 6 (by decide)])
  have c2 : cn S (fun s => decide (a' (20 + s) 0 = nI f)) = cn S (fun s => decide (a (20 + s) 0 = nI f)) := cn_cg (fun i hi => by rw [hs i hi 0 (by decide)])
  rw [c1, c2]
  exact h3
theorem IM.cg {a a' : kM1} {K F S t : Nat} {D : Nat → Int} (R : IM a K F S t D) (e : EQm a' a K F S) : IM a' K F S t D := by
  obtain ⟨e0, e1, e2, ek, ef, es⟩ := e
  refine ⟨R.l, ?_, ?_, ?_, ⟨fun k hk => by rw [e1 k hk]; exact R.a.1 k hk, fun k hk => by rw [e2 k hk]; exact R.a.2 k hk⟩, fun k hk => ?_, fun f hf => (R.f f hf).cg (ef f hf) es, fun s hs => (R.s s hs).cg (es s hs)⟩
  · unfold NV
    rw [e0 5 (by decide) (by decide), e0 6 (by decide) (by decide), e0 7 (by decide) (by decide), e0 8 (by decide) (by decide)]
    exact R.n
  · unfold WV
    rw [e0 9 (by decide) (by decide), e0 10 (by decide) (by decide), e0 11 (by decide) (by decide), e0 14 (by decide) (by decide), e0 15 (by decide) (by decide), e0 16 (by decide) (by decide)]
    exact R.w
  · unfold ST
    rw [e0 12 (by decide) (by decide)]
    rcases R.st with ⟨h1, h2⟩ | ⟨o, h1, h2, h3⟩
    · exact Or.inl ⟨h1, fun s hs => by rw [es s hs 6 (by decide)]; exact h2 s hs⟩
    · exact Or.inr ⟨o, h1, h2, fun s hs => by rw [es s hs 6 (by decide)]; exact h3 s hs⟩
  · have h := R.k k hk
    unfold KV at *
    rw [ek k hk 0 (by decide), ek k hk 1 (by decide), ek k hk 2 (by decide)]
    exact h
/-- single numbers alone have changed -/
theorem IM.nu {a : kM1} {K F S t : Nat} {D : Nat → Int} (R : IM a K F S t D) {a' : kM1} (ha : ∀ j, j ≠ 0 → a' j = a j) (hN : NV a' K F S t) (hW : WV a') (hS : a' 0 12 = a 0 12) : IM a' K F S t D := by
  refine ⟨R.l, hN, hW, ?_, ?_, fun k hk => by rw [ha (6 + k) (by omega)]; exact R.k k hk, fun f hf => (R.f f hf).cg (fun q _ => by rw [ha (12 + f) (by omega)]) (fun j _ q _ => by rw [ha (20 + j) (by omega)]), fun s hs => by rw [ha (20 + s) (by omega)]; exact R.s s hs⟩
  · unfold ST
    rw [hS]
    rcases R.st with ⟨h1, h2⟩ | ⟨o, h1, h2, h3⟩
    · exact Or.inl ⟨h1, fun s hs => by rw [ha (20 + s) (by omega)]; exact h2 s hs⟩
    · exact Or.inr ⟨o, h1, h2, fun s hs => by rw [ha (20 + s) (by omega)]; exact h3 s hs⟩
  · unfold AV
    rw [ha 1 (by decide), ha 2 (by decide)]
    exact R.a
/-- a number of the mill that is no count -/
theorem IM.nu1 {a : kM1} {K F S t : Nat} {D : Nat → Int} (R : IM a K F S t D) {k : Nat} {v : Int32} (h1 : k ≠ 5 ∧ k ≠ 6 ∧ k ≠ 7 ∧ k ≠ 8 ∧ k ≠ 12) (hW : WV (mu a 0 k v)) : IM (mu a 0 k v) K F S t D := by
  refine R.nu (fun j hj => mu_ne hj) ?_ hW (by rw [mu_eq, upd_ne (by omega)])
  unfold NV
  rw [mu_eq, upd_ne (by omega), upd_ne (by omega), upd_ne (by omega), upd_ne (by omega)]
  exact R.n
/-- one sack's row has changed, not to the stones nor off them, not to those that wait -/
theorem IM.sk {a : kM1} {K F S t : Nat} {D D' : Nat → Int} (R : IM a K F S t D) {a' : kM1} {s : Nat} (hs : s < S) (ha : ∀ j, j ≠ 20 + s → a' j = a j) (h0 : a' (20 + s) 0 = a (20 + s) 0) (h1 : a' (20 + s) 6 = 1 ↔ a (20 + s) 6 = 1) (h2 : a' (20 + s) 6 = 0 → a (20 + s) 6 = 0) (hD : ∀ j, j ≠ s → D' j = D j) (hV : SV (a' (20 + s)) K F ((t : Int) / 96) (D' s)) : IM a' K F S t D' := by
  have e0 : ∀ j, a' (20 + j) 0 = a (20 + j) 0 := fun j => by
    by_cases h : j = s
    · subst h; exact h0
    · rw [ha (20 + j) (by omega)]
  have e1 : ∀ j, a' (20 + j) 6 = 1 ↔ a (20 + j) 6 = 1 := fun j => by
    by_cases h : j = s
    · subst h; exact h1
    · rw [ha (20 + j) (by omega)]
  refine ⟨R.l, by unfold NV; rw [ha 0 (by omega)]; exact R.n, by unfold WV; rw [ha 0 (by omega)]; exact R.w, ?_, by unfold AV; rw [ha 1 (by omega), ha 2 (by omega)]; exact R.a, fun k hk => by have := R.l.1; rw [ha (6 + k) (by omega)]; exact R.k k hk, fun f hf => ?_, fun j hj => ?_⟩
  · unfold ST
    rw [ha 0 (by omega)]
    rcases R.st with ⟨q1, q2⟩ | ⟨o, q1, q2, q3⟩
    · exact Or.inl ⟨q1, fun s hs z => q2 s hs ((e1 s).mp z)⟩
    · exact Or.inr ⟨o, q1, q2, fun s hs => (e1 s).trans (q3 s hs)⟩
  · obtain ⟨q1, n, q2, q3⟩ := R.f f hf
    have := R.l.2.1
    unfold FV
    rw [ha (12 + f) (by omega)]
    refine ⟨q1, n, q2, ?_⟩
    have c1 : cn S (fun s => decide (a' (20 + s) 0 = nI f)) = cn S (fun s => decide (a (20 + s) 0 = nI f)) := cn_cg (fun i hi => by rw [e0])
    have c2 : cn S (fun s => decide (a' (20 + s) 0 = nI f) && decide (a' (20 + s) 6 = 0)) ≤ cn S (fun s => decide (a (20 + s) 0 = nI f) && decide (a (20 + s) 6 = 0)) := cn_mono (fun i hi => by
      simp only [Bool.and_eq_true, decide_eq_true_eq]
      rintro ⟨z1, z2⟩
      rw [e0] at z1
      refine ⟨z1, ?_⟩
      by_cases h : i = s
      · subst h; exact h2 z2
      · rw [ha (20 + i) (by omega)] at z2; exact z2)
    rw [c1]
    omega
  · by_cases h : j = s
    · subst h; exact hV
    · rw [ha (20 + j) (by omega), hD j h]
      exact R.s j hj
/-- a purse -/
theorem IM.pu {a : kM1} {K F S t : Nat} {D : Nat → Int} (R : IM a K F S t D) {f : Nat} {v : Int32} (hf : f < F) (hv : 0 ≤ v.toInt) : IM (mu a (12 + f) 0 v) K F S t D := by
  have hF := R.F8
  have ha : ∀ j, j ≠ 12 + f → mu a (12 + f) 0 v j = a j := fun j hj => mu_ne hj
  refine ⟨R.l, by unfold NV; rw [ha 0 (by omega)]; exact R.n, by unfold WV; rw [ha 0 (by omega)]; exact R.w, ?_, by unfold AV; rw [ha 1 (by omega), ha 2 (by omega)]; exact R.a, fun k hk => by have := R.l.1; rw [ha (6 + k) (by omega)]; exact R.k k hk, fun g hg => ?_, fun j hj => by rw [ha (20 + j) (by omega)]; exact R.s j hj⟩
  · unfold ST
    rw [ha 0 (by omega)]
    rcases R.st with ⟨q1, q2⟩ | ⟨o, q1, q2, q3⟩
    · exact Or.inl ⟨q1, fun s hs => by rw [ha (20 + s) (by omega)]; exact q2 s hs⟩
    · exact Or.inr ⟨o, q1, q2, fun s hs => by rw [ha (20 + s) (by omega)]; exact q3 s hs⟩
  · by_cases h : g = f
    · subst h
      obtain ⟨q1, n, q2, q3⟩ := R.f g hg
      refine ⟨by rw [mu_eq, upd_eq]; exact hv, n, by rw [mu_eq, upd_ne (by decide)]; exact q2, ?_⟩
      have c1 : cn S (fun s => decide (mu a (12 + g) 0 v (20 + s) 0 = nI g) && decide (mu a (12 + g) 0 v (20 + s) 6 = 0)) = cn S (fun s => decide (a (20 + s) 0 = nI g) && decide (a (20 + s) 6 = 0)) := cn_cg (fun i hi => by rw [ha (20 + i) (by omega)])
      have c2 : cn S (fun s => decide (mu a (12 + g) 0 v (20 + s) 0 = nI g)) = cn S (fun s => decide (a (20 + s) 0 = nI g)) := cn_cg (fun i hi => by rw [ha (20 + i) (by omega)])
      rw [c1, c2]
      exact q3
    · exact (R.f g hg).cg (fun q _ => by rw [ha (12 + g) (by omega)]) (fun j _ q _ => by rw [ha (20 + j) (by omega)])
