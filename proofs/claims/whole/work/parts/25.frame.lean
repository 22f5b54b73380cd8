/-! what of the relation stays when a place changes -/
theorem cnt_congr {d d' : Nat → Int32} {n : Nat} (f : Nat) (h : ∀ s, s < n → d' (56 + 13 * s) = d (56 + 13 * s) ∧ d' (56 + 13 * s + 12) = d (56 + 13 * s + 12)) : cnt d' n f = cnt d n f := by
  induction n with
  | zero => rfl
  | succ n ih =>
    unfold cnt
    rw [ih (fun s hs => h s (by omega)), (h n (by omega)).1, (h n (by omega)).2]
/-- a sack by its own values -/
def RSV (A W : Nat → Int32) (D : Nat → Nat → Int32) (K F t : Nat) : Prop := ((∃ f, f < F ∧ A 0 = nI f ∧ W 0 = nI f) ∧ ∃ k, k < K ∧ A 1 = nI k ∧ W 1 = nI k ∧ A 2 = D k 0 ∧ A 3 = D k 1 ∧ A 4 = D k 2) ∧ (A 5 = W 2 ∧ A 6 = W 3 ∧ A 7 = W 4 ∧ A 8 = W 5 ∧ A 11 = W 6 ∧ A 15 = W 10 ∧ A 16 = W 11) ∧ (A 9 = W 4 * W 5 / 100 ∧ A 10 = (W 4 - A 9) * A 3 / 100) ∧ (0 < (W 6).toInt → A 12 = W 7 ∧ A 13 = W 8 ∧ A 14 = W 9 ∧ 0 ≤ (W 7).toInt ∧ 0 ≤ (W 8).toInt ∧ (W 8).toInt ≤ (t : Int) / 96) ∧ ((1 ≤ (W 2).toInt ∧ (W 2).toInt ≤ 200) ∧ (0 ≤ (W 3).toInt ∧ (W 3).toInt ≤ 3) ∧ (0 ≤ (W 4).toInt ∧ (W 4).toInt ≤ (W 2).toInt) ∧ (0 ≤ (W 5).toInt ∧ (W 5).toInt ≤ 50) ∧ 0 ≤ (W 6).toInt ∧ 0 ≤ (W 10).toInt ∧ (W 6).toInt + (W 10).toInt ≤ (W 4).toInt - (A 9).toInt - (A 10).toInt) ∧ ((W 3 = 0 → W 4 = 0 ∧ W 12 = 0) ∧ (W 3 = 1 → (W 4).toInt < (W 2).toInt) ∧ (W 3 = 2 → W 4 = W 2) ∧ ((W 3).toInt ≤ 1 → W 6 = 0 ∧ W 10 = 0))
def wS (d : Nat → Int32) (s : Nat) : Nat → Int32 := fun w => d (56 + 13 * s + w)
def wK (d : Nat → Int32) : Nat → Nat → Int32 := fun k q => d (30 + 3 * k + q)
theorem RS_iff {a : kM1} {d : Nat → Int32} {K F t s : Nat} : RS a d K F t s ↔ RSV (a (20 + s)) (wS d s) (wK d) K F t := Iff.rfl
theorem wS_up (d : Nat → Int32) (s i : Nat) (v : Int32) : wS (upd d (56 + 13 * s + i) v) s = upd (wS d s) i v := by
  funext q
  unfold wS
  by_cases h : q = i
  · subst h
    rw [upd_eq, upd_eq]
  · rw [upd_ne (by omega), upd_ne h]
theorem wS_lo {d : Nat → Int32} {s k : Nat} {v : Int32} (h : k < 56) : wS (upd d k v) s = wS d s := by
  funext q
  unfold wS
  rw [upd_ne (by omega)]
theorem wK_hi {d : Nat → Int32} {k : Nat} {v : Int32} (K : Nat) (h : 30 + 3 * K ≤ k) : ∀ k' q, k' < K → q < 3 → wK (upd d k v) k' q = wK d k' q := by
  intro k' q h1 h2
  unfold wK
  rw [upd_ne (by omega)]
theorem wS_cg {d d' : Nat → Int32} {s : Nat} (h : ∀ q, q < 13 → d' (56 + 13 * s + q) = d (56 + 13 * s + q)) : ∀ q, q < 13 → wS d' s q = wS d s q := h
theorem RSV.cg {A A' W W' : Nat → Int32} {D D' : Nat → Nat → Int32} {K F t K' F' t' : Nat} (h : RSV A W D K F t) (hA : ∀ q, q < 17 → A' q = A q) (hW : ∀ q, q < 13 → W' q = W q) (hD : ∀ k q, k < K → q < 3 → D' k q = D k q) (hK : K ≤ K') (hF : F ≤ F') (ht : t ≤ t') : RSV A' W' D' K' F' t' := by
  obtain ⟨⟨⟨f, f1, f2, f3⟩, ⟨k, k1, k2, k3, k4, k5, k6⟩⟩, he, hm, hp, hb, hs⟩ := h
  unfold RSV
  rw [hA 0 (by decide), hA 1 (by decide), hA 2 (by decide), hA 3 (by decide), hA 4 (by decide), hA 5 (by decide), hA 6 (by decide), hA 7 (by decide), hA 8 (by decide), hA 9 (by decide), hA 10 (by decide), hA 11 (by decide), hA 12 (by decide), hA 13 (by decide), hA 14 (by decide), hA 15 (by decide), hA 16 (by decide), hW 0 (by decide), hW 1 (by decide), hW 2 (by decide), hW 3 (by decide), hW 4 (by decide), hW 5 (by decide), hW 6 (by decide), hW 7 (by decide), hW 8 (by decide), hW 9 (by decide), hW 10 (by decide), hW 11 (by decide), hW 12 (by decide)]
  refine ⟨⟨⟨f, by omega, f2, f3⟩, ⟨k, by omega, k2, k3, ?_, ?_, ?_⟩⟩, he, hm, fun z => ?_, hb, hs⟩
  · rw [hD k 0 k1 (by decide)]; exact k4
  · rw [hD k 1 k1 (by decide)]; exact k5
  · rw [hD k 2 k1 (by decide)]; exact k6
  · obtain ⟨p1, p2, p3, p4, p5, p6⟩ := hp z
    exact ⟨p1, p2, p3, p4, p5, by omega⟩
theorem RS.cg {a a' : kM1} {d d' : Nat → Int32} {K F t K' F' t' s : Nat} (h : RS a d K F t s) (hA : ∀ q, q < 17 → a' (20 + s) q = a (20 + s) q) (hW : ∀ q, q < 13 → d' (56 + 13 * s + q) = d (56 + 13 * s + q)) (hD : ∀ k q, k < K → q < 3 → d' (30 + 3 * k + q) = d (30 + 3 * k + q)) (hK : K ≤ K') (hF : F ≤ F') (ht : t ≤ t') : RS a' d' K' F' t' s := RS_iff.mpr (RSV.cg (RS_iff.mp h) hA hW hD hK hF ht)
theorem RM.congr {a a' : kM1} {d d' : Nat → Int32} {K F S t : Nat} (R : RM a d K F S t) (hd : ∀ k, k < 368 → d' k = d k) (h0 : ∀ k, 5 ≤ k → k < 18 → a' 0 k = a 0 k) (h1 : ∀ k, k < 13 → a' 1 k = a 1 k) (h2 : ∀ k, k < 4 → a' 2 k = a 2 k) (hk : ∀ j, j < K → ∀ q, q < 3 → a' (6 + j) q = a (6 + j) q) (hf : ∀ j, j < F → ∀ q, q < 2 → a' (12 + j) q = a (12 + j) q) (hs : ∀ j, j < S → ∀ q, q < 17 → a' (20 + j) q = a (20 + j) q) : RM a' d' K F S t := by
  obtain ⟨hl, hn, hb, hA, hK, hF, hS⟩ := R
  obtain ⟨l1, l2, l3, l4⟩ := hl
  refine ⟨⟨l1, l2, l3, l4⟩, ?_, ?_, ⟨fun k q => ?_, fun k q => ?_⟩, fun k q => ?_, fun f q => ?_, fun s q => ?_⟩
  · unfold RN at hn ⊢
    rw [h0 5 (by decide) (by decide), h0 6 (by decide) (by decide), h0 7 (by decide) (by decide), h0 8 (by decide) (by decide), h0 9 (by decide) (by decide), h0 10 (by decide) (by decide), h0 11 (by decide) (by decide), h0 12 (by decide) (by decide), h0 13 (by decide) (by decide), h0 14 (by decide) (by decide), h0 15 (by decide) (by decide), h0 16 (by decide) (by decide), h0 17 (by decide) (by decide), hd 17 (by decide), hd 18 (by decide), hd 19 (by decide), hd 20 (by decide), hd 21 (by decide), hd 22 (by decide), hd 23 (by decide), hd 24 (by decide), hd 25 (by decide), hd 26 (by decide), hd 27 (by decide), hd 28 (by decide), hd 29 (by decide)]
    exact hn
  · obtain ⟨b1, b2, b3, b4, b5⟩ := hb
    refine ⟨by rw [hd 17 (by decide)]; exact b1, by rw [hd 18 (by decide)]; exact b2, ?_, by rw [hd 23 (by decide)]; exact b4, by rw [hd 23 (by decide)]; exact b5⟩
    rcases b3 with b3 | ⟨s, q1, q2, q3⟩
    · exact Or.inl (by rw [hd 24 (by decide)]; exact b3)
    · exact Or.inr ⟨s, q1, by rw [hd 24 (by decide)]; exact q2, by rw [hd _ (by omega)]; exact q3⟩
  · rw [h1 k q, hd k (by omega)]; exact hA.1 k q
  · rw [h2 k q, hd (13 + k) (by omega)]; exact hA.2 k q
  · have z := hK k q
    unfold RK at z ⊢
    rw [hk k q 0 (by decide), hk k q 1 (by decide), hk k q 2 (by decide), hd (30 + 3 * k) (by omega), hd (30 + 3 * k + 1) (by omega), hd (30 + 3 * k + 2) (by omega)]
    exact z
  · have z := hF f q
    unfold RF at z ⊢
    rw [hf f q 0 (by decide), hf f q 1 (by decide), hd (48 + f) (by omega), cnt_congr f (fun s hs => ⟨hd _ (by omega), hd _ (by omega)⟩)]
    exact z
  · exact RS.cg (hS s q) (hs s q) (fun w hw => hd _ (by omega)) (fun k w h1 h2 => hd _ (by omega)) (Nat.le_refl _) (Nat.le_refl _) (Nat.le_refl _)
/-- the frame: all but the single numbers, the purses and turns, and one sack stays -/
theorem RM.fr {a a' : kM1} {d d' : Nat → Int32} {K F S S' t : Nat} (R : RM a d K F S t) (s : Nat) (ha : ∀ j, j ≠ 0 → (j < 12 ∨ 20 ≤ j) → j ≠ 20 + s → a' j = a j) (hd : ∀ k, k < 17 ∨ (30 ≤ k ∧ k < 48) → d' k = d k) (hds : ∀ k, 56 ≤ k → k < 368 → (k < 56 + 13 * s ∨ 56 + 13 * s + 13 ≤ k) → d' k = d k) (hl : S' ≤ 24) (hss : ∀ j, j < S' → j ≠ s → j < S) (hN : RN a' d' K F S' t) (hB : RB d' S' t) (hF : ∀ f, f < F → RF a' d' S' f) (hS : s < S' → RSV (a' (20 + s)) (wS d' s) (wK d') K F t) : RM a' d' K F S' t := by
  obtain ⟨⟨l1, l2, l3, l4⟩, -, -, hA, hK, -, hR⟩ := R
  refine ⟨⟨l1, l2, hl, l4⟩, hN, hB, ⟨fun k q => ?_, fun k q => ?_⟩, fun k q => ?_, hF, fun j q => ?_⟩
  · rw [ha 1 (by decide) (Or.inl (by decide)) (by omega), hd k (by omega)]; exact hA.1 k q
  · rw [ha 2 (by decide) (Or.inl (by decide)) (by omega), hd (13 + k) (by omega)]; exact hA.2 k q
  · have z := hK k q
    unfold RK at z ⊢
    rw [ha (6 + k) (by omega) (Or.inl (by omega)) (by omega), hd (30 + 3 * k) (by omega), hd (30 + 3 * k + 1) (by omega), hd (30 + 3 * k + 2) (by omega)]
    exact z
  · by_cases h : j = s
    · subst h
      exact hS q
    · have z := hR j (hss j q h)
      exact RS.cg z (fun w hw => by rw [ha (20 + j) (by omega) (Or.inr (by omega)) (by omega)]) (fun w hw => hds _ (by omega) (by omega) (by omega)) (fun k w h1 h2 => hd _ (by omega)) (Nat.le_refl _) (Nat.le_refl _) (Nat.le_refl _)
/-- one sack changes -/
theorem RM.sk {a : kM1} {d : Nat → Int32} {K F S t : Nat} (R : RM a d K F S t) {a' : kM1} {d' : Nat → Int32} {s : Nat} (hs : s < S) (ha : ∀ j, j ≠ 20 + s → a' j = a j) (hd : ∀ k, k < 56 + 13 * s ∨ 56 + 13 * s + 12 ≤ k → d' k = d k) (h0 : d' (56 + 13 * s) = d (56 + 13 * s)) (h3 : d (56 + 13 * s + 3) = 1 → d' (56 + 13 * s + 3) = 1) (hS : RSV (a' (20 + s)) (wS d' s) (wK d) K F t) : RM a' d' K F S t := by
  have R' := R
  obtain ⟨⟨l1, l2, l3, l4⟩, hn, hb, hA, hK, hF, hR⟩ := R'
  refine R.fr s (fun j _ _ h => ha j h) (fun k h => hd k (by omega)) (fun k h1 h2 h3 => hd k (by omega)) l3 (fun j h _ => h) ?_ ?_ (fun f q => ?_) (fun _ => RSV.cg hS (fun w _ => rfl) (fun w _ => rfl) (fun k w h1 h2 => hd _ (by omega)) (Nat.le_refl _) (Nat.le_refl _) (Nat.le_refl _))
  · unfold RN at hn ⊢
    rw [ha 0 (by omega), hd 17 (by omega), hd 18 (by omega), hd 19 (by omega), hd 20 (by omega), hd 21 (by omega), hd 22 (by omega), hd 23 (by omega), hd 24 (by omega), hd 25 (by omega), hd 26 (by omega), hd 27 (by omega), hd 28 (by omega), hd 29 (by omega)]
    exact hn
  · obtain ⟨b1, b2, b3, b4, b5⟩ := hb
    refine ⟨by rw [hd 17 (by omega)]; exact b1, by rw [hd 18 (by omega)]; exact b2, ?_, by rw [hd 23 (by omega)]; exact b4, by rw [hd 23 (by omega)]; exact b5⟩
    rcases b3 with b3 | ⟨j, q1, q2, q3⟩
    · exact Or.inl (by rw [hd 24 (by omega)]; exact b3)
    · refine Or.inr ⟨j, q1, by rw [hd 24 (by omega)]; exact q2, ?_⟩
      by_cases h : j = s
      · subst h
        exact h3 q3
      · rw [hd _ (by omega)]; exact q3
  · have z := hF f q
    unfold RF at z ⊢
    rw [ha (12 + f) (by omega), hd (48 + f) (by omega), cnt_congr f (fun j hj => ?_)]
    · exact z
    · refine ⟨?_, hd _ (by omega)⟩
      by_cases h : j = s
      · subst h
        exact h0
      · exact hd _ (by omega)
/-- the single numbers change -/
theorem RM.nu {a : kM1} {d : Nat → Int32} {K F S t : Nat} (R : RM a d K F S t) {a' : kM1} {d' : Nat → Int32} (ha : ∀ j, j ≠ 0 → a' j = a j) (hd : ∀ k, k < 17 ∨ 30 ≤ k → d' k = d k) (hN : RN a' d' K F S t) (hB : RB d' S t) : RM a' d' K F S t := by
  have R' := R
  obtain ⟨⟨l1, l2, l3, l4⟩, hn, hb, hA, hK, hF, hR⟩ := R'
  refine R.fr 0 (fun j h _ _ => ha j h) (fun k h => hd k (by omega)) (fun k h1 h2 h3 => hd k (by omega)) l3 (fun j h _ => h) hN hB (fun f q => ?_) (fun q => ?_)
  · have z := hF f q
    unfold RF at z ⊢
    rw [ha (12 + f) (by omega), hd (48 + f) (by omega), cnt_congr f (fun j hj => ⟨hd _ (by omega), hd _ (by omega)⟩)]
    exact z
  · exact RS.cg (hR 0 q) (fun w hw => by rw [ha (20 + 0) (by omega)]) (fun w hw => hd _ (by omega)) (fun k w h1 h2 => hd _ (by omega)) (Nat.le_refl _) (Nat.le_refl _) (Nat.le_refl _)
/-- a purse changes -/
theorem RM.pu {a : kM1} {d : Nat → Int32} {K F S t : Nat} (R : RM a d K F S t) {f : Nat} {v : Int32} (hf : f < F) (hv : 0 ≤ v.toInt) : RM (mu a (12 + f) 0 v) (upd d (48 + f) v) K F S t := by
  have R' := R
  obtain ⟨⟨l1, l2, l3, l4⟩, hn, hb, hA, hK, hF, hR⟩ := R'
  refine R.fr 0 (fun j h1 h2 h3 => mu_ne (by omega)) (fun k h => upd_ne (by omega)) (fun k h1 h2 h3 => upd_ne (by omega)) l3 (fun j h _ => h) ?_ ?_ (fun g q => ?_) (fun q => ?_)
  · unfold RN at hn ⊢
    rw [mu_ne (by omega), upd_ne (by omega), upd_ne (by omega), upd_ne (by omega), upd_ne (by omega), upd_ne (by omega), upd_ne (by omega), upd_ne (by omega), upd_ne (by omega), upd_ne (by omega), upd_ne (by omega), upd_ne (by omega), upd_ne (by omega), upd_ne (by omega)]
    exact hn
  · obtain ⟨b1, b2, b3, b4, b5⟩ := hb
    refine ⟨by rw [upd_ne (by omega)]; exact b1, by rw [upd_ne (by omega)]; exact b2, ?_, by rw [upd_ne (by omega)]; exact b4, by rw [upd_ne (by omega)]; exact b5⟩
    rcases b3 with b3 | ⟨j, q1, q2, q3⟩
    · exact Or.inl (by rw [upd_ne (by omega)]; exact b3)
    · exact Or.inr ⟨j, q1, by rw [upd_ne (by omega)]; exact q2, by rw [upd_ne (by omega)]; exact q3⟩
  · have z := hF g q
    unfold RF at z ⊢
    rw [cnt_congr g (fun j hj => ⟨upd_ne (by omega), upd_ne (by omega)⟩)]
    by_cases h : g = f
    · subst h
      rw [mu_eq, upd_eq, upd_eq, upd_ne (by decide)]
      exact ⟨rfl, hv, z.2.2⟩
    · rw [mu_ne (by omega), upd_ne (by omega)]
      exact z
  · exact RS.cg (hR 0 q) (fun w hw => by rw [mu_ne (by omega)]) (fun w hw => upd_ne (by omega)) (fun k w h1 h2 => upd_ne (by omega)) (Nat.le_refl _) (Nat.le_refl _) (Nat.le_refl _)
