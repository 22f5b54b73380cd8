/-! settings, kinds, farmers, sacks -/
theorem n10 : ¬ (1 : Int32) = 0 := by decide
theorem KV.cg {r r' : Nat → Int32} (h : KV r) (e : ∀ q, q < 3 → r' q = r q) : KV r' := by
  unfold KV at *
  rw [e 0 (by decide), e 1 (by decide), e 2 (by decide)]
  exact h
theorem SV.mono {r : Nat → Int32} {K F K' F' : Nat} {d0 d1 : Int} (h : SV r K F d0 d1) (hK : K ≤ K') (hF : F ≤ F') : SV r K' F' d0 d1 := by
  obtain ⟨⟨⟨f, h1, h2⟩, ⟨k, h3, h4⟩⟩, h5⟩ := h
  exact ⟨⟨⟨f, by omega, h2⟩, ⟨k, by omega, h4⟩⟩, h5⟩
section CH
variable {a : kM1} {K F S t : Nat} {D : Nat → Int}
theorem IM.set (R : IM a K F S t D) {w : Nat} (hw : w < 13) {v : Int32} (hv : (k_least w).toInt ≤ v.toInt ∧ v.toInt ≤ (k_great w).toInt) : IM (mu a 1 w v) K F S t D := by
  have hn : ∀ j, j ≠ 1 → mu a 1 w v j = a j := fun j hj => mu_ne hj
  refine ⟨R.l, by unfold NV; rw [hn 0 (by decide)]; exact R.n, by unfold WV; rw [hn 0 (by decide)]; exact R.w, ?_, ⟨fun k hk => ?_, fun k hk => by rw [hn 2 (by decide)]; exact R.a.2 k hk⟩, fun k hk => by rw [hn (6 + k) (by omega)]; exact R.k k hk, fun f hf => (R.f f hf).cg (fun q _ => by rw [hn (12 + f) (by omega)]) (fun j _ q _ => by rw [hn (20 + j) (by omega)]), fun s hs => by rw [hn (20 + s) (by omega)]; exact R.s s hs⟩
  · unfold ST
    rw [hn 0 (by decide)]
    rcases R.st with ⟨q1, q2⟩ | ⟨o, q1, q2, q3⟩
    · exact Or.inl ⟨q1, fun s hs => by rw [hn (20 + s) (by omega)]; exact q2 s hs⟩
    · exact Or.inr ⟨o, q1, q2, fun s hs => by rw [hn (20 + s) (by omega)]; exact q3 s hs⟩
  · rw [mu_eq]
    by_cases h : k = w
    · subst h
      rw [upd_eq]
      exact hv
    · rw [upd_ne h]
      exact R.a.1 k hk
theorem k_set (R : IM a K F S t D) {w : Nat} (hw : w < 13) {v : Int32} (hv : (k_least w).toInt ≤ v.toInt ∧ v.toInt ≤ (k_great w).toInt) : fX3_changeSetting a (nI w) v = some (a 1 w, mu a 1 w v) ∧ IM (mu a 1 w v) K F S t D := by
  refine ⟨?_, R.set hw hv⟩
  unfold fX3_changeSetting
  have hi := inb_nI (k := w) (n := 13) hw (by decide)
  rw [k_inY a (by rw [t_nI (by omega)]; exact ⟨by show (0 : Int) ≤ _; omega, by show _ ≤ (12 : Int); omega⟩), bd_s, if_neg n10, if_pos hi, if_pos hi, c_nI (by omega), k_inY a hv, bd_s, if_neg n10, if_pos (show ¬ nI w < 0 ∧ w < 13 from ⟨hi.1, hw⟩), klet, if_pos (show ¬ nI w < 0 ∧ w < 13 from ⟨hi.1, hw⟩), klet]
theorem k_lock (R : IM a K F S t D) {v : Int32} (hv : v = 0 ∨ v = 1) : fX3_changeLock a v = some (a 0 10, mu a 0 10 v) ∧ IM (mu a 0 10 v) K F S t D := by
  obtain ⟨w1, w2, w3, w4⟩ := R.w
  refine ⟨?_, R.nu1 (by decide) ?_⟩
  · unfold fX3_changeLock
    rw [k_inY a (by rcases hv with rfl | rfl <;> decide), bd_s, if_neg n10]
    rfl
  · unfold WV
    rw [mu_eq]
    exact ⟨w1, hv, w3, w4⟩
theorem k_gate (R : IM a K F S t D) {v : Int32} (hv : 0 ≤ v.toInt ∧ v.toInt ≤ 3) : fX3_changeOpening a v = some (a 0 11, mu a 0 11 v) ∧ IM (mu a 0 11 v) K F S t D := by
  obtain ⟨w1, w2, w3, w4⟩ := R.w
  refine ⟨?_, R.nu1 (by decide) ?_⟩
  · unfold fX3_changeOpening
    rw [k_inY a (v := v) (a := 0) (b := 3) hv, bd_s, if_neg n10]
    rfl
  · unfold WV
    rw [mu_eq]
    exact ⟨w1, w2, hv, w4⟩
theorem k_kind (R : IM a K F S t D) (hK : K < 6) {h d c : Int32} (b1 : 1 ≤ h.toInt ∧ h.toInt ≤ 9) (b2 : 0 ≤ d.toInt ∧ d.toInt ≤ 20) (b3 : 1 ≤ c.toInt ∧ c.toInt ≤ 1000000) : ∃ a', fX3_addKind a h d c = some (nI K, a') ∧ IM a' (K + 1) F S t D ∧ (∀ j, j ≠ 0 → j ≠ 6 + K → a' j = a j) ∧ a' 0 11 = a 0 11 := by
  obtain ⟨l1, l2, l3, l4⟩ := R.l
  unfold fX3_addKind
  rw [k_inY a (v := h) (a := 1) (b := 9) b1, bd_s, if_neg n10, k_inY a (v := d) (a := 0) (b := 20) b2, bd_s, if_neg n10, k_inY a (v := c) (a := 1) (b := 1000000) b3, bd_s, if_neg n10, R.e5, if_pos (show nI K < 6 from nI_lt hK (by decide)), if_pos (inb_nI hK (by decide)), c_nI (by omega)]
  simp only [klet, mu_eq, mu_ne (show 0 ≠ 6 + K by omega), R.e5, nI_1, upd_eq]
  have e1 : nI (K + 1) - 1 = nI K := by rw [show (1 : Int32) = nI 1 from rfl, nI_sub (by omega)]; rfl
  rw [e1]
  have hn : ∀ j, j ≠ 0 → j ≠ 6 + K → mu (mu (mu (mu a (6 + K) 0 h) (6 + K) 1 d) (6 + K) 2 c) 0 5 (nI (K + 1)) j = a j := fun j j1 j2 => by rw [mu_ne j1, mu_ne j2, mu_ne j2, mu_ne j2]
  have h0 : mu (mu (mu (mu a (6 + K) 0 h) (6 + K) 1 d) (6 + K) 2 c) 0 5 (nI (K + 1)) 0 = upd (a 0) 5 (nI (K + 1)) := by
    rw [mu_eq, mu_ne (show 0 ≠ 6 + K by omega), mu_ne (show 0 ≠ 6 + K by omega), mu_ne (show 0 ≠ 6 + K by omega)]
  obtain ⟨n1, n2, n3, n4⟩ := R.n
  refine ⟨_, rfl, ⟨⟨by omega, l2, l3, l4⟩, ?_, ?_, ?_, ?_, fun k hk => ?_, fun f hf => (R.f f hf).cg (fun q _ => by rw [hn (12 + f) (by omega) (by omega)]) (fun j _ q _ => by rw [hn (20 + j) (by omega) (by omega)]), fun s hs => by rw [hn (20 + s) (by omega) (by omega)]; exact (R.s s hs).mono (by omega) (by omega)⟩, hn, by rw [h0]; rfl⟩
  · unfold NV; rw [h0]; exact ⟨rfl, n2, n3, n4⟩
  · unfold WV; rw [h0]; exact R.w
  · unfold ST
    rw [h0]
    rcases R.st with ⟨q1, q2⟩ | ⟨o, q1, q2, q3⟩
    · exact Or.inl ⟨q1, fun s hs => by rw [hn (20 + s) (by omega) (by omega)]; exact q2 s hs⟩
    · exact Or.inr ⟨o, q1, q2, fun s hs => by rw [hn (20 + s) (by omega) (by omega)]; exact q3 s hs⟩
  · unfold AV; rw [hn 1 (by omega) (by omega), hn 2 (by omega) (by omega)]; exact R.a
  · by_cases h : k = K
    · subst h
      rw [mu_ne (show 6 + k ≠ 0 by omega)]
      simp only [mu_eq]
      exact ⟨b1, b2, b3⟩
    · rw [hn (6 + k) (by omega) (by omega)]
      exact R.k k (by omega)
theorem k_farmer (R : IM a K F S t D) (hF : F < 8) : ∃ a', fX3_addFarmer a = some (nI F, a') ∧ IM a' K (F + 1) S t D ∧ (∀ j, j ≠ 0 → j ≠ 12 + F → a' j = a j) ∧ a' 0 11 = a 0 11 := by
  obtain ⟨l1, l2, l3, l4⟩ := R.l
  unfold fX3_addFarmer
  rw [R.e6, if_pos (show nI F < 8 from nI_lt hF (by decide)), if_pos (inb_nI hF (by decide)), c_nI (by omega)]
  simp only [klet, mu_eq, mu_ne (show 0 ≠ 12 + F by omega), R.e6, nI_1, upd_eq]
  have e1 : nI (F + 1) - 1 = nI F := by rw [show (1 : Int32) = nI 1 from rfl, nI_sub (by omega)]; rfl
  rw [e1]
  have hn : ∀ j, j ≠ 0 → j ≠ 12 + F → mu (mu (mu a (12 + F) 0 0) (12 + F) 1 0) 0 6 (nI (F + 1)) j = a j := fun j j1 j2 => by rw [mu_ne j1, mu_ne j2, mu_ne j2]
  have h0 : mu (mu (mu a (12 + F) 0 0) (12 + F) 1 0) 0 6 (nI (F + 1)) 0 = upd (a 0) 6 (nI (F + 1)) := by
    rw [mu_eq, mu_ne (show 0 ≠ 12 + F by omega), mu_ne (show 0 ≠ 12 + F by omega)]
  obtain ⟨n1, n2, n3, n4⟩ := R.n
  refine ⟨_, rfl, ⟨⟨l1, by omega, l3, l4⟩, ?_, ?_, ?_, ?_, fun k hk => by rw [hn (6 + k) (by omega) (by omega)]; exact R.k k hk, fun f hf => ?_, fun s hs => by rw [hn (20 + s) (by omega) (by omega)]; exact (R.s s hs).mono (by omega) (by omega)⟩, hn, by rw [h0]; rfl⟩
  · unfold NV; rw [h0]; exact ⟨n1, rfl, n3, n4⟩
  · unfold WV; rw [h0]; exact R.w
  · unfold ST
    rw [h0]
    rcases R.st with ⟨q1, q2⟩ | ⟨o, q1, q2, q3⟩
    · exact Or.inl ⟨q1, fun s hs => by rw [hn (20 + s) (by omega) (by omega)]; exact q2 s hs⟩
    · exact Or.inr ⟨o, q1, q2, fun s hs => by rw [hn (20 + s) (by omega) (by omega)]; exact q3 s hs⟩
  · unfold AV; rw [hn 1 (by omega) (by omega), hn 2 (by omega) (by omega)]; exact R.a
  · by_cases h : f = F
    · subst h
      unfold FV
      rw [mu_ne (show 12 + f ≠ 0 by omega)]
      simp only [mu_eq]
      refine ⟨by show 0 ≤ (0 : Int32).toInt; decide, 0, rfl, ?_⟩
      rw [Nat.zero_add]
      exact cn_mono (fun i _ z => by simp only [Bool.and_eq_true] at z; exact z.1)
    · exact (R.f f (by omega)).cg (fun q _ => by rw [hn (12 + f) (by omega) (by omega)]) (fun j _ q _ => by rw [hn (20 + j) (by omega) (by omega)])
theorem k_bring (R : IM a K F S t D) (hS : S < 24) {f k : Nat} (hf : f < F) (hk : k < K) {p : Int32} (hp : 1 ≤ p.toInt ∧ p.toInt ≤ 200) : ∃ a', fX3_addSack a (nI f) (nI k) p = some (nI S, a') ∧ (∀ D', (∀ j, j < S → D' j = D j) → IM a' K F (S + 1) t D') ∧ (∀ j, j ≠ 0 → j ≠ 20 + S → a' j = a j) ∧ gr (a' (20 + S)) = p ∧ a' 0 11 = a 0 11 := by
  obtain ⟨l1, l2, l3, l4⟩ := R.l
  have kv := R.k k hk
  unfold fX3_addSack fX5_begin fX5_endPledge
  rw [y_hasF R hf, bd_s, if_neg n10, y_hasK R hk, bd_s, if_neg n10, k_inY a (v := p) (a := 1) (b := 200) hp, bd_s, if_neg n10, R.e7, if_pos (show nI S < 24 from nI_lt hS (by decide)), if_pos (inb_nI hS (by decide)), if_pos (inb_nI (show k < 6 by omega) (by decide)), c_nI (by omega), c_nI (by omega)]
  simp only [klet, bd_s]
  generalize hb : mu (mu (mu (mu (mu (mu (mu (mu (mu (mu (mu (mu (mu (mu (mu (mu (mu a (20 + S) 0 (nI f)) (20 + S) 1 (nI k)) (20 + S) 2 _) (20 + S) 3 _) (20 + S) 4 _) (20 + S) 5 p) (20 + S) 6 0) (20 + S) 7 0) (20 + S) 8 0) (20 + S) 9 0) (20 + S) 10 0) (20 + S) 11 0) (20 + S) 12 0) (20 + S) 13 0) (20 + S) 14 0) (20 + S) 15 0) (20 + S) 16 0 = b
  have bo : ∀ j, j ≠ 20 + S → b j = a j := fun j hj => by
    rw [← hb]
    simp only [mu_ne hj]
  have bs : b (20 + S) 0 = nI f ∧ b (20 + S) 1 = nI k ∧ b (20 + S) 2 = a (6 + k) 0 ∧ b (20 + S) 3 = a (6 + k) 1 ∧ b (20 + S) 4 = a (6 + k) 2 ∧ b (20 + S) 5 = p ∧ b (20 + S) 6 = 0 ∧ b (20 + S) 7 = 0 ∧ b (20 + S) 8 = 0 ∧ b (20 + S) 9 = 0 ∧ b (20 + S) 10 = 0 ∧ b (20 + S) 11 = 0 ∧ b (20 + S) 15 = 0 ∧ b (20 + S) 16 = 0 := by
    rw [← hb]
    simp only [mu_eq, mu_ne (show 6 + k ≠ 20 + S by omega)]
    exact ⟨rfl, rfl, rfl, rfl, rfl, rfl, rfl, rfl, rfl, rfl, rfl, rfl, rfl, rfl⟩
  obtain ⟨s0, s1, s2, s3, s4, s5, s6, s7, s8, s9, s10, s11, s15, s16⟩ := bs
  have e7 : b 0 7 = nI S := by rw [bo 0 (by omega)]; exact R.e7
  rw [e7, nI_1]
  simp only [mu_eq, upd_eq]
  have e1 : nI (S + 1) - 1 = nI S := by rw [show (1 : Int32) = nI 1 from rfl, nI_sub (by omega)]; rfl
  rw [e1]
  have hn : ∀ j, j ≠ 0 → j ≠ 20 + S → mu b 0 7 (nI (S + 1)) j = a j := fun j j1 j2 => by rw [mu_ne j1, bo j j2]
  have h0 : mu b 0 7 (nI (S + 1)) 0 = upd (a 0) 7 (nI (S + 1)) := by rw [mu_eq, bo 0 (by omega)]
  have hs : mu b 0 7 (nI (S + 1)) (20 + S) = b (20 + S) := mu_ne (by omega)
  obtain ⟨n1, n2, n3, n4⟩ := R.n
  refine ⟨_, rfl, fun D' hD => ⟨⟨l1, l2, by omega, l4⟩, ?_, ?_, ?_, ?_, fun k hk => by rw [hn (6 + k) (by omega) (by omega)]; exact R.k k hk, fun g hg => ?_, fun s hs2 => ?_⟩, hn, ?_, by rw [h0]; rfl⟩
  · unfold NV; rw [h0]; exact ⟨n1, n2, rfl, n4⟩
  · unfold WV; rw [h0]; exact R.w
  · unfold ST
    rw [h0]
    rcases R.st with ⟨q1, q2⟩ | ⟨o, q1, q2, q3⟩
    · refine Or.inl ⟨q1, fun s hs2 => ?_⟩
      by_cases h : s = S
      · subst h; rw [hs, s6]; decide
      · rw [hn (20 + s) (by omega) (by omega)]; exact q2 s (by omega)
    · refine Or.inr ⟨o, by omega, q2, fun s hs2 => ?_⟩
      by_cases h : s = S
      · subst h
        rw [hs, s6]
        exact ⟨fun z => absurd z (by decide), fun z => by omega⟩
      · rw [hn (20 + s) (by omega) (by omega)]; exact q3 s (by omega)
  · unfold AV; rw [hn 1 (by omega) (by omega), hn 2 (by omega) (by omega)]; exact R.a
  · obtain ⟨q1, n, q2, q3⟩ := R.f g hg
    unfold FV
    rw [hn (12 + g) (by omega) (by omega)]
    refine ⟨q1, n, q2, ?_⟩
    have c1 : cn S (fun s => decide (mu b 0 7 (nI (S + 1)) (20 + s) 0 = nI g)) = cn S (fun s => decide (a (20 + s) 0 = nI g)) := cn_cg (fun i hi => by rw [hn (20 + i) (by omega) (by omega)])
    have c2 : cn S (fun s => decide (mu b 0 7 (nI (S + 1)) (20 + s) 0 = nI g) && decide (mu b 0 7 (nI (S + 1)) (20 + s) 6 = 0)) = cn S (fun s => decide (a (20 + s) 0 = nI g) && decide (a (20 + s) 6 = 0)) := cn_cg (fun i hi => by rw [hn (20 + i) (by omega) (by omega)])
    rw [cn, cn, c1, c2, hs, s6]
    by_cases h : b (20 + S) 0 = nI g
    · rw [if_pos (by simp [h]), if_pos (by simp [h])]
      omega
    · rw [if_neg (by simp [h]), if_neg (by simp [h])]
      omega
  · by_cases h : s = S
    · subst h
      rw [hs]
      refine ⟨⟨⟨f, hf, s0⟩, ⟨k, hk, s1⟩⟩, ⟨by rw [s2]; exact kv.1, by rw [s3]; exact kv.2.1, by rw [s4]; exact kv.2.2, by rw [s5]; exact hp, by rw [s8]; decide⟩, ⟨?_, Or.inl ⟨by rw [s6]; rfl, by rw [s7]; rfl, by rw [s16]; rfl⟩⟩, fun z => absurd z (by rw [s11]; decide)⟩
      rw [s5, s7, s9, s10, s11, s15, s16, t_lit0]
      omega
    · rw [hn (20 + s) (by omega) (by omega), hD s (by omega)]
      exact R.s s (by omega)
  · rw [hs]
    unfold gr
    rw [s6, if_neg (by decide), s5, s7, Int32.sub_zero]
theorem k_bringNo (R : IM a K F S t D) (hS : S = 24) {f k : Nat} (hf : f < F) (hk : k < K) {p : Int32} (hp : 1 ≤ p.toInt ∧ p.toInt ≤ 200) : fX3_addSack a (nI f) (nI k) p = some (-1000003, a) := by
  subst hS
  unfold fX3_addSack
  rw [y_hasF R hf, bd_s, if_neg n10, y_hasK R hk, bd_s, if_neg n10, k_inY a (v := p) (a := 1) (b := 200) hp, bd_s, if_neg n10, R.e7, if_neg (show ¬ nI 24 < 24 by decide)]
/-- a sack is taken away as it waits -/
theorem k_withdraw (R : IM a K F S t D) {s : Nat} (hs : s < S) : (¬ a (20 + s) 6 = 0 ∧ fX3_withdrawSack a (nI s) = some (-1000002, a)) ∨ (a (20 + s) 6 = 0 ∧ ∃ a', fX3_withdrawSack a (nI s) = some (a (20 + s) 5, a') ∧ IM a' K F S t D ∧ a' (20 + s) 5 = a (20 + s) 5 ∧ a' (20 + s) 16 = a (20 + s) 5) := by
  have hS := R.S24
  obtain ⟨so, sr, ⟨⟨x1, x2, x3, x4, x5, x6, x7, x8⟩, sp2⟩, sd⟩ := R.s s hs
  have r5 := sr.2.2.2.1
  unfold fX3_withdrawSack
  rw [y_hasS R hs, bd_s, if_neg n10, if_pos (inb_nI (show s < 24 by omega) (by decide)), c_nI (by omega)]
  by_cases c : a (20 + s) 6 = 0
  · right
    refine ⟨c, ?_⟩
    have i6 : (a (20 + s) 6).toInt = 0 := by rw [c]; rfl
    have e7 : a (20 + s) 7 = 0 := by rw [i_eq, t_lit0]; omega
    have eg : gr (a (20 + s)) = a (20 + s) 5 := by
      unfold gr
      rw [c, if_neg (by decide), e7, Int32.sub_zero]
    rw [if_pos c, k_grain, bd_s, eg]
    simp only [klet, mu_eq]
    refine ⟨_, rfl, R.sk hs (fun j hj => by rw [mu_ne hj, mu_ne hj]) ?_ ?_ ?_ (fun _ _ => rfl) ?_, ?_, ?_⟩
    · simp only [mu_eq]; rfl
    · simp only [mu_eq]
      rw [c]
      exact ⟨fun z => absurd z (by show ¬ (3 : Int32) = 1; decide), fun z => absurd z (by decide)⟩
    · simp only [mu_eq]
      exact fun z => absurd z (by show ¬ (3 : Int32) = 0; decide)
    · simp only [mu_eq]
      refine ⟨so, sr, ⟨?_, Or.inr (Or.inr (Or.inr ⟨rfl, ?_, ?_⟩))⟩, fun z => absurd z (by show ¬ 0 < (a (20 + s) 11).toInt; omega)⟩
      · show 0 ≤ (a (20 + s) 7).toInt ∧ (a (20 + s) 7).toInt ≤ (a (20 + s) 5).toInt ∧ 0 ≤ (a (20 + s) 9).toInt ∧ 0 ≤ (a (20 + s) 10).toInt ∧ 0 ≤ (a (20 + s) 11).toInt ∧ 0 ≤ (a (20 + s) 15).toInt ∧ 0 ≤ (a (20 + s) 5).toInt ∧ (a (20 + s) 9).toInt + (a (20 + s) 10).toInt + (a (20 + s) 11).toInt + (a (20 + s) 15).toInt ≤ (a (20 + s) 7).toInt
        omega
      · show (a (20 + s) 11).toInt = 0; omega
      · show (a (20 + s) 9).toInt + (a (20 + s) 10).toInt + (a (20 + s) 15).toInt + (a (20 + s) 5).toInt = (a (20 + s) 5).toInt; omega
    · simp only [mu_eq]; rfl
    · simp only [mu_eq]; rfl
  · left
    exact ⟨c, by rw [if_neg c]⟩
/-- a sack that is ground is fetched -/
theorem k_fetch (R : IM a K F S t D) {s : Nat} (hs : s < S) : fX3_fetchSack a (nI s) = some (-1000002, a) ∨ (∃ a', fX3_fetchSack a (nI s) = some (fl (a (20 + s)), a') ∧ 0 ≤ (fl (a (20 + s))).toInt ∧ IM a' K F S t D ∧ a' (20 + s) 6 = 3) := by
  have hS := R.S24
  obtain ⟨so, sr, ⟨⟨x1, x2, x3, x4, x5, x6, x7, x8⟩, sp2⟩, sd⟩ := R.s s hs
  have r5 := sr.2.2.2.1
  unfold fX3_fetchSack
  rw [y_hasS R hs, bd_s, if_neg n10, if_pos (inb_nI (show s < 24 by omega) (by decide)), c_nI (by omega)]
  by_cases c : a (20 + s) 6 = 2
  · rw [if_pos c, k_hasP, bd_s]
    by_cases c2 : 0 < (a (20 + s) 11).toInt
    · rw [if_pos c2, if_neg n10]
      exact Or.inl rfl
    · rw [if_neg c2, if_pos rfl, k_flour, bd_s]
      have i6 : (a (20 + s) 6).toInt = 2 := by rw [c]; rfl
      have efl : (fl (a (20 + s))).toInt = (a (20 + s) 7).toInt - (a (20 + s) 9).toInt - (a (20 + s) 10).toInt - (a (20 + s) 11).toInt - (a (20 + s) 15).toInt := by
        unfold fl
        rw [c, if_neg (by decide)]
        have e1 : (a (20 + s) 7 - a (20 + s) 9).toInt = (a (20 + s) 7).toInt - (a (20 + s) 9).toInt := i_sub (by omega) (by omega)
        have e2 : (a (20 + s) 7 - a (20 + s) 9 - a (20 + s) 10).toInt = (a (20 + s) 7 - a (20 + s) 9).toInt - (a (20 + s) 10).toInt := i_sub (by omega) (by omega)
        have e3 : (a (20 + s) 7 - a (20 + s) 9 - a (20 + s) 10 - a (20 + s) 11).toInt = (a (20 + s) 7 - a (20 + s) 9 - a (20 + s) 10).toInt - (a (20 + s) 11).toInt := i_sub (by omega) (by omega)
        rw [i_sub (by omega) (by omega)]
        omega
      simp only [klet, mu_eq]
      refine Or.inr ⟨_, rfl, by omega, R.sk hs (fun j hj => by rw [mu_ne hj, mu_ne hj]) ?_ ?_ ?_ (fun _ _ => rfl) ?_, ?_⟩
      · simp only [mu_eq]; rfl
      · simp only [mu_eq]
        rw [c]
        exact ⟨fun z => absurd z (by show ¬ (3 : Int32) = 1; decide), fun z => absurd z (by decide)⟩
      · simp only [mu_eq]
        exact fun z => absurd z (by show ¬ (3 : Int32) = 0; decide)
      · simp only [mu_eq]
        refine ⟨so, sr, ⟨?_, Or.inr (Or.inr (Or.inr ⟨rfl, ?_, ?_⟩))⟩, fun z => absurd z (by show ¬ 0 < (a (20 + s) 11).toInt; omega)⟩
        · show 0 ≤ (a (20 + s) 7).toInt ∧ (a (20 + s) 7).toInt ≤ (a (20 + s) 5).toInt ∧ 0 ≤ (a (20 + s) 9).toInt ∧ 0 ≤ (a (20 + s) 10).toInt ∧ 0 ≤ (a (20 + s) 11).toInt ∧ 0 ≤ (a (20 + s) 15).toInt ∧ 0 ≤ (fl (a (20 + s))).toInt ∧ (a (20 + s) 9).toInt + (a (20 + s) 10).toInt + (a (20 + s) 11).toInt + (a (20 + s) 15).toInt ≤ (a (20 + s) 7).toInt
          omega
        · show (a (20 + s) 11).toInt = 0; omega
        · show (a (20 + s) 9).toInt + (a (20 + s) 10).toInt + (a (20 + s) 15).toInt + (fl (a (20 + s))).toInt = (a (20 + s) 5).toInt; omega
      · simp only [mu_eq]; rfl
  · rw [if_neg c]
    exact Or.inl rfl
end CH
