/-! the stones -/
/-- one sack, the single numbers and the farmers have changed -/
theorem IM.fr {a : kM1} {K F S t : Nat} {D : Nat → Int} (R : IM a K F S t D) {a' : kM1} {s : Nat} (ha : ∀ j, j ≠ 0 → j ≠ 20 + s → (j < 12 ∨ 20 ≤ j) → a' j = a j) (hs : s < S) (hN : NV a' K F S t) (hW : WV a') (hS : ST a' S) (hV : SV (a' (20 + s)) K F ((t : Int) / 96) (D s)) (hF : ∀ f, f < F → FV a' S f) : IM a' K F S t D := by
  have hK := R.l.1
  refine ⟨R.l, hN, hW, hS, ?_, fun k hk => by rw [ha (6 + k) (by omega) (by omega) (by omega)]; exact R.k k hk, hF, fun j hj => ?_⟩
  · unfold AV
    rw [ha 1 (by decide) (by omega) (by omega), ha 2 (by decide) (by omega) (by omega)]
    exact R.a
  · by_cases h : j = s
    · subst h; exact hV
    · rw [ha (20 + j) (by omega) (by omega) (by omega)]
      exact R.s j hj
/-- a farmer's counts, where no sack begins to wait -/
theorem FV.dn {a a' : kM1} {S f : Nat} (h : FV a S f) (e : a' (12 + f) = a (12 + f)) (h0 : ∀ j, j < S → a' (20 + j) 0 = a (20 + j) 0) (h6 : ∀ j, j < S → a' (20 + j) 6 = 0 → a (20 + j) 6 = 0) : FV a' S f := by
  obtain ⟨q1, n, q2, q3⟩ := h
  unfold FV
  rw [e]
  refine ⟨q1, n, q2, ?_⟩
  have c1 : cn S (fun s => decide (a' (20 + s) 0 = nI f)) = cn S (fun s => decide (a (20 + s) 0 = nI f)) := cn_cg (fun i hi => by rw [h0 i hi])
  have c2 : cn S (fun s => decide (a' (20 + s) 0 = nI f) && decide (a' (20 + s) 6 = 0)) ≤ cn S (fun s => decide (a (20 + s) 0 = nI f) && decide (a (20 + s) 6 = 0)) := cn_mono (fun i hi => by
    simp only [Bool.and_eq_true, decide_eq_true_eq]
    rintro ⟨z1, z2⟩
    exact ⟨by rw [← h0 i hi]; exact z1, h6 i hi z2⟩)
  rw [c1]
  omega
/-- toll and dust of what is ground -/
theorem toll_rng {g tp dp tl du : Int32} (g0 : 0 ≤ g.toInt ∧ g.toInt ≤ 200) (t0 : 0 ≤ tp.toInt ∧ tp.toInt ≤ 50) (d0 : 0 ≤ dp.toInt ∧ dp.toInt ≤ 20) (e1 : tl = g * tp / 100) (e2 : du = (g - tl) * dp / 100) : 0 ≤ tl.toInt ∧ 0 ≤ du.toInt ∧ tl.toInt + du.toInt ≤ g.toInt := by
  have b0 : 0 ≤ g.toInt * tp.toInt := Int.mul_nonneg g0.1 t0.1
  have b1 : g.toInt * tp.toInt ≤ g.toInt * 50 := Int.mul_le_mul_of_nonneg_left t0.2 g0.1
  have m1 : (g * tp).toInt = g.toInt * tp.toInt := i_mul (by omega) (by omega)
  have h1 : tl.toInt = g.toInt * tp.toInt / 100 := by rw [e1, i_div (by rw [m1]; exact b0) (by decide), m1]; rfl
  have s1 : (g - tl).toInt = g.toInt - tl.toInt := i_sub (by omega) (by omega)
  have c0 : 0 ≤ (g - tl).toInt * dp.toInt := Int.mul_nonneg (by omega) d0.1
  have c1 : (g - tl).toInt * dp.toInt ≤ (g - tl).toInt * 20 := Int.mul_le_mul_of_nonneg_left d0.2 (by omega)
  have m2 : ((g - tl) * dp).toInt = (g - tl).toInt * dp.toInt := i_mul (by omega) (by omega)
  have h2 : du.toInt = (g - tl).toInt * dp.toInt / 100 := by rw [e2, i_div (by rw [m2]; exact c0) (by decide), m2]; rfl
  omega
section GR
variable {a : kM1} {K F S t : Nat} {D : Nat → Int}
/-- more is ground of the sack on the stones -/
theorem k_grindSack (R : IM a K F S t D) {o : Nat} (ho : o < S) (e12 : a 0 12 = nI o) (e6 : a (20 + o) 6 = 1) (force : Int32) : ∃ a', fX3_grindSack a (20 + o) force = some (0, a') ∧ IM a' K F S t D := by
  have hS := R.S24
  have hF := R.F8
  obtain ⟨so, sr, ⟨sp1, sp2⟩, sd⟩ := R.s o ho
  obtain ⟨x1, x2, x3, x4, x5, x6, x7, x8⟩ := sp1
  obtain ⟨r1, r2, r3, r4, r5, r6⟩ := sr
  have i6 : (a (20 + o) 6).toInt = 1 := by rw [e6]; rfl
  have st1 : (a (20 + o) 7).toInt < (a (20 + o) 5).toInt ∧ (a (20 + o) 11).toInt = 0 ∧ (a (20 + o) 15).toInt = 0 ∧ (a (20 + o) 16).toInt = 0 := by omega
  have hq : ∃ u, fX6_quotient a force (a (20 + o) 2) = some (u, a) := ⟨_, k_quot a _ _ (by omega)⟩
  obtain ⟨u, hq⟩ := hq
  have eg : gr (a (20 + o)) = a (20 + o) 5 - a (20 + o) 7 := by
    unfold gr
    rw [if_neg (fun z => by rw [z] at i6; exact absurd i6 (by decide))]
  have ig : (a (20 + o) 5 - a (20 + o) 7).toInt = (a (20 + o) 5).toInt - (a (20 + o) 7).toInt := i_sub (by omega) (by omega)
  obtain ⟨p, ep⟩ : ∃ p : Int32, (if a (20 + o) 5 - a (20 + o) 7 < (if u < 1 then 1 else u) then a (20 + o) 5 - a (20 + o) 7 else (if u < 1 then 1 else u)) = p := ⟨_, rfl⟩
  have pb : 1 ≤ p.toInt ∧ p.toInt ≤ (a (20 + o) 5).toInt - (a (20 + o) 7).toInt := by
    rw [← ep]
    have h1 : 1 ≤ (if u < 1 then (1 : Int32) else u).toInt := by
      by_cases h : u < 1
      · rw [if_pos h]; decide
      · rw [if_neg h]; rw [i_lt] at h; have : (1 : Int32).toInt = 1 := rfl
        omega
    by_cases h : a (20 + o) 5 - a (20 + o) 7 < (if u < 1 then 1 else u)
    · rw [if_pos h]; omega
    · rw [if_neg h]; rw [i_lt] at h; omega
  have eq7 : (a (20 + o) 7 + p).toInt = (a (20 + o) 7).toInt + p.toInt := i_add (by omega) (by omega)
  have tr := toll_rng (g := a (20 + o) 7 + p) (tp := a (20 + o) 8) (dp := a (20 + o) 3) (by omega) ⟨r5, r6⟩ r2 rfl rfl
  unfold fX3_grindSack fX5_addGround
  rw [hq, bd_s, k_grain, bd_s, eg, ep]
  simp only [klet, mu_eq]
  have e5 : ∀ (x y z : Int32), upd (upd (upd (a (20 + o)) 7 x) 9 y) 10 z 5 = a (20 + o) 5 := fun _ _ _ => rfl
  have e7 : ∀ (x y z : Int32), upd (upd (upd (a (20 + o)) 7 x) 9 y) 10 z 7 = x := fun _ _ _ => rfl
  have e3 : ∀ (x y : Int32), upd (upd (a (20 + o)) 7 x) 9 y 3 = a (20 + o) 3 := fun _ _ => rfl
  have e8 : ∀ (x : Int32), upd (a (20 + o)) 7 x 8 = a (20 + o) 8 := fun _ => rfl
  have e77 : ∀ (x : Int32), upd (a (20 + o)) 7 x 7 = x := fun _ => rfl
  have e79 : ∀ (x y : Int32), upd (upd (a (20 + o)) 7 x) 9 y 7 = x := fun _ _ => rfl
  have e99 : ∀ (x y : Int32), upd (upd (a (20 + o)) 7 x) 9 y 9 = y := fun _ _ => rfl
  rw [e77, e8, e79, e99, e3, e7, e5]
  generalize hT : (a (20 + o) 7 + p) * a (20 + o) 8 / 100 = T at *
  generalize hU : (a (20 + o) 7 + p - T) * a (20 + o) 3 / 100 = U at *
  have n0 : ∀ (x y z : Int32) (j : Nat), j ≠ 20 + o → mu (mu (mu a (20 + o) 7 x) (20 + o) 9 y) (20 + o) 10 z j = a j := fun x y z j hj => by rw [mu_ne hj, mu_ne hj, mu_ne hj]
  by_cases c : a (20 + o) 7 + p < a (20 + o) 5
  · rw [if_pos c, bd_s]
    rw [i_lt, eq7] at c
    simp only [mu_ne (show 20 + o ≠ 0 by omega), mu_eq]
    have s6 : upd (upd (upd (a (20 + o)) 7 (a (20 + o) 7 + p)) 9 T) 10 U 6 = a (20 + o) 6 := rfl
    rw [s6, e6, if_neg (show ¬ (1 : Int32) = 2 by decide)]
    refine ⟨_, rfl, R.fr (s := o) (fun j j1 j2 j3 => ?_) ho ?_ ?_ ?_ ?_ ?_⟩
    · rw [mu_ne j1, n0 _ _ _ j j2]
    · obtain ⟨n1, n2, n3, n4⟩ := R.n
      unfold NV
      simp only [mu_eq, n0 _ _ _ 0 (show 0 ≠ 20 + o by omega)]
      exact ⟨n1, n2, n3, n4⟩
    · unfold WV
      simp only [mu_eq, n0 _ _ _ 0 (show 0 ≠ 20 + o by omega)]
      exact R.w
    · refine Or.inr ⟨o, ho, ?_, fun s hs => ?_⟩
      · simp only [mu_eq, n0 _ _ _ 0 (show 0 ≠ 20 + o by omega)]
        exact e12
      · rw [mu_ne (show 20 + s ≠ 0 by omega)]
        by_cases h : s = o
        · subst h
          simp only [mu_eq]
          exact ⟨fun _ => trivial, fun _ => e6⟩
        · rw [n0 _ _ _ _ (show 20 + s ≠ 20 + o by omega)]
          rcases R.st with ⟨q1, q2⟩ | ⟨o', q1, q2, q3⟩
          · exact ⟨fun z => absurd z (q2 s hs), fun z => absurd z h⟩
          · have : o' = o := nI_inj (by omega) (by omega) (q2.symm.trans e12)
            subst this
            exact q3 s hs
    · rw [mu_ne (show 20 + o ≠ 0 by omega)]
      simp only [mu_eq]
      refine ⟨so, ⟨r1, r2, r3, r4, r5, r6⟩, ⟨?_, ?_⟩, fun z => ?_⟩
      · show 0 ≤ (a (20 + o) 7 + p).toInt ∧ (a (20 + o) 7 + p).toInt ≤ (a (20 + o) 5).toInt ∧ 0 ≤ T.toInt ∧ 0 ≤ U.toInt ∧ 0 ≤ (a (20 + o) 11).toInt ∧ 0 ≤ (a (20 + o) 15).toInt ∧ 0 ≤ (a (20 + o) 16).toInt ∧ T.toInt + U.toInt + (a (20 + o) 11).toInt + (a (20 + o) 15).toInt ≤ (a (20 + o) 7 + p).toInt
        omega
      · refine Or.inr (Or.inl ⟨i6, ?_, st1.2⟩)
        show (a (20 + o) 7 + p).toInt < (a (20 + o) 5).toInt
        omega
      · exact absurd z (by show ¬ 0 < (a (20 + o) 11).toInt; omega)
    · intro f hf
      refine (R.f f hf).dn ?_ (fun j hj => ?_) (fun j hj z => ?_)
      · rw [mu_ne (show 12 + f ≠ 0 by omega), n0 _ _ _ _ (by omega)]
      · rw [mu_ne (show 20 + j ≠ 0 by omega)]
        by_cases h : j = o
        · subst h; simp only [mu_eq]; rfl
        · rw [n0 _ _ _ _ (show 20 + j ≠ 20 + o by omega)]
      · rw [mu_ne (show 20 + j ≠ 0 by omega)] at z
        by_cases h : j = o
        · subst h; simp only [mu_eq] at z; exact z
        · rw [n0 _ _ _ _ (show 20 + j ≠ 20 + o by omega)] at z; exact z
  · rw [if_neg c, bd_s]
    rw [i_lt, eq7] at c
    simp only [mu_ne (show 20 + o ≠ 0 by omega), mu_eq]
    have s6 : upd (upd (upd (upd (a (20 + o)) 7 (a (20 + o) 7 + p)) 9 T) 10 U) 6 2 6 = 2 := rfl
    rw [s6, if_pos rfl]
    refine ⟨_, rfl, R.fr (s := o) (fun j j1 j2 j3 => ?_) ho ?_ ?_ ?_ ?_ ?_⟩
    · rw [mu_ne j1, mu_ne j1, mu_ne j2, n0 _ _ _ j j2]
    · obtain ⟨n1, n2, n3, n4⟩ := R.n
      unfold NV
      simp only [mu_eq, mu_ne (show 0 ≠ 20 + o by omega)]
      exact ⟨n1, n2, n3, n4⟩
    · unfold WV
      simp only [mu_eq, mu_ne (show 0 ≠ 20 + o by omega)]
      exact R.w
    · refine Or.inl ⟨?_, fun s hs => ?_⟩
      · simp only [mu_eq]
        rfl
      · rw [mu_ne (show 20 + s ≠ 0 by omega), mu_ne (show 20 + s ≠ 0 by omega)]
        by_cases h : s = o
        · subst h
          simp only [mu_eq]
          rw [s6]
          decide
        · rw [mu_ne (show 20 + s ≠ 20 + o by omega), n0 _ _ _ _ (show 20 + s ≠ 20 + o by omega)]
          rcases R.st with ⟨q1, q2⟩ | ⟨o', q1, q2, q3⟩
          · exact q2 s hs
          · have : o' = o := nI_inj (by omega) (by omega) (q2.symm.trans e12)
            subst this
            exact fun z => h ((q3 s hs).mp z)
    · rw [mu_ne (show 20 + o ≠ 0 by omega), mu_ne (show 20 + o ≠ 0 by omega)]
      simp only [mu_eq]
      refine ⟨so, ⟨r1, r2, r3, r4, r5, r6⟩, ⟨?_, ?_⟩, fun z => ?_⟩
      · show 0 ≤ (a (20 + o) 7 + p).toInt ∧ (a (20 + o) 7 + p).toInt ≤ (a (20 + o) 5).toInt ∧ 0 ≤ T.toInt ∧ 0 ≤ U.toInt ∧ 0 ≤ (a (20 + o) 11).toInt ∧ 0 ≤ (a (20 + o) 15).toInt ∧ 0 ≤ (a (20 + o) 16).toInt ∧ T.toInt + U.toInt + (a (20 + o) 11).toInt + (a (20 + o) 15).toInt ≤ (a (20 + o) 7 + p).toInt
        omega
      · refine Or.inr (Or.inr (Or.inl ⟨rfl, ?_, st1.2.2.2⟩))
        show (a (20 + o) 7 + p).toInt = (a (20 + o) 5).toInt
        omega
      · exact absurd z (by show ¬ 0 < (a (20 + o) 11).toInt; omega)
    · intro f hf
      refine (R.f f hf).dn ?_ (fun j hj => ?_) (fun j hj z => ?_)
      · rw [mu_ne (show 12 + f ≠ 0 by omega), mu_ne (show 12 + f ≠ 0 by omega), mu_ne (show 12 + f ≠ 20 + o by omega), n0 _ _ _ _ (by omega)]
      · rw [mu_ne (show 20 + j ≠ 0 by omega), mu_ne (show 20 + j ≠ 0 by omega)]
        by_cases h : j = o
        · subst h; simp only [mu_eq]; rfl
        · rw [mu_ne (show 20 + j ≠ 20 + o by omega), n0 _ _ _ _ (show 20 + j ≠ 20 + o by omega)]
      · rw [mu_ne (show 20 + j ≠ 0 by omega), mu_ne (show 20 + j ≠ 0 by omega)] at z
        by_cases h : j = o
        · subst h; simp only [mu_eq] at z; rw [s6] at z; exact absurd z (by decide)
        · rw [mu_ne (show 20 + j ≠ 20 + o by omega), n0 _ _ _ _ (show 20 + j ≠ 20 + o by omega)] at z; exact z
/-- the first of the queue comes on the stones -/
theorem k_put (R : IM a K F S t D) (e12 : a 0 12 = -1) {s : Nat} (hs : s < S) (e6 : a (20 + s) 6 = 0) : ∃ a', fX3_putOnStones a (nI s) = some (0, a') ∧ IM a' K F S t D ∧ a' 0 12 = nI s ∧ a' (20 + s) 6 = 1 ∧ a' 0 9 = a 0 9 := by
  have hS := R.S24
  have hF := R.F8
  obtain ⟨⟨⟨f, hf, e0⟩, sok⟩, sr, ⟨sp1, sp2⟩, sd⟩ := R.s s hs
  obtain ⟨x1, x2, x3, x4, x5, x6, x7, x8⟩ := sp1
  obtain ⟨r1, r2, r3, r4, r5, r6⟩ := sr
  have i6 : (a (20 + s) 6).toInt = 0 := by rw [e6]; rfl
  have tl : 0 ≤ (a 1 8).toInt ∧ (a 1 8).toInt ≤ 50 := R.a.1 8 (by decide)
  have nost : ∀ j, j < S → ¬ a (20 + j) 6 = 1 := by
    rcases R.st with ⟨q1, q2⟩ | ⟨o', q1, q2, q3⟩
    · exact q2
    · rw [e12] at q2
      have := congrArg Int32.toInt q2
      rw [t_nI (by omega), t_m1] at this
      omega
  obtain ⟨p1, n, p2, p3⟩ := R.f f hf
  unfold fX3_putOnStones
  rw [y_hasS R hs, bd_s, if_neg (show ¬ (1 : Int32) = 0 by decide), if_pos (inb_nI (show s < 24 by omega) (by decide)), c_nI (by omega)]
  simp only [klet]
  generalize hb : mu (mu (mu (mu a (20 + s) 6 1) (20 + s) 8 (mu a (20 + s) 6 1 1 8)) 0 12 (nI s)) 0 13 (mu (mu (mu a (20 + s) 6 1) (20 + s) 8 (mu a (20 + s) 6 1 1 8)) 0 12 (nI s) (20 + s) 1) = b
  have b0 : b 0 = upd (upd (a 0) 12 (nI s)) 13 (a (20 + s) 1) := by
    rw [← hb]
    simp only [mu_eq, mu_ne (show 0 ≠ 20 + s by omega), mu_ne (show 20 + s ≠ 0 by omega)]
    rfl
  have bs : b (20 + s) = upd (upd (a (20 + s)) 6 1) 8 (a 1 8) := by
    rw [← hb]
    simp only [mu_eq, mu_ne (show 20 + s ≠ 0 by omega), mu_ne (show 1 ≠ 20 + s by omega)]
  have bo : ∀ j, j ≠ 0 → j ≠ 20 + s → b j = a j := fun j j1 j2 => by
    rw [← hb, mu_ne j1, mu_ne j1, mu_ne j2, mu_ne j2]
  have bs0 : b (20 + s) 0 = nI f := by rw [bs]; exact e0
  have hf6 : b 0 6 = nI F := by rw [b0]; exact R.e6
  rw [bs0, k_hasFarmer b _ (S := F) (by omega) hf6, t_nI (by omega), if_pos (by omega), bd_s, if_neg (show ¬ (1 : Int32) = 0 by decide), bs0, if_pos (inb_nI (show f < 8 by omega) (by decide)), c_nI (by omega), bo (12 + f) (by omega) (by omega), p2, nI_1]
  refine ⟨_, rfl, R.fr (s := s) (fun j j1 j2 j3 => ?_) hs ?_ ?_ ?_ ?_ ?_, ?_, ?_, ?_⟩
  · rw [mu_ne (by omega), bo j j1 j2]
  · obtain ⟨n1, n2, n3, n4⟩ := R.n
    unfold NV
    rw [mu_ne (show 0 ≠ 12 + f by omega), b0]
    exact ⟨n1, n2, n3, n4⟩
  · unfold WV
    rw [mu_ne (show 0 ≠ 12 + f by omega), b0]
    exact R.w
  · refine Or.inr ⟨s, hs, by rw [mu_ne (show 0 ≠ 12 + f by omega), b0]; rfl, fun j hj => ?_⟩
    rw [mu_ne (show 20 + j ≠ 12 + f by omega)]
    by_cases h : j = s
    · subst h
      rw [bs]
      exact ⟨fun _ => rfl, fun _ => rfl⟩
    · rw [bo (20 + j) (by omega) (by omega)]
      exact ⟨fun z => absurd z (nost j hj), fun z => absurd z h⟩
  · rw [mu_ne (show 20 + s ≠ 12 + f by omega), bs]
    refine ⟨⟨⟨f, hf, e0⟩, sok⟩, ⟨r1, r2, r3, r4, tl⟩, ⟨⟨x1, x2, x3, x4, x5, x6, x7, x8⟩, Or.inr (Or.inl ⟨rfl, ?_⟩)⟩, fun z => absurd z (by show ¬ 0 < (a (20 + s) 11).toInt; omega)⟩
    show (a (20 + s) 7).toInt < (a (20 + s) 5).toInt ∧ (a (20 + s) 11).toInt = 0 ∧ (a (20 + s) 15).toInt = 0 ∧ (a (20 + s) 16).toInt = 0
    omega
  · intro g hg
    have w0 : ∀ j, mu b (12 + f) 1 (nI (n + 1)) (20 + j) 0 = a (20 + j) 0 := fun j => by
      rw [mu_ne (show 20 + j ≠ 12 + f by omega)]
      by_cases h : j = s
      · subst h; rw [bs]; rfl
      · rw [bo (20 + j) (by omega) (by omega)]
    have w6 : ∀ j, mu b (12 + f) 1 (nI (n + 1)) (20 + j) 6 = 0 → a (20 + j) 6 = 0 ∧ j ≠ s := fun j z => by
      rw [mu_ne (show 20 + j ≠ 12 + f by omega)] at z
      by_cases h : j = s
      · subst h; rw [bs] at z; exact absurd z (by show ¬ (1 : Int32) = 0; decide)
      · rw [bo (20 + j) (by omega) (by omega)] at z; exact ⟨z, h⟩
    by_cases h : g = f
    · subst h
      refine ⟨by rw [mu_eq, bo (12 + g) (by omega) (by omega), upd_ne (by decide)]; exact p1, n + 1, by rw [mu_eq, upd_eq], ?_⟩
      have c1 : cn S (fun j => decide (mu b (12 + g) 1 (nI (n + 1)) (20 + j) 0 = nI g)) = cn S (fun j => decide (a (20 + j) 0 = nI g)) := cn_cg (fun i hi => by rw [w0])
      have c2 : cn S (fun j => decide (mu b (12 + g) 1 (nI (n + 1)) (20 + j) 0 = nI g) && decide (mu b (12 + g) 1 (nI (n + 1)) (20 + j) 6 = 0)) < cn S (fun j => decide (a (20 + j) 0 = nI g) && decide (a (20 + j) 6 = 0)) := by
        refine cn_lt (s := s) (fun i hi => ?_) hs (by simp [e0, e6]) (fun z => ?_)
        · simp only [Bool.and_eq_true, decide_eq_true_eq]
          rintro ⟨z1, z2⟩
          rw [w0] at z1
          exact ⟨z1, (w6 i z2).1⟩
        · simp only [Bool.and_eq_true, decide_eq_true_eq] at z
          exact (w6 s z.2).2 rfl
      rw [c1]
      omega
    · exact (R.f g hg).dn (by rw [mu_ne (by omega), bo (12 + g) (by omega) (by omega)]) (fun j _ => w0 j) (fun j _ z => (w6 j z).1)
  · rw [mu_ne (show 0 ≠ 12 + f by omega), b0]; rfl
  · rw [mu_ne (show 20 + s ≠ 12 + f by omega), bs]; rfl
  · rw [mu_ne (show 0 ≠ 12 + f by omega), b0]; rfl
/-- the water of the gate is used, and the sack on the stones is ground -/
theorem k_b70 (R : IM a K F S t D) {o : Nat} (ho : o < S) (e12 : a 0 12 = nI o) (e6 : a (20 + o) 6 = 1) (sea b2 : Int32) {w : Int32} (hw : 0 ≤ w.toInt ∧ w.toInt ≤ (a 0 9).toInt) : ∃ a', fX3_grind_b70 sea a b2 w = some (0, a') ∧ IM a' K F S t D := by
  have hS := R.S24
  obtain ⟨⟨w1, w2⟩, w3, w4, w5⟩ := R.w
  have e : (a 0 9 - w).toInt = (a 0 9).toInt - w.toInt := i_sub (by omega) (by omega)
  unfold fX3_grind_b70
  rw [e12, y_hasS R ho, bd_s, if_neg (show ¬ (1 : Int32) = 0 by decide)]
  simp only [klet, mu_eq]
  have R1 : IM (mu (mu a 0 9 (a 0 9 - w)) 0 16 (upd (a 0) 9 (a 0 9 - w) 16 + w)) K F S t D := by
    refine R.nu (fun j hj => by rw [mu_ne hj, mu_ne hj]) ?_ ?_ ?_
    · obtain ⟨n1, n2, n3, n4⟩ := R.n
      unfold NV
      simp only [mu_eq]
      exact ⟨n1, n2, n3, n4⟩
    · unfold WV
      simp only [mu_eq]
      refine ⟨?_, w3, w4, ?_⟩
      · show 0 ≤ (a 0 9 - w).toInt ∧ (a 0 9 - w).toInt ≤ 501000
        rw [e]
        omega
      · show a 0 9 - w + a 0 15 + (a 0 16 + w) = a 0 14
        rw [← w5, add4, Int32.add_comm (a 0 15) w, ← Int32.add_assoc, Int32.add_assoc (a 0 9 - w), Int32.add_comm (a 0 16) w, ← Int32.add_assoc (a 0 9 - w) w, Int32.sub_add_cancel, Int32.add_assoc, Int32.add_assoc, Int32.add_comm (a 0 16)]
    · simp only [mu_eq]
      rfl
  have x12 : mu (mu a 0 9 (a 0 9 - w)) 0 16 (upd (a 0) 9 (a 0 9 - w) 16 + w) 0 12 = nI o := by
    simp only [mu_eq]
    exact e12
  have x12' : upd (upd (a 0) 9 (a 0 9 - w)) 16 (upd (a 0) 9 (a 0 9 - w) 16 + w) 12 = nI o := e12
  rw [x12', if_pos (inb_nI (show o < 24 by omega) (by decide)), c_nI (by omega)]
  obtain ⟨a', h1, h2⟩ := k_grindSack R1 ho x12 (by simp only [mu_ne (show 20 + o ≠ 0 by omega)]; exact e6) (upd (upd (a 0) 9 (a 0 9 - w)) 16 (upd (a 0) 9 (a 0 9 - w) 16 + w) 11 * b2)
  rw [h1, bd_s]
  exact ⟨a', rfl, h2⟩
theorem k_grind (R : IM a K F S t D) (sea : Int32) : ∃ a', fX3_grind a sea = some (0, a') ∧ IM a' K F S t D := by
  have hS := R.S24
  obtain ⟨⟨w1, w2⟩, w3, w4, w5⟩ := R.w
  have gw : 0 ≤ (a 1 7).toInt ∧ (a 1 7).toInt ≤ 2000 := R.a.1 7 (by decide)
  have b0 : 0 ≤ (a 0 11).toInt * (a 1 7).toInt := Int.mul_nonneg w4.1 gw.1
  have b1 : (a 0 11).toInt * (a 1 7).toInt ≤ 3 * 2000 := Int.mul_le_mul w4.2 gw.2 gw.1 (by decide)
  have em : (a 0 11 * a 1 7).toInt = (a 0 11).toInt * (a 1 7).toInt := i_mul (by omega) (by omega)
  unfold fX3_grind
  rw [k_level R, bd_s]
  simp only [klet]
  by_cases c1 : a 0 11 = 0
  · rw [if_pos c1]; exact ⟨a, rfl, R⟩
  rw [if_neg c1]
  by_cases c2 : a 0 9 / a 1 0 - sea ≤ 0
  · rw [if_pos c2]; exact ⟨a, rfl, R⟩
  rw [if_neg c2]
  by_cases c3 : a 0 9 / a 1 0 - sea < a 1 6
  · rw [if_pos c3]; exact ⟨a, rfl, R⟩
  rw [if_neg c3]
  by_cases c4 : a 0 11 * a 1 7 ≤ a 0 9
  · rw [if_pos c4]
    rw [i_le] at c4
    rcases R.st with ⟨q1, q2⟩ | ⟨o, q1, q2, q3⟩
    · rw [k_hasSack a _ hS R.e7, q1, t_m1, if_neg (by omega), bd_s, if_pos rfl]
      rcases first_eq R with ⟨h1, h2⟩ | ⟨f, h1, h2, h3⟩
      · rw [h2, bd_s]
        have hp : fX3_putOnStones a (-1) = some (0, a) := by
          unfold fX3_putOnStones
          rw [k_hasSack a _ hS R.e7, t_m1, if_neg (by omega), bd_s, if_pos rfl]
        rw [hp, bd_s]
        unfold fX3_grind_b70
        rw [k_hasSack a _ hS R.e7, q1, t_m1, if_neg (by omega), bd_s, if_pos rfl]
        exact ⟨a, rfl, R⟩
      · obtain ⟨a1, g1, g2, g3, g4, g5⟩ := k_put R q1 h1 h2
        rw [h3, bd_s, g1, bd_s]
        exact k_b70 g2 h1 g3 g4 sea _ (by rw [g5]; omega)
    · rw [q2, y_hasS R q1, bd_s, if_neg (show ¬ (1 : Int32) = 0 by decide)]
      exact k_b70 R q1 q2 ((q3 o q1).mpr rfl) sea _ (by omega)
  · rw [if_neg c4]; exact ⟨a, rfl, R⟩
end GR
