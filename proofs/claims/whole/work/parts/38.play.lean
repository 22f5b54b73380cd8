/-! all orders of a text; fault and play, alike -/
theorem neNF {p : Nat} (h : p < 100) : ¬ nI p = -1000004 := by
  intro z
  have e : (-1000004 : Int32).toInt = -1000004 := by decide
  rw [i_eq, t_nI (by omega), e] at z
  omega
def FR (c c' m m' : kM1) : Prop := (∀ j, j ≠ 3 → j ≠ 5 → c' j = c j) ∧ c' 3 2 = c 3 2 ∧ (∀ j, j ≠ 0 → j ≠ 1 → j ≠ 6 → m' j = m j) ∧ ∀ k, k ≠ 7 → k ≠ 8 → m' 0 k = m 0 k
theorem FR.rf (c m : kM1) : FR c c m m := ⟨fun _ _ _ => rfl, rfl, fun _ _ _ _ => rfl, fun _ _ _ => rfl⟩
theorem FR.tr {c c' c'' m m' m'' : kM1} (h : FR c c' m m') (g : FR c' c'' m' m'') : FR c c'' m m'' := ⟨fun j h1 h2 => (g.1 j h1 h2).trans (h.1 j h1 h2), g.2.1.trans h.2.1, fun j h1 h2 h3 => (g.2.2.1 j h1 h2 h3).trans (h.2.2.1 j h1 h2 h3), fun k h1 h2 => (g.2.2.2 k h1 h2).trans (h.2.2.2 k h1 h2)⟩
theorem FO.fr {c c' m m' : kM1} (h : FO c c' m m') : FR c c' m m' := ⟨h.1, h.2.1, h.2.2.2.2.1, fun k h1 _ => h.2.2.2.2.2 k h1⟩
theorem FR.c {c m : kM1} {k : Nat} {v : Int32} (h : k ≠ 2) : FR c (mu c 3 k v) m m := ⟨fun j h1 _ => mu_ne h1, by rw [mu_eq, upd_ne (fun z => h z.symm)], fun _ _ _ _ => rfl, fun _ _ _ => rfl⟩
theorem FR.m {c m : kM1} {k : Nat} {v : Int32} (h : k = 7 ∨ k = 8) : FR c c m (mu m 0 k v) := ⟨fun _ _ _ => rfl, rfl, fun j h1 _ _ => mu_ne h1, fun q h1 h2 => by rw [mu_eq, upd_ne (by omega)]⟩
theorem TR.cg {c x c' x' : kM1} {l p : Nat} (T : TR c x l p) (h1 : c' 3 2 = c 3 2) (h2 : c' 3 3 = c 3 3) (h3 : c' 4 = c 4) (h4 : x' 0 6 = x 0 6) (h5 : x' 0 7 = x 0 7) (h6 : x' 5 = x 5) : TR c' x' l p := by
  obtain ⟨t1, t2, t3, t4, t5, t6, t7⟩ := T
  exact ⟨h1.trans t1, h4.trans t2, t3, fun k hk => by rw [h3, h6]; exact t4 k hk, h2.trans t5, h5.trans t6, t7⟩
theorem b71_eq (M : kM2) (a c : kM1) (rec : kM2 → Int32 → Option (Int32 × kM2)) (b2 t0 : Int32) : fX4_doAll_b71 1 rec (up (up M 1 a) 7 c) b2 t0 = if t0 = 0 then rec (up (up M 1 a) 7 (mu (mu c 3 5 t0) 3 6 (c 3 6 + 1))) (b2 + 1) else rec (up (up M 1 a) 7 (mu c 3 5 t0)) (b2 + 1) := by
  unfold fX4_doAll_b71 fX4_doAll_b91
  rw [mw_up, klet, up_same, mu_eq, upd_eq, upd_ne (show 6 ≠ 5 by decide), mw_up, klet, klet, klet]
theorem stop_eq (M : kM2) (a c : kM1) {n : Nat} (b2 : Int32) (hn : 0 < n) (h : ¬ c 3 5 = 0) : fX4_doAll_b22 1 n (up (up M 1 a) 7 c) b2 = some (0, up (up M 1 a) 7 c) := by
  obtain ⟨n, rfl⟩ : ∃ z, n = z + 1 := ⟨n - 1, by omega⟩
  rw [fX4_doAll_b22, up_same, if_neg h, ite_self, ite_self]
/-- one turn of the class's loop -/
theorem turn_eq {M : kM2} {a c m : kM1} {d : Nat → Int32} {l p u n : Nat} (T : TR c (sD m d) l p) (h : p < l) (hu : u ≤ p) (R : RX a d) (h5 : c 3 5 = 0) (hn : 0 < n) : ∃ r a' c' m' d', fX4_doAll_b22 1 (n + 1) (up (up M 1 a) 7 c) (nI u) = (if r = 0 then fX4_doAll_b22 1 n (up (up M 1 a') 7 (mu (mu c' 3 5 r) 3 6 (c 3 6 + 1))) (nI (u + 1)) else some (0, up (up M 1 a') 7 (mu c' 3 5 r))) ∧ fX7_doesNext (sD m d) = some (r, sD m' d') ∧ FR c c' m m' ∧ c' 3 4 = nI p ∧ ((r = 0 ∧ RX a' d' ∧ ∃ p', p < p' ∧ TR c' (sD m' d') l p') ∨ r = 1 ∨ r = 2 ∨ r = 3) := by
  obtain ⟨t1, t2, t3, t4, t5, t6, t7⟩ := id T
  obtain ⟨r, a', c', m', d', y1, y2, y3, y4, y5⟩ := one_eq (M := M) T h R (fun t0 M0 => fX4_doAll_b71 1 (fX4_doAll_b22 1 n) M0 (nI u) t0)
  refine ⟨r, a', c', m', d', ?_, y2, y3.fr, y4, y5⟩
  rw [fX4_doAll_b22, if_neg (lit_nle (c := 60) (S := 60) rfl (by omega) (by decide)), up_same, t1, t5, if_neg (lp_in (n := 60) h t3 (by decide)), h5, if_pos z00, mw_up, klet, up_same, y1, b71_eq, nI_1, y3.2.2.2.1]
  by_cases z : r = 0
  · rw [if_pos z, if_pos z]
  · rw [if_neg z, if_neg z, stop_eq _ _ _ _ hn (by rw [mu_eq, upd_eq]; exact z)]
theorem cT {c' m' : kM1} {d' : Nat → Int32} {l p' : Nat} (T : TR c' (sD m' d') l p') (r v : Int32) (u : Int32) : TR (mu (mu c' 3 5 r) 3 6 v) (sD (mu m' 0 8 u) d') l p' :=
  T.cg (by rw [mu_eq, upd_ne (by decide), mu_eq, upd_ne (by decide)]) (by rw [mu_eq, upd_ne (by decide), mu_eq, upd_ne (by decide)]) (by rw [mu_ne (by decide), mu_ne (by decide)]) (by rw [sD_ne (by decide), mu_eq, upd_ne (by decide), sD_ne (by decide)]) (by rw [sD_ne (by decide), mu_eq, upd_ne (by decide), sD_ne (by decide)]) (by rw [sD_ne (by decide), mu_ne (by decide), sD_ne (by decide)])
theorem cT2 {c' m' : kM1} {d' : Nat → Int32} {l p' : Nat} (T : TR c' (sD m' d') l p') (r v : Int32) : TR (mu (mu c' 3 5 r) 3 6 v) (sD m' d') l p' :=
  T.cg (by rw [mu_eq, upd_ne (by decide), mu_eq, upd_ne (by decide)]) (by rw [mu_eq, upd_ne (by decide), mu_eq, upd_ne (by decide)]) (by rw [mu_ne (by decide), mu_ne (by decide)]) rfl rfl rfl
theorem fl_lp {M : kM2} {l : Nat} : ∀ (j p u n n' : Nat) (a c m : kM1) (d : Nat → Int32) (done : Nat), TR c (sD m d) l p → l ≤ p + j → u ≤ p → RX a d → c 3 5 = 0 → c 3 6 = nI done → done ≤ p → j + 1 < n → j + 1 < n' → ∃ a' c' m' d' res, fX4_doAll_b22 1 n (up (up M 1 a) 7 c) (nI u) = some (0, up (up M 1 a') 7 c') ∧ (fX7_faulty_b12 n' (sD m d) (-1000004) = bd (fX7_restores (sD m' d')) fun _ m6 => some (res, m6)) ∧ FR c c' m m' ∧ ((c' 3 5 = 0 ∧ res = -1000004 ∧ RX a' d' ∧ ∃ dn, dn ≤ 60 ∧ c' 3 6 = nI dn) ∨ (∃ rs p0, c' 3 5 = rs ∧ (rs = 1 ∨ rs = 2 ∨ rs = 3) ∧ c' 3 4 = nI p0 ∧ p0 < 60 ∧ res = nI p0 ∧ m' 0 8 = rs)) := by
  intro j
  induction j with
  | zero =>
    intro p u n n' a c m d done T hl hu R h5 h6 hd hn hn'
    obtain ⟨t1, t2, t3, t4, t5, t6, t7⟩ := id T
    obtain ⟨n, rfl⟩ : ∃ z, n = z + 1 := ⟨n - 1, by omega⟩
    obtain ⟨n', rfl⟩ : ∃ z, n' = z + 1 := ⟨n' - 1, by omega⟩
    refine ⟨a, c, m, d, -1000004, ?_, ?_, FR.rf c m, Or.inl ⟨h5, rfl, R, done, by omega, h6⟩⟩
    · rw [fX4_doAll_b22, up_same, t1, t5, if_pos (lp_out (by omega) (by omega)), ite_self]
    · rw [fX7_faulty_b12, t2, t6, if_pos (lp_out (by omega) (by omega))]
      rfl
  | succ j ih =>
    intro p u n n' a c m d done T hl hu R h5 h6 hd hn hn'
    obtain ⟨t1, t2, t3, t4, t5, t6, t7⟩ := id T
    obtain ⟨n, rfl⟩ : ∃ z, n = z + 1 := ⟨n - 1, by omega⟩
    obtain ⟨n', rfl⟩ : ∃ z, n' = z + 1 := ⟨n' - 1, by omega⟩
    by_cases h : p < l
    · obtain ⟨r, a1, c1, m1, d1, y1, y2, y3, y4, y5⟩ := turn_eq (M := M) (n := n) T h hu R h5 (by omega)
      rw [y1, fX7_faulty_b12, t2, t6, if_neg (lp_in (n := 60) h t3 (by decide)), if_pos (rfl : (-1000004 : Int32) = -1000004), klet, y2, bd_s, klet, sD_mu_ne _ _ _ _ (show (0 : Nat) ≠ 1 by decide), sD_ne (show (0 : Nat) ≠ 1 by decide), mu_eq, upd_eq]
      unfold fX7_faulty_b54
      have bad : (r = 1 ∨ r = 2 ∨ r = 3) → ∃ a' c' m' d' res, (if r = 0 then fX4_doAll_b22 1 n (up (up M 1 a1) 7 (mu (mu c1 3 5 r) 3 6 (c 3 6 + 1))) (nI (u + 1)) else some (0, up (up M 1 a1) 7 (mu c1 3 5 r))) = some (0, up (up M 1 a') 7 c') ∧ ((if r ≤ 0 then fX7_faulty_b12 n' (sD (mu m1 0 8 r) d1) (-1000004) else fX7_faulty_b12 n' (sD (mu m1 0 8 r) d1) (nI p)) = bd (fX7_restores (sD m' d')) fun _ m6 => some (res, m6)) ∧ FR c c' m m' ∧ ((c' 3 5 = 0 ∧ res = -1000004 ∧ RX a' d' ∧ ∃ dn, dn ≤ 60 ∧ c' 3 6 = nI dn) ∨ (∃ rs p0, c' 3 5 = rs ∧ (rs = 1 ∨ rs = 2 ∨ rs = 3) ∧ c' 3 4 = nI p0 ∧ p0 < 60 ∧ res = nI p0 ∧ m' 0 8 = rs)) := by
        intro hr
        have r0 : ¬ r = 0 := by rcases hr with z | z | z <;> rw [z] <;> decide
        have r1 : ¬ r ≤ 0 := by rcases hr with z | z | z <;> rw [z] <;> decide
        obtain ⟨n', rfl⟩ : ∃ z, n' = z + 1 := ⟨n' - 1, by omega⟩
        rw [if_neg r0, if_neg r1, fX7_faulty_b12, if_neg (neNF (show p < 100 by omega)), ite_self]
        exact ⟨a1, _, _, d1, nI p, rfl, rfl, (y3.tr (FR.c (by decide))).tr (FR.m (Or.inr rfl)), Or.inr ⟨r, p, by rw [mu_eq, upd_eq], hr, by rw [mu_eq, upd_ne (by decide)]; exact y4, by omega, rfl, by rw [mu_eq, upd_eq]⟩⟩
      rcases y5 with ⟨z, z1, p', z2, z3⟩ | z
      · subst z
        rw [if_pos z00, if_pos (show (0 : Int32) ≤ 0 by decide), h6, nI_1]
        obtain ⟨a', c', m', d', res, q1, q2, q3, q4⟩ := ih p' (u + 1) n n' a1 _ _ d1 (done + 1) (cT z3 0 (nI (done + 1)) 0) (by omega) (by omega) z1 (by rw [mu_eq, upd_ne (by decide), mu_eq, upd_eq]) (by rw [mu_eq, upd_eq]) (by omega) (by omega) (by omega)
        exact ⟨a', c', m', d', res, q1, q2, (((y3.tr (FR.c (by decide))).tr (FR.c (by decide))).tr (FR.m (Or.inr rfl))).tr q3, q4⟩
      · exact bad z
    · refine ⟨a, c, m, d, -1000004, ?_, ?_, FR.rf c m, Or.inl ⟨h5, rfl, R, done, by omega, h6⟩⟩
      · rw [fX4_doAll_b22, up_same, t1, t5, if_pos (lp_out (by omega) (by omega)), ite_self]
      · rw [fX7_faulty_b12, t2, t6, if_pos (lp_out (by omega) (by omega))]
        rfl
theorem pl_lp {M : kM2} {l : Nat} : ∀ (j p u n n' : Nat) (a c m : kM1) (d : Nat → Int32) (done : Nat), TR c (sD m d) l p → l ≤ p + j → u ≤ p → RX a d → c 3 5 = 0 → c 3 6 = nI done → done ≤ p → j + 1 < n → j + 1 < n' → ∀ M1, fX4_doAll_b22 1 n (up (up M 1 a) 7 c) (nI u) = some (0, M1) → M1 7 3 5 = 0 → ∃ m' d', fX7_play_b23 n' (sD m d) (nI done) = fX7_acted (sD m' d') (M1 7 3 6) ∧ RX (M1 1) d' ∧ FR c c m m' := by
  intro j
  induction j with
  | zero =>
    intro p u n n' a c m d done T hl hu R h5 h6 hd hn hn' M1 e1 e2
    obtain ⟨t1, t2, t3, t4, t5, t6, t7⟩ := id T
    obtain ⟨n, rfl⟩ : ∃ z, n = z + 1 := ⟨n - 1, by omega⟩
    obtain ⟨n', rfl⟩ : ∃ z, n' = z + 1 := ⟨n' - 1, by omega⟩
    rw [fX4_doAll_b22, up_same, t1, t5, if_pos (lp_out (by omega) (by omega)), ite_self] at e1
    have e3 : up (up M 1 a) 7 c = M1 := congrArg Prod.snd (Option.some.inj e1)
    subst e3
    refine ⟨m, d, ?_, by rw [up_ne _ _ (by decide), up_same]; exact R, FR.rf c m⟩
    rw [fX7_play_b23, t2, t6, if_pos (lp_out (by omega) (by omega)), bd_id, up_same, h6]
  | succ j ih =>
    intro p u n n' a c m d done T hl hu R h5 h6 hd hn hn' M1 e1 e2
    obtain ⟨t1, t2, t3, t4, t5, t6, t7⟩ := id T
    obtain ⟨n, rfl⟩ : ∃ z, n = z + 1 := ⟨n - 1, by omega⟩
    obtain ⟨n', rfl⟩ : ∃ z, n' = z + 1 := ⟨n' - 1, by omega⟩
    by_cases h : p < l
    · obtain ⟨r, a1, c1, m1, d1, y1, y2, y3, y4, y5⟩ := turn_eq (M := M) (n := n) T h hu R h5 (by omega)
      rw [y1] at e1
      rw [fX7_play_b23, t2, t6, if_neg (lp_in (n := 60) h t3 (by decide)), y2, bd_s]
      unfold fX7_play_b47
      rcases y5 with ⟨z, z1, p', z2, z3⟩ | z
      · subst z
        rw [if_pos z00, h6, nI_1] at e1
        obtain ⟨m', d', q1, q2, q3⟩ := ih p' (u + 1) n n' a1 _ m1 d1 (done + 1) (cT2 z3 0 (nI (done + 1))) (by omega) (by omega) z1 (by rw [mu_eq, upd_ne (by decide), mu_eq, upd_eq]) (by rw [mu_eq, upd_eq]) (by omega) (by omega) (by omega) M1 e1 e2
        rw [if_pos z00, klet, nI_1]
        refine ⟨m', d', q1, q2, ?_⟩
        obtain ⟨-, -, f3, f4⟩ := q3
        obtain ⟨-, -, g3, g4⟩ := y3
        exact ⟨fun _ _ _ => rfl, rfl, fun j h1 h2 h3 => (f3 j h1 h2 h3).trans (g3 j h1 h2 h3), fun k h1 h2 => (f4 k h1 h2).trans (g4 k h1 h2)⟩
      · have r0 : ¬ r = 0 := by rcases z with z | z | z <;> rw [z] <;> decide
        rw [if_neg r0] at e1
        have e3 : up (up M 1 a1) 7 (mu c1 3 5 r) = M1 := congrArg Prod.snd (Option.some.inj e1)
        subst e3
        rw [up_same, mu_eq, upd_eq] at e2
        exact absurd e2 r0
    · rw [fX4_doAll_b22, up_same, t1, t5, if_pos (lp_out (by omega) (by omega)), ite_self] at e1
      have e3 : up (up M 1 a) 7 c = M1 := congrArg Prod.snd (Option.some.inj e1)
      subst e3
      refine ⟨m, d, ?_, by rw [up_ne _ _ (by decide), up_same]; exact R, FR.rf c m⟩
      rw [fX7_play_b23, t2, t6, if_pos (lp_out (by omega) (by omega)), bd_id, up_same, h6]
def c0O (c : kM1) : kM1 := mu (mu (mu (mu c 3 3 0) 3 4 0) 3 5 0) 3 6 0
theorem c0_row {c : kM1} {j : Nat} (h : j ≠ 3) : c0O c j = c j := by
  unfold c0O
  rw [mu_ne h, mu_ne h, mu_ne h, mu_ne h]
theorem c0_3 (c : kM1) : c0O c 3 = upd (upd (upd (upd (c 3) 3 0) 4 0) 5 0) 6 0 := by
  unfold c0O
  rw [mu_eq, mu_eq, mu_eq, mu_eq]
theorem doAll_0 (M : kM2) (x : kM1) : fX4_doAll (up M 1 x) 1 = fX4_doAll_b22 1 kFu (up (up M 1 x) 7 (c0O (M 7))) (nI 0) := by
  have e : up M 1 x = up (up M 1 x) 7 (M 7) := by
    have h := up_self (up M 1 x) 7
    rw [up_ne _ _ (show (7 : Nat) ≠ 1 by decide)] at h
    exact h.symm
  rw [e]
  unfold fX4_doAll
  rw [mw_up, klet, mw_up, klet, mw_up, klet, mw_up, klet, nI_0, ← e]
  rfl
theorem TR.st0 {M : kM2} {m : kM1} {d : Nat → Int32} {l : Nat} (l1 : l ≤ 60) (l2 : M 7 3 2 = nI l) (l3 : m 0 6 = nI l) (l4 : ∀ k, k < l → M 7 4 k = m 5 k) : TR (c0O (M 7)) (sD (mu m 0 7 0) d) l 0 := by
  refine ⟨?_, ?_, l1, fun k hk => ?_, ?_, ?_, Nat.zero_le _⟩
  · rw [c0_3, upd_ne (by decide), upd_ne (by decide), upd_ne (by decide), upd_ne (by decide)]
    exact l2
  · rw [sD_ne (by decide), mu_eq, upd_ne (by decide)]
    exact l3
  · rw [c0_row (by decide), sD_ne (by decide), mu_ne (by decide)]
    exact l4 k hk
  · rw [c0_3, upd_ne (by decide), upd_ne (by decide), upd_ne (by decide), upd_eq]
    rfl
  · rw [sD_ne (by decide), mu_eq, upd_eq]
    rfl
/-- the first pass over the text, on the trial -/
theorem first_pass {M : kM2} {m : kM1} {d : Nat → Int32} (W : RW M m d) : ∃ x a' c' m' d' res, fX3_copyFrom M 1 0 = some (0, up M 1 x) ∧ RX x d ∧ fX4_doAll (up M 1 x) 1 = some (0, up (up M 1 a') 7 c') ∧ fX7_faulty (sD m d) = some (res, sD m' d') ∧ RW (up (up M 1 a') 7 c') m' d' ∧ (∀ k, k < 368 → d' k = d k) ∧ ((c' 3 5 = 0 ∧ res = -1000004 ∧ ∃ dn, dn ≤ 60 ∧ c' 3 6 = nI dn) ∨ (∃ rs p0, c' 3 5 = rs ∧ (rs = 1 ∨ rs = 2 ∨ rs = 3) ∧ c' 3 4 = nI p0 ∧ p0 < 60 ∧ res = nI p0 ∧ m' 0 8 = rs)) := by
  obtain ⟨W1, ⟨f, n, hf, hn, e1, e2, e3, W2⟩, ⟨l, l1, l2, l3, l4⟩⟩ := W
  obtain ⟨x, c1, c2⟩ := RX.copy (M := M) (i := 1) (i1 := 0) (by decide) W1
  have T0 : TR (c0O (M 7)) (sD (mu (lay m d) 0 7 0) d) l 0 := TR.st0 l1 l2 (by rw [lay_ne (by decide)]; exact l3) (fun k hk => by rw [lay_ne (by decide)]; exact l4 k hk)
  obtain ⟨a', c', m', d', res, q1, q2, ⟨f1, f2, f3, f4⟩, q4⟩ := fl_lp (M := M) l 0 0 kFu kFu x (c0O (M 7)) (mu (lay m d) 0 7 0) d 0 T0 (by omega) (Nat.le_refl _) c2 (by rw [c0_3, upd_ne (by decide), upd_eq]) (by rw [c0_3, upd_eq]; rfl) (Nat.le_refl _) (by unfold kFu; omega) (by unfold kFu; omega)
  have m3 : m' 3 = pre (m 3) d 368 := by rw [f3 3 (by decide) (by decide) (by decide), mu_ne (by decide), lay_3]
  have m2 : m' 2 = m 2 := by rw [f3 2 (by decide) (by decide) (by decide), mu_ne (by decide), lay_ne (by decide)]
  have m5 : m' 5 = m 5 := by rw [f3 5 (by decide) (by decide) (by decide), mu_ne (by decide), lay_ne (by decide)]
  have m04 : m' 0 4 = m 0 4 := by rw [f4 4 (by decide) (by decide), mu_eq, upd_ne (by decide), lay_ne (by decide)]
  have m06 : m' 0 6 = m 0 6 := by rw [f4 6 (by decide) (by decide), mu_eq, upd_ne (by decide), lay_ne (by decide)]
  have k1 : c' 1 = M 7 1 := by rw [f1 1 (by decide) (by decide), c0_row (by decide)]
  have k4 : c' 4 = M 7 4 := by rw [f1 4 (by decide) (by decide), c0_row (by decide)]
  have k32 : c' 3 2 = M 7 3 2 := by rw [f2, c0_3, upd_ne (by decide), upd_ne (by decide), upd_ne (by decide), upd_ne (by decide)]
  have hd : ∀ k, k < 368 → pre d' (m' 3) 368 k = d k := fun k hk => by rw [pre_lt hk, m3, pre_lt hk]
  refine ⟨x, a', c', m', pre d' (m' 3) 368, res, c1, c2, ?_, ?_, ⟨?_, ⟨f, n, hf, hn, ?_, ?_, by rw [m04]; exact e3, fun j hj => ?_⟩, ⟨l, l1, ?_, by rw [m06]; exact l3, fun k hk => ?_⟩⟩, hd, ?_⟩
  · rw [doAll_0]
    exact q1
  · unfold fX7_faulty
    rw [g_lays, bd_s, klet, sD_mu_ne _ _ _ _ (show (0 : Nat) ≠ 1 by decide), q2, g_rest, bd_s]
  · rw [up_ne _ _ (by decide), up_ne _ _ (by decide)]
    exact W1.cg hd
  · rw [up_same, k1]
    exact e1
  · rw [up_same, k1]
    exact e2
  · rw [up_ne _ _ (by omega), up_ne _ _ (by omega), m2]
    exact W2 j hj
  · rw [up_same, k32]
    exact l2
  · rw [up_same, k4, m5]
    exact l4 k hk
  · rcases q4 with ⟨z1, z2, -, z3⟩ | z
    · exact Or.inl ⟨z1, z2, z3⟩
    · exact Or.inr z
theorem top_fault {M : kM2} {m : kM1} {d : Nat → Int32} (W : RW M m d) (v : Int32) : ∃ r M' m' d', fX6_fault M v = some (r, M') ∧ fX7_fault (sD m d) v = some (r, sD m' d') ∧ RW M' m' d' := by
  unfold fX6_fault fX7_fault fX7_fault_b27
  rw [k_in, bd_s, g_in, bd_s]
  by_cases h : (0 : Int32).toInt ≤ v.toInt ∧ v.toInt ≤ (1 : Int32).toInt
  · obtain ⟨x, a', c', m', d', res, q1, -, q3, q4, q5, -, q6⟩ := first_pass W
    rw [if_pos h, if_neg n10, if_neg n10, q1, bd_s, q3, bd_s, q4, bd_s, up_same]
    rcases q6 with ⟨z1, z2, -⟩ | ⟨rs, p0, z1, z2, z3, z4, z5, z6⟩
    · rw [if_pos z1, if_pos z2, z2]
      exact ⟨_, _, _, _, rfl, rfl, q5⟩
    · have r0 : ¬ rs = 0 := by rcases z2 with z | z | z <;> rw [z] <;> decide
      rw [z1, if_neg r0, if_neg (show ¬ res = -1000004 by rw [z5]; exact neNF (show p0 < 100 by omega)), z3, z5, sD_ne (show (0 : Nat) ≠ 1 by decide), z6]
      by_cases hv : v = 0
      · rw [if_pos hv, if_pos hv]
        exact ⟨_, _, _, _, rfl, rfl, q5⟩
      · rw [if_neg hv, if_neg hv]
        exact ⟨_, _, _, _, rfl, rfl, q5⟩
  · rw [if_neg h, if_pos z00, if_pos z00]
    exact ⟨_, M, m, d, rfl, rfl, W⟩
theorem top_play {M : kM2} {m : kM1} {d : Nat → Int32} (W : RW M m d) : ∃ r M' m' d', fX6_play M = some (r, M') ∧ fX7_play (sD m d) = some (r, sD m' d') ∧ RW M' m' d' := by
  obtain ⟨x, a', c', m', d', res, q1, qx, q3, q4, q5, qd, q6⟩ := first_pass W
  unfold fX6_play fX7_play
  rw [q1, bd_s, q3, bd_s, q4, bd_s, up_same]
  rcases q6 with ⟨z1, z2, dn, z3, z4⟩ | ⟨rs, p0, z1, z2, z3, z4, z5, z6⟩
  · rw [z1, if_pos z00, if_pos z2, g_keeps, bd_s, klet, sD_mu_ne _ _ _ _ (show (0 : Nat) ≠ 1 by decide)]
    obtain ⟨-, -, ⟨l, l1, l2, l3, l4⟩⟩ := id q5
    obtain ⟨f, n, y, hf, hn, e1, e2, h1, hy⟩ := hold_eq q5
    have T0 : TR (c0O (M 7)) (sD (mu (kee m' d') 0 7 0) d') l 0 := by
      obtain ⟨-, -, ⟨l', m1, m2, m3, m4⟩⟩ := id W
      have k : l' = l := by
        have k32 : c' 3 2 = M 7 3 2 := by
          have g1 : fX4_doAll (up M 1 x) 1 = some (0, up (up M 1 a') 7 c') := q3
          rw [doAll_0] at g1
          obtain ⟨a2, c2, m2', d2, r2, s1, s2, ⟨f1, f2, f3, f4⟩, s4⟩ := fl_lp (M := M) l' 0 0 kFu kFu x (c0O (M 7)) (mu (lay m d) 0 7 0) d 0 (TR.st0 m1 m2 (by rw [lay_ne (by decide)]; exact m3) (fun k hk => by rw [lay_ne (by decide)]; exact m4 k hk)) (by omega) (Nat.le_refl _) qx (by rw [c0_3, upd_ne (by decide), upd_eq]) (by rw [c0_3, upd_eq]; rfl) (Nat.le_refl _) (by unfold kFu; omega) (by unfold kFu; omega)
          have e : up (up M 1 a2) 7 c2 = up (up M 1 a') 7 c' := congrArg Prod.snd (Option.some.inj (s1.symm.trans g1))
          have e7 : c2 = c' := by
            have := congrFun e 7
            rw [up_same, up_same] at this
            exact this
          rw [← e7, f2, c0_3, upd_ne (by decide), upd_ne (by decide), upd_ne (by decide), upd_ne (by decide)]
        rw [up_same, k32] at l2
        exact nI_inj (by omega) (by omega) (m2.symm.trans l2)
      subst k
      refine TR.st0 l1 m2 (by rw [kee_0]; exact l3) (fun k hk => ?_)
      rw [kee_5, ← l4 k hk, up_same]
      have g1 : fX4_doAll (up M 1 x) 1 = some (0, up (up M 1 a') 7 c') := q3
      rw [doAll_0] at g1
      obtain ⟨a2, c2, m2', d2, r2, s1, s2, ⟨f1, f2, f3, f4⟩, s4⟩ := fl_lp (M := M) l' 0 0 kFu kFu x (c0O (M 7)) (mu (lay m d) 0 7 0) d 0 (TR.st0 m1 m2 (by rw [lay_ne (by decide)]; exact m3) (fun k hk => by rw [lay_ne (by decide)]; exact m4 k hk)) (by omega) (Nat.le_refl _) qx (by rw [c0_3, upd_ne (by decide), upd_eq]) (by rw [c0_3, upd_eq]; rfl) (Nat.le_refl _) (by unfold kFu; omega) (by unfold kFu; omega)
      have e : up (up M 1 a2) 7 c2 = up (up M 1 a') 7 c' := congrArg Prod.snd (Option.some.inj (s1.symm.trans g1))
      have e7 : c2 = c' := by
        have := congrFun e 7
        rw [up_same, up_same] at this
        exact this
      rw [← e7, f1 4 (by decide) (by decide), c0_row (by decide)]
    have g1 : fX4_doAll (up M 1 x) 1 = some (0, up (up M 1 a') 7 c') := q3
    rw [doAll_0] at g1
    obtain ⟨m2, d2, p1, p2, ⟨-, -, p3, p4⟩⟩ := pl_lp (M := M) l 0 0 kFu kFu x (c0O (M 7)) (mu (kee m' d') 0 7 0) d' 0 T0 (by omega) (Nat.le_refl _) (qx.cg qd) (by rw [c0_3, upd_ne (by decide), upd_eq]) (by rw [c0_3, upd_eq]; rfl) (Nat.le_refl _) (by unfold kFu; omega) (by unfold kFu; omega) _ g1 (by rw [up_same]; exact z1)
    rw [nI_0] at p1
    rw [p1, h1, bd_s, up_same, z4]
    rw [up_ne _ _ (show (1 : Nat) ≠ 7 by decide), up_same] at p2
    obtain ⟨u, u1, u2⟩ := RX.copy (M := up (up (up M 1 a') 7 c') (2 + (f + n) % 5) y) (i := 0) (i1 := 1) (by decide) (d := d2) (by rw [up_ne _ _ (by omega), up_ne _ _ (by decide), up_same]; exact p2)
    rw [u1, bd_s]
    obtain ⟨M', m'', v1, v2, v3⟩ := keep_eq q5 (mk := m2) (by rw [p3 2 (by decide) (by decide) (by decide), mu_ne (by decide), kee_2]) (by rw [p3 4 (by decide) (by decide) (by decide), mu_ne (by decide), kee_4]) (by rw [p3 5 (by decide) (by decide) (by decide), mu_ne (by decide), kee_5]) (by rw [p4 4 (by decide) (by decide), mu_eq, upd_ne (by decide), kee_0]) (by rw [p4 6 (by decide) (by decide), mu_eq, upd_ne (by decide), kee_0]) hf hn e1 e2 hy (r := nI dn) (by rw [t_nI (by omega)]; omega) u2
    rw [up_ne _ _ (show (7 : Nat) ≠ 0 by decide), up_ne _ _ (show 7 ≠ 2 + (f + n) % 5 by omega), up_same, z4, bd_id]
    rw [up_ne _ _ (show (7 : Nat) ≠ 0 by decide), up_ne _ _ (show 7 ≠ 2 + (f + n) % 5 by omega), up_same] at v1
    exact ⟨_, M', m'', d2, v1, v2, v3⟩
  · have r0 : ¬ rs = 0 := by rcases z2 with z | z | z <;> rw [z] <;> decide
    rw [z1, if_neg r0, if_neg (show ¬ res = -1000004 by rw [z5]; exact neNF (show p0 < 100 by omega))]
    exact ⟨_, _, _, _, rfl, rfl, q5⟩
