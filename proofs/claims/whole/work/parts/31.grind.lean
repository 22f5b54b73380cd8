/-! grinding, and a whole step -/
theorem upd_cm (f : Nat → Int32) {k k' : Nat} (v u : Int32) (h : k ≠ k') : upd (upd f k v) k' u = upd (upd f k' u) k v := by
  funext q
  by_cases h1 : q = k'
  · subst h1
    rw [upd_eq, upd_ne (fun z => h z.symm), upd_eq]
  · rw [upd_ne h1]
    by_cases h2 : q = k
    · subst h2
      rw [upd_eq, upd_eq]
    · rw [upd_ne h2, upd_ne h2, upd_ne h1]
theorem mu_cm (m : kM1) (j : Nat) {k k' : Nat} (v u : Int32) (h : k ≠ k') : mu (mu m j k v) j k' u = mu (mu m j k' u) j k v := by
  rw [mu_rs, mu_rs, mu_rs, mu_rs, rs_eq, rs_eq, rs_rs, rs_rs, upd_cm _ _ _ h]
theorem mu_rs_cm (m : kM1) {j j' : Nat} (f : Nat → Int32) (k : Nat) (v : Int32) (h : j ≠ j') : mu (rs m j f) j' k v = rs (mu m j' k v) j f := by
  rw [mu_rs, mu_rs, rs_ne (fun z => h z.symm), rs_cm _ _ _ h]
theorem td_core {G C U T V : Int32} (g0 : 0 ≤ G.toInt) (g1 : G.toInt ≤ 200) (c0 : 0 ≤ C.toInt) (c1 : C.toInt ≤ 50) (q0 : 0 ≤ U.toInt) (q1 : U.toInt ≤ 20) (m9 : T = G * C / 100) (m10 : V = (G - T) * U / 100) : 0 ≤ T.toInt ∧ 0 ≤ V.toInt ∧ T.toInt + V.toInt ≤ G.toInt := by
  have x0 : 0 ≤ G.toInt * C.toInt := Int.mul_nonneg g0 c0
  have x1 : G.toInt * C.toInt ≤ G.toInt * 50 := Int.mul_le_mul_of_nonneg_left c1 g0
  have eT : T.toInt = G.toInt * C.toInt / 100 := by
    have e : (G * C).toInt = G.toInt * C.toInt := i_mul (by omega) (by omega)
    rw [m9, i_div (by rw [e]; exact x0) (by decide), e]
    rfl
  have y0 : 0 ≤ T.toInt := by rw [eT]; exact Int.ediv_nonneg x0 (by decide)
  have y1 : T.toInt ≤ G.toInt := by omega
  have eW : (G - T).toInt = G.toInt - T.toInt := i_sub (by omega) (by omega)
  have w0 : 0 ≤ (G - T).toInt * U.toInt := Int.mul_nonneg (by omega) q0
  have w1 : (G - T).toInt * U.toInt ≤ (G - T).toInt * 20 := Int.mul_le_mul_of_nonneg_left q1 (by omega)
  have eV : V.toInt = (G - T).toInt * U.toInt / 100 := by
    have e : ((G - T) * U).toInt = (G - T).toInt * U.toInt := i_mul (by omega) (by omega)
    rw [m10, i_div (by rw [e]; exact w0) (by decide), e]
    rfl
  have v0 : 0 ≤ V.toInt := by rw [eV]; exact Int.ediv_nonneg w0 (by decide)
  refine ⟨y0, v0, ?_⟩
  omega
/-- one sack changes, and may leave the stones, if they are free -/
theorem RM.sk2 {a : kM1} {d : Nat → Int32} {K F S t : Nat} (R : RM a d K F S t) {a' : kM1} {d' : Nat → Int32} {s : Nat} (hs : s < S) (ha : ∀ j, j ≠ 20 + s → a' j = a j) (hd : ∀ k, k < 56 + 13 * s ∨ 56 + 13 * s + 12 ≤ k → d' k = d k) (h0 : d' (56 + 13 * s) = d (56 + 13 * s)) (h24 : d 24 = -1) (hS : RSV (a' (20 + s)) (wS d' s) (wK d) K F t) : RM a' d' K F S t := by
  have R' := R
  obtain ⟨⟨l1, l2, l3, l4⟩, hn, hb, hA, hK, hF, hR⟩ := R'
  refine R.fr s (fun j _ _ h => ha j h) (fun k h => hd k (by omega)) (fun k h1 h2 h3 => hd k (by omega)) l3 (fun j h _ => h) ?_ ?_ (fun f q => ?_) (fun _ => RSV.cg hS (fun w _ => rfl) (fun w _ => rfl) (fun k w h1 h2 => hd _ (by omega)) (Nat.le_refl _) (Nat.le_refl _) (Nat.le_refl _))
  · unfold RN at hn ⊢
    rw [ha 0 (by omega), hd 17 (by omega), hd 18 (by omega), hd 19 (by omega), hd 20 (by omega), hd 21 (by omega), hd 22 (by omega), hd 23 (by omega), hd 24 (by omega), hd 25 (by omega), hd 26 (by omega), hd 27 (by omega), hd 28 (by omega), hd 29 (by omega)]
    exact hn
  · obtain ⟨b1, b2, b3, b4, b5⟩ := hb
    exact ⟨by rw [hd 17 (by omega)]; exact b1, by rw [hd 18 (by omega)]; exact b2, Or.inl (by rw [hd 24 (by omega)]; exact h24), by rw [hd 23 (by omega)]; exact b4, by rw [hd 23 (by omega)]; exact b5⟩
  · have z := hF f q
    unfold RF at z ⊢
    rw [ha (12 + f) (by omega), hd (48 + f) (by omega), cnt_congr f (fun j hj => ?_)]
    · exact z
    · refine ⟨?_, hd _ (by omega)⟩
      by_cases h : j = s
      · subst h
        exact h0
      · exact hd _ (by omega)
theorem k_addG (a : kM1) (j : Nat) (n : Int32) {g T V : Int32} (hg : a j 7 + n = g) (hT : g * a j 8 / 100 = T) (hV : (g - T) * a j 3 / 100 = V) : fX5_addGround a j n = some (0, rs a j (if g < a j 5 then upd (upd (upd (a j) 7 g) 9 T) 10 V else upd (upd (upd (upd (a j) 7 g) 9 T) 10 V) 6 2)) := by
  unfold fX5_addGround
  simp only [klet, mu_rs, rs_eq, rs_rs]
  rw [hg, upd_eq, upd_ne (show 8 ≠ 7 by decide), hT, upd_ne (show 7 ≠ 9 by decide), upd_eq, upd_eq, upd_ne (show 3 ≠ 9 by decide), upd_ne (show 3 ≠ 7 by decide), hV, upd_ne (show 7 ≠ 10 by decide), upd_ne (show 7 ≠ 9 by decide), upd_eq, upd_ne (show 5 ≠ 10 by decide), upd_ne (show 5 ≠ 9 by decide), upd_ne (show 5 ≠ 7 by decide)]
  by_cases h : g < a j 5
  · rw [if_pos h, if_pos h]
  · rw [if_neg h, if_neg h]
theorem gs_key {a : kM1} {d : Nat → Int32} {K F S t : Nat} (R : RM a d K F S t) (m : kM1) {s : Nat} (hs : s < S) (h3 : d (56 + 13 * s + 3) = 1) (hg : (d 23).toInt + 200 ≤ 200 * (t : Int)) {n : Int32} (hn1 : 1 ≤ n.toInt) (hn2 : n.toInt ≤ (d (56 + 13 * s + 2)).toInt - (d (56 + 13 * s + 4)).toInt) : ∃ a' d', (bd (fX5_addGround a (20 + s) n) fun r6 m7 => k_let (mu m7 0 17 ((m7 0 17) + n)) fun m8 => if (m8 (20 + s) 6) = 2 then k_let (mu m8 0 12 (-1)) fun m10 => some (0, m10) else some (0, m8)) = some (0, a') ∧ fX7_grinds_b183 (sD m d) (nI s) n = some (0, sD m d') ∧ RM a' d' K F S t ∧ (d 23).toInt ≤ (d' 23).toInt ∧ no3 d d' := by
  have hS := R.S24
  obtain ⟨so, ⟨e2, e3, e4, e5, e6, e10, e11⟩, ⟨m9, m10⟩, hp, ⟨b2, b3, b4, b5, b6, b10, b11⟩, ⟨t0, t1, t2, t3⟩⟩ := RS_iff.mp (R.s s hs)
  obtain ⟨-, ⟨k, hk, -, -, -, r3, -⟩⟩ := R.so hs
  obtain ⟨-, -, -, -, -, q0, q1, -⟩ := R.k k hk
  rw [← r3] at q0 q1
  have g23 := R.b.2.2.2.1
  have h2a : 1 ≤ (d (56 + 13 * s + 2)).toInt := b2.1
  have h2b : (d (56 + 13 * s + 2)).toInt ≤ 200 := b2.2
  have h4a : 0 ≤ (d (56 + 13 * s + 4)).toInt := b4.1
  have e4' : a (20 + s) 7 = d (56 + 13 * s + 4) := e4
  have e5' : a (20 + s) 8 = d (56 + 13 * s + 5) := e5
  have e2' : a (20 + s) 5 = d (56 + 13 * s + 2) := e2
  have e3' : a (20 + s) 6 = d (56 + 13 * s + 3) := e3
  have e17 : a 0 17 = d 23 := R.n.2.2.2.2.2.2.2.2.2.2.2.2
  have eg : (d (56 + 13 * s + 4) + n).toInt = (d (56 + 13 * s + 4)).toInt + n.toInt := i_add (by omega) (by omega)
  have ev : (d 23 + n).toInt = (d 23).toInt + n.toInt := by
    have := R.lim.2.2.2
    exact i_add (by omega) (by omega)
  have es : (d (56 + 13 * s + 2) - (d (56 + 13 * s + 4) + n)).toInt = (d (56 + 13 * s + 2)).toInt - ((d (56 + 13 * s + 4)).toInt + n.toInt) := by rw [i_sub, eg] <;> rw [eg] <;> omega
  have z6 : wS d s 6 = 0 := (t3 (by show (d (56 + 13 * s + 3)).toInt ≤ 1; rw [h3]; decide)).1
  have z10 : wS d s 10 = 0 := (t3 (by show (d (56 + 13 * s + 3)).toInt ≤ 1; rw [h3]; decide)).2
  rw [k_addG a (20 + s) n (g := d (56 + 13 * s + 4) + n) (T := (d (56 + 13 * s + 4) + n) * d (56 + 13 * s + 5) / 100) (V := ((d (56 + 13 * s + 4) + n) - (d (56 + 13 * s + 4) + n) * d (56 + 13 * s + 5) / 100) * a (20 + s) 3 / 100) (by rw [e4']) (by rw [e5']) rfl, bd_s, klet, rs_ne (show 0 ≠ 20 + s by omega), e17, mu_ne (show 20 + s ≠ 0 by omega), rs_eq, e2']
  unfold fX7_grinds_b183
  rw [g_of4 m d (by omega), bd_s, g_put4 m d _ (by omega), bd_s, sD_1, upd_ne (show 23 ≠ 56 + 13 * s + 4 by omega), sD_mu, klet (sD m (upd (upd d (56 + 13 * s + 4) (d (56 + 13 * s + 4) + n)) 23 (d 23 + n))), g_grain _ _ (by omega), bd_s, upd_ne (show 56 + 13 * s + 3 ≠ 23 by omega), upd_ne (show 56 + 13 * s + 3 ≠ 56 + 13 * s + 4 by omega), upd_ne (show 56 + 13 * s + 2 ≠ 23 by omega), upd_ne (show 56 + 13 * s + 2 ≠ 56 + 13 * s + 4 by omega), upd_ne (show 56 + 13 * s + 4 ≠ 23 by omega), upd_eq, h3, if_neg (show ¬ (1 : Int32) = 3 by decide)]
  have tc := td_core (G := d (56 + 13 * s + 4) + n) (C := d (56 + 13 * s + 5)) (U := a (20 + s) 3) (by omega) (by omega) b5.1 b5.2 q0 q1 rfl rfl
  generalize hG : d (56 + 13 * s + 4) + n = g at *
  have xb4 : g.toInt ≤ (wS d s 2).toInt := by
    show g.toInt ≤ (d (56 + 13 * s + 2)).toInt
    omega
  have xg0 : 0 ≤ g.toInt := by omega
  by_cases h : g < d (56 + 13 * s + 2)
  · have h' : g.toInt < (d (56 + 13 * s + 2)).toInt := by rw [i_lt] at h; exact h
    rw [if_pos h, upd_ne (show 6 ≠ 10 by decide), upd_ne (show 6 ≠ 9 by decide), upd_ne (show 6 ≠ 7 by decide), e3', h3, if_neg n1e2, if_neg (show ¬ d (56 + 13 * s + 2) - g = 0 from fun z => by rw [z, t_lit0] at es; omega)]
    refine ⟨_, _, rfl, rfl, RM.gr (d := upd d (56 + 13 * s + 4) g) (a := rs a (20 + s) (upd (upd (upd (a (20 + s)) 7 g) 9 (g * d (56 + 13 * s + 5) / 100)) 10 ((g - g * d (56 + 13 * s + 5) / 100) * a (20 + s) 3 / 100))) (R.sk hs (fun j hj => rs_ne hj) (fun k hk => upd_ne (by omega)) (upd_ne (by omega)) (fun y => by rw [upd_ne (by omega)]; exact y) ?_) (by rw [ev]; omega) (by rw [ev]; omega), by rw [upd_eq, ev]; omega, fun j hj => by rw [upd_ne (by omega), upd_ne (by omega)] at hj; exact hj⟩
    rw [rs_eq, wS_up]
    have x11 : (wS d s 6).toInt + (wS d s 10).toInt ≤ g.toInt - (g * d (56 + 13 * s + 5) / 100).toInt - ((g - g * d (56 + 13 * s + 5) / 100) * a (20 + s) 3 / 100).toInt := by
      rw [z6, z10, t_lit0]
      omega
    have x3 : ¬ wS d s 3 = 0 := fun z => n10 (h3.symm.trans z)
    have x32 : ¬ wS d s 3 = 2 := fun z => n1e2 (h3.symm.trans z)
    exact ⟨so, ⟨e2, e3, rfl, e5, e6, e10, e11⟩, ⟨rfl, rfl⟩, hp, ⟨b2, b3, ⟨xg0, xb4⟩, b5, b6, b10, x11⟩, ⟨fun z => absurd z x3, fun _ => h', fun z => absurd z x32, t3⟩⟩
  · have h' : g.toInt = (d (56 + 13 * s + 2)).toInt := by rw [i_lt] at h; omega
    rw [if_neg h, upd_eq, if_pos (rfl : (2 : Int32) = 2), klet, if_pos (show d (56 + 13 * s + 2) - g = 0 from i_eq.mpr (by rw [es, t_lit0]; omega)), g_put3 _ _ _ (by omega), bd_s, klet, sD_mu]
    rw [mu_cm _ 0 _ _ (show 17 ≠ 12 by decide), mu_rs_cm a _ 12 _ (show 20 + s ≠ 0 by omega), upd_cm _ _ _ (show 56 + 13 * s + 3 ≠ 24 by omega), upd_cm _ _ _ (show 23 ≠ 24 by decide), upd_cm d _ _ (show 56 + 13 * s + 4 ≠ 24 by omega), upd_cm _ _ _ (show 23 ≠ 56 + 13 * s + 3 by omega)]
    have R1 := R.off
    refine ⟨_, _, rfl, rfl, RM.gr (R1.sk2 hs (fun j hj => rs_ne hj) (fun k hk => by rw [upd_ne (by omega), upd_ne (by omega)]) (by rw [upd_ne (by omega), upd_ne (by omega)]) (upd_eq _ _ _) ?_) (by rw [ev]; omega) (by rw [ev]; omega), by rw [upd_eq, ev]; omega, fun j hj => by
      rw [upd_ne (show 56 + 13 * j + 3 ≠ 23 by omega)] at hj
      by_cases y : j = s
      · subst y
        rw [upd_eq] at hj
        exact absurd hj (by decide)
      · rw [upd_ne (by omega), upd_ne (by omega), upd_ne (by omega)] at hj
        exact hj⟩
    rw [rs_eq, wS_up, wS_up, wS_lo (show 24 < 56 by decide)]
    have x11 : (wS d s 6).toInt + (wS d s 10).toInt ≤ g.toInt - (g * d (56 + 13 * s + 5) / 100).toInt - ((g - g * d (56 + 13 * s + 5) / 100) * a (20 + s) 3 / 100).toInt := by
      rw [z6, z10, t_lit0]
      omega
    have x0 : (0 : Int) ≤ (2 : Int32).toInt := by decide
    have x1 : (2 : Int32).toInt ≤ 3 := by decide
    have x2 : ¬ (2 : Int32).toInt ≤ 1 := by decide
    have x20 : ¬ (2 : Int32) = 0 := by decide
    have x21 : ¬ (2 : Int32) = 1 := by decide
    have xe : g = wS d s 2 := i_eq.mpr h'
    have new : RSV (upd (upd (upd (upd (a (20 + s)) 7 g) 9 (g * d (56 + 13 * s + 5) / 100)) 10 ((g - g * d (56 + 13 * s + 5) / 100) * a (20 + s) 3 / 100)) 6 2) (upd (upd (wS d s) 4 g) 3 2) (wK d) K F t := ⟨so, ⟨e2, rfl, rfl, e5, e6, e10, e11⟩, ⟨rfl, rfl⟩, hp, ⟨b2, ⟨x0, x1⟩, ⟨xg0, xb4⟩, b5, b6, b10, x11⟩, ⟨fun z => absurd z x20, fun z => absurd z x21, fun _ => xe, fun z => absurd z x2⟩⟩
    exact RSV.cg new (fun _ _ => rfl) (fun _ _ => rfl) (fun k w h1 h2 => upd_ne (by omega)) (Nat.le_refl _) (Nat.le_refl _) (Nat.le_refl _)
theorem gsack_eq {a : kM1} {d : Nat → Int32} {K F S t : Nat} (R : RM a d K F S t) (m : kM1) {s k : Nat} (hs : s < S) (h3 : d (56 + 13 * s + 3) = 1) (hk : k < K) (r2 : a (20 + s) 2 = d (30 + 3 * k)) (hg : (d 23).toInt + 200 ≤ 200 * (t : Int)) (x : Int32) : ∃ a' d', fX3_grindSack a (20 + s) x = some (0, a') ∧ (if 1 ≤ x / d (30 + 3 * k) then fX7_grinds_b161 (sD m d) (nI s) (x / d (30 + 3 * k)) else fX7_grinds_b161 (sD m d) (nI s) 1) = some (0, sD m d') ∧ RM a' d' K F S t ∧ (d 23).toInt ≤ (d' 23).toInt ∧ no3 d d' := by
  have hS := R.S24
  have e := R.se hs
  obtain ⟨-, -, -, c1, c2, -⟩ := R.k k hk
  obtain ⟨b2, -, b4, -⟩ := R.sb hs
  have t1 : (d (56 + 13 * s + 4)).toInt < (d (56 + 13 * s + 2)).toInt := (R.st hs).2.1 h3
  have eq : (d (56 + 13 * s + 2) - d (56 + 13 * s + 4)).toInt = (d (56 + 13 * s + 2)).toInt - (d (56 + 13 * s + 4)).toInt := i_sub (by omega) (by omega)
  have key : ∀ y : Int32, 1 ≤ y.toInt → ∃ a' d', (k_let (if d (56 + 13 * s + 2) - d (56 + 13 * s + 4) < y then d (56 + 13 * s + 2) - d (56 + 13 * s + 4) else y) fun v5 => bd (fX5_addGround a (20 + s) v5) fun r6 m7 => k_let (mu m7 0 17 ((m7 0 17) + v5)) fun m8 => if (m8 (20 + s) 6) = 2 then k_let (mu m8 0 12 (-1)) fun m10 => some (0, m10) else some (0, m8)) = some (0, a') ∧ fX7_grinds_b161 (sD m d) (nI s) y = some (0, sD m d') ∧ RM a' d' K F S t ∧ (d 23).toInt ≤ (d' 23).toInt ∧ no3 d d' := by
    intro y hy
    unfold fX7_grinds_b161
    rw [klet, g_grain m d (by omega), bd_s, g_grain m d (by omega), h3, if_neg (show ¬ (1 : Int32) = 3 by decide), bd_s]
    by_cases h : d (56 + 13 * s + 2) - d (56 + 13 * s + 4) < y
    · have h' : (d (56 + 13 * s + 2) - d (56 + 13 * s + 4)).toInt < y.toInt := by rw [i_lt] at h; exact h
      rw [if_pos h, if_neg (show ¬ y ≤ d (56 + 13 * s + 2) - d (56 + 13 * s + 4) by rw [i_le]; omega)]
      exact gs_key R m hs h3 hg (by omega) (by omega)
    · have h' : ¬ (d (56 + 13 * s + 2) - d (56 + 13 * s + 4)).toInt < y.toInt := by rw [i_lt] at h; exact h
      rw [if_neg h, if_pos (show y ≤ d (56 + 13 * s + 2) - d (56 + 13 * s + 4) by rw [i_le]; omega)]
      exact gs_key R m hs h3 hg (by omega) (by omega)
  unfold fX3_grindSack
  rw [r2, k_quot a x _ (by omega), bd_s, k_grain e, bd_s, h3, if_neg (show ¬ (1 : Int32) = 3 by decide)]
  by_cases h : 1 ≤ x / d (30 + 3 * k)
  · have h' : 1 ≤ (x / d (30 + 3 * k)).toInt := by rw [i_le] at h; exact h
    rw [if_pos h, if_neg (show ¬ x / d (30 + 3 * k) < 1 from fun z => by rw [i_lt] at z; have : (1 : Int32).toInt = 1 := rfl; omega)]
    exact key _ h'
  · rw [if_neg h, if_pos (show x / d (30 + 3 * k) < 1 by rw [i_le] at h; rw [i_lt]; omega)]
    exact key 1 (by decide)
theorem work_eq {a : kM1} {d : Nat → Int32} {K F S t : Nat} (R : RM a d K F S t) (m : kM1) {s : Nat} (hs : s < S) (e24 : d 24 = nI s) (hg : (d 23).toInt + 200 ≤ 200 * (t : Int)) (sea hd u : Int32) : ∃ a' d', fX3_grind_b70 sea a hd u = some (0, a') ∧ fX7_grinds_b97 (sD m d) hd u = some (0, sD m d') ∧ RM a' d' K F S t ∧ (d 23).toInt ≤ (d' 23).toInt ∧ no3 d d' := by
  have hS := R.S24
  have l1 := R.lim.1
  have R1 := (R.vo (d 19 - u)).us (d 22 + u)
  have h3 : d (56 + 13 * s + 3) = 1 := by
    rcases R.b.2.2.1 with z | ⟨s', q1, q2, q3⟩
    · have := (z.symm.trans e24)
      rw [i_eq, t_nI (by omega), t_m1] at this
      omega
    · have := nI_inj (by omega) (by omega) (q2.symm.trans e24)
      subst this
      exact q3
  obtain ⟨-, ⟨k, hk, k1, k2, r2, -⟩⟩ := R.so hs
  obtain ⟨-, -, -, c1, c2, -⟩ := R.k k hk
  have e12 : a 0 12 = nI s := R.n.2.2.2.2.2.2.2.1.trans e24
  unfold fX3_grind_b70 fX7_grinds_b97
  rw [e12, k_hasSack a _ (by omega) R.e7, bd_s, if_pos (show 0 ≤ (nI s).toInt ∧ (nI s).toInt < (S : Int) by rw [t_nI (by omega)]; omega), if_neg n10, klet, klet, mu_eq, mu_eq, upd_ne (show 16 ≠ 9 by decide), upd_ne (show 12 ≠ 16 by decide), upd_ne (show 12 ≠ 9 by decide), upd_ne (show 11 ≠ 16 by decide), upd_ne (show 11 ≠ 9 by decide), e12, if_pos (inb_nI (show s < 24 by omega) (by decide)), c_nI (by omega), R.n.2.2.2.2.1, R.n.2.2.2.2.2.2.2.2.2.2.2.1, R.n.2.2.2.2.2.2.1]
  rw [sD_1, e24, klet, klet, sD_mu, sD_1, upd_ne (show 22 ≠ 19 by decide), klet, sD_mu, g_of1 _ _ (by omega), bd_s, upd_ne (show 56 + 13 * s + 1 ≠ 22 by omega), upd_ne (show 56 + 13 * s + 1 ≠ 19 by omega), k2, g_hard _ _ (show k < 6 by omega), bd_s, upd_ne (show 30 + 3 * k ≠ 22 by omega), upd_ne (show 30 + 3 * k ≠ 19 by omega), if_pos (show ¬ d (30 + 3 * k) = 0 from fun z => by rw [z, t_lit0] at c1; omega), klet, sD_1, upd_ne (show 18 ≠ 22 by decide), upd_ne (show 18 ≠ 19 by decide)]
  have G := gsack_eq R1 m (s := s) (k := k) hs (by rw [upd_ne (by omega), upd_ne (by omega)]; exact h3) hk (by rw [mu_ne (by omega), mu_ne (by omega), upd_ne (by omega), upd_ne (by omega)]; exact r2) (by rw [upd_ne (by omega), upd_ne (by omega)]; exact hg) (d 18 * hd)
  obtain ⟨a', d', g1, g2, g3, g4⟩ := G
  rw [upd_ne (show 30 + 3 * k ≠ 22 by omega), upd_ne (show 30 + 3 * k ≠ 19 by omega)] at g2
  rw [upd_ne (show 23 ≠ 22 by decide), upd_ne (show 23 ≠ 19 by decide)] at g4
  exact ⟨a', d', by rw [g1]; rfl, g2, g3, g4.1, fun j hj => by
    have y := g4.2 j hj
    rw [upd_ne (by omega), upd_ne (by omega)] at y
    exact y⟩
theorem grind_eq {a : kM1} {d : Nat → Int32} {K F S t : Nat} (R : RM a d K F S t) (m : kM1) (sea : Int32) (hsea : sea = seaV d (d 26)) (hg : (d 23).toInt + 200 ≤ 200 * (t : Int)) : ∃ a' d', fX3_grind a sea = some (0, a') ∧ fX7_grinds (sD m d) = some (0, sD m d') ∧ RM a' d' K F S t ∧ (d 23).toInt ≤ (d' 23).toInt ∧ no3 d d' := by
  have hS := R.S24
  have triv : ∃ a' d', some ((0 : Int32), a) = some ((0 : Int32), a') ∧ some ((0 : Int32), sD m d) = some ((0 : Int32), sD m d') ∧ RM a' d' K F S t ∧ (d 23).toInt ≤ (d' 23).toInt ∧ no3 d d' := ⟨a, d, rfl, rfl, R, Int.le_refl _, fun j hj => hj⟩
  have e12 : a 0 12 = d 24 := R.n.2.2.2.2.2.2.2.1
  unfold fX3_grind fX7_grinds
  rw [k_level R, bd_s, klet, klet, g_head R, bd_s, ← hsea, klet, R.n.2.2.2.2.2.2.1, R.n.2.2.2.2.1, sD_1, (R.a.1 7 (by decide)).1, (R.a.1 6 (by decide)).1]
  by_cases h1 : d 18 = 0
  · rw [if_pos h1, if_pos h1]
    exact triv
  · rw [if_neg h1, if_neg h1]
    by_cases h2 : d 19 / d 0 - sea ≤ 0
    · rw [if_pos h2, if_pos h2]
      exact triv
    · rw [if_neg h2, if_neg h2]
      by_cases h3 : d 19 / d 0 - sea < d 6
      · rw [if_pos h3, if_pos h3]
        exact triv
      · rw [if_neg h3, if_neg h3]
        by_cases h4 : d 19 < d 18 * d 7
        · rw [if_pos h4, if_neg (show ¬ d 18 * d 7 ≤ d 19 from fun z => by rw [i_lt] at h4; rw [i_le] at z; omega)]
          exact triv
        · rw [if_neg h4, if_pos (show d 18 * d 7 ≤ d 19 by rw [i_lt] at h4; rw [i_le]; omega), e12, k_hasSack a _ (by omega) R.e7, bd_s]
          rcases R.b.2.2.1 with h5 | ⟨s, hs, h5, -⟩
          · rw [h5, if_neg (show ¬ (0 ≤ (-1 : Int32).toInt ∧ (-1 : Int32).toInt < (S : Int)) from fun z => by rw [t_m1] at z; omega), if_pos z00, if_pos (rfl : (-1 : Int32) = -1)]
            obtain ⟨c, n1, n2⟩ := g_none m d hS R.e29
            rw [n1, bd_s]
            rcases first_eq R m with ⟨f1, f2⟩ | ⟨f, hf, f1, f2, f3⟩
            · have ec : c = 0 := n2.mpr f1
              rw [f2, bd_s, ec, if_pos z00]
              unfold fX3_putOnStones
              rw [k_hasSack a _ (by omega) R.e7, bd_s, if_neg (show ¬ (0 ≤ (-1 : Int32).toInt ∧ (-1 : Int32).toInt < (S : Int)) from fun z => by rw [t_m1] at z; omega), if_pos z00, bd_s]
              unfold fX3_grind_b70
              rw [e12, h5, k_hasSack a _ (by omega) R.e7, bd_s, if_neg (show ¬ (0 ≤ (-1 : Int32).toInt ∧ (-1 : Int32).toInt < (S : Int)) from fun z => by rw [t_m1] at z; omega), if_pos z00]
              exact triv
            · have ec : ¬ c = 0 := fun z => n2.mp z f hf f1
              rw [f2, bd_s, if_neg ec]
              obtain ⟨a1, d1, p1, p2, p3, p4, p5, p6⟩ := comes_eq R m hf f1
              unfold fX7_grinds_b77
              rw [p1, bd_s, sD_1, h5, if_pos (rfl : (-1 : Int32) = -1), f3, bd_s, p2, bd_s]
              have W := work_eq p3 m hf p4 (by rw [p5 23 (by decide)]; exact hg) sea (d 19 / d 0 - sea) (d 18 * d 7)
              rw [p5 23 (by decide)] at W
              obtain ⟨a', d', w1, w2, w3, w4, w5⟩ := W
              exact ⟨a', d', w1, w2, w3, w4, fun j hj => p6 j (w5 j hj)⟩
          · rw [h5, if_pos (show 0 ≤ (nI s).toInt ∧ (nI s).toInt < (S : Int) by rw [t_nI (by omega)]; omega), if_neg n10, if_neg (show ¬ nI s = -1 from fun z => by rw [i_eq, t_nI (by omega), t_m1] at z; omega)]
            unfold fX7_grinds_b77
            rw [sD_1, h5, if_neg (show ¬ nI s = -1 from fun z => by rw [i_eq, t_nI (by omega), t_m1] at z; omega)]
            exact work_eq R m hs h5 hg sea (d 19 / d 0 - sea) (d 18 * d 7)
theorem rest_eq {a : kM1} {d : Nat → Int32} {K F S t : Nat} (R : RM a d K F S t) (m : kM1) (hg : (d 23).toInt + 200 ≤ 200 * (t : Int)) : ∃ a' d', fX3_step_b24 a = some (0, a') ∧ fX7_goes_b28 (sD m d) = some (0, sD m d') ∧ RM a' d' K F S t ∧ (d 23).toInt ≤ (d' 23).toInt ∧ no3 d d' := by
  unfold fX3_step_b24 fX7_goes_b28
  have e8 : a 0 8 = d 26 := R.n.2.2.2.1.1.trans R.n.2.2.2.1.2.symm
  rw [k_sea R, bd_s, e8]
  obtain ⟨a1, d1, p1, p2, p3, p4⟩ := flowIn_eq R m (seaV d (d 26)) rfl
  have s1 : seaV d (d 26) = seaV d1 (d1 26) := by rw [p4 26 (by decide), seaV_cg _ (fun k hk => p4 k (by omega))]
  obtain ⟨a2, d2, q1, q2, q3, q4⟩ := leakOut_eq p3 m (seaV d (d 26)) s1
  have s2 : seaV d (d 26) = seaV d2 (d2 26) := by rw [q4 26 (by decide), seaV_cg (d := d1) _ (fun k hk => q4 k (by omega))]; exact s1
  have e23 : d2 23 = d 23 := by rw [q4 23 (by decide), p4 23 (by decide)]
  obtain ⟨a3, d3, r1, r2, r3, r4⟩ := grind_eq q3 m (seaV d (d 26)) s2 (by rw [e23]; exact hg)
  rw [e23] at r4
  exact ⟨a3, d3, by rw [p1, bd_s, q1, bd_s, r1, bd_s], by rw [p2, q2, bd_s, r2, bd_s], r3, r4.1, fun j hj => by
    have y := r4.2 j hj
    rw [q4 _ (by omega), p4 _ (by omega)] at y
    exact y⟩
theorem step_eq {a : kM1} {d : Nat → Int32} {K F S t : Nat} (R : RM a d K F S t) (m : kM1) (ht : t < 100000) : ∃ a' d', fX3_step a = some (0, a') ∧ fX7_goes (sD m d) = some (0, sD m d') ∧ RM a' d' K F S (t + 1) ∧ (d 23).toInt ≤ (d' 23).toInt ∧ no3 d d' := by
  have R1 := R.tick ht
  have hg : (upd d 26 (nI (t + 1)) 23).toInt + 200 ≤ 200 * ((t + 1 : Nat) : Int) := by
    rw [upd_ne (by decide)]
    have := R.b.2.2.2.2
    omega
  unfold fX3_step fX7_goes
  rw [R.n.2.2.2.1.1, nI_1, klet, sD_1, R.n.2.2.2.1.2, nI_1, klet, sD_mu, sD_1, upd_eq, mu_eq, upd_eq]
  by_cases h : nI (t + 1) - nI (t + 1) / 96 * 96 = 0
  · rw [if_pos h, if_pos h]
    obtain ⟨a1, d1, p1, p2, p3, p4⟩ := falls_eq R1 m
    rw [p1, bd_s, p2, bd_s]
    obtain ⟨a2, d2, q1, q2, q3, q4⟩ := rest_eq p3 m (by rw [p4 23 (by decide)]; exact hg)
    rw [p4 23 (by decide), upd_ne (by decide)] at q4
    exact ⟨a2, d2, q1, q2, q3, q4.1, fun j hj => by
      have y := q4.2 j hj
      rw [p4 _ (by omega), upd_ne (by omega)] at y
      exact y⟩
  · rw [if_neg h, if_neg h]
    obtain ⟨a2, d2, q1, q2, q3, q4⟩ := rest_eq R1 m hg
    rw [upd_ne (by decide)] at q4
    exact ⟨a2, d2, q1, q2, q3, q4.1, fun j hj => by
      have y := q4.2 j hj
      rw [upd_ne (by omega)] at y
      exact y⟩
