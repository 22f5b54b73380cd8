/-! sacks: brought, withdrawn, fetched; money -/
def bgn (A B : Nat → Int32) (u v p : Int32) : Nat → Int32 := upd (upd (upd (upd (upd (upd (upd (upd (upd (upd (upd (upd (upd (upd (upd (upd (upd A 0 u) 1 v) 2 (B 0)) 3 (B 1)) 4 (B 2)) 5 p) 6 0) 7 0) 8 0) 9 0) 10 0) 11 0) 12 0) 13 0) 14 0) 15 0) 16 0
theorem k_begin (a : kM1) {j j3 : Nat} (h : j3 ≠ j) (u v p : Int32) : fX5_begin a j u v j3 p = some (0, rs a j (bgn (a j) (a j3) u v p)) := by
  unfold fX5_begin fX5_endPledge bgn
  simp only [klet, bd_s, mu_rs, rs_eq, rs_rs, rs_ne h]
def brn (u v p : Int32) : Nat → Int32 := upd (upd (upd (fun _ => 0) 0 u) 1 v) 2 p
theorem t00 : (0 : Int) ≤ (0 : Int32).toInt := by decide
theorem t03 : (0 : Int32).toInt ≤ 3 := by decide
theorem t050 : (0 : Int32).toInt ≤ 50 := by decide
theorem np0 : ¬ 0 < (0 : Int32).toInt := by decide
theorem n01 : ¬ (0 : Int32) = 1 := by decide
theorem n02 : ¬ (0 : Int32) = 2 := by decide
theorem t30 : (0 : Int) ≤ (3 : Int32).toInt := by decide
theorem t33 : (3 : Int32).toInt ≤ 3 := by decide
theorem n30 : ¬ (3 : Int32) = 0 := by decide
theorem n31 : ¬ (3 : Int32) = 1 := by decide
theorem n32 : ¬ (3 : Int32) = 2 := by decide
theorem n3l : ¬ (3 : Int32).toInt ≤ 1 := by decide
theorem RSV.new {A B : Nat → Int32} {D : Nat → Nat → Int32} {K F t f k : Nat} {p : Int32} (hf : f < F) (hk : k < K) (h0 : B 0 = D k 0) (h1 : B 1 = D k 1) (h2 : B 2 = D k 2) (hp : 1 ≤ p.toInt ∧ p.toInt ≤ 200) : RSV (bgn A B (nI f) (nI k) p) (brn (nI f) (nI k) p) D K F t := by
  have z9 : (0 : Int32) = 0 * 0 / 100 := rfl
  have z10 : (0 : Int32) = (0 - 0) * B 1 / 100 := by rw [show (0 : Int32) - 0 = 0 from rfl, Int32.zero_mul]; rfl
  have zp : (0 : Int32).toInt ≤ p.toInt := by rw [t_lit0]; omega
  have zs : (0 : Int32).toInt + (0 : Int32).toInt ≤ (0 : Int32).toInt - (0 : Int32).toInt - (0 : Int32).toInt := by decide
  exact ⟨⟨⟨f, hf, rfl, rfl⟩, ⟨k, hk, rfl, rfl, h0, h1, h2⟩⟩, ⟨rfl, rfl, rfl, rfl, rfl, rfl, rfl⟩, ⟨z9, z10⟩, fun z => absurd z np0, ⟨hp, ⟨t00, t03⟩, ⟨t00, zp⟩, ⟨t00, t050⟩, t00, t00, zs⟩, ⟨fun _ => ⟨rfl, rfl⟩, fun z => absurd z n01, fun z => absurd z n02, fun _ => ⟨rfl, rfl⟩⟩⟩
theorem RM.newS {a : kM1} {d : Nat → Int32} {K F S t : Nat} (R : RM a d K F S t) (h24 : S < 24) {f k : Nat} {p : Int32} (hf : f < F) (hk : k < K) (hp : 1 ≤ p.toInt ∧ p.toInt ≤ 200) {d' : Nat → Int32} (hd : ∀ i, i ≠ 29 → (i < 56 + 13 * S ∨ 56 + 13 * S + 13 ≤ i) → d' i = d i) (h29 : d' 29 = nI (S + 1)) (hw : ∀ q, q < 13 → d' (56 + 13 * S + q) = brn (nI f) (nI k) p q) : RM (mu (rs a (20 + S) (bgn (a (20 + S)) (a (6 + k)) (nI f) (nI k) p)) 0 7 (nI (S + 1))) d' K F (S + 1) t := by
  have R' := R
  obtain ⟨⟨l1, l2, l3, l4⟩, hn, ⟨b1, b2, b3, b4, b5⟩, hA, hK, hF, hR⟩ := R'
  have ha : ∀ j, j ≠ 0 → j ≠ 20 + S → mu (rs a (20 + S) (bgn (a (20 + S)) (a (6 + k)) (nI f) (nI k) p)) 0 7 (nI (S + 1)) j = a j := fun j h1 h2 => by rw [mu_ne h1, rs_ne h2]
  have ha0 : mu (rs a (20 + S) (bgn (a (20 + S)) (a (6 + k)) (nI f) (nI k) p)) 0 7 (nI (S + 1)) 0 = upd (a 0) 7 (nI (S + 1)) := by rw [mu_eq, rs_ne (by omega)]
  have haS : mu (rs a (20 + S) (bgn (a (20 + S)) (a (6 + k)) (nI f) (nI k) p)) 0 7 (nI (S + 1)) (20 + S) = bgn (a (20 + S)) (a (6 + k)) (nI f) (nI k) p := by rw [mu_ne (by omega), rs_eq]
  generalize mu (rs a (20 + S) (bgn (a (20 + S)) (a (6 + k)) (nI f) (nI k) p)) 0 7 (nI (S + 1)) = a' at *
  refine R.fr S (fun j h1 _ h2 => ha j h1 h2) (fun i h => hd i (by omega) (by omega)) (fun i h1 h2 h3 => hd i (by omega) h3) h24 (fun j h1 h2 => by omega) ?_ ⟨by rw [hd _ (by omega) (by omega)]; exact b1, by rw [hd _ (by omega) (by omega)]; exact b2, ?_, by rw [hd _ (by omega) (by omega)]; exact b4, by rw [hd _ (by omega) (by omega)]; exact b5⟩ (fun g q => ?_) (fun _ => ?_)
  · obtain ⟨n1, n2, n3, n4, n9, n10, n11, n12, n13, n14, n15, n16, n17⟩ := hn
    unfold RN
    rw [ha0, h29, hd 17 (by omega) (by omega), hd 18 (by omega) (by omega), hd 19 (by omega) (by omega), hd 20 (by omega) (by omega), hd 21 (by omega) (by omega), hd 22 (by omega) (by omega), hd 23 (by omega) (by omega), hd 24 (by omega) (by omega), hd 25 (by omega) (by omega), hd 26 (by omega) (by omega), hd 27 (by omega) (by omega), hd 28 (by omega) (by omega)]
    exact ⟨n1, n2, ⟨rfl, rfl⟩, n4, n9, n10, n11, n12, n13, n14, n15, n16, n17⟩
  · rcases b3 with h | ⟨s, q1, q2, q3⟩
    · exact Or.inl (by rw [hd _ (by omega) (by omega)]; exact h)
    · exact Or.inr ⟨s, by omega, by rw [hd _ (by omega) (by omega)]; exact q2, by rw [hd _ (by omega) (by omega)]; exact q3⟩
  · have z := hF g q
    have e12 : d' (56 + 13 * S + 12) = 0 := hw 12 (by decide)
    unfold RF at z ⊢
    rw [ha (12 + g) (by omega) (by omega), hd (48 + g) (by omega) (by omega), show cnt d' (S + 1) g = cnt d' S g from by
      show cnt d' S g + (if d' (56 + 13 * S) = nI g ∧ d' (56 + 13 * S + 12) = 1 then 1 else 0) = _
      rw [if_neg (fun y => n01 (e12.symm.trans y.2)), Nat.add_zero], cnt_congr (d := d) g (fun j hj => ⟨hd _ (by omega) (by omega), hd _ (by omega) (by omega)⟩)]
    exact z
  · rw [haS]
    obtain ⟨k0, k1, k2, -⟩ := hK k hk
    exact RSV.cg (RSV.new (A := a (20 + S)) (B := a (6 + k)) (D := wK d) (t := t) hf hk k0 k1 k2 hp) (fun q _ => rfl) hw (fun k w h1 h2 => hd _ (by omega) (by omega)) (Nat.le_refl _) (Nat.le_refl _) (Nat.le_refl _)
theorem g_br_lp (m : kM1) {S : Nat} (hS : S < 24) (u v p : Int32) : ∀ (j k n : Nat) (d : Nat → Int32), k + j = 13 → j < n → ∃ d'', (∀ q, k ≤ q → q < 13 → d'' (56 + 13 * S + q) = 0) ∧ (∀ i, (i < 56 + 13 * S + k ∨ 56 + 13 * S + 13 ≤ i) → d'' i = d i) ∧ fX7_brings_b57 u v p n (sD m d) (nI S) (nI k) = some (nI S, sD m (upd (upd (upd (upd d'' (56 + 13 * S) u) (56 + 13 * S + 1) v) (56 + 13 * S + 2) p) 29 (d'' 29 + 1))) := by
  intro j
  induction j with
  | zero =>
    intro k n d hk hn
    obtain ⟨n, rfl⟩ : ∃ z, n = z + 1 := ⟨n - 1, by omega⟩
    refine ⟨d, fun q h1 h2 => by omega, fun i _ => rfl, ?_⟩
    rw [fX7_brings_b57, if_pos (lit_le (c := 13) (S := 13) rfl (by omega) (by omega)), g_put0 _ _ _ hS, bd_s, g_put1 _ _ _ hS, bd_s, g_put2 _ _ _ hS, bd_s, klet, sD_1, sD_mu, upd_ne (show 29 ≠ 56 + 13 * S + 2 by omega), upd_ne (show 29 ≠ 56 + 13 * S + 1 by omega), upd_ne (show 29 ≠ 56 + 13 * S by omega)]
  | succ j ih =>
    intro k n d hk hn
    obtain ⟨n, rfl⟩ : ∃ z, n = z + 1 := ⟨n - 1, by omega⟩
    obtain ⟨d'', h1, h2, h3⟩ := ih (k + 1) n (upd d (56 + 13 * S + k) 0) (by omega) (by omega)
    refine ⟨d'', fun q q1 q2 => ?_, fun i hi => ?_, ?_⟩
    · by_cases z : q = k
      · subst z
        rw [h2 _ (by omega), upd_eq]
      · exact h1 q (by omega) q2
    · rw [h2 i (by omega), upd_ne (by omega)]
    · rw [fX7_brings_b57, if_neg (lit_nle (c := 13) (S := 13) rfl (by omega) (by decide)), g_put _ _ _ hS (by omega), bd_s, klet, nI_1]
      exact h3
theorem brings_eq {a : kM1} {d : Nat → Int32} {K F S t : Nat} (R : RM a d K F S t) (m : kM1) (u v p : Int32) : CH m a d t (fX3_addSack a u v p) (fX7_brings (sD m d) u v p) := by
  have hS := R.S24
  have l1 := R.lim.1
  have l2 := R.lim.2.1
  unfold fX3_addSack fX7_brings
  rw [k_hasFarmer a u (by omega) R.n.2.1.1, bd_s, g_isFarmer m d u (by omega) R.n.2.1.2, bd_s]
  by_cases h : 0 ≤ u.toInt ∧ u.toInt < (F : Int)
  · obtain ⟨f, hf, rfl⟩ := nI_rng h.1 h.2
    rw [if_pos h, if_neg n10, if_neg n10, k_hasKind a v (by omega) R.n.1.1, bd_s, g_isKind m d v (by omega) R.n.1.2, bd_s]
    by_cases h2 : 0 ≤ v.toInt ∧ v.toInt < (K : Int)
    · obtain ⟨k, hk, rfl⟩ := nI_rng h2.1 h2.2
      rw [if_pos h2, if_neg n10, if_neg n10, k_in, bd_s, g_in, bd_s]
      by_cases h3 : (1 : Int32).toInt ≤ p.toInt ∧ p.toInt ≤ (200 : Int32).toInt
      · rw [if_pos h3, if_neg n10, if_neg n10, sD_1, R.e7, R.e29]
        by_cases h4 : S < 24
        · obtain ⟨d'', q1, q2, q3⟩ := g_br_lp m h4 (nI f) (nI k) p 13 0 kFu d (by omega) (by unfold kFu; omega)
          rw [if_pos (show nI S < 24 from nI_lt h4 (by decide)), if_pos (inb_nI h4 (by decide)), if_pos (inb_nI (show k < 6 by omega) (by decide)), if_neg (fun y => by have := nI_inj (by omega) (by decide) (y.trans (show (24 : Int32) = nI 24 from rfl)); omega), c_nI (by omega), c_nI (by omega), k_begin a (show 6 + k ≠ 20 + S by omega), bd_s, klet, klet, rs_ne (show 0 ≠ 20 + S by omega), R.e7, nI_1, mu_eq, upd_eq, show (1 : Int32) = nI 1 from rfl, nI_sub (by omega), Nat.add_sub_cancel]
          rw [nI_0] at q3
          rw [q3, q2 29 (by omega), R.e29, nI_1]
          refine CH.ok (by rw [t_nI (by omega)]; omega) (R.newS h4 hf hk h3 (fun i h1 h2 => ?_) (upd_eq _ _ _) (fun q hq => ?_))
          · rw [upd_ne h1, upd_ne (by omega), upd_ne (by omega), upd_ne (by omega), q2 i (by omega)]
          · rw [upd_ne (by omega)]
            unfold brn
            by_cases z2 : q = 2
            · subst z2
              rw [upd_eq, upd_eq]
            · rw [upd_ne (by omega), upd_ne z2]
              by_cases z1 : q = 1
              · subst z1
                rw [upd_eq, upd_eq]
              · rw [upd_ne (by omega), upd_ne z1]
                by_cases z0 : q = 0
                · subst z0
                  rw [upd_eq]
                  exact upd_eq _ _ _
                · rw [upd_ne (by omega), upd_ne z0]
                  exact q1 q (by omega) hq
        · rw [if_neg (show ¬ nI S < 24 from fun y => by rw [i_lt, t_nI (by omega)] at y; have : (24 : Int32).toInt = 24 := rfl; omega), if_pos (show nI S = 24 by rw [show S = 24 by omega]; rfl)]
          exact CH.er (by decide)
      · rw [if_neg h3, if_pos z00, if_pos z00]
        exact CH.er (by decide)
    · rw [if_neg h2, if_pos z00, if_pos z00]
      exact CH.er (by decide)
  · rw [if_neg h, if_pos z00, if_pos z00]
    exact CH.er (by decide)
theorem bring_eq {a : kM1} {d : Nat → Int32} {K F S t : Nat} (R : RM a d K F S t) (m : kM1) (u v p : Int32) : CK m a d t (fX3_addSack a u v p) (fX7_bring (sD m d) u v p) := CH.CK (g := fun x => fX7_brings x u v p) (brings_eq R _ u v p)
theorem i_sub0 (x : Int32) : x - 0 = x := Int32.sub_zero x
theorem withdraw_eq {a : kM1} {d : Nat → Int32} {K F S t : Nat} (R : RM a d K F S t) (m : kM1) (v : Int32) : CK m a d t (fX3_withdrawSack a v) (fX7_withdraw (sD m d) v) := by
  have hS := R.S24
  unfold fX3_withdrawSack fX7_withdraw
  rw [k_hasSack a v (by omega) R.e7, bd_s, g_isSack m d v (by omega) R.e29, bd_s]
  by_cases h : 0 ≤ v.toInt ∧ v.toInt < (S : Int)
  · obtain ⟨s, hs, rfl⟩ := nI_rng h.1 h.2
    have e := R.se hs
    obtain ⟨⟨so1, so2⟩, ⟨e2, e3, e4, e5, e6, e10, e11⟩, ⟨m9, m10⟩, hp, ⟨b2, b3, b4, b5, b6, b10, b11⟩, ⟨t0, t1, t2, t3⟩⟩ := RS_iff.mp (R.s s hs)
    rw [if_pos h, if_neg n10, if_neg n10, if_pos (inb_nI (show s < 24 by omega) (by decide)), c_nI (by omega), e.2.1, g_of3 m d (by omega), bd_s]
    by_cases h3 : d (56 + 13 * s + 3) = 0
    · have z4 : d (56 + 13 * s + 4) = 0 := (t0 h3).1
      rw [if_pos h3, if_pos h3, k_grain e, bd_s, if_neg (fun y => n30 (y.symm.trans h3)), z4, i_sub0, klet, klet, mu_eq, mu_eq, g_keeps, bd_s, g_of2 _ d (by omega), bd_s, g_put11 _ d _ (by omega), bd_s, g_put3 _ _ _ (by omega), bd_s, g_of2 _ _ (by omega), bd_s, bd_id, upd_ne (show 56 + 13 * s + 2 ≠ 56 + 13 * s + 3 by omega), upd_ne (show 56 + 13 * s + 2 ≠ 56 + 13 * s + 11 by omega), upd_ne (show 16 ≠ 6 by decide), upd_eq]
      refine CK.ok (Int.le_trans (by decide) b2.1) (R.sk hs (fun j hj => by rw [mu_ne hj, mu_ne hj]) (fun k hk => by rw [upd_ne (by omega), upd_ne (by omega)]) (by rw [upd_ne (by omega), upd_ne (by omega)]) (fun y => absurd (h3.symm.trans y) n01) ?_)
      rw [mu_eq, mu_eq, wS_up, wS_up]
      exact ⟨⟨so1, so2⟩, ⟨e2, rfl, e4, e5, e6, e10, rfl⟩, ⟨m9, m10⟩, hp, ⟨b2, ⟨t30, t33⟩, b4, b5, b6, b10, b11⟩, ⟨fun z => absurd z n30, fun z => absurd z n31, fun z => absurd z n32, fun z => absurd z n3l⟩⟩
    · rw [if_neg h3, if_neg h3]
      exact CK.er (by decide)
  · rw [if_neg h, if_pos z00, if_pos z00]
    exact CK.er (by decide)
/-- toll and dust are no more than what is ground -/
theorem td_rng {a : kM1} {d : Nat → Int32} {K F S t : Nat} (R : RM a d K F S t) {s : Nat} (hs : s < S) : 0 ≤ (a (20 + s) 9).toInt ∧ 0 ≤ (a (20 + s) 10).toInt ∧ (a (20 + s) 9).toInt + (a (20 + s) 10).toInt ≤ (d (56 + 13 * s + 4)).toInt := by
  obtain ⟨m9, m10⟩ := R.sm hs
  obtain ⟨-, ⟨k, hk, -, -, -, r3, -⟩⟩ := R.so hs
  obtain ⟨-, -, -, -, -, q0, q1, -⟩ := R.k k hk
  obtain ⟨⟨p1, p2⟩, -, ⟨g0, g1⟩, ⟨c0, c1⟩, -⟩ := R.sb hs
  rw [← r3] at q0 q1
  generalize d (56 + 13 * s + 4) = G at *
  generalize d (56 + 13 * s + 5) = C at *
  generalize a (20 + s) 3 = U at *
  generalize a (20 + s) 9 = T at *
  generalize a (20 + s) 10 = V at *
  have x0 : 0 ≤ G.toInt * C.toInt := Int.mul_nonneg g0 c0
  have x1 : G.toInt * C.toInt ≤ G.toInt * 50 := Int.mul_le_mul_of_nonneg_left c1 g0
  have eT : T.toInt = G.toInt * C.toInt / 100 := by
    have e : (G * C).toInt = G.toInt * C.toInt := i_mul (by omega) (by omega)
    rw [m9, i_div (by rw [e]; exact x0) (by decide), e]
    rfl
  have y0 : 0 ≤ T.toInt := by rw [eT]; exact Int.ediv_nonneg x0 (by decide)
  have y1 : T.toInt ≤ G.toInt := by omega
  have eW : (G - T).toInt = G.toInt - T.toInt := i_sub (by omega) (by omega)
  have w0 : 0 ≤ (G - T).toInt * U.toInt := Int.mul_nonneg (by omega) q0
  have w1 : (G - T).toInt * U.toInt ≤ (G - T).toInt * 20 := Int.mul_le_mul_of_nonneg_left q1 (by omega)
  have eV : V.toInt = (G - T).toInt * U.toInt / 100 := by
    have e : ((G - T) * U).toInt = (G - T).toInt * U.toInt := i_mul (by omega) (by omega)
    rw [m10, i_div (by rw [e]; exact w0) (by decide), e]
    rfl
  have v0 : 0 ≤ V.toInt := by rw [eV]; exact Int.ediv_nonneg w0 (by decide)
  refine ⟨y0, v0, ?_⟩
  omega
theorem flr_in {a : kM1} {d : Nat → Int32} {K F S t : Nat} (R : RM a d K F S t) {s : Nat} (hs : s < S) (h3 : ¬ d (56 + 13 * s + 3) = 3) : (flr a d s).toInt = (d (56 + 13 * s + 4)).toInt - (a (20 + s) 9).toInt - (a (20 + s) 10).toInt - (d (56 + 13 * s + 6)).toInt - (d (56 + 13 * s + 10)).toInt ∧ 0 ≤ (flr a d s).toInt := by
  obtain ⟨r1, r2, r3⟩ := td_rng R hs
  obtain ⟨⟨p1, p2⟩, -, ⟨g0, g1⟩, -, b6, b10, b11⟩ := R.sb hs
  unfold flr
  rw [if_neg h3]
  have e1 : (d (56 + 13 * s + 4) - a (20 + s) 9).toInt = (d (56 + 13 * s + 4)).toInt - (a (20 + s) 9).toInt := i_sub (by omega) (by omega)
  have e2 : (d (56 + 13 * s + 4) - a (20 + s) 9 - a (20 + s) 10).toInt = (d (56 + 13 * s + 4)).toInt - (a (20 + s) 9).toInt - (a (20 + s) 10).toInt := by rw [i_sub, e1] <;> rw [e1] <;> omega
  have e3 : (d (56 + 13 * s + 4) - a (20 + s) 9 - a (20 + s) 10 - d (56 + 13 * s + 6)).toInt = (d (56 + 13 * s + 4)).toInt - (a (20 + s) 9).toInt - (a (20 + s) 10).toInt - (d (56 + 13 * s + 6)).toInt := by rw [i_sub, e2] <;> rw [e2] <;> omega
  have e4 : (d (56 + 13 * s + 4) - a (20 + s) 9 - a (20 + s) 10 - d (56 + 13 * s + 6) - d (56 + 13 * s + 10)).toInt = (d (56 + 13 * s + 4)).toInt - (a (20 + s) 9).toInt - (a (20 + s) 10).toInt - (d (56 + 13 * s + 6)).toInt - (d (56 + 13 * s + 10)).toInt := by rw [i_sub, e3] <;> rw [e3] <;> omega
  rw [e4]
  exact ⟨rfl, by omega⟩
theorem fetches_eq {a : kM1} {d : Nat → Int32} {K F S t : Nat} (R : RM a d K F S t) (m : kM1) (v : Int32) : CH m a d t (fX3_fetchSack a v) (fX7_fetches (sD m d) v) := by
  have hS := R.S24
  unfold fX3_fetchSack fX7_fetches
  rw [k_hasSack a v (by omega) R.e7, bd_s, g_isSack m d v (by omega) R.e29, bd_s]
  by_cases h : 0 ≤ v.toInt ∧ v.toInt < (S : Int)
  · obtain ⟨s, hs, rfl⟩ := nI_rng h.1 h.2
    have e := R.se hs
    obtain ⟨⟨so1, so2⟩, ⟨e2, e3, e4, e5, e6, e10, e11⟩, ⟨m9, m10⟩, hp, ⟨b2, b3, b4, b5, b6, b10, b11⟩, ⟨t0, t1, t2, t3⟩⟩ := RS_iff.mp (R.s s hs)
    rw [if_pos h, if_neg n10, if_neg n10, if_pos (inb_nI (show s < 24 by omega) (by decide)), c_nI (by omega), e.2.1, g_of3 m d (by omega), bd_s]
    by_cases h3 : d (56 + 13 * s + 3) = 2
    · rw [if_pos h3, if_pos h3, k_hasP, bd_s, e.2.2.2.2.1, g_of6 m d (by omega), bd_s]
      by_cases h6 : (d (56 + 13 * s + 6)).toInt ≤ 0
      · rw [if_pos h6, if_pos z00, if_pos (g_has6.mpr h6), k_flour e, bd_s, g_flour R hs, bd_s, klet, klet, mu_eq, mu_eq, g_put11 _ d _ (by omega), bd_s, g_put3 _ _ _ (by omega), bd_s, upd_ne (show 16 ≠ 6 by decide), upd_eq]
        refine CH.ok (flr_in R hs (fun y => absurd (y.symm.trans h3) n32)).2 (R.sk hs (fun j hj => by rw [mu_ne hj, mu_ne hj]) (fun k hk => by rw [upd_ne (by omega), upd_ne (by omega)]) (by rw [upd_ne (by omega), upd_ne (by omega)]) (fun y => absurd (h3.symm.trans y) (by decide)) ?_)
        rw [mu_eq, mu_eq, wS_up, wS_up]
        exact ⟨⟨so1, so2⟩, ⟨e2, rfl, e4, e5, e6, e10, rfl⟩, ⟨m9, m10⟩, hp, ⟨b2, ⟨t30, t33⟩, b4, b5, b6, b10, b11⟩, ⟨fun z => absurd z n30, fun z => absurd z n31, fun z => absurd z n32, fun z => absurd z n3l⟩⟩
      · rw [if_neg h6, if_neg n10, if_neg (fun y => h6 (g_has6.mp y))]
        exact CH.er (by decide)
    · rw [if_neg h3, if_neg h3]
      exact CH.er (by decide)
  · rw [if_neg h, if_pos z00, if_pos z00]
    exact CH.er (by decide)
theorem fetch_eq {a : kM1} {d : Nat → Int32} {K F S t : Nat} (R : RM a d K F S t) (m : kM1) (v : Int32) : CK m a d t (fX3_fetchSack a v) (fX7_fetch (sD m d) v) := CH.CK (g := fun x => fX7_fetches x v) (fetches_eq R _ v)
theorem earn_eq {a : kM1} {d : Nat → Int32} {K F S t : Nat} (R : RM a d K F S t) (m : kM1) (u v : Int32) : CK m a d t (fX3_addPence a u v) (fX7_earn (sD m d) u v) := by
  have l2 := R.lim.2.1
  unfold fX3_addPence fX7_earn
  rw [k_hasFarmer a u (by omega) R.n.2.1.1, bd_s, g_isFarmer m d u (by omega) R.n.2.1.2, bd_s]
  by_cases h : 0 ≤ u.toInt ∧ u.toInt < (F : Int)
  · obtain ⟨f, hf, rfl⟩ := nI_rng h.1 h.2
    obtain ⟨f1, f2, f3⟩ := R.f f hf
    rw [if_pos h, if_neg n10, if_neg n10, k_in, bd_s, g_in, bd_s]
    by_cases h2 : (1 : Int32).toInt ≤ v.toInt ∧ v.toInt ≤ (1000000000 : Int32).toInt
    · have v1 : 1 ≤ v.toInt := h2.1
      have v2 : v.toInt ≤ 1000000000 := h2.2
      have p2 := i_max (d (48 + f))
      rw [if_pos h2, if_neg n10, if_neg n10, if_pos (inb_nI (show f < 8 by omega) (by decide)), c_nI (by omega), f1, ix_f, if_pos (n368 (by omega)), c_nI (by omega), sD_1]
      have e1 : ((d (48 + f)).toInt64 + v.toInt64).toInt = (d (48 + f)).toInt + v.toInt := by rw [l_add, l_i, l_i] <;> rw [l_i, l_i] <;> omega
      have e2 : (2147483647 - d (48 + f)).toInt = 2147483647 - (d (48 + f)).toInt := by rw [i_sub, t_imax] <;> rw [t_imax] <;> omega
      by_cases h3 : (d (48 + f)).toInt + v.toInt ≤ 2147483647
      · rw [if_pos (show lg_cmp ((d (48 + f)).toInt64 + v.toInt64) 2147483647 ≤ 0 by rw [lc_le, e1, t_max]; exact h3), if_pos (show v ≤ 2147483647 - d (48 + f) by rw [i_le, e2]; omega), klet, mu_eq, upd_eq, g_keeps, bd_s, if_pos (inbk (show 48 + f < 368 by omega) (by decide)), if_pos (inbk (show 48 + f < 368 by omega) (by decide)), klet, if_pos (inbk (show 48 + f < 368 by omega) (by decide)), sD_1, sD_mu, sD_1, upd_eq, bd_id]
        have e3 : (d (48 + f) + v).toInt = (d (48 + f)).toInt + v.toInt := i_add (by omega) (by omega)
        exact CK.ok (by rw [e3]; omega) (R.pu hf (by rw [e3]; omega))
      · rw [if_neg (show ¬ lg_cmp ((d (48 + f)).toInt64 + v.toInt64) 2147483647 ≤ 0 by rw [lc_le, e1, t_max]; exact h3), if_neg (show ¬ v ≤ 2147483647 - d (48 + f) by rw [i_le, e2]; omega)]
        exact CK.er (by decide)
    · rw [if_neg h2, if_pos z00, if_pos z00]
      exact CK.er (by decide)
  · rw [if_neg h, if_pos z00, if_pos z00]
    exact CK.er (by decide)
