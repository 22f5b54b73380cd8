/-! orders are done, alike -/
theorem on1 (M : kM2) (i : Nat) (r : Int32) : k_on M i (some (r, M i)) = some (r, M) := on_id M i r
theorem up_cm (M : kM2) {i j : Nat} (x y : kM1) (h : i ≠ j) : up (up M i x) j y = up (up M j y) i x := by
  funext q
  by_cases h1 : q = j
  · subst h1
    rw [up_same, up_ne _ _ (fun z => h z.symm), up_same]
  · rw [up_ne _ _ h1]
    by_cases h2 : q = i
    · subst h2
      rw [up_same, up_same]
    · rw [up_ne _ _ h2, up_ne _ _ h2, up_ne _ _ h1]
theorem nb_cs {v : Int32} (h : 1 ≤ nbN v) : v = 98 ∨ v = 102 ∨ v = 103 ∨ v = 112 ∨ v = 114 := by
  unfold nbN at h
  by_cases h1 : v = 98
  · exact Or.inl h1
  · rw [if_neg h1] at h
    by_cases h2 : v = 102
    · exact Or.inr (Or.inl h2)
    · rw [if_neg h2] at h
      by_cases h3 : v = 103
      · exact Or.inr (Or.inr (Or.inl h3))
      · rw [if_neg h3] at h
        by_cases h4 : v = 112
        · exact Or.inr (Or.inr (Or.inr (Or.inl h4)))
        · rw [if_neg h4] at h
          by_cases h5 : v = 114
          · exact Or.inr (Or.inr (Or.inr (Or.inr h5)))
          · rw [if_neg h5] at h
            omega
theorem ch_done {M : kM2} {m : kM1} {d : Nat → Int32} {t : Nat} {o1 o2 : Option (Int32 × kM1)} (h : CH m (M 1) d t o1 o2) (ht : t ≤ 10000) (R : RX (M 1) d) : ∃ r a' d', (bd (k_on M 1 o1) fun r4 M5 => if 0 ≤ r4 then some ((0 : Int32), M5) else some (3, M5)) = some (r, up M 1 a') ∧ (bd o2 fun r11 m12 => if (-1000001) < r11 then some ((0 : Int32), m12) else some (3, m12)) = some (r, sD m d') ∧ RX a' d' ∧ (r = 0 ∨ r = 2 ∨ r = 3) := by
  obtain ⟨r, a', d', h1, h2, h3⟩ := h
  rw [h1, on_some, bd_s, h2, bd_s]
  have e : (-1000001 : Int32).toInt = -1000001 := by decide
  rcases h3 with ⟨z, z1, z2⟩ | ⟨z, K, F, S, R'⟩
  · subst z1
    subst z2
    rw [if_neg (show ¬ 0 ≤ r from fun y => by rw [i_le, t_lit0] at y; omega), if_neg (show ¬ (-1000001) < r from fun y => by rw [i_lt, e] at y; omega)]
    exact ⟨3, _, _, rfl, rfl, R, Or.inr (Or.inr rfl)⟩
  · rw [if_pos (show 0 ≤ r by rw [i_le, t_lit0]; exact z), if_pos (show (-1000001) < r by rw [i_lt, e]; omega)]
    exact ⟨0, _, _, rfl, rfl, ⟨K, F, S, t, R', ht⟩, Or.inl rfl⟩
def tailO (m : kM1) (d : Nat → Int32) (v : Int32) : Option (Int32 × kM1) := if v = 103 then fX7_doesNext_b87 (sD m d) v else if v = 98 then bd (fX7_isFarmer (sD m d) (sD m d 6 0)) fun r20 m21 => if r20 = 0 then fX7_doesNext_b91 m21 v else bd (fX7_isKind m21 (m21 6 1)) fun r24 m25 => if r24 = 0 then fX7_doesNext_b91 m25 v else fX7_doesNext_b87 m25 v else bd (fX7_isSack (sD m d) (sD m d 6 0)) fun r16 m17 => if r16 = 0 then fX7_doesNext_b91 m17 v else fX7_doesNext_b87 m17 v
theorem b91_eq (x : kM1) (v : Int32) : fX7_doesNext_b91 x v = some (2, x) := by
  unfold fX7_doesNext_b91 fX7_doesNext_b92
  rw [if_pos z00]
theorem b87_eq (x : kM1) (v : Int32) : fX7_doesNext_b87 x v = bd (fX7_does x v) fun r11 m12 => if (-1000001) < r11 then some (0, m12) else some (3, m12) := by
  unfold fX7_doesNext_b87 fX7_doesNext_b92
  rw [if_neg n10]
theorem doO_eq {M : kM2} {m : kM1} {d : Nat → Int32} {p0 : Nat} {v : Int32} (R : RX (M 1) d) (hp0 : p0 < 60) (e34 : M 7 3 4 = nI p0) (ev : M 7 4 p0 = v) (hn : ∀ q, q < nbN v → M 7 5 q = m 6 q) (h1 : 1 ≤ nbN v) : ∃ r a' d', fX4_doOrder M 1 = some (r, up M 1 a') ∧ tailO m d v = some (r, sD m d') ∧ RX a' d' ∧ (r = 0 ∨ r = 2 ∨ r = 3) := by
  obtain ⟨K, F, S, t, R1, ht⟩ := id R
  obtain ⟨l1, l2, l3, l4⟩ := R1.lim
  have two : ∃ r a' d', some ((2 : Int32), M) = some (r, up M 1 a') ∧ some ((2 : Int32), sD m d) = some (r, sD m d') ∧ RX a' d' ∧ (r = 0 ∨ r = 2 ∨ r = 3) := ⟨2, M 1, d, by rw [up_self], rfl, R, Or.inr (Or.inl rfl)⟩
  have q0 : M 7 5 0 = m 6 0 := hn 0 (by omega)
  unfold fX4_doOrder fX4_isKnown fX4_answerOf tailO
  rw [e34, if_pos (inb_nI hp0 (by decide)), c_nI (by omega), ev, q0, sD_ne (show (6 : Nat) ≠ 1 by decide)]
  rcases nb_cs h1 with rfl | rfl | rfl | rfl | rfl
  · have q1 : M 7 5 1 = m 6 1 := hn 1 (by decide)
    have q2 : M 7 5 2 = m 6 2 := hn 2 (by decide)
    rw [if_pos (rfl : (98 : Int32) = 98), if_neg (show ¬ (98 : Int32) = 103 by decide), if_pos (rfl : (98 : Int32) = 98), k_hasFarmer (M 1) _ (by omega) R1.n.2.1.1, on1, bd_s, g_isFarmer m d _ (by omega) R1.n.2.1.2, bd_s]
    by_cases h : 0 ≤ (m 6 0).toInt ∧ (m 6 0).toInt < (F : Int)
    · rw [if_pos h, if_neg n10, if_neg n10, q1, k_hasKind (M 1) _ (by omega) R1.n.1.1, on1, bd_s, sD_ne (show (6 : Nat) ≠ 1 by decide), g_isKind m d _ (by omega) R1.n.1.2, bd_s]
      by_cases h2 : 0 ≤ (m 6 1).toInt ∧ (m 6 1).toInt < (K : Int)
      · rw [if_pos h2, if_neg n10, if_neg n10, bd_s, if_neg n10, e34, if_pos (inb_nI hp0 (by decide)), c_nI (by omega), ev, if_pos (rfl : (98 : Int32) = 98), q0, q1, q2, bd_id, b87_eq]
        unfold fX7_does
        rw [if_pos (rfl : (98 : Int32) = 98), bd_id, sD_ne (show (6 : Nat) ≠ 1 by decide)]
        exact ch_done (brings_eq R1 m _ _ _) ht R
      · rw [if_neg h2, if_pos z00, if_pos z00, bd_s, if_pos z00, b91_eq]
        exact two
    · rw [if_neg h, if_pos z00, if_pos z00, bd_s, if_pos z00, b91_eq]
      exact two

  · rw [if_neg (show ¬ (102 : Int32) = 98 by decide), if_neg (show ¬ (102 : Int32) = 103 by decide), if_neg (show ¬ (102 : Int32) = 103 by decide), if_neg (show ¬ (102 : Int32) = 98 by decide), k_hasSack (M 1) _ (by omega) R1.e7, on1, bd_s, g_isSack m d _ (by omega) R1.e29, bd_s, if_pos (b01 _)]
    by_cases h : 0 ≤ (m 6 0).toInt ∧ (m 6 0).toInt < (S : Int)
    · rw [if_pos h, bd_s, if_neg n10, if_neg n10, e34, if_pos (inb_nI hp0 (by decide)), c_nI (by omega), ev, if_neg (show ¬ (102 : Int32) = 98 by decide), if_pos (rfl : (102 : Int32) = 102), q0, bd_id, b87_eq]
      unfold fX7_does
      rw [if_neg (show ¬ (102 : Int32) = 98 by decide), if_pos (rfl : (102 : Int32) = 102), bd_id, sD_ne (show (6 : Nat) ≠ 1 by decide)]
      exact ch_done (fetches_eq R1 m _) ht R
    · rw [if_neg h, bd_s, if_pos z00, if_pos z00, b91_eq]
      exact two

  · rw [if_neg (show ¬ (103 : Int32) = 98 by decide), if_pos (rfl : (103 : Int32) = 103), if_pos (rfl : (103 : Int32) = 103), bd_s, if_neg n10, e34, if_pos (inb_nI hp0 (by decide)), c_nI (by omega), ev, if_neg (show ¬ (103 : Int32) = 98 by decide), if_neg (show ¬ (103 : Int32) = 102 by decide), if_neg (show ¬ (103 : Int32) = 112 by decide), if_neg (show ¬ (103 : Int32) = 114 by decide), q0, bd_id, b87_eq]
    unfold fX7_does
    rw [if_neg (show ¬ (103 : Int32) = 98 by decide), if_neg (show ¬ (103 : Int32) = 102 by decide), if_neg (show ¬ (103 : Int32) = 112 by decide), if_neg (show ¬ (103 : Int32) = 114 by decide), bd_id, sD_ne (show (6 : Nat) ≠ 1 by decide)]
    exact ch_done (gates_eq R1 m _) ht R

  · have q1 : M 7 5 1 = m 6 1 := hn 1 (by decide)
    rw [if_neg (show ¬ (112 : Int32) = 98 by decide), if_neg (show ¬ (112 : Int32) = 103 by decide), if_neg (show ¬ (112 : Int32) = 103 by decide), if_neg (show ¬ (112 : Int32) = 98 by decide), k_hasSack (M 1) _ (by omega) R1.e7, on1, bd_s, g_isSack m d _ (by omega) R1.e29, bd_s, if_pos (b01 _)]
    by_cases h : 0 ≤ (m 6 0).toInt ∧ (m 6 0).toInt < (S : Int)
    · rw [if_pos h, bd_s, if_neg n10, if_neg n10, e34, if_pos (inb_nI hp0 (by decide)), c_nI (by omega), ev, if_neg (show ¬ (112 : Int32) = 98 by decide), if_neg (show ¬ (112 : Int32) = 102 by decide), if_pos (rfl : (112 : Int32) = 112), q0, q1, bd_id, b87_eq]
      unfold fX7_does
      rw [if_neg (show ¬ (112 : Int32) = 98 by decide), if_neg (show ¬ (112 : Int32) = 102 by decide), if_pos (rfl : (112 : Int32) = 112), bd_id, sD_ne (show (6 : Nat) ≠ 1 by decide)]
      exact ch_done (pledgesC_eq R1 m _ _) ht R
    · rw [if_neg h, bd_s, if_pos z00, if_pos z00, b91_eq]
      exact two

  · rw [if_neg (show ¬ (114 : Int32) = 98 by decide), if_neg (show ¬ (114 : Int32) = 103 by decide), if_neg (show ¬ (114 : Int32) = 103 by decide), if_neg (show ¬ (114 : Int32) = 98 by decide), k_hasSack (M 1) _ (by omega) R1.e7, on1, bd_s, g_isSack m d _ (by omega) R1.e29, bd_s, if_pos (b01 _)]
    by_cases h : 0 ≤ (m 6 0).toInt ∧ (m 6 0).toInt < (S : Int)
    · rw [if_pos h, bd_s, if_neg n10, if_neg n10, e34, if_pos (inb_nI hp0 (by decide)), c_nI (by omega), ev, if_neg (show ¬ (114 : Int32) = 98 by decide), if_neg (show ¬ (114 : Int32) = 102 by decide), if_neg (show ¬ (114 : Int32) = 112 by decide), if_pos (rfl : (114 : Int32) = 114), q0, bd_id, b87_eq]
      unfold fX7_does
      rw [if_neg (show ¬ (114 : Int32) = 98 by decide), if_neg (show ¬ (114 : Int32) = 102 by decide), if_neg (show ¬ (114 : Int32) = 112 by decide), if_pos (rfl : (114 : Int32) = 114), bd_id, sD_ne (show (6 : Nat) ≠ 1 by decide)]
      exact ch_done (redeems_eq R1 m _) ht R
    · rw [if_neg h, bd_s, if_pos z00, if_pos z00, b91_eq]
      exact two

/-- what an order leaves as it is -/
def FO (c c' m m' : kM1) : Prop := (∀ j, j ≠ 3 → j ≠ 5 → c' j = c j) ∧ c' 3 2 = c 3 2 ∧ c' 3 5 = c 3 5 ∧ c' 3 6 = c 3 6 ∧ (∀ j, j ≠ 0 → j ≠ 1 → j ≠ 6 → m' j = m j) ∧ ∀ k, k ≠ 7 → m' 0 k = m 0 k
theorem one_eq {M : kM2} {a c m : kM1} {d : Nat → Int32} {l p : Nat} (T : TR c (sD m d) l p) (h : p < l) (R : RX a d) (G : Int32 → kM2 → Option (Int32 × kM2)) : ∃ r a' c' m' d', (bd (k_on (up (up M 1 a) 7 (mu c 3 4 (nI p))) 7 (fX4_readOrder (mu c 3 4 (nI p)))) fun r9 M10 => if r9 = 0 then G 1 M10 else bd (fX4_doOrder M10 1) fun r16 M17 => G r16 M17) = G r (up (up M 1 a') 7 c') ∧ fX7_doesNext (sD m d) = some (r, sD m' d') ∧ FO c c' m m' ∧ c' 3 4 = nI p ∧ ((r = 0 ∧ RX a' d' ∧ ∃ p', p < p' ∧ TR c' (sD m' d') l p') ∨ r = 1 ∨ r = 2 ∨ r = 3) := by
  obtain ⟨t1, t2, t3, t4, t5, t6, t7⟩ := id T
  have T8 : TR (mu c 3 4 (nI p)) (sD m d) l p := ⟨by rw [mu_eq, upd_ne (by decide)]; exact t1, t2, t3, fun k hk => by rw [mu_ne (by decide)]; exact t4 k hk, by rw [mu_eq, upd_ne (by decide)]; exact t5, t6, t7⟩
  obtain ⟨r, c', x', y1, y2, y3, y4⟩ := order_eq T8 h
  rw [g_nb, bd_s] at y2
  have ex : x' = sD x' d := by
    have e1 : x' 1 = d := y3.2.2.1 1 (by decide) (by decide)
    rw [← e1]
    exact (sD_self x').symm
  have c34 : c' 3 4 = nI p := by rw [y3.2.1 4 (by decide), mu_eq, upd_eq]
  have fo : FO c c' m x' := ⟨fun j h1 h2 => by rw [y3.1 j h1 h2, mu_ne h1], by rw [y3.2.1 2 (by decide), mu_eq, upd_ne (by decide)], by rw [y3.2.1 5 (by decide), mu_eq, upd_ne (by decide)], by rw [y3.2.1 6 (by decide), mu_eq, upd_ne (by decide)], fun j h1 h2 h3 => by rw [y3.2.2.1 j h1 h3, sD_ne h2], fun k hk => by rw [y3.2.2.2 k hk, sD_ne (by decide)]⟩
  unfold fX7_doesNext
  rw [t6, if_pos (inb_nI (show p < 60 by omega) (by decide)), c_nI (by omega), klet, nI_1, klet, g_nb, bd_s, y2, bd_s, y1, on_some, bd_s, up_up]
  rcases y4 with z | ⟨z, z1, ⟨p', z2, z3⟩, z4⟩
  · subst z
    rw [if_pos z00, if_pos z00]
    exact ⟨1, a, c', x', d, rfl, by rw [← ex], fo, c34, Or.inr (Or.inl rfl)⟩
  · subst z
    rw [if_neg n10, if_neg n10]
    obtain ⟨r, a', d', o1, o2, o3, o4⟩ := doO_eq (M := up (up M 1 a) 7 c') (m := x') (d := d) (p0 := p) (v := sD m d 5 p) (by rw [up_ne _ _ (by decide), up_same]; exact R) (by omega) (by rw [up_same]; exact c34) (by rw [up_same, y3.1 4 (by decide) (by decide), mu_ne (by decide)]; exact t4 p h) (fun q hq => by rw [up_same]; exact z4 q hq) z1
    unfold tailO at o2
    rw [← ex] at o2
    rw [o1, bd_s, o2, up_cm (up M 1 a) _ _ (show (7 : Nat) ≠ 1 by decide), up_up]
    refine ⟨r, a', c', x', d', rfl, rfl, fo, c34, ?_⟩
    rcases o4 with z | z | z
    · refine Or.inl ⟨z, o3, p', z2, ?_⟩
      obtain ⟨s1, s2, s3, s4, s5, s6, s7⟩ := z3
      exact ⟨s1, s2, s3, s4, s5, s6, s7⟩
    · exact Or.inr (Or.inr (Or.inl z))
    · exact Or.inr (Or.inr (Or.inr z))
