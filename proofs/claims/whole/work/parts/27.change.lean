/-! changes of a mill and of the row, alike -/
def CH (m a : kM1) (d : Nat → Int32) (t : Nat) (o1 o2 : Option (Int32 × kM1)) : Prop := ∃ r a' d', o1 = some (r, a') ∧ o2 = some (r, sD m d') ∧ ((r.toInt ≤ -1000001 ∧ a' = a ∧ d' = d) ∨ (0 ≤ r.toInt ∧ ∃ K F S, RM a' d' K F S t))
theorem CH.er {m a : kM1} {d : Nat → Int32} {t : Nat} {r : Int32} (hr : r.toInt ≤ -1000001) : CH m a d t (some (r, a)) (some (r, sD m d)) := ⟨r, a, d, rfl, rfl, Or.inl ⟨hr, rfl, rfl⟩⟩
theorem CH.ok {m a a' : kM1} {d d' : Nat → Int32} {K F S t : Nat} {r : Int32} (hr : 0 ≤ r.toInt) (R : RM a' d' K F S t) : CH m a d t (some (r, a')) (some (r, sD m d')) := ⟨r, a', d', rfl, rfl, Or.inr ⟨hr, K, F, S, R⟩⟩
/-- the same, of a method that keeps and records by itself -/
def CK (m a : kM1) (d : Nat → Int32) (t : Nat) (o1 o2 : Option (Int32 × kM1)) : Prop := ∃ r a' d', o1 = some (r, a') ∧ ((r.toInt ≤ -1000001 ∧ a' = a ∧ ∃ m', (m' = m ∨ m' = kee m d) ∧ o2 = some (r, sD m' d)) ∨ (0 ≤ r.toInt ∧ (∃ K F S, RM a' d' K F S t) ∧ o2 = fX7_acted (sD (kee m d) d') r))
theorem CK.er {m a : kM1} {d : Nat → Int32} {t : Nat} {r : Int32} (hr : r.toInt ≤ -1000001) : CK m a d t (some (r, a)) (some (r, sD m d)) := ⟨r, a, d, rfl, Or.inl ⟨hr, rfl, m, Or.inl rfl, rfl⟩⟩
theorem CK.ok {m a a' : kM1} {d d' : Nat → Int32} {K F S t : Nat} {r : Int32} (hr : 0 ≤ r.toInt) (R : RM a' d' K F S t) : CK m a d t (some (r, a')) (fX7_acted (sD (kee m d) d') r) := ⟨r, a', d', rfl, Or.inr ⟨hr, ⟨K, F, S, R⟩, rfl⟩⟩
theorem bd_id {μ : Type} (o : Option (Int32 × μ)) : (bd o fun r x => some (r, x)) = o := by
  cases o with
  | none => rfl
  | some q => rfl
theorem CH.CK {m a : kM1} {d : Nat → Int32} {t : Nat} {o1 : Option (Int32 × kM1)} {g : kM1 → Option (Int32 × kM1)} (h : CH (kee m d) a d t o1 (g (sD (kee m d) d))) : CK m a d t o1 (bd (fX7_keeps (sD m d)) fun _ m2 => bd (g m2) fun r3 m4 => bd (fX7_acted m4 r3) fun r5 m6 => some (r5, m6)) := by
  obtain ⟨r, a', d', h1, h2, h3⟩ := h
  rw [g_keeps, bd_s, h2, bd_s, bd_id]
  rcases h3 with ⟨z, z1, z2⟩ | ⟨z, K, F, S, R⟩
  · subst z1
    subst z2
    exact ⟨r, a', d', h1, Or.inl ⟨z, rfl, _, Or.inr rfl, g_acted_er _ z⟩⟩
  · exact ⟨r, a', d', h1, Or.inr ⟨z, ⟨K, F, S, R⟩, rfl⟩⟩
theorem inbk {k n : Nat} (h : k < n) (hn : n ≤ 2147483648) : ¬ nI k < 0 ∧ k < n := ⟨nI_pos (by omega), h⟩
theorem n10 : ¬ (1 : Int32) = 0 := by decide
theorem z00 : (0 : Int32) = 0 := rfl
theorem RB.up {d d' : Nat → Int32} {S : Nat} (h : d 24 = -1 ∨ ∃ s, s < S ∧ d 24 = nI s ∧ d (56 + 13 * s + 3) = 1) (e : d' 24 = d 24) (hd : ∀ k, 56 ≤ k → d' k = d k) : d' 24 = -1 ∨ ∃ s, s < S ∧ d' 24 = nI s ∧ d' (56 + 13 * s + 3) = 1 := by
  rcases h with h | ⟨s, q1, q2, q3⟩
  · exact Or.inl (by rw [e]; exact h)
  · exact Or.inr ⟨s, q1, by rw [e]; exact q2, by rw [hd _ (by omega)]; exact q3⟩
/-! settings -/
theorem RM.gat {a : kM1} {d : Nat → Int32} {K F S t : Nat} (R : RM a d K F S t) {v : Int32} (h : 0 ≤ v.toInt ∧ v.toInt ≤ 3) : RM (mu a 0 11 v) (upd d 18 v) K F S t := by
  obtain ⟨n1, n2, n3, n4, n9, n10, n11, n12, n13, n14, n15, n16, n17⟩ := R.n
  obtain ⟨b1, b2, b3, b4, b5⟩ := R.b
  exact R.nu (fun j h => mu_ne h) (fun k h => upd_ne (by omega)) ⟨n1, n2, n3, n4, n9, n10, rfl, n12, n13, n14, n15, n16, n17⟩ ⟨b1, h, RB.up b3 rfl (fun k hk => upd_ne (by omega)), b4, b5⟩
theorem RM.lock {a : kM1} {d : Nat → Int32} {K F S t : Nat} (R : RM a d K F S t) {v : Int32} (h : v = 0 ∨ v = 1) : RM (mu a 0 10 v) (upd d 17 v) K F S t := by
  obtain ⟨n1, n2, n3, n4, n9, n10, n11, n12, n13, n14, n15, n16, n17⟩ := R.n
  obtain ⟨b1, b2, b3, b4, b5⟩ := R.b
  exact R.nu (fun j h => mu_ne h) (fun k h => upd_ne (by omega)) ⟨n1, n2, n3, n4, n9, rfl, n11, n12, n13, n14, n15, n16, n17⟩ ⟨h, b2, RB.up b3 rfl (fun k hk => upd_ne (by omega)), b4, b5⟩
theorem gates_eq {a : kM1} {d : Nat → Int32} {K F S t : Nat} (R : RM a d K F S t) (m : kM1) (v : Int32) : CH m a d t (fX3_changeOpening a v) (fX7_gates (sD m d) v) := by
  unfold fX3_changeOpening fX7_gates
  rw [k_in, bd_s, g_in, bd_s]
  by_cases h : (0 : Int32).toInt ≤ v.toInt ∧ v.toInt ≤ (3 : Int32).toInt
  · rw [if_pos h, if_neg n10, if_neg n10, klet, klet, klet, klet, sD_1, sD_mu, R.n.2.2.2.2.2.2.1]
    exact CH.ok R.b.2.1.1 (R.gat h)
  · rw [if_neg h, if_pos z00, if_pos z00]
    exact CH.er (by decide)
theorem gate_eq {a : kM1} {d : Nat → Int32} {K F S t : Nat} (R : RM a d K F S t) (m : kM1) (v : Int32) : CK m a d t (fX3_changeOpening a v) (fX7_gate (sD m d) v) := CH.CK (g := fun x => fX7_gates x v) (gates_eq R _ v)
theorem lock_eq {a : kM1} {d : Nat → Int32} {K F S t : Nat} (R : RM a d K F S t) (m : kM1) (v : Int32) : CK m a d t (fX3_changeLock a v) (fX7_lock (sD m d) v) := by
  unfold fX3_changeLock fX7_lock
  rw [k_in, bd_s, g_in, bd_s]
  by_cases h : (0 : Int32).toInt ≤ v.toInt ∧ v.toInt ≤ (1 : Int32).toInt
  · have hv : v = 0 ∨ v = 1 := by
      have h1 : 0 ≤ v.toInt := h.1
      have h2 : v.toInt ≤ 1 := h.2
      rcases (show v.toInt = 0 ∨ v.toInt = 1 by omega) with z | z
      · exact Or.inl (i_eq.mpr z)
      · exact Or.inr (i_eq.mpr z)
    rw [if_pos h, if_neg n10, if_neg n10, klet, klet, g_keeps, bd_s, klet, klet, bd_id, sD_1, sD_mu, R.n.2.2.2.2.2.1]
    refine CK.ok ?_ (R.lock hv)
    rcases R.b.1 with z | z <;> rw [z] <;> decide
  · rw [if_neg h, if_pos z00, if_pos z00]
    exact CK.er (by decide)
theorem RM.leak {a : kM1} {d : Nat → Int32} {K F S t : Nat} (R : RM a d K F S t) {k : Nat} {v : Int32} (hk : k < 4) (h : 0 ≤ v.toInt ∧ v.toInt ≤ 20) : RM (mu a 2 k v) (upd d (13 + k) v) K F S t := by
  obtain ⟨hl, hn, ⟨b1, b2, b3, b4, b5⟩, hA, hK, hF, hR⟩ := R
  obtain ⟨l1, l2, l3, l4⟩ := hl
  refine ⟨⟨l1, l2, l3, l4⟩, ?_, ⟨by rw [upd_ne (by omega)]; exact b1, by rw [upd_ne (by omega)]; exact b2, RB.up b3 (upd_ne (by omega)) (fun k hk => upd_ne (by omega)), by rw [upd_ne (by omega)]; exact b4, by rw [upd_ne (by omega)]; exact b5⟩, ⟨fun q hq => ?_, fun q hq => ?_⟩, fun j q => ?_, fun f q => ?_, fun s q => ?_⟩
  · unfold RN at hn ⊢
    rw [mu_ne (by decide), upd_ne (by omega), upd_ne (by omega), upd_ne (by omega), upd_ne (by omega), upd_ne (by omega), upd_ne (by omega), upd_ne (by omega), upd_ne (by omega), upd_ne (by omega), upd_ne (by omega), upd_ne (by omega), upd_ne (by omega), upd_ne (by omega)]
    exact hn
  · rw [mu_ne (by decide), upd_ne (by omega)]
    exact hA.1 q hq
  · rw [mu_eq]
    by_cases z : q = k
    · subst z
      rw [upd_eq, upd_eq]
      exact ⟨rfl, h⟩
    · rw [upd_ne z, upd_ne (by omega)]
      exact hA.2 q hq
  · have z := hK j q
    unfold RK at z ⊢
    rw [mu_ne (by omega), upd_ne (by omega), upd_ne (by omega), upd_ne (by omega)]
    exact z
  · have z := hF f q
    unfold RF at z ⊢
    rw [mu_ne (by omega), upd_ne (by omega), cnt_congr f (fun j hj => ⟨upd_ne (by omega), upd_ne (by omega)⟩)]
    exact z
  · exact RS.cg (hR s q) (fun w hw => by rw [mu_ne (by omega)]) (fun w hw => upd_ne (by omega)) (fun k w h1 h2 => upd_ne (by omega)) (Nat.le_refl _) (Nat.le_refl _) (Nat.le_refl _)
theorem RM.sets {a : kM1} {d : Nat → Int32} {K F S t : Nat} (R : RM a d K F S t) {k : Nat} {v : Int32} (hk : k < 13) (h : (k_least k).toInt ≤ v.toInt ∧ v.toInt ≤ (k_great k).toInt) : RM (mu a 1 k v) (upd d k v) K F S t := by
  obtain ⟨hl, hn, ⟨b1, b2, b3, b4, b5⟩, hA, hK, hF, hR⟩ := R
  obtain ⟨l1, l2, l3, l4⟩ := hl
  refine ⟨⟨l1, l2, l3, l4⟩, ?_, ⟨by rw [upd_ne (by omega)]; exact b1, by rw [upd_ne (by omega)]; exact b2, RB.up b3 (upd_ne (by omega)) (fun k hk => upd_ne (by omega)), by rw [upd_ne (by omega)]; exact b4, by rw [upd_ne (by omega)]; exact b5⟩, ⟨fun q hq => ?_, fun q hq => ?_⟩, fun j q => ?_, fun f q => ?_, fun s q => ?_⟩
  · unfold RN at hn ⊢
    rw [mu_ne (by decide), upd_ne (by omega), upd_ne (by omega), upd_ne (by omega), upd_ne (by omega), upd_ne (by omega), upd_ne (by omega), upd_ne (by omega), upd_ne (by omega), upd_ne (by omega), upd_ne (by omega), upd_ne (by omega), upd_ne (by omega), upd_ne (by omega)]
    exact hn
  · rw [mu_eq]
    by_cases z : q = k
    · subst z
      rw [upd_eq, upd_eq]
      exact ⟨rfl, h⟩
    · rw [upd_ne z, upd_ne z]
      exact hA.1 q hq
  · rw [mu_ne (by decide), upd_ne (by omega)]
    exact hA.2 q hq
  · have z := hK j q
    unfold RK at z ⊢
    rw [mu_ne (by omega), upd_ne (by omega), upd_ne (by omega), upd_ne (by omega)]
    exact z
  · have z := hF f q
    unfold RF at z ⊢
    rw [mu_ne (by omega), upd_ne (by omega), cnt_congr f (fun j hj => ⟨upd_ne (by omega), upd_ne (by omega)⟩)]
    exact z
  · exact RS.cg (hR s q) (fun w hw => by rw [mu_ne (by omega)]) (fun w hw => upd_ne (by omega)) (fun k w h1 h2 => upd_ne (by omega)) (Nat.le_refl _) (Nat.le_refl _) (Nat.le_refl _)
theorem leak_eq {a : kM1} {d : Nat → Int32} {K F S t : Nat} (R : RM a d K F S t) (m : kM1) (u v : Int32) : CK m a d t (fX3_changeLeak a u v) (fX7_leak (sD m d) u v) := by
  unfold fX3_changeLeak fX7_leak
  rw [k_in, bd_s, g_in, bd_s]
  by_cases h : (0 : Int32).toInt ≤ u.toInt ∧ u.toInt ≤ (3 : Int32).toInt
  · rw [if_pos h, if_neg n10, if_neg n10, k_in, bd_s, g_in, bd_s]
    by_cases h2 : (0 : Int32).toInt ≤ v.toInt ∧ v.toInt ≤ (20 : Int32).toInt
    · obtain ⟨k, hk, rfl⟩ := nI_rng (n := 4) (show 0 ≤ u.toInt from h.1) (by have : u.toInt ≤ 3 := h.2; omega)
      rw [if_pos h2, if_neg n10, if_neg n10, g_keeps, bd_s, show (13 : Int32) + nI k = nI (13 + k) by rw [show (13 : Int32) = nI 13 from rfl, nI_add], if_pos (inb_nI hk (by decide)), klet, if_pos (inb_nI hk (by decide)), klet, if_pos (n368 (by omega)), klet, if_pos (n368 (by omega)), klet, bd_id, c_nI (by omega), c_nI (by omega), sD_1, sD_mu, (R.a.2 k hk).1]
      exact CK.ok (R.a.2 k hk).2.1 (R.leak hk h2)
    · rw [if_neg h2, if_pos z00, if_pos z00]
      exact CK.er (by decide)
  · rw [if_neg h, if_pos z00, if_pos z00]
    exact CK.er (by decide)
theorem g_low {μ : Type} (x : μ) {k : Nat} (hk : k < 13) : fX7_low x (nI k) = some (k_least k, x) := by
  rcases (show k = 0 ∨ k = 1 ∨ k = 2 ∨ k = 3 ∨ k = 4 ∨ k = 5 ∨ k = 6 ∨ k = 7 ∨ k = 8 ∨ k = 9 ∨ k = 10 ∨ k = 11 ∨ k = 12 by omega) with rfl | rfl | rfl | rfl | rfl | rfl | rfl | rfl | rfl | rfl | rfl | rfl | rfl <;> rfl
theorem g_high {μ : Type} (x : μ) {k : Nat} (hk : k < 13) : fX7_high x (nI k) = some (k_great k, x) := by
  rcases (show k = 0 ∨ k = 1 ∨ k = 2 ∨ k = 3 ∨ k = 4 ∨ k = 5 ∨ k = 6 ∨ k = 7 ∨ k = 8 ∨ k = 9 ∨ k = 10 ∨ k = 11 ∨ k = 12 by omega) with rfl | rfl | rfl | rfl | rfl | rfl | rfl | rfl | rfl | rfl | rfl | rfl | rfl <;> rfl
theorem least0 {k : Nat} (hk : k < 13) : 0 ≤ (k_least k).toInt := by
  rcases (show k = 0 ∨ k = 1 ∨ k = 2 ∨ k = 3 ∨ k = 4 ∨ k = 5 ∨ k = 6 ∨ k = 7 ∨ k = 8 ∨ k = 9 ∨ k = 10 ∨ k = 11 ∨ k = 12 by omega) with rfl | rfl | rfl | rfl | rfl | rfl | rfl | rfl | rfl | rfl | rfl | rfl | rfl <;> decide
theorem set_eq {a : kM1} {d : Nat → Int32} {K F S t : Nat} (R : RM a d K F S t) (m : kM1) (u v : Int32) : CK m a d t (fX3_changeSetting a u v) (fX7_set (sD m d) u v) := by
  unfold fX3_changeSetting fX7_set
  rw [k_in, bd_s, g_in, bd_s]
  by_cases h : (0 : Int32).toInt ≤ u.toInt ∧ u.toInt ≤ (12 : Int32).toInt
  · obtain ⟨k, hk, rfl⟩ := nI_rng (n := 13) (show 0 ≤ u.toInt from h.1) (by have : u.toInt ≤ 12 := h.2; omega)
    rw [if_pos h, if_neg n10, if_neg n10, if_pos (inb_nI hk (by decide)), if_pos (inb_nI hk (by decide)), c_nI (by omega), k_in, bd_s, g_low _ hk, bd_s, g_high _ hk, bd_s, g_in, bd_s]
    by_cases h2 : (k_least k).toInt ≤ v.toInt ∧ v.toInt ≤ (k_great k).toInt
    · rw [if_pos h2, if_neg n10, if_neg n10, g_keeps, bd_s, if_pos (inbk hk (by decide)), klet, if_pos (inbk hk (by decide)), klet, if_pos (inbk (show k < 368 by omega) (by decide)), klet, if_pos (inbk (show k < 368 by omega) (by decide)), klet, bd_id, sD_1, sD_mu, (R.a.1 k hk).1]
      exact CK.ok (Int.le_trans (least0 hk) (R.a.1 k hk).2.1) (R.sets hk h2)
    · rw [if_neg h2, if_pos z00, if_pos z00]
      exact CK.er (by decide)
  · rw [if_neg h, if_pos z00, if_pos z00]
    exact CK.er (by decide)
/-! kinds, farmers, sacks -/
theorem nIp (k : Nat) : nI k + 1 = nI (k + 1) := nI_1 k
theorem RM.newK {a : kM1} {d : Nat → Int32} {K F S t : Nat} (R : RM a d K F S t) (hK6 : K < 6) {u v z : Int32} (hu : 1 ≤ u.toInt ∧ u.toInt ≤ 9) (hv : 0 ≤ v.toInt ∧ v.toInt ≤ 20) (hz : 1 ≤ z.toInt ∧ z.toInt ≤ 1000000) : RM (mu (mu (mu (mu a (6 + K) 0 u) (6 + K) 1 v) (6 + K) 2 z) 0 5 (nI (K + 1))) (upd (upd (upd (upd d (30 + 3 * K) u) (30 + 3 * K + 1) v) (30 + 3 * K + 2) z) 27 (nI (K + 1))) (K + 1) F S t := by
  obtain ⟨⟨l1, l2, l3, l4⟩, hn, ⟨b1, b2, b3, b4, b5⟩, hA, hK, hF, hR⟩ := R
  have hd : ∀ k, k ≠ 27 → (k < 30 + 3 * K ∨ 30 + 3 * K + 3 ≤ k) → upd (upd (upd (upd d (30 + 3 * K) u) (30 + 3 * K + 1) v) (30 + 3 * K + 2) z) 27 (nI (K + 1)) k = d k := fun k h1 h2 => by rw [upd_ne (by omega), upd_ne (by omega), upd_ne (by omega), upd_ne (by omega)]
  have ha : ∀ j, j ≠ 0 → j ≠ 6 + K → mu (mu (mu (mu a (6 + K) 0 u) (6 + K) 1 v) (6 + K) 2 z) 0 5 (nI (K + 1)) j = a j := fun j h1 h2 => by rw [mu_ne h1, mu_ne h2, mu_ne h2, mu_ne h2]
  have ha0 : mu (mu (mu (mu a (6 + K) 0 u) (6 + K) 1 v) (6 + K) 2 z) 0 5 (nI (K + 1)) 0 = upd (a 0) 5 (nI (K + 1)) := by rw [mu_eq, mu_ne (by omega), mu_ne (by omega), mu_ne (by omega)]
  have haK : mu (mu (mu (mu a (6 + K) 0 u) (6 + K) 1 v) (6 + K) 2 z) 0 5 (nI (K + 1)) (6 + K) = upd (upd (upd (a (6 + K)) 0 u) 1 v) 2 z := by rw [mu_ne (by omega), mu_eq, mu_eq, mu_eq]
  have e27 : upd (upd (upd (upd d (30 + 3 * K) u) (30 + 3 * K + 1) v) (30 + 3 * K + 2) z) 27 (nI (K + 1)) 27 = nI (K + 1) := upd_eq _ _ _
  have q0 : upd (upd (upd (upd d (30 + 3 * K) u) (30 + 3 * K + 1) v) (30 + 3 * K + 2) z) 27 (nI (K + 1)) (30 + 3 * K) = u := by rw [upd_ne (by omega), upd_ne (by omega), upd_ne (by omega), upd_eq]
  have q1 : upd (upd (upd (upd d (30 + 3 * K) u) (30 + 3 * K + 1) v) (30 + 3 * K + 2) z) 27 (nI (K + 1)) (30 + 3 * K + 1) = v := by rw [upd_ne (by omega), upd_ne (by omega), upd_eq]
  have q2 : upd (upd (upd (upd d (30 + 3 * K) u) (30 + 3 * K + 1) v) (30 + 3 * K + 2) z) 27 (nI (K + 1)) (30 + 3 * K + 2) = z := by rw [upd_ne (by omega), upd_eq]
  generalize upd (upd (upd (upd d (30 + 3 * K) u) (30 + 3 * K + 1) v) (30 + 3 * K + 2) z) 27 (nI (K + 1)) = d' at *
  generalize mu (mu (mu (mu a (6 + K) 0 u) (6 + K) 1 v) (6 + K) 2 z) 0 5 (nI (K + 1)) = a' at *
  refine ⟨⟨hK6, l2, l3, l4⟩, ?_, ⟨by rw [hd _ (by omega) (by omega)]; exact b1, by rw [hd _ (by omega) (by omega)]; exact b2, RB.up b3 (hd _ (by omega) (by omega)) (fun k hk => hd _ (by omega) (by omega)), by rw [hd _ (by omega) (by omega)]; exact b4, by rw [hd _ (by omega) (by omega)]; exact b5⟩, ⟨fun q hq => ?_, fun q hq => ?_⟩, fun j q => ?_, fun f q => ?_, fun s q => ?_⟩
  · obtain ⟨n1, n2, n3, n4, n9, n10, n11, n12, n13, n14, n15, n16, n17⟩ := hn
    unfold RN
    rw [ha0, e27, hd 17 (by omega) (by omega), hd 18 (by omega) (by omega), hd 19 (by omega) (by omega), hd 20 (by omega) (by omega), hd 21 (by omega) (by omega), hd 22 (by omega) (by omega), hd 23 (by omega) (by omega), hd 24 (by omega) (by omega), hd 25 (by omega) (by omega), hd 26 (by omega) (by omega), hd 28 (by omega) (by omega), hd 29 (by omega) (by omega)]
    exact ⟨⟨rfl, rfl⟩, n2, n3, n4, n9, n10, n11, n12, n13, n14, n15, n16, n17⟩
  · rw [ha 1 (by omega) (by omega), hd q (by omega) (by omega)]
    exact hA.1 q hq
  · rw [ha 2 (by omega) (by omega), hd (13 + q) (by omega) (by omega)]
    exact hA.2 q hq
  · unfold RK
    by_cases h : j = K
    · subst h
      rw [haK, q0, q1, q2]
      exact ⟨rfl, rfl, rfl, hu.1, hu.2, hv.1, hv.2, hz.1, hz.2⟩
    · rw [ha (6 + j) (by omega) (by omega), hd (30 + 3 * j) (by omega) (by omega), hd (30 + 3 * j + 1) (by omega) (by omega), hd (30 + 3 * j + 2) (by omega) (by omega)]
      exact hK j (by omega)
  · have z := hF f q
    unfold RF at z ⊢
    rw [ha (12 + f) (by omega) (by omega), hd (48 + f) (by omega) (by omega), cnt_congr f (fun j hj => ⟨hd _ (by omega) (by omega), hd _ (by omega) (by omega)⟩)]
    exact z
  · exact RS.cg (hR s q) (fun w hw => by rw [ha (20 + s) (by omega) (by omega)]) (fun w hw => hd _ (by omega) (by omega)) (fun k w h1 h2 => hd _ (by omega) (by omega)) (Nat.le_succ _) (Nat.le_refl _) (Nat.le_refl _)
theorem kind_eq {a : kM1} {d : Nat → Int32} {K F S t : Nat} (R : RM a d K F S t) (m : kM1) (u v z : Int32) : CK m a d t (fX3_addKind a u v z) (fX7_kind (sD m d) u v z) := by
  have l1 := R.lim.1
  unfold fX3_addKind fX7_kind
  rw [k_in, bd_s, g_in, bd_s]
  by_cases h : (1 : Int32).toInt ≤ u.toInt ∧ u.toInt ≤ (9 : Int32).toInt
  · rw [if_pos h, if_neg n10, if_neg n10, k_in, bd_s, g_in, bd_s]
    by_cases h2 : (0 : Int32).toInt ≤ v.toInt ∧ v.toInt ≤ (20 : Int32).toInt
    · rw [if_pos h2, if_neg n10, if_neg n10, k_in, bd_s, g_in, bd_s]
      by_cases h3 : (1 : Int32).toInt ≤ z.toInt ∧ z.toInt ≤ (1000000 : Int32).toInt
      · rw [if_pos h3, if_neg n10, if_neg n10, sD_1, R.n.1.1, R.n.1.2]
        by_cases h4 : K < 6
        · rw [if_pos (show nI K < 6 from (nI_lt h4 (by decide))), if_pos (inb_nI h4 (by decide)), if_neg (fun y => by have := nI_inj (by omega) (by decide) (y.trans (show (6 : Int32) = nI 6 from rfl)); omega), g_keeps, bd_s, c_nI (by omega), klet, klet, klet, klet, klet, sD_1, R.n.1.2, ix_k, show (1 : Int32) = nI 1 from rfl, show (2 : Int32) = nI 2 from rfl]
          rw [mu_ne (show 0 ≠ 6 + K by omega), mu_ne (show 0 ≠ 6 + K by omega), mu_ne (show 0 ≠ 6 + K by omega), R.n.1.1, nI_add, nI_add, nI_add]
          rw [if_pos (n368 (by omega)), klet, if_pos (n368 (by omega)), klet, if_pos (n368 (by omega)), klet, klet, c_nI (by omega), c_nI (by omega), c_nI (by omega), sD_mu, sD_mu, sD_mu, sD_1, upd_ne (by omega), upd_ne (by omega), upd_ne (by omega), R.n.1.2, nI_add, sD_mu, bd_id, sD_1, upd_eq, mu_eq, upd_eq, nI_sub (by omega), Nat.add_sub_cancel]
          exact CK.ok (by rw [t_nI (by omega)]; omega) (R.newK h4 h h2 h3)
        · rw [if_neg (show ¬ nI K < 6 from fun y => by rw [i_lt, t_nI (by omega)] at y; have : (6 : Int32).toInt = 6 := rfl; omega), if_pos (show nI K = 6 by rw [show K = 6 by omega]; rfl)]
          exact CK.er (by decide)
      · rw [if_neg h3, if_pos z00, if_pos z00]
        exact CK.er (by decide)
    · rw [if_neg h2, if_pos z00, if_pos z00]
      exact CK.er (by decide)
  · rw [if_neg h, if_pos z00, if_pos z00]
    exact CK.er (by decide)
theorem cnt_0 {d : Nat → Int32} {n F : Nat} (hF : F < 2147483648) (h : ∀ s, s < n → ∃ f, f < F ∧ d (56 + 13 * s) = nI f) : cnt d n F = 0 := by
  induction n with
  | zero => rfl
  | succ n ih =>
    unfold cnt
    rw [ih (fun s hs => h s (by omega)), if_neg]
    rintro ⟨z, -⟩
    obtain ⟨f, h1, h2⟩ := h n (by omega)
    have := nI_inj (by omega) (by omega) (h2.symm.trans z)
    omega
theorem RM.newF {a : kM1} {d : Nat → Int32} {K F S t : Nat} (R : RM a d K F S t) (h8 : F < 8) : RM (mu (mu (mu a (12 + F) 0 0) (12 + F) 1 0) 0 6 (nI (F + 1))) (upd (upd d (48 + F) 0) 28 (nI (F + 1))) K (F + 1) S t := by
  have R' := R
  obtain ⟨⟨l1, l2, l3, l4⟩, hn, ⟨b1, b2, b3, b4, b5⟩, hA, hK, hF, hR⟩ := R'
  have hd : ∀ k, k ≠ 28 → k ≠ 48 + F → upd (upd d (48 + F) 0) 28 (nI (F + 1)) k = d k := fun k h1 h2 => by rw [upd_ne h1, upd_ne h2]
  have ha : ∀ j, j ≠ 0 → j ≠ 12 + F → mu (mu (mu a (12 + F) 0 0) (12 + F) 1 0) 0 6 (nI (F + 1)) j = a j := fun j h1 h2 => by rw [mu_ne h1, mu_ne h2, mu_ne h2]
  have ha0 : mu (mu (mu a (12 + F) 0 0) (12 + F) 1 0) 0 6 (nI (F + 1)) 0 = upd (a 0) 6 (nI (F + 1)) := by rw [mu_eq, mu_ne (by omega), mu_ne (by omega)]
  have haF : mu (mu (mu a (12 + F) 0 0) (12 + F) 1 0) 0 6 (nI (F + 1)) (12 + F) = upd (upd (a (12 + F)) 0 0) 1 0 := by rw [mu_ne (by omega), mu_eq, mu_eq]
  have e28 : upd (upd d (48 + F) 0) 28 (nI (F + 1)) 28 = nI (F + 1) := upd_eq _ _ _
  have eF : upd (upd d (48 + F) 0) 28 (nI (F + 1)) (48 + F) = 0 := by rw [upd_ne (by omega), upd_eq]
  generalize upd (upd d (48 + F) 0) 28 (nI (F + 1)) = d' at *
  generalize mu (mu (mu a (12 + F) 0 0) (12 + F) 1 0) 0 6 (nI (F + 1)) = a' at *
  refine ⟨⟨l1, h8, l3, l4⟩, ?_, ⟨by rw [hd _ (by omega) (by omega)]; exact b1, by rw [hd _ (by omega) (by omega)]; exact b2, RB.up b3 (hd _ (by omega) (by omega)) (fun k hk => hd _ (by omega) (by omega)), by rw [hd _ (by omega) (by omega)]; exact b4, by rw [hd _ (by omega) (by omega)]; exact b5⟩, ⟨fun q hq => ?_, fun q hq => ?_⟩, fun j q => ?_, fun f q => ?_, fun s q => ?_⟩
  · obtain ⟨n1, n2, n3, n4, n9, n10, n11, n12, n13, n14, n15, n16, n17⟩ := hn
    unfold RN
    rw [ha0, e28, hd 17 (by omega) (by omega), hd 18 (by omega) (by omega), hd 19 (by omega) (by omega), hd 20 (by omega) (by omega), hd 21 (by omega) (by omega), hd 22 (by omega) (by omega), hd 23 (by omega) (by omega), hd 24 (by omega) (by omega), hd 25 (by omega) (by omega), hd 26 (by omega) (by omega), hd 27 (by omega) (by omega), hd 29 (by omega) (by omega)]
    exact ⟨n1, ⟨rfl, rfl⟩, n3, n4, n9, n10, n11, n12, n13, n14, n15, n16, n17⟩
  · rw [ha 1 (by omega) (by omega), hd q (by omega) (by omega)]
    exact hA.1 q hq
  · rw [ha 2 (by omega) (by omega), hd (13 + q) (by omega) (by omega)]
    exact hA.2 q hq
  · have z := hK j q
    unfold RK at z ⊢
    rw [ha (6 + j) (by omega) (by omega), hd (30 + 3 * j) (by omega) (by omega), hd (30 + 3 * j + 1) (by omega) (by omega), hd (30 + 3 * j + 2) (by omega) (by omega)]
    exact z
  · unfold RF
    rw [cnt_congr (d := d) f (fun j hj => ⟨hd _ (by omega) (by omega), hd _ (by omega) (by omega)⟩)]
    by_cases h : f = F
    · subst h
      rw [haF, eF, cnt_0 (by omega) (fun s hs => by
        obtain ⟨g, h1, -, h2⟩ := (R.so hs).1
        exact ⟨g, h1, h2⟩)]
      exact ⟨rfl, by decide, rfl⟩
    · rw [ha (12 + f) (by omega) (by omega), hd (48 + f) (by omega) (by omega)]
      exact hF f (by omega)
  · exact RS.cg (hR s q) (fun w hw => by rw [ha (20 + s) (by omega) (by omega)]) (fun w hw => hd _ (by omega) (by omega)) (fun k w h1 h2 => hd _ (by omega) (by omega)) (Nat.le_refl _) (Nat.le_succ _) (Nat.le_refl _)
theorem farmer_eq {a : kM1} {d : Nat → Int32} {K F S t : Nat} (R : RM a d K F S t) (m : kM1) : CK m a d t (fX3_addFarmer a) (fX7_farmer (sD m d)) := by
  have l2 := R.lim.2.1
  have e1 := R.n.2.1.1
  have e2 := R.n.2.1.2
  unfold fX3_addFarmer fX7_farmer
  rw [sD_1, e1, e2]
  by_cases h4 : F < 8
  · rw [if_pos (show nI F < 8 from (nI_lt h4 (by decide))), if_pos (inb_nI h4 (by decide)), if_neg (fun y => by have := nI_inj (by omega) (by decide) (y.trans (show (8 : Int32) = nI 8 from rfl)); omega), g_keeps, bd_s, c_nI (by omega), klet, klet, klet, sD_1, e2, ix_f]
    rw [mu_ne (show 0 ≠ 12 + F by omega), mu_ne (show 0 ≠ 12 + F by omega), e1, if_pos (n368 (by omega)), klet, klet, c_nI (by omega), sD_mu, sD_1, upd_ne (by omega), e2, nI_1, sD_mu, bd_id, sD_1, upd_eq, mu_eq, upd_eq, show (1 : Int32) = nI 1 from rfl, nI_sub (by omega), Nat.add_sub_cancel]
    exact CK.ok (by rw [t_nI (by omega)]; omega) (R.newF h4)
  · rw [if_neg (show ¬ nI F < 8 from fun y => by rw [i_lt, t_nI (by omega)] at y; have : (8 : Int32).toInt = 8 := rfl; omega), if_pos (show nI F = 8 by rw [show F = 8 by omega]; rfl)]
    exact CK.er (by decide)
