/-! the two layouts, out of the cells that the constructors made -/
theorem arrV_cg {cA : ClassId} {N : Nat} {f g : Nat → Value} (h : ∀ j, j < N → f j = g j) : arrV cA N f = arrV cA N g := by
  unfold arrV
  congr 1
  apply Array.ext_getElem?
  intro j
  by_cases hj : j < N
  · have e1 := arrV_read cA f hj
    have e2 := arrV_read cA g hj
    rw [h j hj] at e1
    exact e1.trans e2.symm
  · rw [Array.getElem?_eq_none (by simp; omega), Array.getElem?_eq_none (by simp; omega)]
def zMill : Nat → Int32 := fun k => if k = 12 then -1 else if k = 13 then -1 else 0
def zM (i j : Nat) : Nat → Int32 := if i < 7 then (if j = 0 then zMill else if j = 1 then k_first else if j = 2 then k_fleak else fun _ => 0) else fun _ => 0
def M0 : kM2 := zM
def lA (h6 : Nat) (ad0 ad1 : Nat → Nat) (qh q : Nat) (adM : Nat → Nat → Nat) (qo q1 q2 : Nat) (i j : Nat) : Nat := if i = 0 then ad0 j else if i = 1 then ad1 j else if i < 7 then adM (i - 2) j else if j = 0 then h6 else if j = 1 then qh else if j = 2 then q else if j = 3 then qo else if j = 4 then q1 else q2
theorem app_l {α : Type} {l1 l2 : List α} {k : Nat} {x : α} (h : l1[k]? = some x) : (l1 ++ l2)[k]? = some x := by
  rw [List.getElem?_append_left (List.getElem?_eq_some_iff.mp h).1]; exact h
theorem app_r {α : Type} {l1 l2 : List α} {n k k' : Nat} {x : α} (hn : l1.length = n) (hk : k' = n + k) (h : l2[k]? = some x) : (l1 ++ l2)[k']? = some x := by
  subst hk
  rw [List.getElem?_append_right (by omega), hn, Nat.add_sub_cancel_left]; exact h
theorem wP_len {aI : Nat → ClassId} {ad : Nat → Nat} {n c1 c2 c3 : Nat} : (wP aI ad n c1 c2 c3).length = n := by unfold wP; simp
/-- a mill's cell as it was made is the layout's -/
theorem mill_at {D : va_G} {Γ : kG} {aI : Nat → ClassId} {ad : Nat → Nat} {i j : Nat} {H : Heap} (hi : i < 7) (hΓ : Γ.1 i = ad) (hI : Γ.2.2.1 = aI) (h : va_at D vwCl (ad j, ceP aI ad 6 8 24 j) H) : va_at D vwCl (Γ.1 i j, ceI Γ i j (M0 i j)) H := by
  rw [show Γ.1 i j = ad j by rw [hΓ]]
  unfold ceI M0 zM
  rw [if_pos hi, if_pos hi]
  unfold ceP at h
  unfold ceMill
  by_cases h0 : j = 0
  · subst h0
    rw [if_pos rfl] at h ⊢
    rw [if_pos rfl]
    have e : fsMill Γ i zMill = [.ref (ad 1), .ref (ad 2), .ref (ad 3), .ref (ad 4), .ref (ad 5), .int 0, .int 0, .int 0, .int 0, .int 0, .int 0, .int 0, .int (-1), .int (-1), .int 0, .int 0, .int 0, .int 0] := by
      unfold fsMill
      rw [hΓ]
      rfl
    rw [e]
    exact h
  rw [if_neg h0] at h ⊢
  rw [if_neg h0]
  by_cases h1 : j = 1
  · subst h1
    rw [if_pos rfl] at h ⊢
    rw [if_pos rfl, hI]
    exact h
  rw [if_neg h1] at h ⊢
  rw [if_neg h1]
  by_cases h2 : j = 2
  · subst h2
    rw [if_pos rfl] at h ⊢
    rw [if_pos rfl, hI]
    exact h
  rw [if_neg h2] at h ⊢
  rw [if_neg h2, hI, hΓ]
  by_cases h3 : j = 3
  · subst h3
    rw [if_pos rfl] at h ⊢
    show H[ad 3]? = some (vp_cell (aI 2) _)
    rw [show H[ad 3]? = some (vp_cell (aI 2) _) from h, vp_cell_q, vp_cell_q]
    exact congrArg some (arrV_cg fun j hj => by rw [if_pos hj])
  rw [if_neg h3] at h ⊢
  by_cases h4 : j = 4
  · subst h4
    rw [if_pos rfl] at h ⊢
    show H[ad 4]? = some (vp_cell (aI 3) _)
    rw [show H[ad 4]? = some (vp_cell (aI 3) _) from h, vp_cell_q, vp_cell_q]
    exact congrArg some (arrV_cg fun j hj => by rw [if_pos hj])
  rw [if_neg h4] at h ⊢
  by_cases h5 : j = 5
  · subst h5
    rw [if_pos rfl] at h ⊢
    show H[ad 5]? = some (vp_cell (aI 4) _)
    rw [show H[ad 5]? = some (vp_cell (aI 4) _) from h, vp_cell_q, vp_cell_q]
    exact congrArg some (arrV_cg fun j hj => by rw [if_pos hj])
  rw [if_neg h5] at h ⊢
  by_cases h6 : j < 12
  · rw [if_pos h6] at h ⊢
    exact h
  rw [if_neg h6] at h ⊢
  by_cases h7 : j < 20
  · rw [if_pos h7] at h ⊢
    exact h
  rw [if_neg h7] at h ⊢
  exact h
/-- where in the made cells a layout's cell lies -/
def posA (a : Nat) : Nat := if a < 88 then a + 1 else if a < 308 then a + 3 else if a = 308 then 0 else if a = 309 then 89 else if a = 310 then 90 else a
theorem posA_inj {a b : Nat} (ha : a < 314) (hb : b < 314) (h : posA a = posA b) : a = b := by
  unfold posA at h
  repeat' split at h
  all_goals omega
theorem posA_lt {a : Nat} (ha : a < 314) : posA a < 314 := by
  unfold posA
  repeat' split
  all_goals omega
section LY
variable {D : va_G} {aI : Nat → ClassId} {A : Nat → Prop} {h6 h7 : Nat} {ad0 ad1 : Nat → Nat} {qh q : Nat} {adM : Nat → Nat → Nat} {qo q1 q2 p1 p2 p3 p4 p5 p6 : Nat}
theorem wHg_len {c k : Nat} : (wHg aI qh q adM c k).length = 2 + 44 * k := by
  unfold wHg
  rw [List.length_cons, List.length_cons, mls_len]
  omega
theorem wSea_len : (wSea aI h6 ad0 ad1 qh q adM qo q1 q2).length = 314 := by
  unfold wSea wO
  rw [List.length_cons, List.length_append, List.length_append, List.length_append, wP_len, wP_len, wHg_len]
  rfl
theorem sea_at {a : Nat} (ha : a < 314) : ∃ e, (wSea aI h6 ad0 ad1 qh q adM qo q1 q2)[posA a]? = some (lA h6 ad0 ad1 qh q adM qo q1 q2 (a / 44) (a % 44), e) ∧ ∀ (Γ : kG) (H : Heap), Γ.1 = lA h6 ad0 ad1 qh q adM qo q1 q2 → Γ.2.2.1 = aI → va_at D vwCl (lA h6 ad0 ad1 qh q adM qo q1 q2 (a / 44) (a % 44), e) H → va_at D vwCl (Γ.1 (a / 44) (a % 44), ceI Γ (a / 44) (a % 44) (M0 (a / 44) (a % 44))) H := by
  obtain ⟨i, j, hj, rfl⟩ : ∃ i j, j < 44 ∧ a = 44 * i + j := ⟨a / 44, a % 44, by omega, by omega⟩
  rw [show (44 * i + j) / 44 = i by omega, show (44 * i + j) % 44 = j by omega]
  by_cases c0 : i = 0
  · subst c0
    have e1 : posA (44 * 0 + j) = j + 1 := by unfold posA; rw [if_pos (by omega)]; omega
    have e2 : lA h6 ad0 ad1 qh q adM qo q1 q2 0 = ad0 := rfl
    refine ⟨ceP aI ad0 6 8 24 j, ?_, fun Γ H g1 g2 h => mill_at (by decide) ((congrFun g1 _).trans e2) g2 (by rw [e2] at h; exact h)⟩
    rw [e1, e2]
    unfold wSea
    rw [List.getElem?_cons_succ]
    exact app_l (app_l (app_l (wP_at hj)))
  by_cases c1 : i = 1
  · subst c1
    have e1 : posA (44 * 1 + j) = (44 + j) + 1 := by unfold posA; rw [if_pos (by omega)]
    have e2 : lA h6 ad0 ad1 qh q adM qo q1 q2 1 = ad1 := rfl
    refine ⟨ceP aI ad1 6 8 24 j, ?_, fun Γ H g1 g2 h => mill_at (by decide) ((congrFun g1 _).trans e2) g2 (by rw [e2] at h; exact h)⟩
    rw [e1, e2]
    unfold wSea
    rw [List.getElem?_cons_succ]
    exact app_l (app_l (app_r wP_len rfl (wP_at hj)))
  by_cases c7 : i < 7
  · have e1 : posA (44 * i + j) = (88 + (44 * (i - 2) + j + 1 + 1)) + 1 := by unfold posA; rw [if_neg (by omega), if_pos (by omega)]; omega
    have e2 : lA h6 ad0 ad1 qh q adM qo q1 q2 i = adM (i - 2) := by
      funext j
      unfold lA
      rw [if_neg c0, if_neg c1, if_pos c7]
    refine ⟨ceP aI (adM (i - 2)) 6 8 24 j, ?_, fun Γ H g1 g2 h => mill_at c7 ((congrFun g1 _).trans e2) g2 (by rw [e2] at h; exact h)⟩
    rw [e1, e2]
    unfold wSea
    rw [List.getElem?_cons_succ]
    refine app_l (app_r (n := 88) (by rw [List.length_append, wP_len, wP_len]) rfl ?_)
    unfold wHg
    rw [List.getElem?_cons_succ, List.getElem?_cons_succ]
    exact mls_at aI adM (by omega) hj
  have hi : i = 7 := by omega
  subst hi
  have hO : ∀ k x, (wO aI qo q1 q2)[k]? = some x → (wSea aI h6 ad0 ad1 qh q adM qo q1 q2)[(310 + k) + 1]? = some x := by
    intro k x h
    unfold wSea
    rw [List.getElem?_cons_succ]
    exact app_r (n := 310) (by rw [List.length_append, List.length_append, wP_len, wP_len, wHg_len]) rfl h
  have hH : ∀ k x, (wHg aI qh q adM 5 5)[k]? = some x → (wSea aI h6 ad0 ad1 qh q adM qo q1 q2)[(88 + k) + 1]? = some x := by
    intro k x h
    unfold wSea
    rw [List.getElem?_cons_succ]
    exact app_l (app_r (n := 88) (by rw [List.length_append, wP_len, wP_len]) rfl h)
  rcases (show j = 0 ∨ j = 1 ∨ j = 2 ∨ j = 3 ∨ j = 4 ∨ j = 5 by omega) with rfl | rfl | rfl | rfl | rfl | rfl
  · refine ⟨_, (rfl : (wSea aI h6 ad0 ad1 qh q adM qo q1 q2)[0]? = some (h6, _)), fun Γ H g1 g2 h => ?_⟩
    have e : fsSea Γ = [.ref (ad0 0), .ref (ad1 0), .ref qh, .ref qo] := by
      unfold fsSea
      rw [g1]
      rfl
    rw [g1, e_sea, e]
    exact h
  · refine ⟨_, hH 0 (qh, _) rfl, fun Γ H g1 g2 h => ?_⟩
    have e : fsHist Γ (M0 7 1) = [.ref q, .int 0, .int 0] := by
      unfold fsHist
      rw [g1]
      rfl
    rw [e_hist, e, g1]
    exact h
  · refine ⟨_, hH 1 (q, _) rfl, fun Γ H g1 g2 h => ?_⟩
    rw [e_states, g1, g2]
    show H[q]? = some (vp_cell (aI 5) _)
    rw [show H[q]? = some (vp_cell (aI 5) _) from h, vp_cell_q, vp_cell_q]
    refine congrArg some (arrV_cg fun j hj => ?_)
    rw [if_pos hj]
    show _ = va_rf (some (lA h6 ad0 ad1 qh q adM qo q1 q2 (2 + j) 0))
    unfold lA
    rw [if_neg (by omega), if_neg (by omega), if_pos (by omega), Nat.add_sub_cancel_left]
  · refine ⟨_, hO 0 (qo, _) rfl, fun Γ H g1 g2 h => ?_⟩
    have e : fsOrd Γ (M0 7 3) = [.ref q1, .ref q2, .int 0, .int 0, .int 0, .int 0, .int 0] := by
      unfold fsOrd
      rw [g1]
      rfl
    rw [e_ord, e, g1]
    exact h
  · refine ⟨_, hO 1 (q1, _) rfl, fun Γ H g1 g2 h => ?_⟩
    rw [e_text, g1, g2]
    exact h
  · refine ⟨_, hO 2 (q2, _) rfl, fun Γ H g1 g2 h => ?_⟩
    rw [e_nums, g1, g2]
    exact h
/-- the layout -/
theorem one {H : Heap} (b L : Nat) (xs : Nat → Int32) (hP : va_P D vwCl (wSea aI h6 ad0 ad1 qh q adM qo q1 q2) H) (hD : va_D A (wSea aI h6 ad0 ad1 qh q adM qo q1 q2)) : ∃ Γ : kG, Γ.2.1 = D ∧ Γ.2.2.1 = aI ∧ Γ.1 7 0 = h6 ∧ Γ.2.2.2 = (A, b, L, xs) ∧ k_Lay Γ 314 ∧ va_P D vwCl (k_wl Γ (K2 Γ) M0) H := by
  refine ⟨(lA h6 ad0 ad1 qh q adM qo q1 q2, D, aI, A, b, L, xs), rfl, rfl, rfl, rfl, ⟨fun a b ha hb he => ?_, fun a ha => ?_⟩, ?_⟩
  · obtain ⟨e1, h1, -⟩ := sea_at (D := D) (aI := aI) (h6 := h6) (ad0 := ad0) (ad1 := ad1) (qh := qh) (q := q) (adM := adM) (qo := qo) (q1 := q1) (q2 := q2) ha
    obtain ⟨e2, h2, -⟩ := sea_at (D := D) (aI := aI) (h6 := h6) (ad0 := ad0) (ad1 := ad1) (qh := qh) (q := q) (adM := adM) (qo := qo) (q1 := q1) (q2 := q2) hb
    exact posA_inj ha hb (hD.1 _ _ _ _ h1 h2 he)
  · obtain ⟨e1, h1, -⟩ := sea_at (D := D) (aI := aI) (h6 := h6) (ad0 := ad0) (ad1 := ad1) (qh := qh) (q := q) (adM := adM) (qo := qo) (q1 := q1) (q2 := q2) ha
    exact hD.2 _ _ h1
  · intro k x hk
    unfold k_wl at hk
    rw [List.getElem?_map] at hk
    obtain ⟨z, g1, g2⟩ := Option.map_eq_some_iff.mp hk
    obtain ⟨g3, g4⟩ := List.getElem?_eq_some_iff.mp g1
    simp only [List.length_range] at g3
    simp only [List.getElem_range] at g4
    subst g4
    subst g2
    obtain ⟨e, h1, h2⟩ := sea_at (D := D) (aI := aI) (h6 := h6) (ad0 := ad0) (ad1 := ad1) (qh := qh) (q := q) (adM := adM) (qo := qo) (q1 := q1) (q2 := q2) (a := k) g3
    exact h2 (lA h6 ad0 ad1 qh q adM qo q1 q2, D, aI, A, b, L, xs) H rfl rfl (hP _ _ h1)
end LY
/-- a new object -/
theorem start_i : IM (M0 0) 0 0 0 0 (dt 0) ∧ HI M0 0 0 ∧ NW M0 := by
  refine ⟨⟨⟨by decide, by decide, by decide, by decide⟩, ⟨rfl, rfl, rfl, rfl⟩, ⟨⟨by decide, by decide⟩, Or.inl rfl, ⟨by decide, by decide⟩, rfl⟩, Or.inl ⟨rfl, fun s hs => absurd hs (Nat.not_lt_zero s)⟩, ⟨fun k hk => ?_, fun k hk => ?_⟩, fun k hk => absurd hk (Nat.not_lt_zero k), fun k hk => absurd hk (Nat.not_lt_zero k), fun k hk => absurd hk (Nat.not_lt_zero k)⟩, ⟨by decide, by decide, rfl, rfl⟩, rfl, rfl, rfl⟩
  · rcases (show k = 0 ∨ k = 1 ∨ k = 2 ∨ k = 3 ∨ k = 4 ∨ k = 5 ∨ k = 6 ∨ k = 7 ∨ k = 8 ∨ k = 9 ∨ k = 10 ∨ k = 11 ∨ k = 12 by omega) with rfl | rfl | rfl | rfl | rfl | rfl | rfl | rfl | rfl | rfl | rfl | rfl | rfl <;> exact ⟨by decide, by decide⟩
  · rcases (show k = 0 ∨ k = 1 ∨ k = 2 ∨ k = 3 by omega) with rfl | rfl | rfl | rfl <;> exact ⟨by decide, by decide⟩
