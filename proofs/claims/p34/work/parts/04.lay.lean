abbrev kM1 : Type := Nat → Nat → Int32
abbrev kM2 : Type := Nat → Nat → Nat → Int32
def mu (m : kM1) (j k : Nat) (v : Int32) : kM1 := fun j' => if j' = j then upd (m j) k v else m j'
def up (M : kM2) (i : Nat) (m : kM1) : kM2 := fun i' => if i' = i then m else M i'
def mw (M : kM2) (i j k : Nat) (v : Int32) : kM2 := up M i (mu (M i) j k v)
theorem up_self (M : kM2) (i : Nat) : up M i (M i) = M := by
  funext i'
  unfold up
  split
  · next h => rw [h]
  · rfl
theorem up_same (M : kM2) (i : Nat) (m : kM1) : up M i m i = m := by unfold up; rw [if_pos rfl]
theorem up_up (M : kM2) (i : Nat) (m m' : kM1) : up (up M i m) i m' = up M i m' := by
  funext i'
  unfold up
  split <;> rfl
theorem up_ne (M : kM2) {i i' : Nat} (m : kM1) (h : i' ≠ i) : up M i m i' = M i' := by unfold up; rw [if_neg h]
abbrev fsMill (Γ : kG) (i : Nat) (r : Nat → Int32) : List Value := [.ref (Γ.1 i 1), .ref (Γ.1 i 2), .ref (Γ.1 i 3), .ref (Γ.1 i 4), .ref (Γ.1 i 5), .int (r 5), .int (r 6), .int (r 7), .int (r 8), .int (r 9), .int (r 10), .int (r 11), .int (r 12), .int (r 13), .int (r 14), .int (r 15), .int (r 16), .int (r 17)]
abbrev fsKind (r : Nat → Int32) : List Value := [.int (r 0), .int (r 1), .int (r 2)]
abbrev fsFarmer (r : Nat → Int32) : List Value := [.int (r 0), .int (r 1)]
abbrev fsSack (r : Nat → Int32) : List Value := [.int (r 0), .int (r 1), .int (r 2), .int (r 3), .int (r 4), .int (r 5), .int (r 6), .int (r 7), .int (r 8), .int (r 9), .int (r 10), .int (r 11), .int (r 12), .int (r 13), .int (r 14), .int (r 15), .int (r 16)]
abbrev fsSea (Γ : kG) : List Value := [.ref (Γ.1 0 0), .ref (Γ.1 1 0), .ref (Γ.1 7 1), .ref (Γ.1 7 3)]
abbrev fsHist (Γ : kG) (r : Nat → Int32) : List Value := [.ref (Γ.1 7 2), .int (r 1), .int (r 2)]
abbrev fsOrd (Γ : kG) (r : Nat → Int32) : List Value := [.ref (Γ.1 7 4), .ref (Γ.1 7 5), .int (r 2), .int (r 3), .int (r 4), .int (r 5), .int (r 6)]
abbrev fsModel (Γ : kG) (r : Nat → Int32) : List Value := [.ref (Γ.1 0 1), .ref (Γ.1 0 2), .ref (Γ.1 0 3), .ref (Γ.1 0 4), .int (r 4), .ref (Γ.1 0 5), .int (r 6), .int (r 7), .int (r 8), .ref (Γ.1 0 6)]
/-- the cell at a place of a mill -/
def ceMill (Γ : kG) (i j : Nat) (r : Nat → Int32) : va_E :=
  if j = 0 then .inr (3, fsMill Γ i r) else if j = 1 then .inl (Γ.2.2.1 0, 13, .inl r) else if j = 2 then .inl (Γ.2.2.1 0, 4, .inl r)
  else if j = 3 then .inl (Γ.2.2.1 2, 6, .inr (.inr (.inr (.inr (fun q => some (Γ.1 i (6 + q)))))))
  else if j = 4 then .inl (Γ.2.2.1 3, 8, .inr (.inr (.inr (.inr (fun q => some (Γ.1 i (12 + q)))))))
  else if j = 5 then .inl (Γ.2.2.1 4, 24, .inr (.inr (.inr (.inr (fun q => some (Γ.1 i (20 + q)))))))
  else if j < 12 then .inr (2, fsKind r) else if j < 20 then .inr (0, fsFarmer r) else .inr (5, fsSack r)
def ceOth (Γ : kG) (j : Nat) (r : Nat → Int32) : va_E :=
  if j = 0 then .inr (6, fsSea Γ) else if j = 1 then .inr (1, fsHist Γ r)
  else if j = 2 then .inl (Γ.2.2.1 5, 5, .inr (.inr (.inr (.inr (fun q => some (Γ.1 (2 + q) 0))))))
  else if j = 3 then .inr (4, fsOrd Γ r) else if j = 4 then .inl (Γ.2.2.1 1, 60, .inl r) else .inl (Γ.2.2.1 0, 3, .inl r)
def ceI (Γ : kG) (i j : Nat) (r : Nat → Int32) : va_E := if i < 7 then ceMill Γ i j r else ceOth Γ j r
def ceD (Γ : kG) (j : Nat) (r : Nat → Int32) : va_E :=
  if j = 0 then .inr (7, fsModel Γ r) else if j = 1 then .inl (Γ.2.2.1 0, 368, .inl r) else if j = 2 then .inl (Γ.2.2.1 0, 1472, .inl r)
  else if j = 3 then .inl (Γ.2.2.1 0, 368, .inl r) else if j = 4 then .inl (Γ.2.2.1 0, 368, .inl r) else if j = 5 then .inl (Γ.2.2.1 1, 60, .inl r) else .inl (Γ.2.2.1 0, 3, .inl r)
/-- the class's cells, seen from one group of them (K1), whole (K2); the reference's cells (K3) -/
def K1 (Γ : kG) (M : kM2) (i : Nat) : Nat × (kM1 → Nat → Nat → va_E) := (314, fun m i' j' => ceI Γ i' j' (up M i m i' j'))
def K2 (Γ : kG) : Nat × (kM2 → Nat → Nat → va_E) := (314, fun M i' j' => ceI Γ i' j' (M i' j'))
def K3 (Γ : kG) : Nat × (kM1 → Nat → Nat → va_E) := (7, fun m i' j' => if i' = 0 then ceD Γ j' (m j') else .inr (7, []))
theorem c1 (Γ : kG) (M : kM2) (i : Nat) (m : kM1) (j : Nat) {E : va_E} (h : ceI Γ i j (m j) = E) : (K1 Γ M i).2 m i j = E := by
  show ceI Γ i j (up M i m i j) = E
  rw [up_same]; exact h
theorem c2 (Γ : kG) (M : kM2) (i j : Nat) {E : va_E} (h : ceI Γ i j (M i j) = E) : (K2 Γ).2 M i j = E := h
theorem c3 (Γ : kG) (m : kM1) (j : Nat) {E : va_E} (h : ceD Γ j (m j) = E) : (K3 Γ).2 m 0 j = E := by
  show (if 0 = 0 then ceD Γ j (m j) else .inr (7, [])) = E
  rw [if_pos rfl]; exact h
theorem s1 (Γ : kG) (M : kM2) (i : Nat) (m : kM1) (j k : Nat) (v : Int32) {E : va_E} (h : ceI Γ i j (upd (m j) k v) = E) : ∀ i' j', (K1 Γ M i).2 (mu m j k v) i' j' = if i' = i ∧ j' = j then E else (K1 Γ M i).2 m i' j' := by
  intro i' j'
  show ceI Γ i' j' (up M i (mu m j k v) i' j') = if i' = i ∧ j' = j then E else ceI Γ i' j' (up M i m i' j')
  by_cases h1 : i' = i
  · subst h1
    rw [up_same, up_same]
    unfold mu
    by_cases h2 : j' = j
    · subst h2
      rw [if_pos rfl, if_pos ⟨rfl, rfl⟩]; exact h
    · rw [if_neg h2, if_neg (fun z => h2 z.2)]
  · rw [up_ne M _ h1, up_ne M _ h1, if_neg (fun z => h1 z.1)]
theorem s2 (Γ : kG) (M : kM2) (i j k : Nat) (v : Int32) {E : va_E} (h : ceI Γ i j (upd (M i j) k v) = E) : ∀ i' j', (K2 Γ).2 (mw M i j k v) i' j' = if i' = i ∧ j' = j then E else (K2 Γ).2 M i' j' := by
  have h1 := s1 Γ M i (M i) j k v h
  intro i' j'
  have h2 := h1 i' j'
  show ceI Γ i' j' (up M i (mu (M i) j k v) i' j') = if i' = i ∧ j' = j then E else ceI Γ i' j' (M i' j')
  have e : (K1 Γ M i).2 (M i) i' j' = ceI Γ i' j' (M i' j') := by
    show ceI Γ i' j' (up M i (M i) i' j') = _
    rw [up_self]
  rw [e] at h2
  exact h2
theorem s3 (Γ : kG) (m : kM1) (j k : Nat) (v : Int32) {E : va_E} (h : ceD Γ j (upd (m j) k v) = E) : ∀ i' j', (K3 Γ).2 (mu m j k v) i' j' = if i' = 0 ∧ j' = j then E else (K3 Γ).2 m i' j' := by
  intro i' j'
  show (if i' = 0 then ceD Γ j' (mu m j k v j') else .inr (7, [])) = if i' = 0 ∧ j' = j then E else if i' = 0 then ceD Γ j' (m j') else .inr (7, [])
  by_cases h1 : i' = 0
  · rw [if_pos h1, if_pos h1]
    unfold mu
    by_cases h2 : j' = j
    · subst h2
      rw [if_pos rfl, if_pos ⟨h1, rfl⟩]; exact h
    · rw [if_neg h2, if_neg (fun z => h2 z.2)]
  · rw [if_neg h1, if_neg h1, if_neg (fun z => h1 z.1)]
theorem e_mill (Γ : kG) {i : Nat} (hi : i < 7) (r : Nat → Int32) : ceI Γ i 0 r = .inr (3, fsMill Γ i r) := by unfold ceI; rw [if_pos hi]; rfl
theorem e_sets (Γ : kG) {i : Nat} (hi : i < 7) (r : Nat → Int32) : ceI Γ i 1 r = .inl (Γ.2.2.1 0, 13, .inl r) := by unfold ceI; rw [if_pos hi]; rfl
theorem e_leaks (Γ : kG) {i : Nat} (hi : i < 7) (r : Nat → Int32) : ceI Γ i 2 r = .inl (Γ.2.2.1 0, 4, .inl r) := by unfold ceI; rw [if_pos hi]; rfl
theorem e_kinds (Γ : kG) {i : Nat} (hi : i < 7) (r : Nat → Int32) : ceI Γ i 3 r = .inl (Γ.2.2.1 2, 6, .inr (.inr (.inr (.inr (fun q => some (Γ.1 i (6 + q))))))) := by unfold ceI; rw [if_pos hi]; rfl
theorem e_farmers (Γ : kG) {i : Nat} (hi : i < 7) (r : Nat → Int32) : ceI Γ i 4 r = .inl (Γ.2.2.1 3, 8, .inr (.inr (.inr (.inr (fun q => some (Γ.1 i (12 + q))))))) := by unfold ceI; rw [if_pos hi]; rfl
theorem e_sacks (Γ : kG) {i : Nat} (hi : i < 7) (r : Nat → Int32) : ceI Γ i 5 r = .inl (Γ.2.2.1 4, 24, .inr (.inr (.inr (.inr (fun q => some (Γ.1 i (20 + q))))))) := by unfold ceI; rw [if_pos hi]; rfl
theorem e_kind (Γ : kG) {i j : Nat} (hi : i < 7) (hj : 6 ≤ j ∧ j < 12) (r : Nat → Int32) : ceI Γ i j r = .inr (2, fsKind r) := by
  unfold ceI ceMill
  rw [if_pos hi, if_neg (by omega), if_neg (by omega), if_neg (by omega), if_neg (by omega), if_neg (by omega), if_neg (by omega), if_pos (by omega)]
theorem e_farmer (Γ : kG) {i j : Nat} (hi : i < 7) (hj : 12 ≤ j ∧ j < 20) (r : Nat → Int32) : ceI Γ i j r = .inr (0, fsFarmer r) := by
  unfold ceI ceMill
  rw [if_pos hi, if_neg (by omega), if_neg (by omega), if_neg (by omega), if_neg (by omega), if_neg (by omega), if_neg (by omega), if_neg (by omega), if_pos (by omega)]
theorem e_sack (Γ : kG) {i j : Nat} (hi : i < 7) (hj : 20 ≤ j ∧ j < 44) (r : Nat → Int32) : ceI Γ i j r = .inr (5, fsSack r) := by
  unfold ceI ceMill
  rw [if_pos hi, if_neg (by omega), if_neg (by omega), if_neg (by omega), if_neg (by omega), if_neg (by omega), if_neg (by omega), if_neg (by omega), if_neg (by omega)]
theorem e_sea (Γ : kG) (r : Nat → Int32) : ceI Γ 7 0 r = .inr (6, fsSea Γ) := rfl
theorem e_hist (Γ : kG) (r : Nat → Int32) : ceI Γ 7 1 r = .inr (1, fsHist Γ r) := rfl
theorem e_states (Γ : kG) (r : Nat → Int32) : ceI Γ 7 2 r = .inl (Γ.2.2.1 5, 5, .inr (.inr (.inr (.inr (fun q => some (Γ.1 (2 + q) 0)))))) := rfl
theorem e_ord (Γ : kG) (r : Nat → Int32) : ceI Γ 7 3 r = .inr (4, fsOrd Γ r) := rfl
theorem e_text (Γ : kG) (r : Nat → Int32) : ceI Γ 7 4 r = .inl (Γ.2.2.1 1, 60, .inl r) := rfl
theorem e_nums (Γ : kG) (r : Nat → Int32) : ceI Γ 7 5 r = .inl (Γ.2.2.1 0, 3, .inl r) := rfl
theorem e_model (Γ : kG) (r : Nat → Int32) : ceD Γ 0 r = .inr (7, fsModel Γ r) := rfl
theorem e_d (Γ : kG) (r : Nat → Int32) : ceD Γ 1 r = .inl (Γ.2.2.1 0, 368, .inl r) := rfl
theorem e_was (Γ : kG) (r : Nat → Int32) : ceD Γ 2 r = .inl (Γ.2.2.1 0, 1472, .inl r) := rfl
theorem e_aside (Γ : kG) (r : Nat → Int32) : ceD Γ 3 r = .inl (Γ.2.2.1 0, 368, .inl r) := rfl
theorem e_begun (Γ : kG) (r : Nat → Int32) : ceD Γ 4 r = .inl (Γ.2.2.1 0, 368, .inl r) := rfl
theorem e_mtext (Γ : kG) (r : Nat → Int32) : ceD Γ 5 r = .inl (Γ.2.2.1 1, 60, .inl r) := rfl
theorem e_got (Γ : kG) (r : Nat → Int32) : ceD Γ 6 r = .inl (Γ.2.2.1 0, 3, .inl r) := rfl
theorem f_mill (Γ : kG) (i : Nat) (r : Nat → Int32) (v : Int32) (k : Nat) (hk : 5 ≤ k ∧ k < 18) : fsMill Γ i (upd r k v) = (fsMill Γ i r).set k (.int v) := by
  rcases (show k = 5 ∨ k = 6 ∨ k = 7 ∨ k = 8 ∨ k = 9 ∨ k = 10 ∨ k = 11 ∨ k = 12 ∨ k = 13 ∨ k = 14 ∨ k = 15 ∨ k = 16 ∨ k = 17 by omega) with rfl | rfl | rfl | rfl | rfl | rfl | rfl | rfl | rfl | rfl | rfl | rfl | rfl <;> rfl
theorem f_hist (Γ : kG) (r : Nat → Int32) (v : Int32) (k : Nat) (hk : 1 ≤ k ∧ k < 3) : fsHist Γ (upd r k v) = (fsHist Γ r).set k (.int v) := by
  rcases (show k = 1 ∨ k = 2 by omega) with rfl | rfl <;> rfl
theorem f_ord (Γ : kG) (r : Nat → Int32) (v : Int32) (k : Nat) (hk : 2 ≤ k ∧ k < 7) : fsOrd Γ (upd r k v) = (fsOrd Γ r).set k (.int v) := by
  rcases (show k = 2 ∨ k = 3 ∨ k = 4 ∨ k = 5 ∨ k = 6 by omega) with rfl | rfl | rfl | rfl | rfl <;> rfl
theorem f_kind  (r : Nat → Int32) (v : Int32) (k : Nat) (hk : 0 ≤ k ∧ k < 3) : fsKind (upd r k v) = (fsKind r).set k (.int v) := by
  rcases (show k = 0 ∨ k = 1 ∨ k = 2 by omega) with rfl | rfl | rfl <;> rfl
theorem f_farmer  (r : Nat → Int32) (v : Int32) (k : Nat) (hk : 0 ≤ k ∧ k < 2) : fsFarmer (upd r k v) = (fsFarmer r).set k (.int v) := by
  rcases (show k = 0 ∨ k = 1 by omega) with rfl | rfl <;> rfl
theorem f_sack  (r : Nat → Int32) (v : Int32) (k : Nat) (hk : 0 ≤ k ∧ k < 17) : fsSack (upd r k v) = (fsSack r).set k (.int v) := by
  rcases (show k = 0 ∨ k = 1 ∨ k = 2 ∨ k = 3 ∨ k = 4 ∨ k = 5 ∨ k = 6 ∨ k = 7 ∨ k = 8 ∨ k = 9 ∨ k = 10 ∨ k = 11 ∨ k = 12 ∨ k = 13 ∨ k = 14 ∨ k = 15 ∨ k = 16 by omega) with rfl | rfl | rfl | rfl | rfl | rfl | rfl | rfl | rfl | rfl | rfl | rfl | rfl | rfl | rfl | rfl | rfl <;> rfl
theorem f_model_4 (Γ : kG) (r : Nat → Int32) (v : Int32) : fsModel Γ (upd r 4 v) = (fsModel Γ r).set 4 (.int v) := rfl
theorem f_model_6 (Γ : kG) (r : Nat → Int32) (v : Int32) : fsModel Γ (upd r 6 v) = (fsModel Γ r).set 6 (.int v) := rfl
theorem f_model_7 (Γ : kG) (r : Nat → Int32) (v : Int32) : fsModel Γ (upd r 7 v) = (fsModel Γ r).set 7 (.int v) := rfl
theorem f_model_8 (Γ : kG) (r : Nat → Int32) (v : Int32) : fsModel Γ (upd r 8 v) = (fsModel Γ r).set 8 (.int v) := rfl
theorem v_i {i j : Nat} (hi : i < 7) (hj : j < 44) : 44 * i + j < 314 ∧ j < 44 := by omega
theorem v_7 {j : Nat} (hj : j < 6) : 44 * 7 + j < 314 ∧ j < 44 := by omega
theorem v_0 {j : Nat} (hj : j < 7) : 44 * 0 + j < 7 ∧ j < 44 := by omega
theorem j_kind {P : Prop} {a : Nat} (h : P ∧ a < 6) : 6 ≤ 6 + a ∧ 6 + a < 12 := by omega
theorem j_farmer {P : Prop} {a : Nat} (h : P ∧ a < 8) : 12 ≤ 12 + a ∧ 12 + a < 20 := by omega
theorem j_sack {P : Prop} {a : Nat} (h : P ∧ a < 24) : 20 ≤ 20 + a ∧ 20 + a < 44 := by omega
theorem i_state {P : Prop} {a : Nat} (h : P ∧ a < 5) : 2 + a < 7 := by omega
theorem h_kind {j : Nat} (h : 6 ≤ j ∧ j < 12) : j < 44 := by omega
theorem h_farmer {j : Nat} (h : 12 ≤ j ∧ j < 20) : j < 44 := by omega
theorem h_sack {j : Nat} (h : 20 ≤ j ∧ j < 44) : j < 44 := h.2
/-- a method of one group, called from whole -/
theorem CT.lift {l : Launch} {Γ : kG} {M : kM2} {i : Nat} {y : MethodName} {cc : ByteArray} {nL : Nat} {ret : Option FieldType} {rm : Room} {As : List Value} {o : Option (Int32 × kM1)} (h : CT l Γ (K1 Γ M i) y cc nL ret rm As (M i) o) : CT l Γ (K2 Γ) y cc nL ret rm As M (o.map fun q => (q.1, up M i q.2)) := by
  intro r x' ho
  obtain ⟨⟨r1, m1⟩, h1, h2⟩ := Option.map_eq_some_iff.mp ho
  cases h2
  have h3 := h r1 m1 h1
  have e0 : k_wl Γ (K1 Γ M i) (M i) = k_wl Γ (K2 Γ) M := by
    unfold k_wl K1 K2
    simp only [up_self]
  have e1 : k_wl Γ (K1 Γ M i) m1 = k_wl Γ (K2 Γ) (up M i m1) := rfl
  unfold k_w k_q at h3 ⊢
  rw [e0, e1] at h3
  exact h3
/-- the layout's own cells are apart, for the class's (314) and the reference's (7) -/
def k_Lay (Γ : kG) (n : Nat) : Prop := (∀ a b, a < n → b < n → Γ.1 (a / 44) (a % 44) = Γ.1 (b / 44) (b % 44) → a = b) ∧ ∀ a, a < n → Γ.2.2.2.1 (Γ.1 (a / 44) (a % 44))
theorem k_Lay.ok {Γ : kG} {μ : Type} {K : Nat × (μ → Nat → Nat → va_E)} (h : k_Lay Γ K.1) : k_L Γ K := by
  intro x
  have key : ∀ (k : Nat) (q : Nat × va_E), (k_wl Γ K x)[k]? = some q → k < K.1 ∧ q.1 = Γ.1 (k / 44) (k % 44) := by
    intro k q hk
    unfold k_wl at hk
    rw [List.getElem?_map] at hk
    obtain ⟨z, h1, h2⟩ := Option.map_eq_some_iff.mp hk
    obtain ⟨h3, h4⟩ := List.getElem?_eq_some_iff.mp h1
    simp only [List.length_range] at h3
    simp only [List.getElem_range] at h4
    subst h4
    subst h2
    exact ⟨h3, rfl⟩
  refine ⟨fun a b q1 q2 h1 h2 he => ?_, fun k q hk => ?_⟩
  · obtain ⟨a1, a2⟩ := key a q1 h1
    obtain ⟨b1, b2⟩ := key b q2 h2
    exact h.1 a b a1 b1 (by rw [← a2, ← b2]; exact he)
  · obtain ⟨a1, a2⟩ := key k q hk
    rw [a2]
    exact h.2 k a1
theorem k_Lay.k1 {Γ : kG} (h : k_Lay Γ 314) (M : kM2) (i : Nat) : k_L Γ (K1 Γ M i) := k_Lay.ok (K := K1 Γ M i) h
theorem k_Lay.k2 {Γ : kG} (h : k_Lay Γ 314) : k_L Γ (K2 Γ) := k_Lay.ok (K := K2 Γ) h
theorem k_Lay.k3 {Γ : kG} (h : k_Lay Γ 7) : k_L Γ (K3 Γ) := k_Lay.ok (K := K3 Γ) h
