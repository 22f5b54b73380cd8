/-! what is asked of the mill -/
section AS
variable {M : kM2} {K F S t : Nat}
theorem x_sackOf (R : IM (M 0) K F S t (dt t)) {s : Nat} (hs : s < S) {v : Int32} (hv : 0 ≤ v.toInt ∧ v.toInt ≤ 10) : fX6_sackOf M (nI s) v = some (tv (M 0 (20 + s)) v, M) := by
  have hS := R.S24
  unfold fX6_sackOf
  rw [y_hasS R hs, on_self, bd_s, if_neg n10, k_inY M (v := v) (a := 0) (b := 11) ⟨hv.1, by show v.toInt ≤ 11; omega⟩, bd_s, if_neg n10, if_neg (fun z => by rw [z] at hv; exact absurd hv.2 (by decide)), if_pos (inb_nI (show s < 24 by omega) (by decide)), c_nI (by omega), k_tell, on_self, bd_s]
theorem x_place (R : IM (M 0) K F S t (dt t)) {s : Nat} (hs : s < S) : fX6_sackOf M (nI s) 11 = some (if M 0 (20 + s) 6 = 0 then nI (plW (M 0) S s) else -1000004, M) := by
  unfold fX6_sackOf
  rw [y_hasS R hs, on_self, bd_s, if_neg n10, k_inY M (v := 11) (a := 0) (b := 11) (by decide), bd_s, if_neg n10, if_pos rfl, k_place R hs, on_self, bd_s]
/-- all of them or one of them -/
def isA (p : Int32) (F : Nat) : Prop := p = -1 ∨ ∃ f, f < F ∧ p = nI f
theorem x_account (R : IM (M 0) K F S t (dt t)) {p q v : Int32} (hp : isA p F) (hq : isA q K) (hv : v = 2 ∨ (4 ≤ v.toInt ∧ v.toInt ≤ 10)) : fX6_account M p q v = some (sm S fun s => if ofB (M 0) p q s = true then tv (M 0 (20 + s)) v else 0, M) := by
  have hF := R.F8
  have hK := R.l.1
  have e62 : fX6_account_b62 p q v M = some (sm S fun s => if ofB (M 0) p q s = true then tv (M 0 (20 + s)) v else 0, M) := by
    unfold fX6_account_b62
    rw [k_sum R, on_self, bd_s]
  have e32 : fX6_account_b32 p q v M = some (sm S fun s => if ofB (M 0) p q s = true then tv (M 0 (20 + s)) v else 0, M) := by
    unfold fX6_account_b32 fX6_account_b37
    rw [if_neg n10]
    by_cases c : v = 2
    · rw [if_pos c]; exact e62
    · rw [if_neg c, k_inY M (v := v) (a := 4) (b := 10) (hv.resolve_left c), bd_s, if_neg n10]; exact e62
  have e16 : fX6_account_b16 p q v M = some (sm S fun s => if ofB (M 0) p q s = true then tv (M 0 (20 + s)) v else 0, M) := by
    unfold fX6_account_b16
    by_cases c : q = -1
    · rw [if_pos c]; exact e32
    · obtain ⟨k, hk, e⟩ := hq.resolve_left c
      rw [if_neg c]
      rw [e] at e32 ⊢
      rw [y_hasK R hk, on_self, bd_s, if_neg n10]
      exact e32
  unfold fX6_account
  by_cases c : p = -1
  · rw [if_pos c]; exact e16
  · obtain ⟨k, hk, e⟩ := hp.resolve_left c
    rw [if_neg c]
    rw [e] at e16 ⊢
    rw [y_hasF R hk, on_self, bd_s, if_neg n10]
    exact e16
theorem x_kind3 (R : IM (M 0) K F S t (dt t)) {k : Nat} (hk : k < K) : fX6_kindOf M (nI k) 3 = some (nI (cn S (ofB (M 0) (-1) (nI k))), M) := by
  unfold fX6_kindOf fX3_tellKind
  rw [y_hasK R hk, on_self, bd_s, if_neg n10, k_inY M (v := 3) (a := 0) (b := 5) (by decide), bd_s, if_neg n10, if_neg (by decide), if_neg (by decide), if_neg (by decide), if_pos rfl, k_brought R, bd_s, on_self, bd_s]
theorem x_kind4 (R : IM (M 0) K F S t (dt t)) {k : Nat} (hk : k < K) : fX6_kindOf M (nI k) 4 = some (sm S fun s => if ofB (M 0) (-1) (nI k) s = true then tv (M 0 (20 + s)) 6 else 0, M) := by
  unfold fX6_kindOf fX3_tellKind
  rw [y_hasK R hk, on_self, bd_s, if_neg n10, k_inY M (v := 4) (a := 0) (b := 5) (by decide), bd_s, if_neg n10, if_neg (by decide), if_neg (by decide), if_neg (by decide), if_neg (by decide), if_pos rfl, k_sum R, bd_s, on_self, bd_s]
theorem x_kind5 (R : IM (M 0) K F S t (dt t)) {k : Nat} (hk : k < K) : fX6_kindOf M (nI k) 5 = some (sm S fun s => if ofB (M 0) (-1) (nI k) s = true then tv (M 0 (20 + s)) 9 else 0, M) := by
  unfold fX6_kindOf fX3_tellKind
  rw [y_hasK R hk, on_self, bd_s, if_neg n10, k_inY M (v := 5) (a := 0) (b := 5) (by decide), bd_s, if_neg n10, if_neg (by decide), if_neg (by decide), if_neg (by decide), if_neg (by decide), if_neg (by decide), k_sum R, bd_s, on_self, bd_s]
theorem x_farmer (R : IM (M 0) K F S t (dt t)) {f : Nat} (hf : f < F) {v : Int32} (hv : 0 ≤ v.toInt ∧ v.toInt ≤ 5) : fX6_farmerOf M (nI f) v = some (if v = 0 then M 0 (12 + f) 0 else if v = 1 then nI (cn S (ofB (M 0) (nI f) (-1))) else if v = 2 then M 0 (12 + f) 1 else if v = 3 then nI (cn S fun s => plB (M 0) s && ofB (M 0) (nI f) (-1) s) else if v = 4 then (sm S fun s => if ofB (M 0) (nI f) (-1) s = true then tv (M 0 (20 + s)) 5 else 0) else sm S fun s => if ofB (M 0) (nI f) (-1) s = true then tv (M 0 (20 + s)) 10 else 0, M) := by
  have hF := R.F8
  have hi := inb_nI (k := f) (n := 8) (by omega) (by decide)
  have key : fX3_tellFarmer (M 0) (nI f) v = some (if v = 0 then M 0 (12 + f) 0 else if v = 1 then nI (cn S (ofB (M 0) (nI f) (-1))) else if v = 2 then M 0 (12 + f) 1 else if v = 3 then nI (cn S fun s => plB (M 0) s && ofB (M 0) (nI f) (-1) s) else if v = 4 then (sm S fun s => if ofB (M 0) (nI f) (-1) s = true then tv (M 0 (20 + s)) 5 else 0) else sm S fun s => if ofB (M 0) (nI f) (-1) s = true then tv (M 0 (20 + s)) 10 else 0, M 0) := by
    unfold fX3_tellFarmer
    rw [if_pos hi, if_pos hi, c_nI (by omega), k_brought R, bd_s, k_pledges R, bd_s, k_sum R, bd_s, k_sum R, bd_s]
    repeat' split
    all_goals rfl
  unfold fX6_farmerOf
  rw [y_hasF R hf, on_self, bd_s, if_neg n10, k_inY M (v := v) (a := 0) (b := 5) hv, bd_s, if_neg n10, key, on_self, bd_s]
theorem x_queue (R : IM (M 0) K F S t (dt t)) {v : Nat} (hv : v < cn S (wtB (M 0))) : ∃ s, s < S ∧ wtB (M 0) s = true ∧ plW (M 0) S s = v ∧ fX6_queueAt M (nI v) = some (nI s, M) := by
  have hS := R.S24
  have hc := cn_le S (wtB (M 0))
  obtain ⟨s, h1, h2, h3, h4⟩ := queue_in R hv
  refine ⟨s, h1, h2, h3, ?_⟩
  unfold fX6_queueAt
  rw [if_pos (nI_pos' (by omega)), h4, on_self, bd_s]
theorem x_queueNo (R : IM (M 0) K F S t (dt t)) : fX6_queueAt M (nI (cn S (wtB (M 0)))) = some (-1000004, M) := by
  have hS := R.S24
  have hc := cn_le S (wtB (M 0))
  unfold fX6_queueAt
  rw [if_pos (nI_pos' (by omega)), queue_out R, on_self, bd_s]
theorem x_pledgeAt (R : IM (M 0) K F S t (dt t)) {v s : Nat} (hv : v < cn S (plB (M 0))) (hs : s < S) (h : fX3_sackOfPledge (M 0) (nI v) = some (nI s, M 0)) {w : Int32} (hw : 0 ≤ w.toInt ∧ w.toInt ≤ 4) : fX6_pledgeAt M (nI v) w = some (if w = 0 then nI s else if w = 1 then M 0 (20 + s) 11 else if w = 2 then M 0 (20 + s) 12 else if w = 3 then M 0 (20 + s) 13 else M 0 (20 + s) 14, M) := by
  have hS := R.S24
  have hc := cn_le S (plB (M 0))
  unfold fX6_pledgeAt
  rw [if_neg (nI_pos (by omega)), k_inY M (v := w) (a := 0) (b := 4) hw, bd_s, if_neg n10, h, on_self, bd_s, if_neg (fun z => by rw [i_eq, t_nI (by omega), t_m1] at z; omega), k_tellP R hs, on_self, bd_s]
theorem x_owed (R : IM (M 0) K F S t (dt t)) {s : Nat} (hs : s < S) : (¬ 0 < (M 0 (20 + s) 11).toInt ∧ fX6_owed M (nI s) = some (-1000004, M)) ∨ (0 < (M 0 (20 + s) 11).toInt ∧ ∃ r, fX3_debtOf (M 0) (20 + s) = some (r, M 0) ∧ fX6_owed M (nI s) = some (r, M) ∧ (M 0 (20 + s) 12).toInt ≤ r.toInt ∧ 0 ≤ r.toInt) := by
  have hS := R.S24
  have hi := inb_nI (k := s) (n := 24) (by omega) (by decide)
  unfold fX6_owed
  rw [y_hasS R hs, on_self, bd_s, if_neg n10, if_pos hi, c_nI (by omega), k_hasP, on_self, bd_s]
  by_cases c : 0 < (M 0 (20 + s) 11).toInt
  · obtain ⟨r, h1, h2, h3⟩ := k_debt R hs c
    rw [if_pos c, if_neg n10, if_pos (inb24 (show s < 24 by omega)), h1, on_self, bd_s]
    exact Or.inr ⟨c, r, rfl, rfl, h2, h3⟩
  · rw [if_neg c, if_pos rfl]
    exact Or.inl ⟨c, rfl⟩
theorem x_sea0 (R : IM (M 0) K F S t (dt t)) : fX6_seaIn M 0 = some (seaV (M 0) (nI t), M) := by
  unfold fX6_seaIn
  rw [k_inY M (v := 0) (a := 0) (b := 5000) (by decide), bd_s, if_neg n10, Int32.add_zero, R.e8, k_sea R, on_self, bd_s]
theorem x_pond (R : IM (M 0) K F S t (dt t)) {v : Int32} (hv : 0 ≤ v.toInt ∧ v.toInt ≤ 10) : fX6_pond M v = some (if v = 0 then M 0 0 9 else if v = 1 then M 0 0 9 / M 0 1 0 else if v = 2 then seaV (M 0) (nI t) else if v = 3 then M 0 0 9 / M 0 1 0 - seaV (M 0) (nI t) else if v = 4 then M 0 0 11 else if v = 5 then M 0 0 10 else if v = 6 then (if M 0 0 12 = -1 then -1000004 else M 0 0 12) else if v = 7 then M 0 0 14 else if v = 8 then M 0 0 15 else if v = 9 then M 0 0 16 else M 0 0 17, M) := by
  have key : fX3_tellPond (M 0) v = some (if v = 0 then M 0 0 9 else if v = 1 then M 0 0 9 / M 0 1 0 else if v = 2 then seaV (M 0) (nI t) else if v = 3 then M 0 0 9 / M 0 1 0 - seaV (M 0) (nI t) else if v = 4 then M 0 0 11 else if v = 5 then M 0 0 10 else if v = 6 then (if M 0 0 12 = -1 then -1000004 else M 0 0 12) else if v = 7 then M 0 0 14 else if v = 8 then M 0 0 15 else if v = 9 then M 0 0 16 else M 0 0 17, M 0) := by
    unfold fX3_tellPond
    rw [k_level R, bd_s, R.e8, k_sea R, bd_s, bd_s, R.e8, k_sea R, bd_s]
    by_cases c10 : v = 10
    · subst c10
      rfl
    · rw [if_neg c10]
      have c : v = 0 ∨ v = 1 ∨ v = 2 ∨ v = 3 ∨ v = 4 ∨ v = 5 ∨ v = 6 ∨ v = 7 ∨ v = 8 ∨ v = 9 := by
        have i10 : ¬ v.toInt = 10 := fun z => c10 (i_eq.mpr z)
        rcases (show v.toInt = 0 ∨ v.toInt = 1 ∨ v.toInt = 2 ∨ v.toInt = 3 ∨ v.toInt = 4 ∨ v.toInt = 5 ∨ v.toInt = 6 ∨ v.toInt = 7 ∨ v.toInt = 8 ∨ v.toInt = 9 by omega) with h | h | h | h | h | h | h | h | h | h
        · exact Or.inl (i_eq.mpr h)
        · exact Or.inr (Or.inl (i_eq.mpr h))
        · exact Or.inr (Or.inr (Or.inl (i_eq.mpr h)))
        · exact Or.inr (Or.inr (Or.inr (Or.inl (i_eq.mpr h))))
        · exact Or.inr (Or.inr (Or.inr (Or.inr (Or.inl (i_eq.mpr h)))))
        · exact Or.inr (Or.inr (Or.inr (Or.inr (Or.inr (Or.inl (i_eq.mpr h))))))
        · exact Or.inr (Or.inr (Or.inr (Or.inr (Or.inr (Or.inr (Or.inl (i_eq.mpr h)))))))
        · exact Or.inr (Or.inr (Or.inr (Or.inr (Or.inr (Or.inr (Or.inr (Or.inl (i_eq.mpr h))))))))
        · exact Or.inr (Or.inr (Or.inr (Or.inr (Or.inr (Or.inr (Or.inr (Or.inr (Or.inl (i_eq.mpr h)))))))))
        · exact Or.inr (Or.inr (Or.inr (Or.inr (Or.inr (Or.inr (Or.inr (Or.inr (Or.inr (i_eq.mpr h)))))))))
      rcases c with rfl | rfl | rfl | rfl | rfl | rfl | rfl | rfl | rfl | rfl
      · rfl
      · rfl
      · rfl
      · rfl
      · rfl
      · rfl
      · show (if M 0 0 12 = -1 then some ((-1000004 : Int32), M 0) else some (M 0 0 12, M 0)) = some (if M 0 0 12 = -1 then -1000004 else M 0 0 12, M 0)
        by_cases c6 : M 0 0 12 = -1
        · rw [if_pos c6, if_pos c6]
        · rw [if_neg c6, if_neg c6]
      · rfl
      · rfl
      · rfl
  unfold fX6_pond
  rw [k_inY M (v := v) (a := 0) (b := 14) ⟨hv.1, by show v.toInt ≤ 14; omega⟩, bd_s, if_neg n10, key, on_self, bd_s]
/-- counts of the mill -/
theorem x_cnt {v : Int32} (hv : 0 ≤ v.toInt ∧ v.toInt ≤ 8) {r : Int32} (h : fX3_countOf (M 0) v = some (r, M 0)) : fX6_count M v = some (r, M) := by
  unfold fX6_count
  have e20 : (20 : Int32).toInt = 20 := by decide
  rw [k_in, if_neg (fun z => by omega), bd_s, if_pos rfl, if_neg (fun z => by rw [z] at hv; exact absurd hv.2 (by decide)), if_neg (fun z => by rw [z] at hv; exact absurd hv.2 (by decide)), h, on_self, bd_s]
theorem x_count0 (R : IM (M 0) K F S t (dt t)) : fX6_count M 0 = some (nI K, M) := x_cnt (by decide) (by
  unfold fX3_countOf
  rw [if_pos rfl, R.e5])
theorem x_count1 (R : IM (M 0) K F S t (dt t)) : fX6_count M 1 = some (nI F, M) := x_cnt (by decide) (by
  unfold fX3_countOf
  rw [if_neg (by decide), if_pos rfl, R.e6])
theorem x_count2 (R : IM (M 0) K F S t (dt t)) : fX6_count M 2 = some (nI S, M) := x_cnt (by decide) (by
  unfold fX3_countOf
  rw [if_neg (by decide), if_neg (by decide), if_pos rfl, R.e7])
theorem x_count3 (R : IM (M 0) K F S t (dt t)) : fX6_count M 3 = some (nI (cn S (wtB (M 0))), M) := x_cnt (by decide) (by
  unfold fX3_countOf
  rw [if_neg (by decide), if_neg (by decide), if_neg (by decide), if_pos rfl, k_stage R, bd_s]
  rfl)
theorem x_count4 (R : IM (M 0) K F S t (dt t)) : fX6_count M 4 = some (nI (cn S fun s => decide (M 0 (20 + s) 6 = 2)), M) := x_cnt (by decide) (by
  unfold fX3_countOf
  rw [if_neg (by decide), if_neg (by decide), if_neg (by decide), if_neg (by decide), if_pos rfl, k_stage R, bd_s])
theorem x_count5 (R : IM (M 0) K F S t (dt t)) : fX6_count M 5 = some (nI (cn S fun s => decide (M 0 (20 + s) 6 = 3)), M) := x_cnt (by decide) (by
  unfold fX3_countOf
  rw [if_neg (by decide), if_neg (by decide), if_neg (by decide), if_neg (by decide), if_neg (by decide), if_pos rfl, k_stage R, bd_s])
theorem x_count6 (R : IM (M 0) K F S t (dt t)) : fX6_count M 6 = some (nI (cn S (plB (M 0))), M) := x_cnt (by decide) (by
  unfold fX3_countOf
  rw [if_neg (by decide), if_neg (by decide), if_neg (by decide), if_neg (by decide), if_neg (by decide), if_neg (by decide), if_pos rfl, k_pledges R, bd_s]
  rw [show cn S (fun s => plB (M 0) s && ofB (M 0) (-1) (-1) s) = cn S (plB (M 0)) from cn_cg (fun i _ => by simp [ofB])])
theorem x_count7 (R : IM (M 0) K F S t (dt t)) : fX6_count M 7 = some (nI t, M) := x_cnt (by decide) (by
  unfold fX3_countOf
  rw [if_neg (by decide), if_neg (by decide), if_neg (by decide), if_neg (by decide), if_neg (by decide), if_neg (by decide), if_neg (by decide), if_pos rfl, R.e8])
theorem x_count8 (R : IM (M 0) K F S t (dt t)) : fX6_count M 8 = some (nI (t / 96), M) := x_cnt (by decide) (by
  unfold fX3_countOf
  rw [if_neg (by decide), if_neg (by decide), if_neg (by decide), if_neg (by decide), if_neg (by decide), if_neg (by decide), if_neg (by decide), if_neg (by decide), if_pos rfl, k_today R, bd_s])
theorem x_count9 {f n : Nat} (H : HI M f n) : fX6_count M 9 = some (nI n, M) := by
  unfold fX6_count
  rw [k_in, if_neg (by decide), bd_s, if_pos rfl, if_pos rfl, H.2.2.2]
theorem x_countS {w : Nat} (hw : w < 13) {v : Int32} (hv : v - 20 = nI w) (h2 : 20 ≤ v.toInt ∧ v.toInt ≤ 32) : fX6_count M v = some (M 0 1 w, M) := by
  unfold fX6_count
  rw [k_inY M (v := v) (a := 20) (b := 32) h2, bd_s, if_neg n10, hv, if_pos (inb_nI hw (by decide)), c_nI (by omega)]
end AS
