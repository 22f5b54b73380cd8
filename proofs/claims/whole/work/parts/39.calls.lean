/-! every call, both sides alike -/
def RQ (M : kM2) (x : kM1) : Prop := RW M x (x 1)
theorem RW.q {M : kM2} {m : kM1} {d : Nat → Int32} (W : RW M m d) : RQ M (sD m d) := W
def AL (M : kM2) (x : kM1) (o1 : Option (Int32 × kM2)) (o2 : Option (Int32 × kM1)) : Prop := ∃ r M' x', o1 = some (r, M') ∧ o2 = some (r, x') ∧ RQ M' x'
theorem AL.mk {M : kM2} {x : kM1} {o1 : Option (Int32 × kM2)} {o2 : Option (Int32 × kM1)} (h : ∃ r M' m' d', o1 = some (r, M') ∧ o2 = some (r, sD m' d') ∧ RW M' m' d') : AL M x o1 o2 := by
  obtain ⟨r, M', m', d', h1, h2, h3⟩ := h
  exact ⟨r, M', sD m' d', h1, h2, h3.q⟩
theorem RQ.rd {M : kM2} {x : kM1} (W : RQ M x) {o1 : Option (Int32 × kM2)} {o2 : kM1 → Option (Int32 × kM1)} (h : ∀ K F S t, RM (M 0) (x 1) K F S t → t ≤ 10000 → RD M x (x 1) o1 (o2 (sD x (x 1)))) : AL M x o1 (o2 x) := by
  obtain ⟨K, F, S, t, R, ht⟩ := W.1
  have e := h K F S t R ht
  rw [sD_self] at e
  obtain ⟨r, h1, h2⟩ := e
  rw [sD_self] at h2
  exact ⟨r, M, x, h1, h2, W⟩

theorem al_set {M : kM2} {x : kM1} (W : RQ M x) (u v : Int32) : AL M x (fX6_set M u v) (fX7_set x u v) := by
  have h := top_ch W (fun y => fX3_changeSetting y u v) (o2 := fX7_set (sD x (x 1)) u v) (fun K F S t R ht => ⟨t, ht, set_eq R x u v⟩)
  rw [sD_self] at h
  exact AL.mk h

theorem al_leak {M : kM2} {x : kM1} (W : RQ M x) (u v : Int32) : AL M x (fX6_leak M u v) (fX7_leak x u v) := by
  have h := top_ch W (fun y => fX3_changeLeak y u v) (o2 := fX7_leak (sD x (x 1)) u v) (fun K F S t R ht => ⟨t, ht, leak_eq R x u v⟩)
  rw [sD_self] at h
  exact AL.mk h

theorem al_lock {M : kM2} {x : kM1} (W : RQ M x) (u : Int32) : AL M x (fX6_lock M u) (fX7_lock x u) := by
  have h := top_ch W (fun y => fX3_changeLock y u) (o2 := fX7_lock (sD x (x 1)) u) (fun K F S t R ht => ⟨t, ht, lock_eq R x u⟩)
  rw [sD_self] at h
  exact AL.mk h

theorem al_gate {M : kM2} {x : kM1} (W : RQ M x) (u : Int32) : AL M x (fX6_gate M u) (fX7_gate x u) := by
  have h := top_ch W (fun y => fX3_changeOpening y u) (o2 := fX7_gate (sD x (x 1)) u) (fun K F S t R ht => ⟨t, ht, gate_eq R x u⟩)
  rw [sD_self] at h
  exact AL.mk h

theorem al_kind {M : kM2} {x : kM1} (W : RQ M x) (u v z : Int32) : AL M x (fX6_kind M u v z) (fX7_kind x u v z) := by
  have h := top_ch W (fun y => fX3_addKind y u v z) (o2 := fX7_kind (sD x (x 1)) u v z) (fun K F S t R ht => ⟨t, ht, kind_eq R x u v z⟩)
  rw [sD_self] at h
  exact AL.mk h

theorem al_farmer {M : kM2} {x : kM1} (W : RQ M x) : AL M x (fX6_farmer M ) (fX7_farmer x ) := by
  have h := top_ch W (fun y => fX3_addFarmer y ) (o2 := fX7_farmer (sD x (x 1)) ) (fun K F S t R ht => ⟨t, ht, farmer_eq R x ⟩)
  rw [sD_self] at h
  exact AL.mk h

theorem al_bring {M : kM2} {x : kM1} (W : RQ M x) (u v z : Int32) : AL M x (fX6_bring M u v z) (fX7_bring x u v z) := by
  have h := top_ch W (fun y => fX3_addSack y u v z) (o2 := fX7_bring (sD x (x 1)) u v z) (fun K F S t R ht => ⟨t, ht, bring_eq R x u v z⟩)
  rw [sD_self] at h
  exact AL.mk h

theorem al_withdraw {M : kM2} {x : kM1} (W : RQ M x) (u : Int32) : AL M x (fX6_withdraw M u) (fX7_withdraw x u) := by
  have h := top_ch W (fun y => fX3_withdrawSack y u) (o2 := fX7_withdraw (sD x (x 1)) u) (fun K F S t R ht => ⟨t, ht, withdraw_eq R x u⟩)
  rw [sD_self] at h
  exact AL.mk h

theorem al_fetch {M : kM2} {x : kM1} (W : RQ M x) (u : Int32) : AL M x (fX6_fetch M u) (fX7_fetch x u) := by
  have h := top_ch W (fun y => fX3_fetchSack y u) (o2 := fX7_fetch (sD x (x 1)) u) (fun K F S t R ht => ⟨t, ht, fetch_eq R x u⟩)
  rw [sD_self] at h
  exact AL.mk h

theorem al_earn {M : kM2} {x : kM1} (W : RQ M x) (u v : Int32) : AL M x (fX6_earn M u v) (fX7_earn x u v) := by
  have h := top_ch W (fun y => fX3_addPence y u v) (o2 := fX7_earn (sD x (x 1)) u v) (fun K F S t R ht => ⟨t, ht, earn_eq R x u v⟩)
  rw [sD_self] at h
  exact AL.mk h

theorem al_pledge {M : kM2} {x : kM1} (W : RQ M x) (u v : Int32) : AL M x (fX6_pledge M u v) (fX7_pledge x u v) := by
  have h := top_ch W (fun y => fX3_putInPledge y u v) (o2 := fX7_pledge (sD x (x 1)) u v) (fun K F S t R ht => ⟨t, ht, pledge_eq R x u v⟩)
  rw [sD_self] at h
  exact AL.mk h

theorem al_redeem {M : kM2} {x : kM1} (W : RQ M x) (u : Int32) : AL M x (fX6_redeem M u) (fX7_redeem x u) := by
  have h := top_ch W (fun y => fX3_redeemPledge y u) (o2 := fX7_redeem (sD x (x 1)) u) (fun K F S t R ht => ⟨t, ht, redeem_eq R x u⟩)
  rw [sD_self] at h
  exact AL.mk h

theorem al_pass {M : kM2} {x : kM1} (W : RQ M x) (u : Int32) : AL M x (fX6_pass M u) (fX7_pass x u) := by
  have h := top_ch W (fun y => fX3_letPass y u) (o2 := fX7_pass (sD x (x 1)) u) (fun K F S t R ht => pass_eq R ht x u)
  rw [sD_self] at h
  exact AL.mk h

theorem al_kindOf {M : kM2} {x : kM1} (W : RQ M x) (u v : Int32) : AL M x (fX6_kindOf M u v) (fX7_kindOf x u v) := W.rd (o2 := fun x => fX7_kindOf x u v) (fun K F S t R ht => kindOf_eq R x u v)

theorem al_farmerOf {M : kM2} {x : kM1} (W : RQ M x) (u v : Int32) : AL M x (fX6_farmerOf M u v) (fX7_farmerOf x u v) := W.rd (o2 := fun x => fX7_farmerOf x u v) (fun K F S t R ht => farmerOf_eq R x u v)

theorem al_sackOf {M : kM2} {x : kM1} (W : RQ M x) (u v : Int32) : AL M x (fX6_sackOf M u v) (fX7_sackOf x u v) := W.rd (o2 := fun x => fX7_sackOf x u v) (fun K F S t R ht => sackOf_eq R x u v)

theorem al_queueAt {M : kM2} {x : kM1} (W : RQ M x) (u : Int32) : AL M x (fX6_queueAt M u) (fX7_queueAt x u) := W.rd (o2 := fun x => fX7_queueAt x u) (fun K F S t R ht => queue_eq R x u)

theorem al_account {M : kM2} {x : kM1} (W : RQ M x) (u v z : Int32) : AL M x (fX6_account M u v z) (fX7_account x u v z) := W.rd (o2 := fun x => fX7_account x u v z) (fun K F S t R ht => account_eq R x u v z)

theorem al_owed {M : kM2} {x : kM1} (W : RQ M x) (u : Int32) : AL M x (fX6_owed M u) (fX7_owed x u) := W.rd (o2 := fun x => fX7_owed x u) (fun K F S t R ht => owed_eq R x u)

theorem al_pledgeAt {M : kM2} {x : kM1} (W : RQ M x) (u v : Int32) : AL M x (fX6_pledgeAt M u v) (fX7_pledgeAt x u v) := W.rd (o2 := fun x => fX7_pledgeAt x u v) (fun K F S t R ht => pledgeAt_eq R x u v)

theorem al_seaIn {M : kM2} {x : kM1} (W : RQ M x) (u : Int32) : AL M x (fX6_seaIn M u) (fX7_seaIn x u) := W.rd (o2 := fun x => fX7_seaIn x u) (fun K F S t R ht => seaIn_eq R x u)

theorem al_nextHigh {M : kM2} {x : kM1} (W : RQ M x) : AL M x (fX6_nextHigh M ) (fX7_nextHigh x ) := W.rd (o2 := fun x => fX7_nextHigh x ) (fun K F S t R ht => nextHigh_eq R x )

theorem al_pond {M : kM2} {x : kM1} (W : RQ M x) (u : Int32) : AL M x (fX6_pond M u) (fX7_pond x u) := W.rd (o2 := fun x => fX7_pond x u) (fun K F S t R ht => pond_eq R x u)

theorem al_foresee {M : kM2} {x : kM1} (W : RQ M x) (u : Int32) : AL M x (fX6_foresee M u) (fX7_foresee x u) := by
  have h := top_foresee W u
  rw [sD_self] at h
  exact AL.mk h

theorem al_bestGate {M : kM2} {x : kM1} (W : RQ M x) (u : Int32) : AL M x (fX6_bestGate M u) (fX7_bestGate x u) := by
  have h := top_bestGate W u
  rw [sD_self] at h
  exact AL.mk h

theorem al_undo {M : kM2} {x : kM1} (W : RQ M x) : AL M x (fX6_undo M ) (fX7_undo x ) := by
  have h := top_undo W
  rw [sD_self] at h
  exact AL.mk h

theorem al_type {M : kM2} {x : kM1} (W : RQ M x) (u : Int32) : AL M x (fX6_type M u) (fX7_type x u) := by
  have h := top_type W u
  rw [sD_self] at h
  exact AL.mk h

theorem al_clearText {M : kM2} {x : kM1} (W : RQ M x) : AL M x (fX6_clearText M ) (fX7_clearText x ) := by
  have h := top_clear W
  rw [sD_self] at h
  exact AL.mk h

theorem al_fault {M : kM2} {x : kM1} (W : RQ M x) (u : Int32) : AL M x (fX6_fault M u) (fX7_fault x u) := by
  have h := top_fault W u
  rw [sD_self] at h
  exact AL.mk h

theorem al_play {M : kM2} {x : kM1} (W : RQ M x) : AL M x (fX6_play M ) (fX7_play x ) := by
  have h := top_play W
  rw [sD_self] at h
  exact AL.mk h

theorem al_count {M : kM2} {x : kM1} (W : RQ M x) (u : Int32) : AL M x (fX6_count M u) (fX7_count x u) := by
  have h := RD.top W (count_eq W u)
  rw [sD_self] at h
  exact AL.mk h
