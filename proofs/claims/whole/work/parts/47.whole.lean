/-! the loop -/
theorem and31 (v : Int32) : ∃ n, n < 32 ∧ v &&& 31 = nI n := by
  refine ⟨v.toBitVec.toNat % 32, Nat.mod_lt _ (by decide), ?_⟩
  apply Int32.toBitVec_inj.mp
  rw [Int32.toBitVec_and]
  apply BitVec.eq_of_toNat_eq
  rw [BitVec.toNat_and]
  have e1 : (31 : Int32).toBitVec.toNat = 2 ^ 5 - 1 := by decide
  have e2 : (nI (v.toBitVec.toNat % 32)).toBitVec.toNat = (v.toBitVec.toNat % 32) % 2 ^ 32 := rfl
  rw [e1, e2, Nat.and_two_pow_sub_one_eq_mod]
  omega
section XA
variable {p : Program} {l : Launch} {e : Env} {R : Room} {s : State} {m : MethodId} {args : Array Value} {below : List Frame} {meth : Method} {c : Code} {cc : ByteArray} {nL : Nat} {own : String} {D : va_G} {aI : Nat → ClassId} {A : Nat → Prop} {Q : State → Prop} {ws : va_W} {lv : List (Nat × Value)} {st : List Value} {pc pc' nc ns : Nat}
theorem x_astore (C : x_C D aI A p s m args meth c cc nL own) {k0 : Fin 4} {i v : Nat} {lv' : List (Nat × Value)} (hd : decode cc pc = .ok (.astore_n k0, 1)) (hi : (k0 : Nat) = i) (hn : i < nL) (hl' : (i, Value.ref v) :: lv.filter (fun q => !(q.1 == i) && !(q.1 + 1 == i && q.2.category == 2)) = lv') (hpc : pc + 1 = pc') (k : Xm D A Q p l e R s m args below meth c nL ws lv' st pc' nc ns) : Xm D A Q p l e R s m args below meth c nL ws lv (.ref v :: st) pc nc ns := by
  subst hpc
  intro H locs ls hP hD hS hl
  exact lv_astore_n C.1 C.2.1 hd hi hl hn hl' (fun ls hl => k H locs ls hP hD hS hl)
end XA
section LL
variable {Γ1 Γ2 : kG} {p : Program} {l : Launch} {e : Env} {s : State} {m : MethodId} {b L : Nat} {xs : Nat → Int32} {below : List Frame} {meth : Method} {c : Code} {M : kM2} {x : kM1} {k : Nat}
theorem law_loop (C : L_C Γ1 Γ2 p s m meth c b L xs) (hL : L ≤ 2048) : ∀ (j k : Nat) (M : kM2) (x : kM1), RQ M x → k ≤ L → L ≤ k + 4 * j → Lm Γ1 Γ2 p l e s m b below meth c M x (Llv Γ1 Γ2 b k) [] 18 := by
  intro j
  induction j with
  | zero =>
    intro k M x Wq h1 h2
    refine L_iload C 0 dL_law_18 rfl rfl rfl ?_
    refine L_al C 3 dL_law_19 rfl rfl rfl ?_
    refine L_len C dL_law_20 rfl ?_
    refine L_iconst C (v := 4) dL_law_21 (by decide) rfl ?_
    refine L_isub C dL_law_22 rfl ?_
    have eL : (nI L - 4).toInt = (L : Int) - 4 := by
      have e4 : (4 : Int32).toInt = 4 := rfl
      rw [i_sub (by rw [t_nI (by omega), e4]; omega) (by rw [t_nI (by omega), e4]; omega), t_nI (by omega), e4]
    refine L_gt C (tgt := 981) dL_law_23 (by decide) rfl (fun _ => ?_) (fun h => ?_)
    · refine L_iconst C (v := 1) dL_law_981 (by decide) rfl ?_
      exact L_ret C dL_law_982
    · exact absurd (by rw [i_lt, eL, t_nI (by omega)]; omega) h
  | succ j ih =>
    intro k M x Wq h1 h2
    refine L_iload C 0 dL_law_18 rfl rfl rfl ?_
    refine L_al C 3 dL_law_19 rfl rfl rfl ?_
    refine L_len C dL_law_20 rfl ?_
    refine L_iconst C (v := 4) dL_law_21 (by decide) rfl ?_
    refine L_isub C dL_law_22 rfl ?_
    have eL : (nI L - 4).toInt = (L : Int) - 4 := by
      have e4 : (4 : Int32).toInt = 4 := rfl
      rw [i_sub (by rw [t_nI (by omega), e4]; omega) (by rw [t_nI (by omega), e4]; omega), t_nI (by omega), e4]
    refine L_gt C (tgt := 981) dL_law_23 (by decide) rfl (fun _ => ?_) (fun h => ?_)
    · refine L_iconst C (v := 1) dL_law_981 (by decide) rfl ?_
      exact L_ret C dL_law_982
    · have hk : k + 4 ≤ L := by
        rw [i_lt, eL, t_nI (by omega)] at h
        omega
      have after : ∀ (M : kM2) (x : kM1), RQ M x → Lm Γ1 Γ2 p l e s m b below meth c M x (Llv Γ1 Γ2 b k) [] 975 := by
        intro M x Wq
        refine L_iinc C (q := 0) (v := nI (k + 4)) (lv' := Llv Γ1 Γ2 b (k + 4)) dL_law_975 rfl (nI_add k 4) (by decide) rfl rfl ?_
        refine L_goto C (tgt := 18) dL_law_978 (by decide) ?_
        exact ih (k + 4) M x Wq hk (by omega)
      refine L_al C 3 dL_law_26 rfl rfl rfl ?_
      refine L_iload C 0 dL_law_27 rfl rfl rfl ?_
      refine L_sld C hL (by omega) dL_law_28 rfl ?_
      refine L_bipush C (v := 31) dL_law_29 (by decide) rfl ?_
      refine L_iand C dL_law_31 rfl ?_
      obtain ⟨n, hn, en⟩ := and31 (xs k)
      rw [en]
      rcases (show n = 0 ∨ n = 1 ∨ n = 2 ∨ n = 3 ∨ n = 4 ∨ n = 5 ∨ n = 6 ∨ n = 7 ∨ n = 8 ∨ n = 9 ∨ n = 10 ∨ n = 11 ∨ n = 12 ∨ n = 13 ∨ n = 14 ∨ n = 15 ∨ n = 16 ∨ n = 17 ∨ n = 18 ∨ n = 19 ∨ n = 20 ∨ n = 21 ∨ n = 22 ∨ n = 23 ∨ n = 24 ∨ n = 25 ∨ n = 26 ∨ n = 27 ∨ n = 28 ∨ n = 29 ∨ n = 30 ∨ n = 31 by omega) with rfl | rfl | rfl | rfl | rfl | rfl | rfl | rfl | rfl | rfl | rfl | rfl | rfl | rfl | rfl | rfl | rfl | rfl | rfl | rfl | rfl | rfl | rfl | rfl | rfl | rfl | rfl | rfl | rfl | rfl | rfl | rfl
      · exact L_swIn C (off := 140) (tgt := 172) dL_law_32 (by decide) (by decide) (by decide) (by decide) (lc_0 C hL hk Wq after)
      · exact L_swIn C (off := 173) (tgt := 205) dL_law_32 (by decide) (by decide) (by decide) (by decide) (lc_1 C hL hk Wq after)
      · exact L_swIn C (off := 206) (tgt := 238) dL_law_32 (by decide) (by decide) (by decide) (by decide) (lc_2 C hL hk Wq after)
      · exact L_swIn C (off := 229) (tgt := 261) dL_law_32 (by decide) (by decide) (by decide) (by decide) (lc_3 C hL hk Wq after)
      · exact L_swIn C (off := 252) (tgt := 284) dL_law_32 (by decide) (by decide) (by decide) (by decide) (lc_4 C hL hk Wq after)
      · exact L_swIn C (off := 295) (tgt := 327) dL_law_32 (by decide) (by decide) (by decide) (by decide) (lc_5 C hL hk Wq after)
      · exact L_swIn C (off := 308) (tgt := 340) dL_law_32 (by decide) (by decide) (by decide) (by decide) (lc_6 C hL hk Wq after)
      · exact L_swIn C (off := 351) (tgt := 383) dL_law_32 (by decide) (by decide) (by decide) (by decide) (lc_7 C hL hk Wq after)
      · exact L_swIn C (off := 374) (tgt := 406) dL_law_32 (by decide) (by decide) (by decide) (by decide) (lc_8 C hL hk Wq after)
      · exact L_swIn C (off := 397) (tgt := 429) dL_law_32 (by decide) (by decide) (by decide) (by decide) (lc_9 C hL hk Wq after)
      · exact L_swIn C (off := 430) (tgt := 462) dL_law_32 (by decide) (by decide) (by decide) (by decide) (lc_10 C hL hk Wq after)
      · exact L_swIn C (off := 463) (tgt := 495) dL_law_32 (by decide) (by decide) (by decide) (by decide) (lc_11 C hL hk Wq after)
      · exact L_swIn C (off := 496) (tgt := 528) dL_law_32 (by decide) (by decide) (by decide) (by decide) (lc_12 C hL hk Wq after)
      · exact L_swIn C (off := 519) (tgt := 551) dL_law_32 (by decide) (by decide) (by decide) (by decide) (lc_13 C hL hk Wq after)
      · exact L_swIn C (off := 562) (tgt := 594) dL_law_32 (by decide) (by decide) (by decide) (by decide) (lc_14 C hL hk Wq after)
      · exact L_swIn C (off := 595) (tgt := 627) dL_law_32 (by decide) (by decide) (by decide) (by decide) (lc_15 C hL hk Wq after)
      · exact L_swIn C (off := 628) (tgt := 660) dL_law_32 (by decide) (by decide) (by decide) (by decide) (lc_16 C hL hk Wq after)
      · exact L_swIn C (off := 651) (tgt := 683) dL_law_32 (by decide) (by decide) (by decide) (by decide) (lc_17 C hL hk Wq after)
      · exact L_swIn C (off := 674) (tgt := 706) dL_law_32 (by decide) (by decide) (by decide) (by decide) (lc_18 C hL hk Wq after)
      · exact L_swIn C (off := 707) (tgt := 739) dL_law_32 (by decide) (by decide) (by decide) (by decide) (lc_19 C hL hk Wq after)
      · exact L_swIn C (off := 730) (tgt := 762) dL_law_32 (by decide) (by decide) (by decide) (by decide) (lc_20 C hL hk Wq after)
      · exact L_swIn C (off := 753) (tgt := 785) dL_law_32 (by decide) (by decide) (by decide) (by decide) (lc_21 C hL hk Wq after)
      · exact L_swIn C (off := 766) (tgt := 798) dL_law_32 (by decide) (by decide) (by decide) (by decide) (lc_22 C hL hk Wq after)
      · exact L_swIn C (off := 789) (tgt := 821) dL_law_32 (by decide) (by decide) (by decide) (by decide) (lc_23 C hL hk Wq after)
      · exact L_swIn C (off := 812) (tgt := 844) dL_law_32 (by decide) (by decide) (by decide) (by decide) (lc_24 C hL hk Wq after)
      · exact L_swIn C (off := 835) (tgt := 867) dL_law_32 (by decide) (by decide) (by decide) (by decide) (lc_25 C hL hk Wq after)
      · exact L_swIn C (off := 858) (tgt := 890) dL_law_32 (by decide) (by decide) (by decide) (by decide) (lc_26 C hL hk Wq after)
      · exact L_swIn C (off := 871) (tgt := 903) dL_law_32 (by decide) (by decide) (by decide) (by decide) (lc_27 C hL hk Wq after)
      · exact L_swIn C (off := 894) (tgt := 926) dL_law_32 (by decide) (by decide) (by decide) (by decide) (lc_28 C hL hk Wq after)
      · exact L_swIn C (off := 907) (tgt := 939) dL_law_32 (by decide) (by decide) (by decide) (by decide) (lc_29 C hL hk Wq after)
      · exact L_swIn C (off := 930) (tgt := 962) dL_law_32 (by decide) (by decide) (by decide) (by decide) (lc_30 C hL hk Wq after)
      · exact L_swOut C (tgt := 975) dL_law_32 (by decide) (by decide) (after M x Wq)
end LL
/-- YOUR PART: from the entry, for every script of at most 2048 ints, the law comes to its end with true ('hflags': the launch's flags, for a law that throws: no stack traces) -/
theorem whole_start {p : Program} {e : Env} {s : State} {m : MethodId} {below : List Frame} {meth : Method} {c : Code} (l : Launch) (hflags : l.flags = flags0) {b L : Nat} {xs : Nat → Int32} (hL : L ≤ 2048) (C0 : lw_At p s m meth c b L xs) : W p l e room_1 s m #[Value.ref b] below meth c s.heap [] 0 0 (lw_Z below #[Value.ref b] s) (entryFrame m ([Value.ref b] : List Value).toArray 4) := by
  obtain ⟨hx, hb, hr, hml, hown, hts, hX, hbl, hlocks, hgv⟩ := id C0
  obtain ⟨D, aI, hK⟩ := w_K hts
  obtain ⟨hxn, hkn⟩ := w_nw hts
  obtain ⟨hxs, hks⟩ := w_st hts hgv D aI
  have C : x_C D aI (fun q => s.heap.size ≤ q) p s m #[Value.ref b] meth c code 4 R_law := ⟨hx, hb, hml, hown, hlocks, fun w hw => hts w (List.mem_filter.mp hw).1, hK, fun q h => h, hxs, hxn, fun h => absurd rfl h⟩
  rw [lg_entry_eq]
  have hl := lv_entry ([.ref b]) (n := 4) (Nat.le_of_ble_eq_true rfl)
  have key : Xm D (fun q => s.heap.size ≤ q) (lw_Z below #[Value.ref b] s) p l e room_1 s m #[Value.ref b] below meth c 4 [] [(0, .ref b)] [] 0 0 0 := by
    refine x_new C (ci := 6) (fs := [.null, .null, .null, .null]) tyX6 rfl hinX6 tyX6_ok (lw_gm (i := 76) (by decide +kernel) rfl) (lw_gm (i := 77) (by decide +kernel) rfl) (lw_gm (i := 66) (by decide +kernel) rfl) (fun j hj => by
      rcases (show j = 0 ∨ j = 1 ∨ j = 2 ∨ j = 3 by omega) with rfl | rfl | rfl | rfl <;> rfl) ⟨by decide, by decide⟩ dL_law_0 rfl (fun h6 => ?_)
    refine x_dup C dL_law_3 rfl ?_
    refine x_call C (cxX6 l D aI h6) xmX6 (lw_gm (i := 78) (by decide +kernel) rfl) ⟨by decide, by decide⟩ (Nat.le_of_ble_eq_true rfl) ⟨by decide, by decide⟩ dL_law_4 rfl (fun ws1 hw1 => ?_)
    obtain ⟨ad0, ad1, qh, q, adM, qo, q1, q2, hw1⟩ := hw1
    subst hw1
    refine x_astore C (lv' := [(1, .ref h6), (0, .ref b)]) dL_law_7 rfl (by decide) rfl rfl ?_
    refine x_new C (ci := 7) (fs := [.null, .null, .null, .null, .int 0, .null, .int 0, .int 0, .int 0, .null]) tyX7 rfl hinX7 tyX7_ok (lw_gm (i := 815) (by decide +kernel) rfl) (lw_gm (i := 816) (by decide +kernel) rfl) (lw_gm (i := 73) (by decide +kernel) rfl) (fun j hj => by
      rcases (show j = 0 ∨ j = 1 ∨ j = 2 ∨ j = 3 ∨ j = 4 ∨ j = 5 ∨ j = 6 ∨ j = 7 ∨ j = 8 ∨ j = 9 by omega) with rfl | rfl | rfl | rfl | rfl | rfl | rfl | rfl | rfl | rfl <;> rfl) ⟨by decide, by decide⟩ dL_law_8 rfl (fun h7 => ?_)
    refine x_dup C dL_law_11 rfl ?_
    refine x_call C (cxX7 l D aI h7) xmX7 (lw_gm (i := 817) (by decide +kernel) rfl) ⟨by decide, by decide⟩ (Nat.le_of_ble_eq_true rfl) ⟨by decide, by decide⟩ dL_law_12 rfl (fun ws2 hw2 => ?_)
    obtain ⟨p1, p2, p3, p4, p5, p6, hw2⟩ := hw2
    subst hw2
    refine x_astore C (lv' := [(2, .ref h7), (1, .ref h6), (0, .ref b)]) dL_law_15 rfl (by decide) rfl rfl ?_
    refine x_iconst C (v := 0) dL_law_16 (by decide) rfl ?_
    refine x_istore C (lv' := [(3, .int 0), (2, .ref h7), (1, .ref h6), (0, .ref b)]) dL_law_17 rfl (by decide) rfl rfl ?_
    intro H locs ls hP hD hS hl
    obtain ⟨Γ1, Γ2, ⟨a1, a2, a3⟩, ⟨b1, b2, b3⟩, hLay, hP1, hP2⟩ := both hP hD
    have hC : L_C Γ1 Γ2 p s m meth c b L xs := ⟨⟨hx, hb, hr, hml, hown, hlocks, fun w hw => hts w (List.mem_filter.mp hw).1⟩, ⟨hX, hbl⟩, ⟨by show va_K Γ1.2.1 vwCl (x_tys Γ1.2.2.1) s; rw [a1, a2]; exact hK, by show va_K Γ2.2.1 vwCl (x_tys Γ2.2.2.1) s; rw [b1, b2]; exact hK⟩, ⟨hks.narrow hLay.2.2.1, hks.narrow hLay.2.2.2.1, hkn⟩, hLay⟩
    rw [← a1] at hP1
    rw [← b1] at hP2
    have hl : lv_has ls 4 (Llv Γ1 Γ2 b 0) := by
      show lv_has ls 4 [(3, .int (nI 0)), (2, .ref (Γ2.1 0 0)), (1, .ref (Γ1.1 7 0)), (0, .ref b)]
      rw [a3, b3]
      exact hl
    exact law_loop hC hL L 0 M0 m0 start_q (Nat.zero_le L) (by omega) H locs ls hP1 hP2 hS hl
  exact key s.heap [] _ (fun k q h => by simp at h) ⟨fun i j p q h => by simp at h, fun k q h => by simp at h⟩ va_S.rf hl
-- ===== YOUR PART ENDS =====
set_option maxHeartbeats 4000000 in
theorem lw_walk (l : Launch) (hflags : l.flags = flags0) (b : Addr) (xs : List Int32) : MetFree l x (headSpec (Jvm.Cond.code x code maxLocals ret :: tables_1) room_1) (lw_P b xs) (fun _ _ _ _ _ => True) lw_Q := by
  refine MetFree.of_bodyS (code := code) (maxLocals := maxLocals) (ret := ret) (by decide) ?_ ?_
  · intro args s m h hn
    obtain ⟨meth, c, h1, h2, h3, h4, h5, h6, -, -⟩ := Cond.code_spec hn (atoms_spec (ws := Jvm.Cond.code x code maxLocals ret :: tables_1) h _ List.mem_cons_self)
    exact ⟨meth, c, h1, h2, h3, h4, h5, h6⟩
  · intro p e s m args below meth c s₁ B hml0 hP _
    obtain ⟨rfl, hx, hbd, hgv⟩ := hP
    obtain ⟨scr, harrAt, hlist, hof, hsmall⟩ := hx
    obtain ⟨hcb, hkn, -, -⟩ := State.arrayAt?_spec harrAt
    have hown : s.vm.findClass R_law = some m.cls := findClass_of_methodNamed B.named
    have hts0 : ∀ c ∈ (Jvm.Cond.code x code maxLocals ret :: tables_1), c.before #[Value.ref b] s = true := atoms_spec (ws := Jvm.Cond.code x code maxLocals ret :: tables_1) B.pre
    have hts : ∀ w ∈ lw_tbl, w.before #[Value.ref b] s = true := k2_hts_sels lw_privs (fun w hw => hts0 w (List.mem_cons_of_mem _ hw)) lw_privs_ok
    have hml : c.maxLocals = 4 := B.maxLocals_eq (hts0 _ List.mem_cons_self)
    have X₀ : Stand p l e room_1 s m #[Value.ref b] below meth c s₁ [] 0 0 := Stand.of_body B
    have hh0 : s₁.heap = s.heap := by rw [B.state]; rfl
    have hsz : scr.slots.size = xs.length := by rw [← Array.length_toList, hlist, List.length_map]
    have hval : ∀ j : Nat, j < xs.length → scr.slots[j]? = some (.int (xs.getD j 0)) := fun j hj => by
      rw [← Array.getElem?_toList, hlist]
      simp [hj]
    have hbl : b < s.heap.size := (Array.getElem?_eq_some_iff.mp hcb).1
    have hX : va_X b xs.length (fun j => xs.getD j 0) s s.heap := ⟨scr, hcb, hof, hkn, hsz, hval⟩
    have K : W p l e room_1 s m #[Value.ref b] below meth c s₁.heap [] 0 0 (lw_Z below #[Value.ref b] s) (entryFrame m ([Value.ref b] : List Value).toArray 4) := by
      rw [hh0]
      exact whole_start l hflags hbd ⟨B.exec, B.bytes, B.returns, hml, hown, hts, hX, hbl, B.notSynchronized, hgv⟩
    obtain ⟨t, a1, o, b1, b2, b3⟩ := K s₁ rfl X₀
    exact ⟨t, o, a1, b1, b2, b3⟩
theorem lw_pre_spec {args : Array Value} {s : State} (h : (Jvm.Cond.and given_1 narrow_1).before args s = true) (hr : rest_1_c.before args s = true) : ∃ (b : Addr) (xs : List Int32), lw_P b xs args s := by
  have hs := flat_of_before _ h
  have hq := flat_of_before _ hr
  have hc : (Cond.count 1).before args s = true := hs _ (by decide +kernel)
  have harr : (Cond.arrayOf (.arg 0) .int).before args s = true := hs _ (by decide +kernel)
  have hle : (Cond.le (.length (.arg 0)) (.int 2048)).before args s = true := hs _ (by decide +kernel)
  have hlen : (Cond.isInt (.length (.arg 0))).before args s = true := hq _ (by decide +kernel)
  have hall : (Cond.all (.arg 0) (.isInt (.elem (.arg 0) (.index 0)))).before args s = true := hq _ (by decide +kernel)
  obtain ⟨b, xs, hb, hx⟩ := State.ints_of_pre rfl harr hlen hall
  have hsm : xs.length < 2 ^ 31 := hx.choose_spec.2.2.2
  have hev : (Term.length (.arg 0)).eval args s none [] s = some (.int xs.length.toInt32) := hx.length_eval hb
  have hv := Cond.le_ints hev (show (Term.int 2048).eval args s none [] s = some (.int 2048) from rfl)
  have hd : xs.length.toInt32 ≤ 2048 := by
    simpa [Cond.before, Cond.holds, hv] using hle
  have hN : xs.length ≤ 2048 := (Int32.ofNat_le_ofNat hsm (by decide)).mp (show Int32.ofNat xs.length ≤ Int32.ofNat 2048 from hd)
  exact ⟨b, xs, Cond.one_arg hc (show args[0]? = some (.ref b) from hb), hx, hN, h⟩
theorem lw_comes (l : Launch) (hflags : l.flags = flags0) : Comes l x (Jvm.Cond.code x code maxLocals ret :: tables_1) room_1 (fun tb e args s => Calls_1 tb e args s ∧ rest_1 tb e args s ∧ Pre_1 tb e args s)
    (fun _ _ args s o t => lw_Q args s o t) := by
  intro p e ha hc hk s m args below hf hfit hheap happ hpre
  obtain ⟨b, xs, hP⟩ := lw_pre_spec hpre.2.2 hpre.2.1
  obtain ⟨k, o, h1, h2, h3, hQ⟩ := lw_walk l hflags b xs p e ha hc hk s m args below hf ((Spec.applies_iff_loose hf).mp happ).1 hP trivial
  exact ⟨k, o, h1, h2, h3, hQ⟩
theorem lw_frame {s t : State} {o : Outcome} {args : Array Value} (h : Framed s o t [] 600000 7302250) :
    Framed s o t (fieldLocs frame_1_writes args s ++ arrayLocs frame_1_arrays args s ++ staticLocs frame_1_statics s) 600000 7302250 := h
theorem lw_limb (L : Cond) (hL : ∀ (args : Array Value) (s t : State), L.after args s (.returned (some (.int 1))) t = true) :
    ArmFor flags0 classFile x code maxLocals ret World_1 tables_1 room_1 Calls_1 rest_1 Pre_1
      (fun tb e a s o t => postC L tb e a s o t ∧ Framed s o t (fieldLocs frame_1_writes a s ++ arrayLocs frame_1_arrays a s ++ staticLocs frame_1_statics s) 600000 7302250) := by
  intro l hflags _ _ p e ha hc hk s m args below hf hfit hheap happ hpre
  obtain ⟨k, o, h1, h2, h3, rfl, hF⟩ := lw_comes l hflags p e ha hc hk s m args below hf hfit hheap happ hpre
  exact ⟨k, _, h1, h2, h3, hL args s _, lw_frame hF⟩
theorem i_vc : Claimed_1_1 ∧ Claimed_1_2 := ⟨lw_limb limb_1_1 (fun args s t => by simp [limb_1_1, Cond.after, Cond.holds, Cond.value]), lw_limb limb_1_2 (fun args s t => Cond.after_iff.mpr (by
  first | (rw [show limb_1_2 = Cond.eq .result (.int 1) from rfl, Cond.eq_ints (x := 1) (y := 1) rfl rfl]; simp; done) | (simp [limb_1_2, Cond.value, Term.eval]; done)))⟩

