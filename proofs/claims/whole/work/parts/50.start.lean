/-! THE LAW from its entry: the objects are made, then call by call -/
theorem gj_lend {p : Program} {l : Launch} {e : Env} {s : State} {m : MethodId} {below : List Frame} {meth : Method} {c : Code} {b : Nat} {Γ : gw_G} {cells slots pc : Nat} {ws : va_W} {lv : List (Nat × Value)} (C : gw_C (p, l, e, s, m, #[Value.ref b], below, meth, c, lw_Z below #[Value.ref b] s) Γ cL_law 7 RL) (hr : meth.sig.returnType = ret) (hN : gw_N Γ = s.heap.size) (hd : decode cL_law pc = .ok (.ireturn, 1)) (hc : cells ≤ 601024) (hs : slots ≤ 7293034) : gw_J (p, l, e, s, m, #[Value.ref b], below, meth, c, lw_Z below #[Value.ref b] s) Γ room_1 cells slots ws pc lv [.int 1] := fun H locs ls hP hS hl => by
  refine va_forget (fun q hq => ?_) (W.widen hc hs (lw_ret C.1 C.2.1 hr C.locks hd))
  have := hS.2.2 q hq
  unfold gw_A at this
  rw [hN] at this
  exact this
set_option maxRecDepth 100000 in
set_option maxHeartbeats 8000000 in
/-- THE LAW'S LOOP -/
theorem law_loop {p : Program} {l : Launch} {e : Env} {s : State} {m : MethodId} {below : List Frame} {meth : Method} {c : Code} {b L : Nat} {xs : Nat → Int32} {Γ : gw_G} (C : gw_C (p, l, e, s, m, #[Value.ref b], below, meth, c, lw_Z below #[Value.ref b] s) Γ cL_law 7 RL) (hr : meth.sig.returnType = ret) (hN : gw_N Γ = s.heap.size) (hX : va_X b L xs s s.heap) (hbl : b < s.heap.size) (hL : L ≤ 2048) :
    ∀ (n j : Nat) (τ μ : gw_S) (o : Nat → Int64), j + n = 513 → Inv j τ μ → gw_J (p, l, e, s, m, #[Value.ref b], below, meth, c, lw_Z below #[Value.ref b] s) Γ room_1 (600 + 8 * j) (20000 + 48 * j) (gw_W Γ τ μ o) 23 [(0, .ref b), (1, .ref (gw_a Γ 0)), (2, .ref (gw_a Γ 132)), (3, .ref (gw_a Γ 151)), (4, .int (nI (4 * j)))] [] := by
  have hbA : ¬ gw_A Γ b := by
    unfold gw_A
    rw [hN]
    omega
  have e4 : ∀ z : Nat, z < 2 ^ 20 → (nI z - 4).toInt = (z : Int) - 4 := fun z hz => pk_sub_toInt (a := z) (b := 4) (by omega) (by decide)
  intro n
  induction n with
  | zero =>
    intro j τ μ o hj hI
    have e5 : j = 513 := by omega
    subst e5
    refine gj_iload C 4 dL_law_23 rfl ?_
    refine gj_aload_n C 0 dL_law_25 rfl ?_
    refine gj_slen C hX hbl hbA dL_law_26 ?_
    refine gj_iconst (v := 4) C dL_law_27 (by decide) ?_
    refine gj_isub C dL_law_28 ?_
    refine gj_ic_gt C 2410 dL_law_29 (by decide) (fun _ => ?_) (fun c => absurd ?_ c)
    · refine gj_iconst (v := 1) C dL_law_2410 (by decide) ?_
      exact gj_lend C hr hN dL_law_2411 (by omega) (by omega)
    · rw [fa_lt, show (Int32.ofNat L - 4).toInt = (L : Int) - 4 from e4 L (by omega), nI_toInt (by omega)]
      omega
  | succ n ih =>
    intro j τ μ o hj hI
    refine gj_iload C 4 dL_law_23 rfl ?_
    refine gj_aload_n C 0 dL_law_25 rfl ?_
    refine gj_slen C hX hbl hbA dL_law_26 ?_
    refine gj_iconst (v := 4) C dL_law_27 (by decide) ?_
    refine gj_isub C dL_law_28 ?_
    refine gj_ic_gt C 2410 dL_law_29 (by decide) (fun _ => ?_) (fun hgt => ?_)
    · refine gj_iconst (v := 1) C dL_law_2410 (by decide) ?_
      exact gj_lend C hr hN dL_law_2411 (by omega) (by omega)
    · have hl : 4 * j + 4 ≤ L := by
        rcases Nat.lt_or_ge L (4 * j + 4) with z | z
        · refine absurd ?_ hgt
          rw [fa_lt, show (Int32.ofNat L - 4).toInt = (L : Int) - 4 from e4 L (by omega), nI_toInt (by omega)]
          omega
        · exact z
      have hj2 : j < 512 := by omega
      have h0 : vp_in (nI (4 * j)) L := vp_in_nI (by omega) (by omega)
      have h1 : vp_in (nI (4 * j) + 1) L := by rw [nI_1]; exact vp_in_nI (by omega) (by omega)
      have h2 : vp_in (nI (4 * j) + 2) L := by rw [show nI (4 * j) + 2 = nI (4 * j + 2) from nI_add (4 * j) 2]; exact vp_in_nI (by omega) (by omega)
      have h3 : vp_in (nI (4 * j) + 3) L := by rw [show nI (4 * j) + 3 = nI (4 * j + 3) from nI_add (4 * j) 3]; exact vp_in_nI (by omega) (by omega)
      have hk : ∀ (cells slots : Nat) (τ' μ' : gw_S) (o' : Nat → Int64), cells ≤ 608 + 8 * j → slots ≤ 20048 + 48 * j → Inv (j + 1) τ' μ' → gw_J (p, l, e, s, m, #[Value.ref b], below, meth, c, lw_Z below #[Value.ref b] s) Γ room_1 cells slots (gw_W Γ τ' μ' o') 2404 [(0, .ref b), (1, .ref (gw_a Γ 0)), (2, .ref (gw_a Γ 132)), (3, .ref (gw_a Γ 151)), (4, .int (nI (4 * j)))] [] := by
        intro cells slots τ' μ' o' hc hs hI'
        refine gj_iinc C 4 4 (nI (4 * (j + 1))) [(4, .int (nI (4 * (j + 1)))), (0, .ref b), (1, .ref (gw_a Γ 0)), (2, .ref (gw_a Γ 132)), (3, .ref (gw_a Γ 151))] dL_law_2404 rfl (nI_add (4 * j) 4) (by decide) rfl ?_
        refine gj_goto C 23 dL_law_2407 (by decide) ?_
        exact gj_widen (c2 := 600 + 8 * (j + 1)) (s2 := 20000 + 48 * (j + 1)) (by omega) (by omega) (gj_pick [1, 2, 3, 4, 0] _ rfl (ih (j + 1) τ' μ' o' (by omega) hI'))
      refine gj_aload_n C 0 dL_law_32 rfl ?_
      refine gj_iload C 4 dL_law_33 rfl ?_
      refine gj_sld C hX hbl hbA h0 dL_law_35 ?_
      refine gj_bipush (v := 63) C dL_law_36 (by decide) ?_
      refine gj_iand C dL_law_38 ?_
      obtain ⟨w, hw, ew⟩ := pk_andE (xs (nI (4 * j)).toNatClampNeg) (m := 63) 6 (by decide)
      rw [ew]
      by_cases h37 : w < 37
      · have hc : w = 0 ∨ w = 1 ∨ w = 2 ∨ w = 3 ∨ w = 4 ∨ w = 5 ∨ w = 6 ∨ w = 7 ∨ w = 8 ∨ w = 9 ∨ w = 10 ∨ w = 11 ∨ w = 12 ∨ w = 13 ∨ w = 14 ∨ w = 15 ∨ w = 16 ∨ w = 17 ∨ w = 18 ∨ w = 19 ∨ w = 20 ∨ w = 21 ∨ w = 22 ∨ w = 23 ∨ w = 24 ∨ w = 25 ∨ w = 26 ∨ w = 27 ∨ w = 28 ∨ w = 29 ∨ w = 30 ∨ w = 31 ∨ w = 32 ∨ w = 33 ∨ w = 34 ∨ w = 35 ∨ w = 36 := by omega
        rcases hc with rfl | rfl | rfl | rfl | rfl | rfl | rfl | rfl | rfl | rfl | rfl | rfl | rfl | rfl | rfl | rfl | rfl | rfl | rfl | rfl | rfl | rfl | rfl | rfl | rfl | rfl | rfl | rfl | rfl | rfl | rfl | rfl | rfl | rfl | rfl | rfl | rfl
        · refine gj_tableIn C 200 dL_law_39 (by decide) (by decide) (by rfl) (by decide) ?_
          obtain ⟨r, q, f1, f2, f3, f4, f5, f6⟩ := op_addCourse hI hj2 (xs (nI (4 * j) + 1).toNatClampNeg) (xs (nI (4 * j) + 2).toNatClampNeg) (xs (nI (4 * j) + 3).toNatClampNeg)
          exact lc_addCourse C hX hbl hbA τ μ o _ h1 h2 h3 _ _ (by omega) (by omega) r f1 f3 q f2 f4 f5 (hk _ _ _ _ _ (by omega) (by omega) f6)
        · refine gj_tableIn C 280 dL_law_39 (by decide) (by decide) (by rfl) (by decide) ?_
          obtain ⟨r, q, f1, f2, f3, f4, f5, f6⟩ := op_setSeats hI hj2 (xs (nI (4 * j) + 1).toNatClampNeg) (xs (nI (4 * j) + 2).toNatClampNeg)
          exact lc_setSeats C hX hbl hbA τ μ o _ h1 h2 _ _ (by omega) (by omega) r f1 f3 q f2 f4 f5 (hk _ _ _ _ _ (by omega) (by omega) f6)
        · refine gj_tableIn C 348 dL_law_39 (by decide) (by decide) (by rfl) (by decide) ?_
          obtain ⟨r, q, f1, f2, f3, f4, f5, f6⟩ := op_addPrerequisite hI hj2 (xs (nI (4 * j) + 1).toNatClampNeg) (xs (nI (4 * j) + 2).toNatClampNeg)
          exact lc_addPrerequisite C hX hbl hbA τ μ o _ h1 h2 _ _ (by omega) (by omega) r f1 f3 q f2 f4 f5 (hk _ _ _ _ _ (by omega) (by omega) f6)
        · refine gj_tableIn C 416 dL_law_39 (by decide) (by decide) (by rfl) (by decide) ?_
          obtain ⟨r, q, f1, f2, f3, f4, f5, f6⟩ := op_requires hI hj2 (xs (nI (4 * j) + 1).toNatClampNeg) (xs (nI (4 * j) + 2).toNatClampNeg)
          exact lc_requires C hX hbl hbA τ μ o _ h1 h2 _ _ (by omega) (by omega) r f1 f3 q f2 f4 f5 (hk _ _ _ _ _ (by omega) (by omega) f6)
        · refine gj_tableIn C 491 dL_law_39 (by decide) (by decide) (by rfl) (by decide) ?_
          obtain ⟨r, q, f1, f2, f3, f4, f5, f6⟩ := op_level hI hj2 (xs (nI (4 * j) + 1).toNatClampNeg)
          exact lc_level C hX hbl hbA τ μ o _ h1 _ _ (by omega) (by omega) r f1 f3 q f2 f4 f5 (hk _ _ _ _ _ (by omega) (by omega) f6)
        · refine gj_tableIn C 547 dL_law_39 (by decide) (by decide) (by rfl) (by decide) ?_
          obtain ⟨r, q, f1, f2, f3, f4⟩ := op_courses hI hj2
          exact lc_courses C hX hbl hbA τ μ o _ _ _ (by omega) (by omega) r f1 q f2 f3 (hk _ _ _ _ _ (by omega) (by omega) f4)
        · refine gj_tableIn C 560 dL_law_39 (by decide) (by decide) (by rfl) (by decide) ?_
          obtain ⟨r, q, f1, f2, f3, f4, f5, f6⟩ := op_enrolled hI hj2 (xs (nI (4 * j) + 1).toNatClampNeg)
          exact lc_enrolled C hX hbl hbA τ μ o _ h1 _ _ (by omega) (by omega) r f1 f3 q f2 f4 f5 (hk _ _ _ _ _ (by omega) (by omega) f6)
        · refine gj_tableIn C 616 dL_law_39 (by decide) (by decide) (by rfl) (by decide) ?_
          obtain ⟨r, q, f1, f2, f3, f4, f5, f6⟩ := op_freeSeats hI hj2 (xs (nI (4 * j) + 1).toNatClampNeg)
          exact lc_freeSeats C hX hbl hbA τ μ o _ h1 _ _ (by omega) (by omega) r f1 f3 q f2 f4 f5 (hk _ _ _ _ _ (by omega) (by omega) f6)
        · refine gj_tableIn C 672 dL_law_39 (by decide) (by decide) (by rfl) (by decide) ?_
          obtain ⟨r, q, f1, f2, f3, f4, f5, f6⟩ := op_addStudent hI hj2 (xs (nI (4 * j) + 1).toNatClampNeg) (xs (nI (4 * j) + 2).toNatClampNeg)
          exact lc_addStudent C hX hbl hbA τ μ o _ h1 h2 _ _ (by omega) (by omega) r f1 f3 q f2 f4 f5 (hk _ _ _ _ _ (by omega) (by omega) f6)
        · refine gj_tableIn C 740 dL_law_39 (by decide) (by decide) (by rfl) (by decide) ?_
          obtain ⟨r, q, f1, f2, f3, f4, f5, f6⟩ := op_pass hI hj2 (xs (nI (4 * j) + 1).toNatClampNeg) (xs (nI (4 * j) + 2).toNatClampNeg)
          exact lc_pass C hX hbl hbA τ μ o _ h1 h2 _ _ (by omega) (by omega) r f1 f3 q f2 f4 f5 (hk _ _ _ _ _ (by omega) (by omega) f6)
        · refine gj_tableIn C 808 dL_law_39 (by decide) (by decide) (by rfl) (by decide) ?_
          obtain ⟨r, q, f1, f2, f3, f4⟩ := op_students hI hj2
          exact lc_students C hX hbl hbA τ μ o _ _ _ (by omega) (by omega) r f1 q f2 f3 (hk _ _ _ _ _ (by omega) (by omega) f4)
        · refine gj_tableIn C 821 dL_law_39 (by decide) (by decide) (by rfl) (by decide) ?_
          obtain ⟨r, q, f1, f2, f3, f4, f5, f6⟩ := op_hasPassed hI hj2 (xs (nI (4 * j) + 1).toNatClampNeg) (xs (nI (4 * j) + 2).toNatClampNeg)
          exact lc_hasPassed C hX hbl hbA τ μ o _ h1 h2 _ _ (by omega) (by omega) r f1 f3 q f2 f4 f5 (hk _ _ _ _ _ (by omega) (by omega) f6)
        · refine gj_tableIn C 896 dL_law_39 (by decide) (by decide) (by rfl) (by decide) ?_
          obtain ⟨r, q, f1, f2, f3, f4, f5, f6⟩ := op_isEnrolled hI hj2 (xs (nI (4 * j) + 1).toNatClampNeg) (xs (nI (4 * j) + 2).toNatClampNeg)
          exact lc_isEnrolled C hX hbl hbA τ μ o _ h1 h2 _ _ (by omega) (by omega) r f1 f3 q f2 f4 f5 (hk _ _ _ _ _ (by omega) (by omega) f6)
        · refine gj_tableIn C 971 dL_law_39 (by decide) (by decide) (by rfl) (by decide) ?_
          obtain ⟨r, q, f1, f2, f3, f4, f5, f6⟩ := op_credits hI hj2 (xs (nI (4 * j) + 1).toNatClampNeg)
          exact lc_credits C hX hbl hbA τ μ o _ h1 _ _ (by omega) (by omega) r f1 f3 q f2 f4 f5 (hk _ _ _ _ _ (by omega) (by omega) f6)
        · refine gj_tableIn C 1027 dL_law_39 (by decide) (by decide) (by rfl) (by decide) ?_
          obtain ⟨r, q, f1, f2, f3, f4, f5, f6⟩ := op_missing hI hj2 (xs (nI (4 * j) + 1).toNatClampNeg) (xs (nI (4 * j) + 2).toNatClampNeg)
          exact lc_missing C hX hbl hbA τ μ o _ h1 h2 _ _ (by omega) (by omega) r f1 f3 q f2 f4 f5 (hk _ _ _ _ _ (by omega) (by omega) f6)
        · refine gj_tableIn C 1095 dL_law_39 (by decide) (by decide) (by rfl) (by decide) ?_
          obtain ⟨r, q, f1, f2, f3, f4, f5, f6⟩ := op_obstacle hI hj2 (xs (nI (4 * j) + 1).toNatClampNeg) (xs (nI (4 * j) + 2).toNatClampNeg)
          exact lc_obstacle C hX hbl hbA τ μ o _ h1 h2 _ _ (by omega) (by omega) r f1 f3 q f2 f4 f5 (hk _ _ _ _ _ (by omega) (by omega) f6)
        · refine gj_tableIn C 1163 dL_law_39 (by decide) (by decide) (by rfl) (by decide) ?_
          obtain ⟨r, q, f1, f2, f3, f4, f5, f6⟩ := op_wish hI hj2 (xs (nI (4 * j) + 1).toNatClampNeg) (xs (nI (4 * j) + 2).toNatClampNeg)
          exact lc_wish C hX hbl hbA τ μ o _ h1 h2 _ _ (by omega) (by omega) r f1 f3 q f2 f4 f5 (hk _ _ _ _ _ (by omega) (by omega) f6)
        · refine gj_tableIn C 1231 dL_law_39 (by decide) (by decide) (by rfl) (by decide) ?_
          obtain ⟨r, q, f1, f2, f3, f4, f5, f6⟩ := op_dropWish hI hj2 (xs (nI (4 * j) + 1).toNatClampNeg) (xs (nI (4 * j) + 2).toNatClampNeg)
          exact lc_dropWish C hX hbl hbA τ μ o _ h1 h2 _ _ (by omega) (by omega) r f1 f3 q f2 f4 f5 (hk _ _ _ _ _ (by omega) (by omega) f6)
        · refine gj_tableIn C 1299 dL_law_39 (by decide) (by decide) (by rfl) (by decide) ?_
          obtain ⟨r, q, f1, f2, f3, f4, f5, f6⟩ := op_wishes hI hj2 (xs (nI (4 * j) + 1).toNatClampNeg)
          exact lc_wishes C hX hbl hbA τ μ o _ h1 _ _ (by omega) (by omega) r f1 f3 q f2 f4 f5 (hk _ _ _ _ _ (by omega) (by omega) f6)
        · refine gj_tableIn C 1355 dL_law_39 (by decide) (by decide) (by rfl) (by decide) ?_
          obtain ⟨r, q, f1, f2, f3, f4, f5, f6⟩ := op_wishAt hI hj2 (xs (nI (4 * j) + 1).toNatClampNeg) (xs (nI (4 * j) + 2).toNatClampNeg)
          exact lc_wishAt C hX hbl hbA τ μ o _ h1 h2 _ _ (by omega) (by omega) r f1 f3 q f2 f4 f5 (hk _ _ _ _ _ (by omega) (by omega) f6)
        · refine gj_tableIn C 1423 dL_law_39 (by decide) (by decide) (by rfl) (by decide) ?_
          obtain ⟨r, q, f1, f2, f3, f4, f5, f6⟩ := op_request hI hj2 (xs (nI (4 * j) + 1).toNatClampNeg) (xs (nI (4 * j) + 2).toNatClampNeg)
          exact lc_request C hX hbl hbA τ μ o _ h1 h2 _ _ (by omega) (by omega) r f1 f3 q f2 f4 f5 (hk _ _ _ _ _ (by omega) (by omega) f6)
        · refine gj_tableIn C 1491 dL_law_39 (by decide) (by decide) (by rfl) (by decide) ?_
          obtain ⟨r, q, f1, f2, f3, f4, f5, f6⟩ := op_drop hI hj2 (xs (nI (4 * j) + 1).toNatClampNeg) (xs (nI (4 * j) + 2).toNatClampNeg)
          exact lc_drop C hX hbl hbA τ μ o _ h1 h2 _ _ (by omega) (by omega) r f1 f3 q f2 f4 f5 (hk _ _ _ _ _ (by omega) (by omega) f6)
        · refine gj_tableIn C 1559 dL_law_39 (by decide) (by decide) (by rfl) (by decide) ?_
          obtain ⟨r, q, f1, f2, f3, f4, f5, f6⟩ := op_change hI hj2 (xs (nI (4 * j) + 1).toNatClampNeg) (xs (nI (4 * j) + 2).toNatClampNeg) (xs (nI (4 * j) + 3).toNatClampNeg)
          exact lc_change C hX hbl hbA τ μ o _ h1 h2 h3 _ _ (by omega) (by omega) r f1 f3 q f2 f4 f5 (hk _ _ _ _ _ (by omega) (by omega) f6)
        · refine gj_tableIn C 1639 dL_law_39 (by decide) (by decide) (by rfl) (by decide) ?_
          obtain ⟨r, q, f1, f2, f3, f4, f5, f6⟩ := op_accept hI hj2 (xs (nI (4 * j) + 1).toNatClampNeg) (xs (nI (4 * j) + 2).toNatClampNeg)
          exact lc_accept C hX hbl hbA τ μ o _ h1 h2 _ _ (by omega) (by omega) r f1 f3 q f2 f4 f5 (hk _ _ _ _ _ (by omega) (by omega) f6)
        · refine gj_tableIn C 1707 dL_law_39 (by decide) (by decide) (by rfl) (by decide) ?_
          obtain ⟨r, q, f1, f2, f3, f4, f5, f6⟩ := op_leave hI hj2 (xs (nI (4 * j) + 1).toNatClampNeg) (xs (nI (4 * j) + 2).toNatClampNeg)
          exact lc_leave C hX hbl hbA τ μ o _ h1 h2 _ _ (by omega) (by omega) r f1 f3 q f2 f4 f5 (hk _ _ _ _ _ (by omega) (by omega) f6)
        · refine gj_tableIn C 1782 dL_law_39 (by decide) (by decide) (by rfl) (by decide) ?_
          obtain ⟨r, q, f1, f2, f3, f4, f5, f6⟩ := op_advance hI hj2 (xs (nI (4 * j) + 1).toNatClampNeg)
          exact lc_advance C hX hbl hbA τ μ o _ h1 _ _ (by omega) (by omega) r f1 f3 q f2 f4 f5 (hk _ _ _ _ _ (by omega) (by omega) f6)
        · refine gj_tableIn C 1838 dL_law_39 (by decide) (by decide) (by rfl) (by decide) ?_
          obtain ⟨r, q, f1, f2, f3, f4⟩ := op_day hI hj2
          exact lc_day C hX hbl hbA τ μ o _ _ _ (by omega) (by omega) r f1 q f2 f3 (hk _ _ _ _ _ (by omega) (by omega) f4)
        · refine gj_tableIn C 1851 dL_law_39 (by decide) (by decide) (by rfl) (by decide) ?_
          obtain ⟨r, q, f1, f2, f3, f4, f5, f6⟩ := op_waiting hI hj2 (xs (nI (4 * j) + 1).toNatClampNeg)
          exact lc_waiting C hX hbl hbA τ μ o _ h1 _ _ (by omega) (by omega) r f1 f3 q f2 f4 f5 (hk _ _ _ _ _ (by omega) (by omega) f6)
        · refine gj_tableIn C 1907 dL_law_39 (by decide) (by decide) (by rfl) (by decide) ?_
          obtain ⟨r, q, f1, f2, f3, f4, f5, f6⟩ := op_waitingAt hI hj2 (xs (nI (4 * j) + 1).toNatClampNeg) (xs (nI (4 * j) + 2).toNatClampNeg)
          exact lc_waitingAt C hX hbl hbA τ μ o _ h1 h2 _ _ (by omega) (by omega) r f1 f3 q f2 f4 f5 (hk _ _ _ _ _ (by omega) (by omega) f6)
        · refine gj_tableIn C 1975 dL_law_39 (by decide) (by decide) (by rfl) (by decide) ?_
          obtain ⟨r, q, f1, f2, f3, f4, f5, f6⟩ := op_offerDays hI hj2 (xs (nI (4 * j) + 1).toNatClampNeg) (xs (nI (4 * j) + 2).toNatClampNeg)
          exact lc_offerDays C hX hbl hbA τ μ o _ h1 h2 _ _ (by omega) (by omega) r f1 f3 q f2 f4 f5 (hk _ _ _ _ _ (by omega) (by omega) f6)
        · refine gj_tableIn C 2043 dL_law_39 (by decide) (by decide) (by rfl) (by decide) ?_
          obtain ⟨r, q, f1, f2, f3, f4, f5, f6⟩ := op_runLottery hI hj2 (xs (nI (4 * j) + 1).toNatClampNeg)
          exact lc_runLottery C hX hbl hbA τ μ o _ h1 _ _ (by omega) (by omega) r f1 f3 q f2 f4 f5 (hk _ _ _ _ _ (by omega) (by omega) f6)
        · refine gj_tableIn C 2099 dL_law_39 (by decide) (by decide) (by rfl) (by decide) ?_
          obtain ⟨r, q, f1, f2, f3, f4, f5, f6⟩ := op_lotteryNumber hI hj2 (xs (nI (4 * j) + 1).toNatClampNeg)
          exact lc_lotteryNumber C hX hbl hbA τ μ o _ h1 _ _ (by omega) (by omega) r f1 f3 q f2 f4 f5 (hk _ _ _ _ _ (by omega) (by omega) f6)
        · refine gj_tableIn C 2155 dL_law_39 (by decide) (by decide) (by rfl) (by decide) ?_
          obtain ⟨r, q, f1, f2, f3, f4, f5, f6⟩ := op_putUp hI hj2 (xs (nI (4 * j) + 1).toNatClampNeg) (xs (nI (4 * j) + 2).toNatClampNeg)
          exact lc_putUp C hX hbl hbA τ μ o _ h1 h2 _ _ (by omega) (by omega) r f1 f3 q f2 f4 f5 (hk _ _ _ _ _ (by omega) (by omega) f6)
        · refine gj_tableIn C 2223 dL_law_39 (by decide) (by decide) (by rfl) (by decide) ?_
          obtain ⟨r, q, f1, f2, f3, f4, f5, f6⟩ := op_withdraw hI hj2 (xs (nI (4 * j) + 1).toNatClampNeg)
          exact lc_withdraw C hX hbl hbA τ μ o _ h1 _ _ (by omega) (by omega) r f1 f3 q f2 f4 f5 (hk _ _ _ _ _ (by omega) (by omega) f6)
        · refine gj_tableIn C 2279 dL_law_39 (by decide) (by decide) (by rfl) (by decide) ?_
          obtain ⟨r, q, f1, f2, f3, f4, f5, f6⟩ := op_placeUp hI hj2 (xs (nI (4 * j) + 1).toNatClampNeg)
          exact lc_placeUp C hX hbl hbA τ μ o _ h1 _ _ (by omega) (by omega) r f1 f3 q f2 f4 f5 (hk _ _ _ _ _ (by omega) (by omega) f6)
        · refine gj_tableIn C 2335 dL_law_39 (by decide) (by decide) (by rfl) (by decide) ?_
          obtain ⟨r, q, f1, f2, f3, f4, f5, f6⟩ := op_pointsTo hI hj2 (xs (nI (4 * j) + 1).toNatClampNeg)
          exact lc_pointsTo C hX hbl hbA τ μ o _ h1 _ _ (by omega) (by omega) r f1 f3 q f2 f4 f5 (hk _ _ _ _ _ (by omega) (by omega) f6)
        · refine gj_tableIn C 2391 dL_law_39 (by decide) (by decide) (by rfl) (by decide) ?_
          obtain ⟨r, q, f1, f2, f3, f4⟩ := op_runExchange hI hj2
          exact lc_runExchange C hX hbl hbA τ μ o _ _ _ (by omega) (by omega) r f1 q f2 f3 (hk _ _ _ _ _ (by omega) (by omega) f4)
      · refine gj_tableOut C 2404 dL_law_39 (Or.inr ?_) (by decide) (hk _ _ _ _ _ (by omega) (by omega) (Inv_mono hI))
        rw [nI_toInt (by omega)]
        omega
