/-! THE LAW from its entry to its loop -/
def st_g (k : Nat) : Nat := if k < 4 then (if k = 0 then 0 else if k = 1 then 1 else if k = 2 then 82 else 131) else if k < 24 then 2 + 4 * (k - 4) else if k < 40 then 83 + 3 * (k - 24) else if k < 60 then 3 + 4 * (k - 40) else if k < 76 then 84 + 3 * (k - 60) else if k < 96 then 4 + 4 * (k - 76) else if k < 112 then 85 + 3 * (k - 96) else if k < 132 then 5 + 4 * (k - 112) else if k = 134 then 135 else if k = 135 then 134 else k
theorem st_lt : ∀ k, k < 136 → st_g k < 136 := by decide +kernel
theorem st_inj0 : ∀ i, i < 136 → ∀ j, j < 136 → st_g i = st_g j → i = j := by decide +kernel
theorem st_inj {i j : Nat} (hi : i < 136) (hj : j < 136) (h : st_g i = st_g j) : i = j := st_inj0 i hi j hj h
theorem arrV_congr {c : ClassId} {N : Nat} {f g : Nat → Value} (h : ∀ i, i < N → f i = g i) : arrV c N f = arrV c N g := by
  unfold arrV
  congr 2
  funext j
  exact h j.1 j.2
section stR
variable {K : gw_K} {Γ : gw_G} {R : Room} {cells slots pc n : Nat} {A : Nat → Nat} {e : Nat → va_E} {lv : List (Nat × Value)} {rest : List Value} {cc : ByteArray} {nL : Nat} {own : String}
theorem cn_newl (C : gw_C K Γ cc nL own) (hX : (Cond.arrayClass .long).before (gw_as K) (gw_s K) = true) (hD : va_D (gw_A Γ) (cn_w n A e)) {x : Int32} (N : Nat) (hx : ¬ x < 0) (hN : x.toNatClampNeg = N) (hbytes : N * 8 ≤ 536870912) (hcells : cells + 1 ≤ R.cells) (hslots : slots + N ≤ R.slots) (hd : decode cc pc = .ok (.newarray .long, 2))
    (k : ∀ q : Nat, va_D (gw_A Γ) (cn_w (n + 1) (va_up A n q) (va_up e n (.inl (gw_y Γ 3, N, .inr (.inl (fun _ => 0)))))) → gw_J K Γ R (cells + 1) (slots + N) (cn_w (n + 1) (va_up A n q) (va_up e n (.inl (gw_y Γ 3, N, .inr (.inl (fun _ => 0)))))) (pc + 2) lv (.ref q :: rest)) : gw_J K Γ R cells slots (cn_w n A e) pc lv (.int x :: rest) := fun H locs ls hP hS hl =>
  va_newa (atype := .long) (ty := .long) (a0 := (N, .inr (.inl (fun _ => 0)))) C.1 C.2.1 hX rfl C.k hP hD hS (cn_hA C) (fun cA => rfl) hx hN hbytes hcells hslots hd (fun q cA H hK hP hD hS => by
    have e1 : (gw_s K).vm.findClass ("[" ++ FieldType.long.toString) = some cA := (hK.2 4 (cA, .long) rfl).2
    have e2 : (gw_s K).vm.findClass ("[" ++ FieldType.long.toString) = some (gw_y Γ 3) := (C.k.2 3 (gw_y Γ 3, .long) rfl).2
    cases Option.some.inj (e1.symm.trans e2)
    rw [cn_push] at hP hD
    exact k q hD H locs ls hP hS hl)
end stR
theorem st_tab {args : Array Value} {s : State} (hts : ∀ w ∈ lw_tbl, w.before args s = true) {w : Cond} (i : Nat) (h : lw_tbl[i]? = some w) : w.before args s = true := hts w (List.mem_of_getElem? h)
theorem st_sub {w : Cond} (h : w ∈ gw_L) : w ∈ lw_tbl := (List.mem_filter.mp h).1
def st_sa (b : Nat) (s : State) (k : Nat) : Nat := match (Term.string RX3 k).eval #[Value.ref b] s none [] s with
  | some (.ref a) => a
  | _ => 0
theorem st_sa_e {b : Nat} {s : State} {k a : Nat} (h : (Term.string RX3 k).eval #[Value.ref b] s none [] s = some (.ref a)) : st_sa b s k = a := by
  unfold st_sa
  rw [h]
/-- what holds at the law's start, whatever addresses are named -/
theorem st_host {s : State} {b : Nat} (l : Launch) (hflags : l.flags = flags0) (hts : ∀ w ∈ lw_tbl, w.before #[Value.ref b] s = true) (hgv : (Jvm.Cond.and given_1 narrow_1).before #[Value.ref b] s = true) : ∃ (ci : Nat → ClassId) (D : va_G) (sa : Nat → Nat), ∀ ad : Nat → Nat, gw_ok (s.heap.size, ad, ci, D, sa, 0) → gw_H (s.heap.size, ad, ci, D, sa, 0) l s := by
  have hs := flat_of_before _ hgv
  obtain ⟨c0, i0, k0⟩ := u_known (C := RX0) (T := TX0) (N := 8) (n := 8) hts (fun w h => st_sub (inX0 w h)) (hts _ (st_sub is_X0))
  obtain ⟨c1, i1, k1⟩ := u_known (C := RX1) (T := TX1) (N := 2) (n := 2) hts (fun w h => st_sub (inX1 w h)) (hts _ (st_sub is_X1))
  obtain ⟨c2, i2, k2⟩ := u_known (C := RX2) (T := TX2) (N := 10) (n := 10) hts (fun w h => st_sub (inX2 w h)) (hts _ (st_sub is_X2))
  obtain ⟨c3, i3, k3⟩ := u_known (C := RX3) (T := TX3) (N := 6) (n := 6) hts (fun w h => st_sub (inX3 w h)) (hts _ (st_sub is_X3))
  obtain ⟨y0, K0, p0, a1, a2, a3⟩ := Cond.arrayClass_spec (st_tab hts 69 (w := .arrayClass .int) (by decide +kernel))
  obtain ⟨p1, y1, K1, b1, -, b2, b3, b4⟩ := Cond.arrayOver_spec (st_tab hts 50 (w := .arrayOver (.object "CourseEnrolment$Course")) (by decide +kernel))
  obtain ⟨p2, y2, K2, d1, -, d2, d3, d4⟩ := Cond.arrayOver_spec (st_tab hts 99 (w := .arrayOver (.object "CourseEnrolment$Student")) (by decide +kernel))
  obtain ⟨y3, K3, p3, f1, f2, f3⟩ := Cond.arrayClass_spec (st_tab hts 715 (w := .arrayClass .long) (by decide +kernel))
  have hstr : ∀ q ∈ gw_ST, (Cond.stringRef RX3 q.1 q.2).before #[Value.ref b] s = true ∧ ∃ a, (Term.string RX3 q.1).eval #[Value.ref b] s none [] s = some (.ref a) := by
    intro q hq
    have hm : ∃ i, i < 24 ∧ gw_ST[i]? = some q := by
      obtain ⟨i, hi⟩ := List.getElem?_of_mem hq
      exact ⟨i, (List.getElem?_eq_some_iff.mp hi).1, hi⟩
    obtain ⟨i, hi, hiq⟩ := hm
    have hc : i = 0 ∨ i = 1 ∨ i = 2 ∨ i = 3 ∨ i = 4 ∨ i = 5 ∨ i = 6 ∨ i = 7 ∨ i = 8 ∨ i = 9 ∨ i = 10 ∨ i = 11 ∨ i = 12 ∨ i = 13 ∨ i = 14 ∨ i = 15 ∨ i = 16 ∨ i = 17 ∨ i = 18 ∨ i = 19 ∨ i = 20 ∨ i = 21 ∨ i = 22 ∨ i = 23 := by omega
    rcases hc with rfl | rfl | rfl | rfl | rfl | rfl | rfl | rfl | rfl | rfl | rfl | rfl | rfl | rfl | rfl | rfl | rfl | rfl | rfl | rfl | rfl | rfl | rfl | rfl
    · cases hiq
      refine ⟨st_tab hts 702 (by decide +kernel), ?_⟩
      obtain ⟨a, c, cell, k, g1, -⟩ := Cond.exactly_spec (hs (.exactly (.string RX3 46) "java/lang/String") (by decide +kernel))
      exact ⟨a, g1⟩
    · cases hiq
      refine ⟨st_tab hts 703 (by decide +kernel), ?_⟩
      obtain ⟨a, c, cell, k, g1, -⟩ := Cond.exactly_spec (hs (.exactly (.string RX3 53) "java/lang/String") (by decide +kernel))
      exact ⟨a, g1⟩
    · cases hiq
      refine ⟨st_tab hts 280 (by decide +kernel), ?_⟩
      obtain ⟨a, c, cell, k, g1, -⟩ := Cond.exactly_spec (hs (.exactly (.string RX3 72) "java/lang/String") (by decide +kernel))
      exact ⟨a, g1⟩
    · cases hiq
      refine ⟨st_tab hts 311 (by decide +kernel), ?_⟩
      obtain ⟨a, c, cell, k, g1, -⟩ := Cond.exactly_spec (hs (.exactly (.string RX3 78) "java/lang/String") (by decide +kernel))
      exact ⟨a, g1⟩
    · cases hiq
      refine ⟨st_tab hts 363 (by decide +kernel), ?_⟩
      obtain ⟨a, c, cell, k, g1, -⟩ := Cond.exactly_spec (hs (.exactly (.string RX3 93) "java/lang/String") (by decide +kernel))
      exact ⟨a, g1⟩
    · cases hiq
      refine ⟨st_tab hts 708 (by decide +kernel), ?_⟩
      obtain ⟨a, c, cell, k, g1, -⟩ := Cond.exactly_spec (hs (.exactly (.string RX3 117) "java/lang/String") (by decide +kernel))
      exact ⟨a, g1⟩
    · cases hiq
      refine ⟨st_tab hts 709 (by decide +kernel), ?_⟩
      obtain ⟨a, c, cell, k, g1, -⟩ := Cond.exactly_spec (hs (.exactly (.string RX3 119) "java/lang/String") (by decide +kernel))
      exact ⟨a, g1⟩
    · cases hiq
      refine ⟨st_tab hts 381 (by decide +kernel), ?_⟩
      obtain ⟨a, c, cell, k, g1, -⟩ := Cond.exactly_spec (hs (.exactly (.string RX3 138) "java/lang/String") (by decide +kernel))
      exact ⟨a, g1⟩
    · cases hiq
      refine ⟨st_tab hts 399 (by decide +kernel), ?_⟩
      obtain ⟨a, c, cell, k, g1, -⟩ := Cond.exactly_spec (hs (.exactly (.string RX3 159) "java/lang/String") (by decide +kernel))
      exact ⟨a, g1⟩
    · cases hiq
      refine ⟨st_tab hts 401 (by decide +kernel), ?_⟩
      obtain ⟨a, c, cell, k, g1, -⟩ := Cond.exactly_spec (hs (.exactly (.string RX3 168) "java/lang/String") (by decide +kernel))
      exact ⟨a, g1⟩
    · cases hiq
      refine ⟨st_tab hts 410 (by decide +kernel), ?_⟩
      obtain ⟨a, c, cell, k, g1, -⟩ := Cond.exactly_spec (hs (.exactly (.string RX3 173) "java/lang/String") (by decide +kernel))
      exact ⟨a, g1⟩
    · cases hiq
      refine ⟨st_tab hts 415 (by decide +kernel), ?_⟩
      obtain ⟨a, c, cell, k, g1, -⟩ := Cond.exactly_spec (hs (.exactly (.string RX3 182) "java/lang/String") (by decide +kernel))
      exact ⟨a, g1⟩
    · cases hiq
      refine ⟨st_tab hts 416 (by decide +kernel), ?_⟩
      obtain ⟨a, c, cell, k, g1, -⟩ := Cond.exactly_spec (hs (.exactly (.string RX3 184) "java/lang/String") (by decide +kernel))
      exact ⟨a, g1⟩
    · cases hiq
      refine ⟨st_tab hts 425 (by decide +kernel), ?_⟩
      obtain ⟨a, c, cell, k, g1, -⟩ := Cond.exactly_spec (hs (.exactly (.string RX3 190) "java/lang/String") (by decide +kernel))
      exact ⟨a, g1⟩
    · cases hiq
      refine ⟨st_tab hts 434 (by decide +kernel), ?_⟩
      obtain ⟨a, c, cell, k, g1, -⟩ := Cond.exactly_spec (hs (.exactly (.string RX3 195) "java/lang/String") (by decide +kernel))
      exact ⟨a, g1⟩
    · cases hiq
      refine ⟨st_tab hts 435 (by decide +kernel), ?_⟩
      obtain ⟨a, c, cell, k, g1, -⟩ := Cond.exactly_spec (hs (.exactly (.string RX3 197) "java/lang/String") (by decide +kernel))
      exact ⟨a, g1⟩
    · cases hiq
      refine ⟨st_tab hts 440 (by decide +kernel), ?_⟩
      obtain ⟨a, c, cell, k, g1, -⟩ := Cond.exactly_spec (hs (.exactly (.string RX3 203) "java/lang/String") (by decide +kernel))
      exact ⟨a, g1⟩
    · cases hiq
      refine ⟨st_tab hts 445 (by decide +kernel), ?_⟩
      obtain ⟨a, c, cell, k, g1, -⟩ := Cond.exactly_spec (hs (.exactly (.string RX3 205) "java/lang/String") (by decide +kernel))
      exact ⟨a, g1⟩
    · cases hiq
      refine ⟨st_tab hts 450 (by decide +kernel), ?_⟩
      obtain ⟨a, c, cell, k, g1, -⟩ := Cond.exactly_spec (hs (.exactly (.string RX3 207) "java/lang/String") (by decide +kernel))
      exact ⟨a, g1⟩
    · cases hiq
      refine ⟨st_tab hts 463 (by decide +kernel), ?_⟩
      obtain ⟨a, c, cell, k, g1, -⟩ := Cond.exactly_spec (hs (.exactly (.string RX3 216) "java/lang/String") (by decide +kernel))
      exact ⟨a, g1⟩
    · cases hiq
      refine ⟨st_tab hts 662 (by decide +kernel), ?_⟩
      obtain ⟨a, c, cell, k, g1, -⟩ := Cond.exactly_spec (hs (.exactly (.string RX3 234) "java/lang/String") (by decide +kernel))
      exact ⟨a, g1⟩
    · cases hiq
      refine ⟨st_tab hts 241 (by decide +kernel), ?_⟩
      obtain ⟨a, c, cell, k, g1, -⟩ := Cond.exactly_spec (hs (.exactly (.string RX3 254) "java/lang/String") (by decide +kernel))
      exact ⟨a, g1⟩
    · cases hiq
      refine ⟨st_tab hts 342 (by decide +kernel), ?_⟩
      obtain ⟨a, c, cell, k, g1, -⟩ := Cond.exactly_spec (hs (.exactly (.string RX3 257) "java/lang/String") (by decide +kernel))
      exact ⟨a, g1⟩
    · cases hiq
      refine ⟨st_tab hts 638 (by decide +kernel), ?_⟩
      obtain ⟨a, c, cell, k, g1, -⟩ := Cond.exactly_spec (hs (.exactly (.string RX3 262) "java/lang/String") (by decide +kernel))
      exact ⟨a, g1⟩
  refine ⟨fun k => if k = 0 then y0 else if k = 1 then y1 else if k = 2 then y2 else y3, (fun k => if k = 0 then c0 else if k = 1 then c1 else if k = 2 then c2 else c3, fun k => if k = 0 then i0 else if k = 1 then i1 else if k = 2 then i2 else i3), st_sa b s, fun ad hok => ⟨fun w hw => va_Nw.of (gw_tab hw) (hts w (st_sub hw)), ⟨?_, ?_⟩, Nat.le_refl _, hok, ?_, ?_, ?_, fun q hq => ?_, fun x hx z hz hne => ?_, cn_arr (State.WarmedH.refl _) (st_tab hts 69 (w := .arrayClass .int) (by decide +kernel))⟩⟩
  · intro k q hq
    match k, hq with
    | 0, hq => cases hq; exact k0
    | 1, hq => cases hq; exact k1
    | 2, hq => cases hq; exact k2
    | 3, hq => cases hq; exact k3
    | k + 4, hq => simp [vwCl] at hq
  · intro k q hq
    match k, hq with
    | 0, hq => cases hq; exact ⟨fun n z => ⟨fun k h => (by cases h), K0, a2, p0, a3⟩, a1⟩
    | 1, hq => cases hq; exact ⟨fun n z => ⟨fun k h => (by cases h), K1, b2, p1, b3⟩, K1, p1, b2, b3, b1, b4⟩
    | 2, hq => cases hq; exact ⟨fun n z => ⟨fun k h => (by cases h), K2, d2, p2, d3⟩, K2, p2, d2, d3, d1, d4⟩
    | 3, hq => cases hq; exact ⟨fun n z => ⟨fun k h => (by cases h), K3, f2, p3, f3⟩, f1⟩
    | k + 4, hq => simp at hq
  · unfold Launch.stackTraces
    rw [hflags]
    decide +kernel
  · exact vx_Zqof (st_tab hts 227 (w := .laysStatic Bundle.tN "UNASSIGNED_STACK" Bundle.steD) (by decide +kernel)) (st_tab hts 34 (w := .initialized Bundle.tN) (by decide +kernel)) (hs _ (by decide +kernel)) (fun a h => Nat.not_le.mpr h)
  · exact vx_Zqof (st_tab hts 229 (w := .laysStatic Bundle.tN "SUPPRESSED_SENTINEL" Bundle.listD) (by decide +kernel)) (st_tab hts 34 (w := .initialized Bundle.tN) (by decide +kernel)) (hs _ (by decide +kernel)) (fun a h => Nat.not_le.mpr h)
  · obtain ⟨h1, a, h2⟩ := hstr q hq
    refine vk_R.of h1 ?_
    show _ = some (Value.ref (st_sa b s q.1))
    rw [st_sa_e h2]
    exact h2
  · have e1 : x = "java/lang/IllegalStateException" := by simpa [gw_X] using hx
    have e2 : z = "java/lang/IllegalStateException" := by simpa [gw_X] using hz
    exact absurd (e1.trans e2.symm) hne
set_option maxRecDepth 100000 in
set_option maxHeartbeats 8000000 in
/-- the world as it was made is the world of τ0, μ0 -/
theorem st_world {D : va_G} {ci : Nat → ClassId} {N : Nat} {sa : Nat → Nat} {A : Nat → Nat} {e : Nat → va_E} {H : Heap} (Γ : gw_G) (hΓ : Γ = (N, fun k => A (st_g k), ci, D, sa, 0)) (hp : ∃ A1 e1, cn_post Γ (A 0) A1 e1 ∧ (∀ z, z < 132 → A z = A1 z) ∧ ∀ z, z < 132 → e z = e1 z)
    (h132 : e 132 = .inl (gw_y Γ 0, 64, .inl (fun _ => 0))) (h133 : e 133 = .inl (gw_y Γ 0, 64, .inl (fun _ => 0))) (h134 : e 134 = .inl (gw_y Γ 3, 8, .inr (.inl (fun _ => 0)))) (h135 : e 135 = .inl (gw_y Γ 0, 3, .inl (fun _ => 0))) (hP : va_P D vwCl (cn_w 136 A e) H) : va_P D vwCl (gw_W Γ τ0 (fun _ _ => 0) (fun _ => 0)) H := by
  obtain ⟨A1, e1, ⟨q0, q1, ⟨f1, q2, q3⟩, ⟨f2, q4, q5⟩, q6, q7, q8⟩, kA, kE⟩ := hp
  have hA : ∀ k, gw_a Γ k = A (st_g k) := fun k => by rw [hΓ]
  have hAl : ∀ k i, k < 136 → st_g k = i → i < 132 → gw_a Γ k = A1 i := fun k i _ h2 h3 => by rw [hA, h2, kA i h3]
  have key : ∀ (k i : Nat) (x : va_E), k < 136 → st_g k = i → i < 132 → e1 i = x → va_at D vwCl (gw_a Γ k, x) H := by
    intro k i x h1 h2 h3 h4
    have h5 := hP i (A i, e i) (cn_at (by omega))
    rw [kE i h3, h4] at h5
    rw [hA, h2]
    exact h5
  intro k q hq0
  have hk : k < 136 := by
    have := (gw_of hq0).1
    rw [hΓ] at this
    exact this
  have hq1 := (gw_of hq0).2
  clear hq0
  subst hq1
  by_cases c0 : k < 132
  · rw [gw_e, if_pos c0]
    by_cases c1 : k < 4
    · have hc : k = 0 ∨ k = 1 ∨ k = 2 ∨ k = 3 := by omega
      rcases hc with rfl | rfl | rfl | rfl
      · refine key 0 0 _ hk rfl (by omega) ?_
        rw [q1]
        show _ = Sum.inr (3, [Value.ref (gw_a Γ 1), Value.ref (gw_a Γ 2), Value.int 0, Value.int 0, Value.int 0, Value.ref (gw_a Γ 3)])
        rw [hAl 1 1 (by omega) rfl (by omega), hAl 2 82 (by omega) rfl (by omega), hAl 3 131 (by omega) rfl (by omega)]
      · have h5 := key 1 1 _ hk rfl (by omega) q2
        have h6 : H[gw_a Γ 1]? = some (arrV (gw_y Γ 1) 20 (fun j => va_rf (f1 j))) := h5
        have h7 : arrV (gw_y Γ 1) 20 (fun j => va_rf (f1 j)) = arrV (gw_y Γ 1) 20 (fun j => va_rf (some (gw_a Γ (4 + j)))) := arrV_congr (fun i hi => by
          show va_rf (f1 i) = va_rf (some (gw_a Γ (4 + i)))
          rw [q3 i hi, hAl (4 + i) (2 + 4 * i) (by omega) (by unfold st_g; rw [if_neg (by omega), if_pos (by omega), Nat.add_sub_cancel_left]) (by omega)])
        rw [h7] at h6
        exact h6
      · have h5 := key 2 82 _ hk rfl (by omega) q4
        have h6 : H[gw_a Γ 2]? = some (arrV (gw_y Γ 2) 16 (fun j => va_rf (f2 j))) := h5
        have h7 : arrV (gw_y Γ 2) 16 (fun j => va_rf (f2 j)) = arrV (gw_y Γ 2) 16 (fun j => va_rf (some (gw_a Γ (24 + j)))) := arrV_congr (fun i hi => by
          show va_rf (f2 i) = va_rf (some (gw_a Γ (24 + i)))
          rw [q5 i hi, hAl (24 + i) (83 + 3 * i) (by omega) (by unfold st_g; rw [if_neg (by omega), if_neg (by omega), if_pos (by omega), Nat.add_sub_cancel_left]) (by omega)])
        rw [h7] at h6
        exact h6
      · refine key 3 131 _ hk rfl (by omega) ?_
        rw [q8]
        rfl
    · by_cases c2 : k < 24
      · obtain ⟨c, rfl⟩ : ∃ c, k = 4 + c := ⟨k - 4, by omega⟩
        have hg : st_g (4 + c) = 2 + 4 * c := by unfold st_g; rw [if_neg (by omega), if_pos (by omega), Nat.add_sub_cancel_left]
        refine key _ _ _ hk hg (by omega) ?_
        rw [(q6 c (by omega)).1, gw_ecC ⟨by omega, by omega⟩, gw_fC]
        rw [hAl (4 + c + 36) (3 + 4 * c) (by omega) (by unfold st_g; rw [if_neg (by omega), if_neg (by omega), if_neg (by omega), if_pos (by omega), show 4 + c + 36 - 40 = c by omega]) (by omega), hAl (4 + c + 108) (5 + 4 * c) (by omega) (by unfold st_g; rw [if_neg (by omega), if_neg (by omega), if_neg (by omega), if_neg (by omega), if_neg (by omega), if_neg (by omega), if_neg (by omega), if_pos (by omega), show 4 + c + 108 - 112 = c by omega]) (by omega)]
        have hz : ∀ i, i ≠ 0 → τ0 (4 + c) i = 0 := fun i hi => by unfold τ0; rw [if_pos (by omega), if_neg hi]
        rw [hz 3 (by omega), hz 4 (by omega), hz 5 (by omega), hz 6 (by omega), hz 7 (by omega), show τ0 (4 + c) 0 = nI c from by unfold τ0; rw [if_pos (by omega), if_pos rfl, Nat.add_sub_cancel_left]]
      · by_cases c3 : k < 40
        · obtain ⟨c, rfl⟩ : ∃ c, k = 24 + c := ⟨k - 24, by omega⟩
          have hg : st_g (24 + c) = 83 + 3 * c := by unfold st_g; rw [if_neg (by omega), if_neg (by omega), if_pos (by omega), Nat.add_sub_cancel_left]
          refine key _ _ _ hk hg (by omega) ?_
          rw [(q7 c (by omega)).1, gw_ecS ⟨by omega, by omega⟩, gw_fS]
          rw [hAl (24 + c + 36) (84 + 3 * c) (by omega) (by unfold st_g; rw [if_neg (by omega), if_neg (by omega), if_neg (by omega), if_neg (by omega), if_pos (by omega), show 24 + c + 36 - 60 = c by omega]) (by omega)]
          have hz : ∀ i, i ≠ 0 → i < 6 → τ0 (24 + c) i = 0 := fun i hi h6 => by unfold τ0; rw [if_neg (by omega), if_pos (by omega), if_neg hi, if_neg (by omega)]
          have hm : ∀ i, 6 ≤ i → i < 10 → τ0 (24 + c) i = -1 := fun i h6 h10 => by unfold τ0; rw [if_neg (by omega), if_pos (by omega), if_neg (by omega), if_pos (by omega)]
          rw [hz 2 (by omega) (by omega), hz 3 (by omega) (by omega), hz 4 (by omega) (by omega), hz 5 (by omega) (by omega), hm 6 (by omega) (by omega), hm 7 (by omega) (by omega), hm 8 (by omega) (by omega), hm 9 (by omega) (by omega), show τ0 (24 + c) 0 = nI c from by unfold τ0; rw [if_neg (by omega), if_pos (by omega), if_pos rfl, Nat.add_sub_cancel_left]]
        · by_cases c4 : k < 60
          · obtain ⟨c, rfl⟩ : ∃ c, k = 40 + c := ⟨k - 40, by omega⟩
            have hg : st_g (40 + c) = 3 + 4 * c := by unfold st_g; rw [if_neg (by omega), if_neg (by omega), if_neg (by omega), if_pos (by omega), Nat.add_sub_cancel_left]
            refine key _ _ _ hk hg (by omega) ?_
            rw [(q6 c (by omega)).2.1, gw_ecR ⟨by omega, by omega⟩, gw_fR, hAl (40 + c + 36) (4 + 4 * c) (by omega) (by unfold st_g; rw [if_neg (by omega), if_neg (by omega), if_neg (by omega), if_neg (by omega), if_neg (by omega), if_pos (by omega), show 40 + c + 36 - 76 = c by omega]) (by omega)]
            rw [show τ0 (40 + c) 1 = 0 from by unfold τ0; rw [if_neg (by omega), if_neg (by omega), if_neg (by omega)]]
          · by_cases c5 : k < 76
            · obtain ⟨c, rfl⟩ : ∃ c, k = 60 + c := ⟨k - 60, by omega⟩
              have hg : st_g (60 + c) = 84 + 3 * c := by unfold st_g; rw [if_neg (by omega), if_neg (by omega), if_neg (by omega), if_neg (by omega), if_pos (by omega), Nat.add_sub_cancel_left]
              refine key _ _ _ hk hg (by omega) ?_
              rw [(q7 c (by omega)).2.1, gw_ecR ⟨by omega, by omega⟩, gw_fR, hAl (60 + c + 36) (85 + 3 * c) (by omega) (by unfold st_g; rw [if_neg (by omega), if_neg (by omega), if_neg (by omega), if_neg (by omega), if_neg (by omega), if_neg (by omega), if_pos (by omega), show 60 + c + 36 - 96 = c by omega]) (by omega)]
              rw [show τ0 (60 + c) 1 = 0 from by unfold τ0; rw [if_neg (by omega), if_neg (by omega), if_neg (by omega)]]
            · rw [gw_ecA (Or.inr ⟨by omega, by omega⟩)]
              by_cases c6 : k < 96
              · obtain ⟨c, rfl⟩ : ∃ c, k = 76 + c := ⟨k - 76, by omega⟩
                have hg : st_g (76 + c) = 4 + 4 * c := by unfold st_g; rw [if_neg (by omega), if_neg (by omega), if_neg (by omega), if_neg (by omega), if_neg (by omega), if_pos (by omega), Nat.add_sub_cancel_left]
                refine key _ _ _ hk hg (by omega) ?_
                rw [(q6 c (by omega)).2.2.1, show gw_len (76 + c) = 16 from by unfold gw_len; rw [if_neg (by omega)], show τ0 (76 + c) = fun _ => 0 from by funext i; unfold τ0; rw [if_neg (by omega), if_neg (by omega), if_neg (by omega)]]
              · by_cases c7 : k < 112
                · obtain ⟨c, rfl⟩ : ∃ c, k = 96 + c := ⟨k - 96, by omega⟩
                  have hg : st_g (96 + c) = 85 + 3 * c := by unfold st_g; rw [if_neg (by omega), if_neg (by omega), if_neg (by omega), if_neg (by omega), if_neg (by omega), if_neg (by omega), if_pos (by omega), Nat.add_sub_cancel_left]
                  refine key _ _ _ hk hg (by omega) ?_
                  rw [(q7 c (by omega)).2.2, show gw_len (96 + c) = 6 from by unfold gw_len; rw [if_pos (by omega)], show τ0 (96 + c) = fun _ => 0 from by funext i; unfold τ0; rw [if_neg (by omega), if_neg (by omega), if_neg (by omega)]]
                · obtain ⟨c, rfl⟩ : ∃ c, k = 112 + c := ⟨k - 112, by omega⟩
                  have hg : st_g (112 + c) = 5 + 4 * c := by unfold st_g; rw [if_neg (by omega), if_neg (by omega), if_neg (by omega), if_neg (by omega), if_neg (by omega), if_neg (by omega), if_neg (by omega), if_pos (by omega), Nat.add_sub_cancel_left]
                  refine key _ _ _ hk hg (by omega) ?_
                  rw [(q6 c (by omega)).2.2.2, show gw_len (112 + c) = 16 from by unfold gw_len; rw [if_neg (by omega)], show τ0 (112 + c) = cn_fill 16 from by funext i; unfold τ0; rw [if_neg (by omega), if_neg (by omega), if_pos (by omega)]]
  · have hc : k = 132 ∨ k = 133 ∨ k = 134 ∨ k = 135 := by omega
    rw [gw_e, if_neg c0]
    rcases hc with rfl | rfl | rfl | rfl
    · have h5 := hP 132 (A 132, e 132) (cn_at hk)
      rw [h132] at h5
      rw [hA]
      exact h5
    · have h5 := hP 133 (A 133, e 133) (cn_at hk)
      rw [h133] at h5
      rw [hA]
      exact h5
    · have h5 := hP 135 (A 135, e 135) (cn_at (by omega))
      rw [h135] at h5
      rw [hA]
      exact h5
    · have h5 := hP 134 (A 134, e 134) (cn_at (by omega))
      rw [h134] at h5
      rw [hA]
      exact h5
set_option maxRecDepth 100000 in
set_option maxHeartbeats 8000000 in
/-- THE LAW, from its entry -/
theorem whole_start {p : Program} {e : Env} {s : State} {m : MethodId} {below : List Frame} {meth : Method} {c : Code} (l : Launch) (hflags : l.flags = flags0) {b L : Nat} {xs : Nat → Int32} (hL : L ≤ 260) (C0 : lw_At p s m meth c b L xs) : W p l e room_1 s m #[Value.ref b] below meth c s.heap [] 0 0 (lw_Z below #[Value.ref b] s) (entryFrame m ([Value.ref b] : List Value).toArray 14) := by
  obtain ⟨hx, hb, hr, hml, hown, hts, hX, hbl, hlocks, hgv⟩ := id C0
  obtain ⟨ci, D, sa, hH⟩ := st_host l hflags hts hgv
  have hok0 : gw_ok (s.heap.size, fun k => s.heap.size + k, ci, D, sa, 0) := ⟨fun i j hi hj h => by
    have h : s.heap.size + i = s.heap.size + j := h
    omega, fun k hk => by show s.heap.size ≤ s.heap.size + k; omega⟩
  obtain ⟨K, hK⟩ : ∃ K : gw_K, K = (p, l, e, s, m, #[Value.ref b], below, meth, c, lw_Z below #[Value.ref b] s) := ⟨_, rfl⟩
  obtain ⟨Γ0, hΓ0⟩ : ∃ Γ0 : gw_G, Γ0 = (s.heap.size, fun k => s.heap.size + k, ci, D, sa, 0) := ⟨_, rfl⟩
  have C : gw_C K Γ0 cL_law 14 RL := by
    rw [hK, hΓ0]
    exact ⟨hx, hb, hml, hown, hH _ hok0, hlocks⟩
  have hcX : cn_X (gw_s K) := by
    rw [hK]
    exact ⟨cn_arr (State.WarmedH.refl _) (st_tab hts 69 (w := .arrayClass .int) (by decide +kernel)), va_AO.of (st_tab hts 50 (w := .arrayOver (.object "CourseEnrolment$Course")) (by decide +kernel)), va_AO.of (st_tab hts 99 (w := .arrayOver (.object "CourseEnrolment$Student")) (by decide +kernel))⟩
  have hlong : (Cond.arrayClass .long).before (gw_as K) (gw_s K) = true := by
    rw [hK]
    exact st_tab hts 715 (w := .arrayClass .long) (by decide +kernel)
  have hJ : gw_J K Γ0 room_1 0 0 (cn_w 0 (fun _ => 0) (fun _ => .inr (0, []))) 0 [(0, .ref b)] [] := by
    have hD0 : va_D (gw_A Γ0) (cn_w 0 (fun _ => 0) (fun _ => .inr (0, []))) := ⟨fun i j p q h => by simp [cn_w] at h, fun k q h => by simp [cn_w] at h⟩
    refine cn_new (ci := 3) C hD0 [.null, .null, .int 0, .int 0, .int 0, .null] inX3 tyX3 tyX3_ok rfl (fun j hj => by rcases (show j = 0 ∨ j = 1 ∨ j = 2 ∨ j = 3 ∨ j = 4 ∨ j = 5 by omega) with rfl | rfl | rfl | rfl | rfl | rfl <;> rfl) cl_L_80 is_X3 ii_X3 (Nat.le_of_ble_eq_true rfl) (Nat.le_of_ble_eq_true rfl) dL_law_0 (fun q0 hD => ?_)
    refine gj_dup C dL_law_3 rfl ?_
    have hM := cn_Main (gw_l K) Γ0 _ _ (va_up_self _ _ _) hD
    rw [va_up_self] at hM
    refine cn_cI (As := []) (rest := [.ref q0]) C hcX cb_L_231i rfl im_X3_init hM rfl (Nat.le_of_ble_eq_true rfl) dL_law_4 (gw_rmk rfl) rfl (fun A1 e1 hp hD => ?_)
    refine gj_astore_n C 1 [(1, .ref q0), (0, .ref b)] dL_law_7 rfl (by decide) rfl ?_
    refine gj_bipush (v := 64) C dL_law_8 (by decide) ?_
    refine cn_newa C hcX hD 64 (by decide) rfl (Nat.le_of_ble_eq_true rfl) (Nat.le_of_ble_eq_true rfl) (Nat.le_of_ble_eq_true rfl) dL_law_10 (fun q1 hD => ?_)
    refine gj_astore_n C 2 [(2, .ref q1), (1, .ref q0), (0, .ref b)] dL_law_12 rfl (by decide) rfl ?_
    refine gj_bipush (v := 64) C dL_law_13 (by decide) ?_
    refine cn_newa C hcX hD 64 (by decide) rfl (Nat.le_of_ble_eq_true rfl) (Nat.le_of_ble_eq_true rfl) (Nat.le_of_ble_eq_true rfl) dL_law_15 (fun q2 hD => ?_)
    refine gj_astore_n C 3 [(3, .ref q2), (2, .ref q1), (1, .ref q0), (0, .ref b)] dL_law_17 rfl (by decide) rfl ?_
    refine gj_bipush (v := 8) C dL_law_18 (by decide) ?_
    refine cn_newl C hlong hD 8 (by decide) rfl (Nat.le_of_ble_eq_true rfl) (Nat.le_of_ble_eq_true rfl) (Nat.le_of_ble_eq_true rfl) dL_law_20 (fun q3 hD => ?_)
    refine gj_astore C 4 [(4, .ref q3), (3, .ref q2), (2, .ref q1), (1, .ref q0), (0, .ref b)] dL_law_22 (by decide) rfl ?_
    refine gj_iconst (v := 3) C dL_law_24 (by decide) ?_
    refine cn_newa C hcX hD 3 (by decide) rfl (Nat.le_of_ble_eq_true rfl) (Nat.le_of_ble_eq_true rfl) (Nat.le_of_ble_eq_true rfl) dL_law_25 (fun q4 hD => ?_)
    refine gj_astore C 5 [(5, .ref q4), (4, .ref q3), (3, .ref q2), (2, .ref q1), (1, .ref q0), (0, .ref b)] dL_law_27 (by decide) rfl ?_
    obtain ⟨A3, hA3⟩ : ∃ z, z = va_up (va_up (va_up (va_up A1 132 q1) (132 + 1) q2) (132 + 1 + 1) q3) (132 + 1 + 1 + 1) q4 := ⟨_, rfl⟩
    obtain ⟨e3, he3⟩ : ∃ z, z = va_up (va_up (va_up (va_up e1 132 (.inl (gw_y Γ0 0, 64, .inl (fun _ => 0)))) (132 + 1) (.inl (gw_y Γ0 0, 64, .inl (fun _ => 0)))) (132 + 1 + 1) (.inl (gw_y Γ0 3, 8, .inr (.inl (fun _ => 0))))) (132 + 1 + 1 + 1) (.inl (gw_y Γ0 0, 3, .inl (fun _ => 0))) := ⟨_, rfl⟩
    rw [← hA3, ← he3] at hD ⊢
    have a1 : ∀ z, z < 132 → A3 z = A1 z := fun z hz => by rw [hA3, va_up_ne _ _ (by omega), va_up_ne _ _ (by omega), va_up_ne _ _ (by omega), va_up_ne _ _ (by omega)]
    have a132 : A3 132 = q1 := by rw [hA3, va_up_ne _ _ (by omega), va_up_ne _ _ (by omega), va_up_ne _ _ (by omega)]; exact va_up_self _ _ _
    have a133 : A3 133 = q2 := by rw [hA3, va_up_ne _ _ (by omega), va_up_ne _ _ (by omega)]; exact va_up_self _ _ _
    have a134 : A3 134 = q3 := by rw [hA3, va_up_ne _ _ (by omega)]; exact va_up_self _ _ _
    have a135 : A3 135 = q4 := by rw [hA3]; exact va_up_self _ _ _
    have b1 : ∀ z, z < 132 → e3 z = e1 z := fun z hz => by rw [he3, va_up_ne _ _ (by omega), va_up_ne _ _ (by omega), va_up_ne _ _ (by omega), va_up_ne _ _ (by omega)]
    have b132 : e3 132 = .inl (gw_y Γ0 0, 64, .inl (fun _ => 0)) := by rw [he3, va_up_ne _ _ (by omega), va_up_ne _ _ (by omega), va_up_ne _ _ (by omega)]; exact va_up_self _ _ _
    have b133 : e3 133 = .inl (gw_y Γ0 0, 64, .inl (fun _ => 0)) := by rw [he3, va_up_ne _ _ (by omega), va_up_ne _ _ (by omega)]; exact va_up_self _ _ _
    have b134 : e3 134 = .inl (gw_y Γ0 3, 8, .inr (.inl (fun _ => 0))) := by rw [he3, va_up_ne _ _ (by omega)]; exact va_up_self _ _ _
    have b135 : e3 135 = .inl (gw_y Γ0 0, 3, .inl (fun _ => 0)) := by rw [he3]; exact va_up_self _ _ _
    have a0 : A3 0 = q0 := (a1 0 (by omega)).trans hp.1
    obtain ⟨Γ, hΓ⟩ : ∃ Γ : gw_G, Γ = (s.heap.size, fun k => A3 (st_g k), ci, D, sa, 0) := ⟨_, rfl⟩
    have hok : gw_ok (s.heap.size, fun k => A3 (st_g k), ci, D, sa, 0) := by
      refine ⟨fun i j hi hj h => st_inj hi hj (cn_inj hD _ _ (st_lt i hi) (st_lt j hj) h), fun k hk => ?_⟩
      have := cn_ge hD _ (st_lt k hk)
      rw [hΓ0] at this
      exact this
    have CΓ : gw_C K Γ cL_law 14 RL := by
      rw [hK, hΓ]
      exact ⟨hx, hb, hml, hown, hH _ hok, hlocks⟩
    have S0 : St 0 0 0 0 τ0 μ0 (fun _ _ => 0) (fun _ => 0) := Ls_0 Inv_0 (fun _ _ _ => rfl) (fun _ => rfl) rfl rfl rfl
    have hloop : gw_J K Γ room_1 600 20000 (gw_W Γ τ0 (fun _ _ => 0) (fun _ => 0)) 29 [(0, .ref b), (1, .ref (gw_a Γ 0)), (2, .ref (gw_a Γ 132)), (3, .ref (gw_a Γ 133)), (4, .ref (gw_a Γ 135)), (5, .ref (gw_a Γ 134))] [] := by
      refine gj_aload_n CΓ 1 dL_law_29 rfl ?_
      refine gj_aload_n CΓ 2 dL_law_30 rfl ?_
      refine gj_aload_n CΓ 3 dL_law_31 rfl ?_
      refine gj_aload CΓ 4 dL_law_32 rfl ?_
      refine gj_aload CΓ 5 dL_law_34 rfl ?_
      refine gj_cSi (As := [.ref (gw_a Γ 0), .ref (gw_a Γ 132), .ref (gw_a Γ 133), .ref (gw_a Γ 135), .ref (gw_a Γ 134)]) (rest := []) CΓ cb_L_232 (s_L_areCourses (gw_l K) Γ τ0 (fun _ _ => 0) (fun _ => 0) 1 (k_courses S0)) rfl (Nat.le_of_ble_eq_true rfl) dL_law_36 (gw_rmo rfl (by show _ ≤ 688196; omega) (by show _ ≤ 7036880; omega)) rfl ?_
      refine gj_istore CΓ 6 [(6, .int 1), (0, .ref b), (1, .ref (gw_a Γ 0)), (2, .ref (gw_a Γ 132)), (3, .ref (gw_a Γ 133)), (4, .ref (gw_a Γ 135)), (5, .ref (gw_a Γ 134))] dL_law_39 (by decide) rfl ?_
      refine gj_iconst (v := 0) CΓ dL_law_41 (by decide) ?_
      refine gj_istore CΓ 7 [(7, .int 0), (6, .int 1), (0, .ref b), (1, .ref (gw_a Γ 0)), (2, .ref (gw_a Γ 132)), (3, .ref (gw_a Γ 133)), (4, .ref (gw_a Γ 135)), (5, .ref (gw_a Γ 134))] dL_law_42 (by decide) rfl ?_
      refine gj_pick [2, 3, 4, 5, 6, 7, 1, 0] _ rfl ?_
      rw [hK] at CΓ ⊢
      exact law_loop CΓ hr (by rw [hΓ]) hX hbl hL (by rw [hΓ]) 100 0 (τ0, fun _ _ => 0, fun _ => 0, 1, 0) rfl ⟨rfl, rfl, 0, 0, 0, μ0, S0, fun _ => ⟨rfl, rfl⟩, fun h => absurd h (by decide)⟩
    have e0 : gw_a Γ 0 = q0 := by rw [hΓ]; exact a0
    have e132 : gw_a Γ 132 = q1 := by rw [hΓ]; exact a132
    have e133 : gw_a Γ 133 = q2 := by rw [hΓ]; exact a133
    have e135 : gw_a Γ 135 = q3 := by rw [hΓ]; exact a134
    have e134 : gw_a Γ 134 = q4 := by rw [hΓ]; exact a135
    rw [e0, e132, e133, e134, e135] at hloop
    refine gj_pick [5, 4, 3, 2, 1, 0] _ rfl (gj_widen (c2 := 600) (s2 := 20000) (by decide) (by decide) ?_)
    intro H locs ls hP hS hl
    refine hloop H locs ls ?_ (by rw [hΓ]; rw [hΓ0] at hS; exact hS) hl
    have hyy : ∀ k, gw_y Γ0 k = gw_y Γ k := fun k => by rw [hΓ0, hΓ]
    have hfin := st_world (H := H) (A := A3) (e := e3) Γ hΓ ⟨A1, e1, ?_, a1, b1⟩ (by rw [b132, hyy]) (by rw [b133, hyy]) (by rw [b134, hyy]) (by rw [b135, hyy]) ?_
    · rw [hΓ] at hfin ⊢
      exact hfin
    · rw [a0]
      have hh : cn_post Γ0 q0 A1 e1 := hp
      rw [hΓ0] at hh
      rw [hΓ]
      exact hh
    · rw [hΓ0] at hP
      exact hP
  rw [lg_entry_eq]
  have hfin := hJ s.heap [] _ (fun k q h => by simp [cn_w] at h) (by rw [hK]; exact va_S.rf) (by rw [hK]; show lv_has _ c.maxLocals _; rw [hml]; exact lv_entry [Value.ref b] (n := 14) (Nat.le_of_ble_eq_true rfl))
  rw [hK] at hfin
  exact hfin
