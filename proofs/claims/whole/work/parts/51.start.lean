/-! THE LAW from its entry to its loop -/
def st_g (k : Nat) : Nat := if k < 4 then (if k = 0 then 0 else if k = 1 then 1 else if k = 2 then 82 else 131) else if k < 24 then 2 + 4 * (k - 4) else if k < 40 then 83 + 3 * (k - 24) else if k < 60 then 3 + 4 * (k - 40) else if k < 76 then 84 + 3 * (k - 60) else if k < 96 then 4 + 4 * (k - 76) else if k < 112 then 85 + 3 * (k - 96) else if k < 132 then 5 + 4 * (k - 112) else k
theorem st_lt : ∀ k, k < 152 → st_g k < 152 := by decide +kernel
theorem st_inj {i j : Nat} (hi : i < 152) (hj : j < 152) (h : st_g i = st_g j) : i = j := by
  unfold st_g at h
  split at h <;> (repeat' split at h) <;> omega
theorem arrV_congr {c : ClassId} {N : Nat} {f g : Nat → Value} (h : ∀ i, i < N → f i = g i) : arrV c N f = arrV c N g := by
  unfold arrV
  congr 2
  funext j
  exact h j.1 j.2
section stR
variable {K : gw_K} {Γ : gw_G} {R : Room} {cells slots pc n : Nat} {A : Nat → Nat} {e : Nat → va_E} {lv : List (Nat × Value)} {rest : List Value} {cc : ByteArray} {nL : Nat} {own : String}
theorem cn_newl (C : gw_C K Γ cc nL own) (hX : (Cond.arrayClass .long).before (gw_as K) (gw_s K) = true) (hD : va_D (gw_A Γ) (cn_w n A e)) {x : Int32} (N : Nat) (hx : ¬ x < 0) (hN : x.toNatClampNeg = N) (hbytes : N * 8 ≤ 536870912) (hcells : cells + 1 ≤ R.cells) (hslots : slots + N ≤ R.slots) (hd : decode cc pc = .ok (.newarray .long, 2))
    (k : ∀ q : Nat, va_D (gw_A Γ) (cn_w (n + 1) (va_up A n q) (va_up e n (.inl (gw_y Γ 3, N, .inr (.inl (fun _ => 0)))))) → gw_J K Γ R (cells + 1) (slots + N) (cn_w (n + 1) (va_up A n q) (va_up e n (.inl (gw_y Γ 3, N, .inr (.inl (fun _ => 0)))))) (pc + 2) lv (.ref q :: rest)) : gw_J K Γ R cells slots (cn_w n A e) pc lv (.int x :: rest) := fun H locs ls hP hS hl =>
  va_newa (atype := .long) (ty := .long) (a0 := (N, .inr (.inl (fun _ => 0)))) C.1 C.2.1 hX rfl C.k hP hD hS (cn_hA C) (fun cA => rfl) hx hN hbytes hcells hslots hd (fun q cA H hK hP hD hS => by
    have e1 : (gw_s K).vm.findClass ("[" ++ FieldType.long.toString) = some cA := (hK.2 4 (cA, .long) rfl).2
    have e2 : (gw_s K).vm.findClass ("[" ++ FieldType.long.toString) = some (gw_y Γ 3) := (C.k.2 3 (gw_y Γ 3, .long) rfl).2
    cases Option.some.inj (e1.symm.trans e2)
    rw [cn_push] at hP hD
    exact k q hD H locs ls hP hS hl)
end stR
theorem st_tab {args : Array Value} {s : State} (hts : ∀ w ∈ lw_tbl, w.before args s = true) {w : Cond} (i : Nat) (h : lw_tbl[i]? = some w) : w.before args s = true := hts w (List.mem_of_getElem? h)
theorem st_sub {w : Cond} (h : w ∈ gw_L) : w ∈ lw_tbl := (List.mem_filter.mp h).1
def st_sa (b : Nat) (s : State) (k : Nat) : Nat := match (Term.string RX3 k).eval #[Value.ref b] s none [] s with
  | some (.ref a) => a
  | _ => 0
theorem st_sa_e {b : Nat} {s : State} {k a : Nat} (h : (Term.string RX3 k).eval #[Value.ref b] s none [] s = some (.ref a)) : st_sa b s k = a := by
  unfold st_sa
  rw [h]
/-- what holds at the law's start, whatever addresses are named -/
theorem st_host {s : State} {b : Nat} (l : Launch) (hflags : l.flags = flags0) (hts : ∀ w ∈ lw_tbl, w.before #[Value.ref b] s = true) (hgv : (Jvm.Cond.and given_1 narrow_1).before #[Value.ref b] s = true) : ∃ (ci : Nat → ClassId) (D : va_G) (sa : Nat → Nat), ∀ ad : Nat → Nat, gw_ok (s.heap.size, ad, ci, D, sa) → gw_H (s.heap.size, ad, ci, D, sa) l s := by
  have hs := flat_of_before _ hgv
  obtain ⟨c0, i0, k0⟩ := u_known (C := RX0) (T := TX0) (N := 8) (n := 8) hts (fun w h => st_sub (inX0 w h)) (hts _ (st_sub is_X0))
  obtain ⟨c1, i1, k1⟩ := u_known (C := RX1) (T := TX1) (N := 2) (n := 2) hts (fun w h => st_sub (inX1 w h)) (hts _ (st_sub is_X1))
  obtain ⟨c2, i2, k2⟩ := u_known (C := RX2) (T := TX2) (N := 10) (n := 10) hts (fun w h => st_sub (inX2 w h)) (hts _ (st_sub is_X2))
  obtain ⟨c3, i3, k3⟩ := u_known (C := RX3) (T := TX3) (N := 6) (n := 6) hts (fun w h => st_sub (inX3 w h)) (hts _ (st_sub is_X3))
  obtain ⟨c4, i4, k4⟩ := u_known (C := RX4) (T := TX4) (N := 22) (n := 22) hts (fun w h => st_sub (inX4 w h)) (hts _ (st_sub is_X4))
  obtain ⟨y0, K0, p0, a1, a2, a3⟩ := Cond.arrayClass_spec (st_tab hts 93 (w := .arrayClass .int) (by decide +kernel))
  obtain ⟨p1, y1, K1, b1, -, b2, b3, b4⟩ := Cond.arrayOver_spec (st_tab hts 74 (w := .arrayOver (.object "CourseEnrolment$Course")) (by decide +kernel))
  obtain ⟨p2, y2, K2, d1, -, d2, d3, d4⟩ := Cond.arrayOver_spec (st_tab hts 123 (w := .arrayOver (.object "CourseEnrolment$Student")) (by decide +kernel))
  obtain ⟨y3, K3, p3, f1, f2, f3⟩ := Cond.arrayClass_spec (st_tab hts 1059 (w := .arrayClass .long) (by decide +kernel))
  have hstr : ∀ q ∈ gw_ST, (Cond.stringRef RX3 q.1 q.2).before #[Value.ref b] s = true ∧ ∃ a, (Term.string RX3 q.1).eval #[Value.ref b] s none [] s = some (.ref a) := by
    intro q hq
    have hm : ∃ i, i < 24 ∧ gw_ST[i]? = some q := by
      obtain ⟨i, hi⟩ := List.getElem?_of_mem hq
      exact ⟨i, (List.getElem?_eq_some_iff.mp hi).1, hi⟩
    obtain ⟨i, hi, hiq⟩ := hm
    have hc : i = 0 ∨ i = 1 ∨ i = 2 ∨ i = 3 ∨ i = 4 ∨ i = 5 ∨ i = 6 ∨ i = 7 ∨ i = 8 ∨ i = 9 ∨ i = 10 ∨ i = 11 ∨ i = 12 ∨ i = 13 ∨ i = 14 ∨ i = 15 ∨ i = 16 ∨ i = 17 ∨ i = 18 ∨ i = 19 ∨ i = 20 ∨ i = 21 ∨ i = 22 ∨ i = 23 := by omega
    rcases hc with rfl | rfl | rfl | rfl | rfl | rfl | rfl | rfl | rfl | rfl | rfl | rfl | rfl | rfl | rfl | rfl | rfl | rfl | rfl | rfl | rfl | rfl | rfl | rfl
    · cases hiq
      refine ⟨st_tab hts 409 (by decide +kernel), ?_⟩
      obtain ⟨a, c, cell, k, g1, -⟩ := Cond.exactly_spec (hs (.exactly (.string RX3 46) "java/lang/String") (by decide +kernel))
      exact ⟨a, g1⟩
    · cases hiq
      refine ⟨st_tab hts 425 (by decide +kernel), ?_⟩
      obtain ⟨a, c, cell, k, g1, -⟩ := Cond.exactly_spec (hs (.exactly (.string RX3 53) "java/lang/String") (by decide +kernel))
      exact ⟨a, g1⟩
    · cases hiq
      refine ⟨st_tab hts 440 (by decide +kernel), ?_⟩
      obtain ⟨a, c, cell, k, g1, -⟩ := Cond.exactly_spec (hs (.exactly (.string RX3 72) "java/lang/String") (by decide +kernel))
      exact ⟨a, g1⟩
    · cases hiq
      refine ⟨st_tab hts 441 (by decide +kernel), ?_⟩
      obtain ⟨a, c, cell, k, g1, -⟩ := Cond.exactly_spec (hs (.exactly (.string RX3 78) "java/lang/String") (by decide +kernel))
      exact ⟨a, g1⟩
    · cases hiq
      refine ⟨st_tab hts 449 (by decide +kernel), ?_⟩
      obtain ⟨a, c, cell, k, g1, -⟩ := Cond.exactly_spec (hs (.exactly (.string RX3 93) "java/lang/String") (by decide +kernel))
      exact ⟨a, g1⟩
    · cases hiq
      refine ⟨st_tab hts 503 (by decide +kernel), ?_⟩
      obtain ⟨a, c, cell, k, g1, -⟩ := Cond.exactly_spec (hs (.exactly (.string RX3 117) "java/lang/String") (by decide +kernel))
      exact ⟨a, g1⟩
    · cases hiq
      refine ⟨st_tab hts 504 (by decide +kernel), ?_⟩
      obtain ⟨a, c, cell, k, g1, -⟩ := Cond.exactly_spec (hs (.exactly (.string RX3 119) "java/lang/String") (by decide +kernel))
      exact ⟨a, g1⟩
    · cases hiq
      refine ⟨st_tab hts 512 (by decide +kernel), ?_⟩
      obtain ⟨a, c, cell, k, g1, -⟩ := Cond.exactly_spec (hs (.exactly (.string RX3 138) "java/lang/String") (by decide +kernel))
      exact ⟨a, g1⟩
    · cases hiq
      refine ⟨st_tab hts 555 (by decide +kernel), ?_⟩
      obtain ⟨a, c, cell, k, g1, -⟩ := Cond.exactly_spec (hs (.exactly (.string RX3 159) "java/lang/String") (by decide +kernel))
      exact ⟨a, g1⟩
    · cases hiq
      refine ⟨st_tab hts 557 (by decide +kernel), ?_⟩
      obtain ⟨a, c, cell, k, g1, -⟩ := Cond.exactly_spec (hs (.exactly (.string RX3 168) "java/lang/String") (by decide +kernel))
      exact ⟨a, g1⟩
    · cases hiq
      refine ⟨st_tab hts 569 (by decide +kernel), ?_⟩
      obtain ⟨a, c, cell, k, g1, -⟩ := Cond.exactly_spec (hs (.exactly (.string RX3 173) "java/lang/String") (by decide +kernel))
      exact ⟨a, g1⟩
    · cases hiq
      refine ⟨st_tab hts 595 (by decide +kernel), ?_⟩
      obtain ⟨a, c, cell, k, g1, -⟩ := Cond.exactly_spec (hs (.exactly (.string RX3 182) "java/lang/String") (by decide +kernel))
      exact ⟨a, g1⟩
    · cases hiq
      refine ⟨st_tab hts 596 (by decide +kernel), ?_⟩
      obtain ⟨a, c, cell, k, g1, -⟩ := Cond.exactly_spec (hs (.exactly (.string RX3 184) "java/lang/String") (by decide +kernel))
      exact ⟨a, g1⟩
    · cases hiq
      refine ⟨st_tab hts 604 (by decide +kernel), ?_⟩
      obtain ⟨a, c, cell, k, g1, -⟩ := Cond.exactly_spec (hs (.exactly (.string RX3 190) "java/lang/String") (by decide +kernel))
      exact ⟨a, g1⟩
    · cases hiq
      refine ⟨st_tab hts 612 (by decide +kernel), ?_⟩
      obtain ⟨a, c, cell, k, g1, -⟩ := Cond.exactly_spec (hs (.exactly (.string RX3 195) "java/lang/String") (by decide +kernel))
      exact ⟨a, g1⟩
    · cases hiq
      refine ⟨st_tab hts 613 (by decide +kernel), ?_⟩
      obtain ⟨a, c, cell, k, g1, -⟩ := Cond.exactly_spec (hs (.exactly (.string RX3 197) "java/lang/String") (by decide +kernel))
      exact ⟨a, g1⟩
    · cases hiq
      refine ⟨st_tab hts 621 (by decide +kernel), ?_⟩
      obtain ⟨a, c, cell, k, g1, -⟩ := Cond.exactly_spec (hs (.exactly (.string RX3 203) "java/lang/String") (by decide +kernel))
      exact ⟨a, g1⟩
    · cases hiq
      refine ⟨st_tab hts 629 (by decide +kernel), ?_⟩
      obtain ⟨a, c, cell, k, g1, -⟩ := Cond.exactly_spec (hs (.exactly (.string RX3 205) "java/lang/String") (by decide +kernel))
      exact ⟨a, g1⟩
    · cases hiq
      refine ⟨st_tab hts 637 (by decide +kernel), ?_⟩
      obtain ⟨a, c, cell, k, g1, -⟩ := Cond.exactly_spec (hs (.exactly (.string RX3 207) "java/lang/String") (by decide +kernel))
      exact ⟨a, g1⟩
    · cases hiq
      refine ⟨st_tab hts 674 (by decide +kernel), ?_⟩
      obtain ⟨a, c, cell, k, g1, -⟩ := Cond.exactly_spec (hs (.exactly (.string RX3 216) "java/lang/String") (by decide +kernel))
      exact ⟨a, g1⟩
    · cases hiq
      refine ⟨st_tab hts 730 (by decide +kernel), ?_⟩
      obtain ⟨a, c, cell, k, g1, -⟩ := Cond.exactly_spec (hs (.exactly (.string RX3 234) "java/lang/String") (by decide +kernel))
      exact ⟨a, g1⟩
    · cases hiq
      refine ⟨st_tab hts 274 (by decide +kernel), ?_⟩
      obtain ⟨a, c, cell, k, g1, -⟩ := Cond.exactly_spec (hs (.exactly (.string RX3 254) "java/lang/String") (by decide +kernel))
      exact ⟨a, g1⟩
    · cases hiq
      refine ⟨st_tab hts 333 (by decide +kernel), ?_⟩
      obtain ⟨a, c, cell, k, g1, -⟩ := Cond.exactly_spec (hs (.exactly (.string RX3 257) "java/lang/String") (by decide +kernel))
      exact ⟨a, g1⟩
    · cases hiq
      refine ⟨st_tab hts 587 (by decide +kernel), ?_⟩
      obtain ⟨a, c, cell, k, g1, -⟩ := Cond.exactly_spec (hs (.exactly (.string RX3 262) "java/lang/String") (by decide +kernel))
      exact ⟨a, g1⟩
  refine ⟨fun k => if k = 0 then y0 else if k = 1 then y1 else if k = 2 then y2 else y3, (fun k => if k = 0 then c0 else if k = 1 then c1 else if k = 2 then c2 else if k = 3 then c3 else c4, fun k => if k = 0 then i0 else if k = 1 then i1 else if k = 2 then i2 else if k = 3 then i3 else i4), st_sa b s, fun ad hok => ⟨fun w hw => va_Nw.of (gw_tab hw) (hts w (st_sub hw)), ⟨?_, ?_⟩, Nat.le_refl _, hok, ?_, ?_, ?_, fun q hq => ?_, fun x hx z hz hne => ?_⟩⟩
  · intro k q hq
    match k, hq with
    | 0, hq => cases hq; exact k0
    | 1, hq => cases hq; exact k1
    | 2, hq => cases hq; exact k2
    | 3, hq => cases hq; exact k3
    | 4, hq => cases hq; exact k4
    | k + 5, hq => simp [vwCl] at hq
  · intro k q hq
    match k, hq with
    | 0, hq => cases hq; exact ⟨fun n z => ⟨fun k h => (by cases h), K0, a2, p0, a3⟩, a1⟩
    | 1, hq => cases hq; exact ⟨fun n z => ⟨fun k h => (by cases h), K1, b2, p1, b3⟩, K1, p1, b2, b3, b1, b4⟩
    | 2, hq => cases hq; exact ⟨fun n z => ⟨fun k h => (by cases h), K2, d2, p2, d3⟩, K2, p2, d2, d3, d1, d4⟩
    | 3, hq => cases hq; exact ⟨fun n z => ⟨fun k h => (by cases h), K3, f2, p3, f3⟩, f1⟩
    | k + 4, hq => simp at hq
  · unfold Launch.stackTraces
    rw [hflags]
    decide +kernel
  · exact vx_Zqof (st_tab hts 260 (w := .laysStatic Bundle.tN "UNASSIGNED_STACK" Bundle.steD) (by decide +kernel)) (st_tab hts 58 (w := .initialized Bundle.tN) (by decide +kernel)) (hs _ (by decide +kernel)) (fun a h => Nat.not_le.mpr h)
  · exact vx_Zqof (st_tab hts 262 (w := .laysStatic Bundle.tN "SUPPRESSED_SENTINEL" Bundle.listD) (by decide +kernel)) (st_tab hts 58 (w := .initialized Bundle.tN) (by decide +kernel)) (hs _ (by decide +kernel)) (fun a h => Nat.not_le.mpr h)
  · obtain ⟨h1, a, h2⟩ := hstr q hq
    refine vk_R.of h1 ?_
    show _ = some (Value.ref (st_sa b s q.1))
    rw [st_sa_e h2]
    exact h2
  · have hc : ∀ x ∈ gw_X, ∀ z ∈ gw_X, x ≠ z → (Cond.not (.castable x z)).before #[Value.ref b] s = true := by
      intro x hx z hz hne
      have e1 : x = "java/lang/IllegalArgumentException" ∨ x = "java/lang/IllegalStateException" ∨ x = "java/lang/IndexOutOfBoundsException" := by simpa [gw_X] using hx
      have e2 : z = "java/lang/IllegalArgumentException" ∨ z = "java/lang/IllegalStateException" ∨ z = "java/lang/IndexOutOfBoundsException" := by simpa [gw_X] using hz
      rcases e1 with rfl | rfl | rfl <;> rcases e2 with rfl | rfl | rfl <;> first | exact absurd rfl hne | exact hs _ (by decide +kernel)
    exact va_Nc.of (hc x hx z hz hne)
set_option maxRecDepth 100000 in
set_option maxHeartbeats 8000000 in
/-- the world as it was made is the world of τ0, μ0 -/
theorem st_world {D : va_G} {ci : Nat → ClassId} {N : Nat} {sa : Nat → Nat} {A : Nat → Nat} {e : Nat → va_E} {H : Heap} (Γ : gw_G) (hΓ : Γ = (N, fun k => A (st_g k), ci, D, sa)) (hp : ∃ A1 e1, cn_post Γ (A 0) A1 e1 ∧ (∀ z, z < 132 → A z = A1 z) ∧ ∀ z, z < 132 → e z = e1 z)
    (h132 : e 132 = .inr (4, gw_fD Γ (fun _ => 0))) (harr : ∀ i, i < 18 → e (133 + i) = .inl (gw_y Γ 0, gw_ml (i + 1), .inl (fun _ => 0))) (h151 : e 151 = .inl (gw_y Γ 3, 1, .inr (.inl (fun _ => 0)))) (hP : va_P D vwCl (cn_w 152 A e) H) : va_P D vwCl (gw_W Γ τ0 μ0 (fun _ => 0)) H := by
  obtain ⟨A1, e1, ⟨q0, q1, ⟨f1, q2, q3⟩, ⟨f2, q4, q5⟩, q6, q7, q8⟩, kA, kE⟩ := hp
  have hA : ∀ k, gw_a Γ k = A (st_g k) := fun k => by rw [hΓ]
  have hAl : ∀ k i, k < 152 → st_g k = i → i < 132 → gw_a Γ k = A1 i := fun k i _ h2 h3 => by rw [hA, h2, kA i h3]
  have key : ∀ (k i : Nat) (x : va_E), k < 152 → st_g k = i → i < 132 → e1 i = x → va_at D vwCl (gw_a Γ k, x) H := by
    intro k i x h1 h2 h3 h4
    have h5 := hP i (A i, e i) (cn_at (by omega))
    rw [kE i h3, h4] at h5
    rw [hA, h2]
    exact h5
  intro k q hq0
  have hk : k < 152 := (gw_of hq0).1
  have hq1 := (gw_of hq0).2
  clear hq0
  subst hq1
  by_cases c0 : k < 132
  · rw [gw_e, if_pos c0]
    by_cases c1 : k < 4
    · have hc : k = 0 ∨ k = 1 ∨ k = 2 ∨ k = 3 := by omega
      rcases hc with rfl | rfl | rfl | rfl
      · refine key 0 0 _ hk rfl (by omega) ?_
        rw [q1]
        show _ = Sum.inr (3, [Value.ref (gw_a Γ 1), Value.ref (gw_a Γ 2), Value.int 0, Value.int 0, Value.int 0, Value.ref (gw_a Γ 3)])
        rw [hAl 1 1 (by omega) rfl (by omega), hAl 2 82 (by omega) rfl (by omega), hAl 3 131 (by omega) rfl (by omega)]
      · have h5 := key 1 1 _ hk rfl (by omega) q2
        have h6 : H[gw_a Γ 1]? = some (arrV (gw_y Γ 1) 20 (fun j => va_rf (f1 j))) := h5
        have h7 : arrV (gw_y Γ 1) 20 (fun j => va_rf (f1 j)) = arrV (gw_y Γ 1) 20 (fun j => va_rf (some (gw_a Γ (4 + j)))) := arrV_congr (fun i hi => by
          show va_rf (f1 i) = va_rf (some (gw_a Γ (4 + i)))
          rw [q3 i hi, hAl (4 + i) (2 + 4 * i) (by omega) (by unfold st_g; rw [if_neg (by omega), if_pos (by omega), Nat.add_sub_cancel_left]) (by omega)])
        rw [h7] at h6
        exact h6
      · have h5 := key 2 82 _ hk rfl (by omega) q4
        have h6 : H[gw_a Γ 2]? = some (arrV (gw_y Γ 2) 16 (fun j => va_rf (f2 j))) := h5
        have h7 : arrV (gw_y Γ 2) 16 (fun j => va_rf (f2 j)) = arrV (gw_y Γ 2) 16 (fun j => va_rf (some (gw_a Γ (24 + j)))) := arrV_congr (fun i hi => by
          show va_rf (f2 i) = va_rf (some (gw_a Γ (24 + i)))
          rw [q5 i hi, hAl (24 + i) (83 + 3 * i) (by omega) (by unfold st_g; rw [if_neg (by omega), if_neg (by omega), if_pos (by omega), Nat.add_sub_cancel_left]) (by omega)])
        rw [h7] at h6
        exact h6
      · refine key 3 131 _ hk rfl (by omega) ?_
        rw [q8]
        rfl
    · by_cases c2 : k < 24
      · obtain ⟨c, rfl⟩ : ∃ c, k = 4 + c := ⟨k - 4, by omega⟩
        have hg : st_g (4 + c) = 2 + 4 * c := by unfold st_g; rw [if_neg (by omega), if_pos (by omega), Nat.add_sub_cancel_left]
        refine key _ _ _ hk hg (by omega) ?_
        rw [(q6 c (by omega)).1, gw_ecC ⟨by omega, by omega⟩, gw_fC]
        rw [hAl (4 + c + 36) (3 + 4 * c) (by omega) (by unfold st_g; rw [if_neg (by omega), if_neg (by omega), if_neg (by omega), if_pos (by omega), show 4 + c + 36 - 40 = c by omega]) (by omega), hAl (4 + c + 108) (5 + 4 * c) (by omega) (by unfold st_g; rw [if_neg (by omega), if_neg (by omega), if_neg (by omega), if_neg (by omega), if_neg (by omega), if_neg (by omega), if_neg (by omega), if_pos (by omega), show 4 + c + 108 - 112 = c by omega]) (by omega)]
        have hz : ∀ i, i ≠ 0 → τ0 (4 + c) i = 0 := fun i hi => by unfold τ0; rw [if_pos (by omega), if_neg hi]
        rw [hz 3 (by omega), hz 4 (by omega), hz 5 (by omega), hz 6 (by omega), hz 7 (by omega), show τ0 (4 + c) 0 = nI c from by unfold τ0; rw [if_pos (by omega), if_pos rfl, Nat.add_sub_cancel_left]]
      · by_cases c3 : k < 40
        · obtain ⟨c, rfl⟩ : ∃ c, k = 24 + c := ⟨k - 24, by omega⟩
          have hg : st_g (24 + c) = 83 + 3 * c := by unfold st_g; rw [if_neg (by omega), if_neg (by omega), if_pos (by omega), Nat.add_sub_cancel_left]
          refine key _ _ _ hk hg (by omega) ?_
          rw [(q7 c (by omega)).1, gw_ecS ⟨by omega, by omega⟩, gw_fS]
          rw [hAl (24 + c + 36) (84 + 3 * c) (by omega) (by unfold st_g; rw [if_neg (by omega), if_neg (by omega), if_neg (by omega), if_neg (by omega), if_pos (by omega), show 24 + c + 36 - 60 = c by omega]) (by omega)]
          have hz : ∀ i, i ≠ 0 → i < 6 → τ0 (24 + c) i = 0 := fun i hi h6 => by unfold τ0; rw [if_neg (by omega), if_pos (by omega), if_neg hi, if_neg (by omega)]
          have hm : ∀ i, 6 ≤ i → i < 10 → τ0 (24 + c) i = -1 := fun i h6 h10 => by unfold τ0; rw [if_neg (by omega), if_pos (by omega), if_neg (by omega), if_pos (by omega)]
          rw [hz 2 (by omega) (by omega), hz 3 (by omega) (by omega), hz 4 (by omega) (by omega), hz 5 (by omega) (by omega), hm 6 (by omega) (by omega), hm 7 (by omega) (by omega), hm 8 (by omega) (by omega), hm 9 (by omega) (by omega), show τ0 (24 + c) 0 = nI c from by unfold τ0; rw [if_neg (by omega), if_pos (by omega), if_pos rfl, Nat.add_sub_cancel_left]]
        · by_cases c4 : k < 60
          · obtain ⟨c, rfl⟩ : ∃ c, k = 40 + c := ⟨k - 40, by omega⟩
            have hg : st_g (40 + c) = 3 + 4 * c := by unfold st_g; rw [if_neg (by omega), if_neg (by omega), if_neg (by omega), if_pos (by omega), Nat.add_sub_cancel_left]
            refine key _ _ _ hk hg (by omega) ?_
            rw [(q6 c (by omega)).2.1, gw_ecR ⟨by omega, by omega⟩, gw_fR, hAl (40 + c + 36) (4 + 4 * c) (by omega) (by unfold st_g; rw [if_neg (by omega), if_neg (by omega), if_neg (by omega), if_neg (by omega), if_neg (by omega), if_pos (by omega), show 40 + c + 36 - 76 = c by omega]) (by omega)]
            rw [show τ0 (40 + c) 1 = 0 from by unfold τ0; rw [if_neg (by omega), if_neg (by omega), if_neg (by omega)]]
          · by_cases c5 : k < 76
            · obtain ⟨c, rfl⟩ : ∃ c, k = 60 + c := ⟨k - 60, by omega⟩
              have hg : st_g (60 + c) = 84 + 3 * c := by unfold st_g; rw [if_neg (by omega), if_neg (by omega), if_neg (by omega), if_neg (by omega), if_pos (by omega), Nat.add_sub_cancel_left]
              refine key _ _ _ hk hg (by omega) ?_
              rw [(q7 c (by omega)).2.1, gw_ecR ⟨by omega, by omega⟩, gw_fR, hAl (60 + c + 36) (85 + 3 * c) (by omega) (by unfold st_g; rw [if_neg (by omega), if_neg (by omega), if_neg (by omega), if_neg (by omega), if_neg (by omega), if_neg (by omega), if_pos (by omega), show 60 + c + 36 - 96 = c by omega]) (by omega)]
              rw [show τ0 (60 + c) 1 = 0 from by unfold τ0; rw [if_neg (by omega), if_neg (by omega), if_neg (by omega)]]
            · rw [gw_ecA (Or.inr ⟨by omega, by omega⟩)]
              by_cases c6 : k < 96
              · obtain ⟨c, rfl⟩ : ∃ c, k = 76 + c := ⟨k - 76, by omega⟩
                have hg : st_g (76 + c) = 4 + 4 * c := by unfold st_g; rw [if_neg (by omega), if_neg (by omega), if_neg (by omega), if_neg (by omega), if_neg (by omega), if_pos (by omega), Nat.add_sub_cancel_left]
                refine key _ _ _ hk hg (by omega) ?_
                rw [(q6 c (by omega)).2.2.1, show gw_len (76 + c) = 16 from by unfold gw_len; rw [if_neg (by omega)], show τ0 (76 + c) = fun _ => 0 from by funext i; unfold τ0; rw [if_neg (by omega), if_neg (by omega), if_neg (by omega)]]
              · by_cases c7 : k < 112
                · obtain ⟨c, rfl⟩ : ∃ c, k = 96 + c := ⟨k - 96, by omega⟩
                  have hg : st_g (96 + c) = 85 + 3 * c := by unfold st_g; rw [if_neg (by omega), if_neg (by omega), if_neg (by omega), if_neg (by omega), if_neg (by omega), if_neg (by omega), if_pos (by omega), Nat.add_sub_cancel_left]
                  refine key _ _ _ hk hg (by omega) ?_
                  rw [(q7 c (by omega)).2.2, show gw_len (96 + c) = 6 from by unfold gw_len; rw [if_pos (by omega)], show τ0 (96 + c) = fun _ => 0 from by funext i; unfold τ0; rw [if_neg (by omega), if_neg (by omega), if_neg (by omega)]]
                · obtain ⟨c, rfl⟩ : ∃ c, k = 112 + c := ⟨k - 112, by omega⟩
                  have hg : st_g (112 + c) = 5 + 4 * c := by unfold st_g; rw [if_neg (by omega), if_neg (by omega), if_neg (by omega), if_neg (by omega), if_neg (by omega), if_neg (by omega), if_neg (by omega), if_pos (by omega), Nat.add_sub_cancel_left]
                  refine key _ _ _ hk hg (by omega) ?_
                  rw [(q6 c (by omega)).2.2.2, show gw_len (112 + c) = 16 from by unfold gw_len; rw [if_neg (by omega)], show τ0 (112 + c) = cn_fill 16 from by funext i; unfold τ0; rw [if_neg (by omega), if_neg (by omega), if_pos (by omega)]]
  · have hg : st_g k = k := by unfold st_g; rw [if_neg (by omega), if_neg (by omega), if_neg (by omega), if_neg (by omega), if_neg (by omega), if_neg (by omega), if_neg (by omega), if_neg (by omega)]
    have h5 := hP k (A k, e k) (cn_at hk)
    rw [gw_e, if_neg c0, hA, hg]
    by_cases c1 : k < 151
    · rw [if_pos c1]
      by_cases c2 : k = 132
      · subst c2
        rw [h132] at h5
        exact h5
      · obtain ⟨i, rfl⟩ : ∃ i, k = 133 + i := ⟨k - 133, by omega⟩
        rw [harr i (by omega)] at h5
        rw [gw_emA (by omega), show 133 + i - 132 = i + 1 by omega]
        exact h5
    · have c2 : k = 151 := by omega
      subst c2
      rw [if_neg c1]
      rw [h151] at h5
      exact h5
set_option maxRecDepth 100000 in
set_option maxHeartbeats 8000000 in
/-- THE LAW, from its entry -/
theorem whole_start {p : Program} {e : Env} {s : State} {m : MethodId} {below : List Frame} {meth : Method} {c : Code} (l : Launch) (hflags : l.flags = flags0) {b L : Nat} {xs : Nat → Int32} (hL : L ≤ 2048) (C0 : lw_At p s m meth c b L xs) : W p l e room_1 s m #[Value.ref b] below meth c s.heap [] 0 0 (lw_Z below #[Value.ref b] s) (entryFrame m ([Value.ref b] : List Value).toArray 7) := by
  obtain ⟨hx, hb, hr, hml, hown, hts, hX, hbl, hlocks, hgv⟩ := id C0
  obtain ⟨ci, D, sa, hH⟩ := st_host l hflags hts hgv
  have hok0 : gw_ok (s.heap.size, fun k => s.heap.size + k, ci, D, sa) := ⟨fun i j hi hj h => by
    have h : s.heap.size + i = s.heap.size + j := h
    omega, fun k hk => by show s.heap.size ≤ s.heap.size + k; omega⟩
  obtain ⟨K, hK⟩ : ∃ K : gw_K, K = (p, l, e, s, m, #[Value.ref b], below, meth, c, lw_Z below #[Value.ref b] s) := ⟨_, rfl⟩
  obtain ⟨Γ0, hΓ0⟩ : ∃ Γ0 : gw_G, Γ0 = (s.heap.size, fun k => s.heap.size + k, ci, D, sa) := ⟨_, rfl⟩
  have C : gw_C K Γ0 cL_law 7 RL := by
    rw [hK, hΓ0]
    exact ⟨hx, hb, hml, hown, hH _ hok0, hlocks⟩
  have hcX : cn_X (gw_s K) := by
    rw [hK]
    exact ⟨cn_arr (State.WarmedH.refl _) (st_tab hts 93 (w := .arrayClass .int) (by decide +kernel)), va_AO.of (st_tab hts 74 (w := .arrayOver (.object "CourseEnrolment$Course")) (by decide +kernel)), va_AO.of (st_tab hts 123 (w := .arrayOver (.object "CourseEnrolment$Student")) (by decide +kernel))⟩
  have hlong : (Cond.arrayClass .long).before (gw_as K) (gw_s K) = true := by
    rw [hK]
    exact st_tab hts 1059 (w := .arrayClass .long) (by decide +kernel)
  have hJ : gw_J K Γ0 room_1 0 0 (cn_w 0 (fun _ => 0) (fun _ => .inr (0, []))) 0 [(0, .ref b)] [] := by
    have hD0 : va_D (gw_A Γ0) (cn_w 0 (fun _ => 0) (fun _ => .inr (0, []))) := ⟨fun i j p q h => by simp [cn_w] at h, fun k q h => by simp [cn_w] at h⟩
    refine cn_new (ci := 3) C hD0 [.null, .null, .int 0, .int 0, .int 0, .null] inX3 tyX3 tyX3_ok rfl (fun j hj => by rcases (show j = 0 ∨ j = 1 ∨ j = 2 ∨ j = 3 ∨ j = 4 ∨ j = 5 by omega) with rfl | rfl | rfl | rfl | rfl | rfl <;> rfl) cl_L_8 is_X3 ii_X3 (Nat.le_of_ble_eq_true rfl) (Nat.le_of_ble_eq_true rfl) dL_law_0 (fun q0 hD => ?_)
    refine gj_dup C dL_law_3 rfl ?_
    have hM := cn_Main (gw_l K) Γ0 _ _ (va_up_self _ _ _) hD
    rw [va_up_self] at hM
    refine cn_cI (As := []) (rest := [.ref q0]) C hcX cb_L_118i rfl im_X3_init hM rfl (Nat.le_of_ble_eq_true rfl) dL_law_4 (gw_rmk rfl) rfl (fun A1 e1 hp hD => ?_)
    refine gj_astore_n C 1 [(1, .ref q0), (0, .ref b)] dL_law_7 rfl (by decide) rfl ?_
    refine cn_new (ci := 4) C hD [.int 0, .null, .null, .null, .null, .int 0, .null, .null, .null, .null, .null, .null, .null, .null, .null, .null, .null, .int 0, .int 0, .null, .null, .null] inX4 tyX4 tyX4_ok rfl (fun j hj => by rcases (show j = 0 ∨ j = 1 ∨ j = 2 ∨ j = 3 ∨ j = 4 ∨ j = 5 ∨ j = 6 ∨ j = 7 ∨ j = 8 ∨ j = 9 ∨ j = 10 ∨ j = 11 ∨ j = 12 ∨ j = 13 ∨ j = 14 ∨ j = 15 ∨ j = 16 ∨ j = 17 ∨ j = 18 ∨ j = 19 ∨ j = 20 ∨ j = 21 by omega) with rfl | rfl | rfl | rfl | rfl | rfl | rfl | rfl | rfl | rfl | rfl | rfl | rfl | rfl | rfl | rfl | rfl | rfl | rfl | rfl | rfl | rfl <;> rfl) cl_L_119 is_X4 ii_X4 (Nat.le_of_ble_eq_true rfl) (Nat.le_of_ble_eq_true rfl) dL_law_8 (fun q1 hD => ?_)
    refine gj_dup C dL_law_11 rfl ?_
    have hM := cn_Model (gw_l K) Γ0 133 _ _ 132 (by omega) (va_up_self _ _ _) hD
    rw [va_up_self] at hM
    refine cn_cI (As := []) (rest := [.ref q1]) C hcX cb_L_121i rfl im_X4_init hM rfl (Nat.le_of_ble_eq_true rfl) dL_law_12 (gw_rmk rfl) rfl (fun A2 e2 hp2 hD => ?_)
    obtain ⟨g1, g2, g3, g4⟩ := hp2
    refine gj_astore_n C 2 [(2, .ref q1), (1, .ref q0), (0, .ref b)] dL_law_15 rfl (by decide) rfl ?_
    refine gj_iconst (v := 1) C dL_law_16 (by decide) ?_
    refine cn_newl C hlong hD 1 (by decide) rfl (Nat.le_of_ble_eq_true rfl) (Nat.le_of_ble_eq_true rfl) (Nat.le_of_ble_eq_true rfl) dL_law_17 (fun q2 hD => ?_)
    refine gj_astore_n C 3 [(3, .ref q2), (2, .ref q1), (1, .ref q0), (0, .ref b)] dL_law_19 rfl (by decide) rfl ?_
    refine gj_iconst (v := 0) C dL_law_20 (by decide) ?_
    refine gj_istore C 4 [(4, .int 0), (3, .ref q2), (2, .ref q1), (1, .ref q0), (0, .ref b)] dL_law_21 (by decide) rfl ?_
    obtain ⟨A3, hA3⟩ : ∃ z, z = va_up A2 (133 + 18) q2 := ⟨_, rfl⟩
    obtain ⟨e3, he3⟩ : ∃ z, z = va_up e2 (133 + 18) (.inl (gw_y Γ0 3, 1, .inr (.inl (fun _ => 0)))) := ⟨_, rfl⟩
    rw [← hA3, ← he3] at hD ⊢
    have a1 : ∀ z, z < 132 → A3 z = A1 z := fun z hz => by rw [hA3, va_up_ne _ _ (by omega), g1 z (by omega)]; exact va_up_ne _ _ (by omega)
    have a132 : A3 132 = q1 := by rw [hA3, va_up_ne _ _ (by omega), g1 132 (by omega)]; exact va_up_self _ _ _
    have a151 : A3 151 = q2 := by rw [hA3]; exact va_up_self _ _ _
    have ar : ∀ i, i < 18 → A3 (133 + i) = A2 (133 + i) := fun i hi => by rw [hA3]; exact va_up_ne _ _ (by omega)
    have b1 : ∀ z, z < 132 → e3 z = e1 z := fun z hz => by rw [he3, va_up_ne _ _ (by omega), g2 z (by omega) (by omega)]; exact va_up_ne _ _ (by omega)
    have b132 : e3 132 = e2 132 := by rw [he3]; exact va_up_ne _ _ (by omega)
    have br : ∀ i, i < 18 → e3 (133 + i) = .inl (gw_y Γ0 0, gw_ml (i + 1), .inl (fun _ => 0)) := fun i hi => by rw [he3, va_up_ne _ _ (by omega)]; exact g4 i hi
    have b151 : e3 151 = .inl (gw_y Γ0 3, 1, .inr (.inl (fun _ => 0))) := by rw [he3]; exact va_up_self _ _ _
    have a0 : A3 0 = q0 := (a1 0 (by omega)).trans hp.1
    obtain ⟨Γ, hΓ⟩ : ∃ Γ : gw_G, Γ = (s.heap.size, fun k => A3 (st_g k), ci, D, sa) := ⟨_, rfl⟩
    have hok : gw_ok (s.heap.size, fun k => A3 (st_g k), ci, D, sa) := by
      refine ⟨fun i j hi hj h => st_inj hi hj (cn_inj hD _ _ (st_lt i hi) (st_lt j hj) h), fun k hk => ?_⟩
      have := cn_ge hD _ (st_lt k hk)
      rw [hΓ0] at this
      exact this
    have CΓ : gw_C K Γ cL_law 7 RL := by
      rw [hK, hΓ]
      exact ⟨hx, hb, hml, hown, hH _ hok, hlocks⟩
    have hloop : gw_J K Γ room_1 600 20000 (gw_W Γ τ0 μ0 (fun _ => 0)) 23 [(0, .ref b), (1, .ref (gw_a Γ 0)), (2, .ref (gw_a Γ 132)), (3, .ref (gw_a Γ 151)), (4, .int (nI (4 * 0)))] [] := by
      rw [hK] at CΓ ⊢
      exact law_loop CΓ hr (by rw [hΓ]) hX hbl hL 513 0 τ0 μ0 (fun _ => 0) rfl Inv_0
    have e0 : gw_a Γ 0 = q0 := by rw [hΓ]; exact a0
    have e132 : gw_a Γ 132 = q1 := by rw [hΓ]; exact a132
    have e151 : gw_a Γ 151 = q2 := by rw [hΓ]; exact a151
    rw [e0, e132, e151] at hloop
    refine gj_pick [4, 3, 2, 1, 0] _ rfl (gj_widen (c2 := 600) (s2 := 20000) (by decide) (by decide) ?_)
    intro H locs ls hP hS hl
    refine hloop H locs ls ?_ (by rw [hΓ]; rw [hΓ0] at hS; exact hS) hl
    have hyy : ∀ k, gw_y Γ0 k = gw_y Γ k := fun k => by rw [hΓ0, hΓ]
    have hfin := st_world (H := H) (A := A3) (e := e3) Γ hΓ ⟨A1, e1, ?_, a1, b1⟩ ?_ (fun i hi => by rw [br i hi, hyy]) (by rw [b151, hyy]) ?_
    · rw [hΓ] at hfin ⊢
      exact hfin
    · rw [a0]
      have hh : cn_post Γ0 q0 A1 e1 := hp
      rw [hΓ0] at hh
      rw [hΓ]
      exact hh
    · rw [b132, g3, ← ar 0 (by omega), ← ar 1 (by omega), ← ar 2 (by omega), ← ar 3 (by omega), ← ar 4 (by omega), ← ar 5 (by omega), ← ar 6 (by omega), ← ar 7 (by omega), ← ar 8 (by omega), ← ar 9 (by omega), ← ar 10 (by omega), ← ar 11 (by omega), ← ar 12 (by omega), ← ar 13 (by omega), ← ar 14 (by omega), ← ar 15 (by omega), ← ar 16 (by omega), ← ar 17 (by omega)]
      rw [hΓ]
      rfl
    · rw [hΓ0] at hP
      exact hP
  rw [lg_entry_eq]
  have hfin := hJ s.heap [] _ (fun k q h => by simp [cn_w] at h) (by rw [hK]; exact va_S.rf) (by rw [hK]; show lv_has _ c.maxLocals _; rw [hml]; exact lv_entry [Value.ref b] (n := 7) (Nat.le_of_ble_eq_true rfl))
  rw [hK] at hfin
  exact hfin
