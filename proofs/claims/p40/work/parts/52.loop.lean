/-! THE LAW: its loop -/
theorem gj_lend {p : Program} {l : Launch} {e : Env} {s : State} {m : MethodId} {below : List Frame} {meth : Method} {c : Code} {b : Nat} {Γ : gw_G} {cells slots pc : Nat} {ws : va_W} {lv : List (Nat × Value)} (C : gw_C (p, l, e, s, m, #[Value.ref b], below, meth, c, lw_Z below #[Value.ref b] s) Γ cL_law 14 RL) (hr : meth.sig.returnType = ret) (hN : gw_N Γ = s.heap.size) (hd : decode cL_law pc = .ok (.ireturn, 1)) (hc : cells ≤ 688196) (hs : slots ≤ 7036880) : gw_J (p, l, e, s, m, #[Value.ref b], below, meth, c, lw_Z below #[Value.ref b] s) Γ room_1 cells slots ws pc lv [.int 1] := fun H locs ls hP hS hl => by
  refine va_forget (fun q hq => ?_) (W.widen hc hs (lw_ret C.1 C.2.1 hr C.locks hd))
  have := hS.2.2 q hq
  unfold gw_A at this
  rw [hN] at this
  exact this
set_option maxRecDepth 100000 in
set_option maxHeartbeats 8000000 in
theorem law_loop {p : Program} {l : Launch} {e : Env} {s : State} {m : MethodId} {below : List Frame} {meth : Method} {c : Code} {b L : Nat} {xs : Nat → Int32} {Γ : gw_G} (C : gw_C (p, l, e, s, m, #[Value.ref b], below, meth, c, lw_Z below #[Value.ref b] s) Γ cL_law 14 RL) (hr : meth.sig.returnType = ret) (hN : gw_N Γ = s.heap.size) (hX : va_X b L xs s s.heap) (hbl : b < s.heap.size) (hL : L ≤ 260) (hz : gw_z Γ = 0) :
    ∀ (n j : Nat) (q : gw_S × gw_S × (Nat → Int64) × Int32 × Int32), j + n = 100 → Ls j q → gw_J (p, l, e, s, m, #[Value.ref b], below, meth, c, lw_Z below #[Value.ref b] s) Γ room_1 (600 + 32 * j) (20000 + 400 * j) (gw_W Γ q.1 q.2.1 q.2.2.1) 44 [(0, .ref b), (1, .ref (gw_a Γ 0)), (2, .ref (gw_a Γ 132)), (3, .ref (gw_a Γ 133)), (4, .ref (gw_a Γ 135)), (5, .ref (gw_a Γ 134)), (6, .int q.2.2.2.1), (7, .int q.2.2.2.2)] [] := by
  have hbA : ¬ gw_A Γ b := by
    unfold gw_A
    rw [hN]
    omega
  intro n
  induction n with
  | zero =>
    intro j q hj h
    have e5 : j = 100 := by omega
    subst e5
    have hf := law_end (len := L) (xs := xs) h
    obtain ⟨τ, μ, o, v6, v7⟩ := q
    have h6 : v6 = 1 := h.1
    subst h6
    refine law_body C hX hbl hbA hz τ μ o 1 v7 _ hf (by omega) (by omega) (fun s c2 s2 _ _ he => (by cases he)) (fun s he => ?_)
    cases he
    refine gj_iload C 6 dL_law_556 rfl ?_
    exact gj_lend C hr hN dL_law_558 (by omega) (by omega)
  | succ n ih =>
    intro j q hj h
    obtain ⟨q', hf, h'⟩ := law_turn (len := L) (xs := xs) (by omega) (show j < 100 by omega) h
    obtain ⟨τ, μ, o, v6, v7⟩ := q
    refine law_body C hX hbl hbA hz τ μ o v6 v7 _ hf (by omega) (by omega) (fun s c2 s2 hc hs he => ?_) (fun s he => (by cases he))
    cases he
    have hi := ih (j + 1) q' (by omega) h'
    exact gj_widen (by omega) (by omega) hi
