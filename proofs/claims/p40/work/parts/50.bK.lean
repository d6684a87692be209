/-! THE EXCHANGE: the class's rounds, each with its rank -/
/-- what is settled: rank r, those below N -/
def Rk (sm : Nat) (μ : gw_S) (x0 x : Int32) (σ : gw_S) (r : Nat → Nat) (N : Nat) : Prop :=
  (∀ s, bt x s = true ↔ (bt x0 s = true ∧ N ≤ r s)) ∧
  (∀ s, bt x0 s = true → r s < N → ∃ y, (∀ t, bt y t = true ↔ (bt x0 t = true ∧ r s ≤ r t)) ∧ σ (24 + s) 8 = nI (Tg μ sm y s) ∧ r (Tg μ sm y s) = r s) ∧
  (∀ s t, bt x0 s = true → bt x0 t = true → r s < N → r t < N → σ (24 + s) 8 = σ (24 + t) 8 → s = t)
section bkx
variable {j cm sm td tb : Nat} {τ μ β : gw_S} {o : Nat → Int64}
theorem c_pointAll (R : Rl cm sm τ μ) (I : Iv cm sm td μ) {x : Int32} {σ : gw_S} (hT : kT τ σ) : ∃ σ', f_X3_pointAll σ x = some σ' ∧ kT σ σ' ∧ (∀ s, s < sm → bt x s = true → σ' (24 + s) 8 = nI (Tg μ sm x s)) ∧ ∀ s i, s < sm → bt x s = false ∨ i ≠ 8 → σ' (24 + s) i = σ (24 + s) i := by
  have h20 := R.1
  obtain ⟨⟨w, σ'⟩, G, r1, r2, r3⟩ := gw_for (b := b_X3_pointAll_1 x) (s := ((0 : Int32), σ)) (fun k s => s.1 = nI k ∧ kT σ s.2 ∧ (∀ q, q < k → bt x q = true → s.2 (24 + q) 8 = nI (Tg μ sm x q)) ∧ ∀ q i, q < sm → (q < k → bt x q = false ∨ i ≠ 8) → s.2 (24 + q) i = σ (24 + q) i) (fun t => kT σ t.2 ∧ (∀ s, s < sm → bt x s = true → t.2 (24 + s) 8 = nI (Tg μ sm x s)) ∧ ∀ s i, s < sm → bt x s = false ∨ i ≠ 8 → t.2 (24 + s) i = σ (24 + s) i) sm (by omega) ⟨rfl, fun _ _ _ => rfl, fun q hq => absurd hq (Nat.not_lt_zero q), fun _ _ _ _ => rfl⟩ (fun k s hk hI => by
    obtain ⟨v, ρ⟩ := s
    obtain ⟨e, a1, a3, a4⟩ := hI
    have e : v = nI k := e
    subst e
    have a1 : kT σ ρ := a1
    have a3 : ∀ q, q < k → bt x q = true → ρ (24 + q) 8 = nI (Tg μ sm x q) := a3
    have a4 : ∀ q i, q < sm → (q < k → bt x q = false ∨ i ≠ 8) → ρ (24 + q) i = σ (24 + q) i := a4
    have R1 : Rl cm sm ρ μ := Rl_sim R (kT_sim (kT_tr hT a1)) (simM_rf μ)
    cases hb : bt x k
    · refine ⟨(nI (k + 1), ρ), ?_, rfl, a1, fun q hq hbq => ?_, fun q i hq h => a4 q i hq (fun hqk => h (by omega))⟩
      · rw [b_X3_pointAll_1, r_sm R1, if_neg (n_lt hk), c_isIn (by omega), bd, hb, if_neg (by decide), nI_1]
      · exact a3 q (by
          rcases Nat.lt_or_ge q k with h | h
          · exact h
          · rw [show q = k by omega, hb] at hbq; cases hbq) hbq
    · refine ⟨(nI (k + 1), gw_up ρ (24 + k) 8 (nI (Tg μ sm x k))), ?_, rfl, fun q i hq => ?_, fun q hq hbq => ?_, fun q i hq h => ?_⟩
      · rw [b_X3_pointAll_1, r_sm R1, if_neg (n_lt hk), c_isIn (by omega), bd, hb, if_pos rfl, if_pos (ib_ok (by omega)), nI_clamp (by omega), c_tgt R1 I hk, bs, nI_1]
      · show gw_up ρ (24 + k) 8 _ q i = _
        rw [gw_up_n (by omega)]; exact a1 q i hq
      · show gw_up ρ (24 + k) 8 _ (24 + q) 8 = _
        by_cases e : q = k
        · subst e; rw [gw_up_s]
        · rw [gw_up_n (by omega)]; exact a3 q (by omega) hbq
      · show gw_up ρ (24 + k) 8 _ (24 + q) i = _
        by_cases e : q = k ∧ i = 8
        · obtain ⟨rfl, rfl⟩ := e
          rcases h (by omega) with h | h
          · rw [hb] at h; cases h
          · exact absurd rfl h
        · rw [gw_up_n (by omega)]; exact a4 q i hq (fun hqk => h (by omega))) (fun s hI => by
    obtain ⟨v, ρ⟩ := s
    obtain ⟨e, a1, a3, a4⟩ := hI
    have e : v = nI sm := e
    subst e
    have a1 : kT σ ρ := a1
    have R1 : Rl cm sm ρ μ := Rl_sim R (kT_sim (kT_tr hT a1)) (simM_rf μ)
    refine ⟨(nI sm, ρ), ?_, a1, a3, fun s i hs h => a4 s i hs (fun _ => h)⟩
    rw [b_X3_pointAll_1, r_sm R1, if_pos (n_le (Nat.le_refl _))])
  exact ⟨σ', it_bd G rfl, r1, r2, r3⟩
theorem c_round (R : Rl cm sm τ μ) (I : Iv cm sm td μ) {x0 x : Int32} {σ : gw_S} {r : Nat → Nat} {N : Nat} (hT : kT τ σ) (h0 : ∀ s, bt x0 s = true → s < sm) (hR : Rk sm μ x0 x σ r N) (hx0 : x ≠ 0) : ∃ y σ' r', f_X3_pointAll σ x = some σ' ∧ f_X3_onCircles σ' x = some y ∧ kT τ σ' ∧ Rk sm μ x0 (x &&& (y ^^^ (-1 : Int32))) σ' r' (N + 1) ∧ fb_ct (fun i => bt (x &&& (y ^^^ (-1 : Int32))) i) sm < fb_ct (fun i => bt x i) sm := by
  have h20 := R.1
  obtain ⟨r1, r2, r3⟩ := hR
  obtain ⟨σ1, g1, k1, k2, k4⟩ := c_pointAll R I (x := x) hT
  have hT1 : kT τ σ1 := kT_tr hT k1
  have hxs : ∀ s, bt x s = true → s < sm := fun s h => h0 s ((r1 s).mp h).1
  obtain ⟨f, hf⟩ : ∃ f : Nat → Nat, f = fun s => Tg μ sm x s := ⟨_, rfl⟩
  have hN : Nx sm x σ1 (fun _ s => nI (f s)) f := fun s hs hb => by
    have := Tg_rng (μ := μ) hs hb
    rw [hf]
    exact ⟨k2 s hs hb, rfl, this.1, this.2⟩
  have e3 : σ1 0 3 = nI sm := by rw [hT1 0 3 (by omega)]; exact r_sm R
  obtain ⟨y, c1, c2⟩ := c_onc h20.2 e3 hN
  have hxx : ∀ i, bt (x &&& (y ^^^ (-1 : Int32))) i = true ↔ (bt x i = true ∧ ¬ cyc f i) := fun i => by
    rcases Nat.lt_or_ge i 32 with h | h
    · rw [b_and, b_xor, b_m1 i h, Bool.and_eq_true]
      constructor
      · rintro ⟨a, b⟩
        refine ⟨a, fun hc => ?_⟩
        rw [(c2 i h).mpr ⟨hxs i a, a, hc⟩] at b
        cases b
      · rintro ⟨a, b⟩
        refine ⟨a, ?_⟩
        cases hy : bt y i
        · rfl
        · exact absurd ((c2 i h).mp hy).2.2 b
    · rw [b_big h, b_big h]; simp
  obtain ⟨r', hr'⟩ : ∃ r' : Nat → Nat, (∀ s, bt x s = true → cyc f s → r' s = N) ∧ (∀ s, bt x s = true → ¬ cyc f s → r' s = N + 1) ∧ ∀ s, ¬ bt x s = true → r' s = r s := by
    classical
    refine ⟨fun s => if bt x s = true then (if cyc f s then N else N + 1) else r s, fun s a b => ?_, fun s a b => ?_, fun s a => ?_⟩
    · show (if bt x s = true then (if cyc f s then N else N + 1) else r s) = N
      rw [if_pos a, if_pos b]
    · show (if bt x s = true then (if cyc f s then N else N + 1) else r s) = N + 1
      rw [if_pos a, if_neg b]
    · show (if bt x s = true then (if cyc f s then N else N + 1) else r s) = r s
      rw [if_neg a]
  obtain ⟨p1, p2, p3⟩ := hr'
  have hcl : ∀ s, bt x0 s = true → ¬ bt x s = true → r s < N := fun s a b => by
    rcases Nat.lt_or_ge (r s) N with h | h
    · exact h
    · exact absurd ((r1 s).mpr ⟨a, h⟩) b
  have hop : ∀ s, bt x s = true → N ≤ r' s := fun s a => by
    by_cases hc : cyc f s
    · rw [p1 s a hc]; exact Nat.le_refl _
    · rw [p2 s a hc]; omega
  -- who is settled behind the round
  have hset : ∀ s, bt x0 s = true → r' s < N + 1 → (¬ bt x s = true ∧ r s < N ∧ r' s = r s) ∨ (bt x s = true ∧ cyc f s ∧ r' s = N) := fun s a b => by
    by_cases hb : bt x s = true
    · by_cases hc : cyc f s
      · exact Or.inr ⟨hb, hc, p1 s hb hc⟩
      · rw [p2 s hb hc] at b; omega
    · exact Or.inl ⟨hb, hcl s a hb, p3 s hb⟩
  refine ⟨y, σ1, r', g1, c1, hT1, ⟨fun s => ?_, fun s hs hlt => ?_, fun s t hs ht hsl htl e => ?_⟩, ?_⟩
  · rw [hxx]
    constructor
    · rintro ⟨a, b⟩
      exact ⟨((r1 s).mp a).1, by rw [p2 s a b]; exact Nat.le_refl _⟩
    · rintro ⟨a, b⟩
      by_cases hb : bt x s = true
      · refine ⟨hb, fun hc => ?_⟩
        rw [p1 s hb hc] at b; omega
      · have := hcl s a hb
        rw [p3 s hb] at b; omega
  · rcases hset s hs hlt with ⟨a, b, c⟩ | ⟨a, b, c⟩
    · obtain ⟨z, z1, z2, z3⟩ := r2 s hs b
      refine ⟨z, fun t => ?_, ?_, ?_⟩
      · rw [z1 t, c]
        refine and_congr_right (fun ht => ?_)
        by_cases hb : bt x t = true
        · have h1 := ((r1 t).mp hb).2
          have h2 := hop t hb
          omega
        · rw [p3 t hb]
      · rw [k4 s 8 (h0 s hs) (Or.inl (by simpa using a))]; exact z2
      · have hg : ¬ bt x (Tg μ sm z s) = true := fun h => by
          have := ((r1 _).mp h).2
          omega
        rw [p3 _ hg, c]; exact z3
    · refine ⟨x, fun t => ?_, k2 s (h0 s hs) a, ?_⟩
      · rw [c]
        constructor
        · intro h; exact ⟨((r1 t).mp h).1, hop t h⟩
        · rintro ⟨h1, h2⟩
          by_cases hb : bt x t = true
          · exact hb
          · have := hcl t h1 hb
            rw [p3 t hb] at h2; omega
      · have h1 := Tg_rng (μ := μ) (h0 s hs) a
        have h2 : cyc f (Tg μ sm x s) := by
          have := cyc_nx b
          rw [hf] at this ⊢
          exact this
        rw [p1 _ h1.2 h2, c]
  · have val : ∀ s, bt x0 s = true → r' s < N + 1 → (bt x s = true ∧ cyc f s ∧ σ1 (24 + s) 8 = nI (f s) ∧ f s < sm ∧ bt x (f s) = true) ∨ (σ1 (24 + s) 8 = σ (24 + s) 8 ∧ r s < N ∧ ∃ q, q < sm ∧ σ (24 + s) 8 = nI q ∧ ¬ bt x q = true) := fun s hs hlt => by
      rcases hset s hs hlt with ⟨a, b, c⟩ | ⟨a, b, c⟩
      · obtain ⟨z, z1, z2, z3⟩ := r2 s hs b
        have h1 := Tg_rng (μ := μ) (x := z) (h0 s hs) ((z1 s).mpr ⟨hs, Nat.le_refl _⟩)
        refine Or.inr ⟨k4 s 8 (h0 s hs) (Or.inl (by simpa using a)), b, _, h1.1, z2, fun h => ?_⟩
        have := ((r1 _).mp h).2
        omega
      · obtain ⟨n1, n2, n3, n4⟩ := hN s (h0 s hs) a
        exact Or.inl ⟨a, b, n1, n3, n4⟩
    rcases val s hs hsl with ⟨a1, a2, a3, a4, a5⟩ | ⟨a1, a2, q, a3, a4, a5⟩
    · rcases val t ht htl with ⟨b1, b2, b3, b4, b5⟩ | ⟨b1, b2, q, b3, b4, b5⟩
      · rw [a3, b3] at e
        exact cyc_inj a2 b2 (nI_inj e)
      · rw [a3, b1, b4] at e
        have := nI_inj e
        rw [this] at a5; exact absurd a5 b5
    · rcases val t ht htl with ⟨b1, b2, b3, b4, b5⟩ | ⟨b1, b2, q', b3, b4, b5⟩
      · rw [a1, b3, a4] at e
        have := nI_inj e
        rw [← this] at b5; exact absurd b5 a5
      · rw [a1, b1] at e
        exact r3 s t hs ht a2 b2 e
  · obtain ⟨s, hs⟩ : ∃ s, bt x s = true := by
      by_cases h : ∃ s, bt x s = true
      · exact h
      · exact absurd (bt_nz.mpr (fun i _ => by
          cases hb : bt x i
          · rfl
          · exact absurd ⟨i, hb⟩ h)) hx0
    have hin := nx_in hN (hxs s hs) hs
    obtain ⟨i, hc⟩ := cyc_ex (fun i => (hin i).1)
    have ha := hin i
    generalize itr f i s = a at ha hc
    have h1 := fb_ct_upd (fun i => bt x i) false ha.1
    have h2 : fb_ct (fun i => bt (x &&& (y ^^^ (-1 : Int32))) i) sm ≤ fb_ct (fun k => if k = a then false else bt x k) sm := fb_ct_sub (fun k hk hb => by
      have := (hxx k).mp hb
      show (if k = a then false else bt x k) = true
      rw [if_neg (fun e => this.2 (by rw [e]; exact hc))]; exact this.1)
    have h3 : (if bt x a = true then 1 else 0) = 1 := if_pos ha.2
    rw [h3] at h1
    simp only [Bool.false_eq_true, ↓reduceIte] at h1
    omega
/-- all rounds: g is where each one points in the end -/
def Fing (sm : Nat) (μ : gw_S) (x0 : Int32) (r g : Nat → Nat) : Prop :=
  (∀ s, bt x0 s = true → ∃ y, (∀ t, bt y t = true ↔ (bt x0 t = true ∧ r s ≤ r t)) ∧ g s = Tg μ sm y s ∧ r (g s) = r s) ∧
  (∀ s t, bt x0 s = true → bt x0 t = true → g s = g t → s = t)
theorem c_rounds (R : Rl cm sm τ μ) (I : Iv cm sm td μ) {x0 : Int32} (h0 : ∀ s, bt x0 s = true → s < sm) (v : Int32) : ∃ σ' a b r g, gw_it (b_X3_runExchange_1 v) 4096 (x0, (0 : Int32), τ) = some (a, b, σ') ∧ kT τ σ' ∧ (∀ s, bt x0 s = true → σ' (24 + s) 8 = nI (g s)) ∧ Fing sm μ x0 r g := by
  have h20 := R.1
  obtain ⟨⟨a, b, σ'⟩, G, q1, r, N, q2⟩ := gw_run0 (b := b_X3_runExchange_1 v) (s := (x0, (0 : Int32), τ)) (fun k s => s.2.1 = nI k ∧ kT τ s.2.2 ∧ (∃ r N, Rk sm μ x0 s.1 s.2.2 r N) ∧ fb_ct (fun i => bt s.1 i) sm + k ≤ sm) (fun t => kT τ t.2.2 ∧ ∃ r N, Rk sm μ x0 0 t.2.2 r N) sm (by omega) ⟨rfl, fun _ _ _ => rfl, ⟨fun _ => 0, 0, fun s => ⟨fun h => ⟨h, Nat.le_refl _⟩, fun h => h.1⟩, fun s _ h => absurd h (Nat.not_lt_zero _), fun s t _ _ h => absurd h (Nat.not_lt_zero _)⟩, by have := fb_ct_le (fun i => bt x0 i) sm; omega⟩ (fun k s hk hI => by
    obtain ⟨x1, w, σ⟩ := s
    obtain ⟨e, a1, ⟨r, N, a3⟩, a4⟩ := hI
    have e : w = nI k := e
    subst e
    have a1 : kT τ σ := a1
    have a3 : Rk sm μ x0 x1 σ r N := a3
    have a4 : fb_ct (fun i => bt x1 i) sm + k ≤ sm := a4
    have e3 : σ 0 3 = nI sm := by rw [a1 0 3 (by omega)]; exact r_sm R
    by_cases hx : x1 = 0
    · subst hx
      refine Or.inl ⟨(0, nI k, σ), ?_, a1, r, N, a3⟩
      rw [b_X3_runExchange_1]
      by_cases h : σ 0 3 ≤ nI k
      · rw [if_pos h]
      · rw [if_neg h, if_pos rfl]
    · obtain ⟨y, σ2, r2, g1, g2, g5, g7, g8⟩ := c_round R I a1 h0 a3 hx
      have hkn : k < sm := by omega
      refine Or.inr ⟨hkn, (x1 &&& (y ^^^ (-1 : Int32)), nI (k + 1), σ2), ?_, rfl, g5, ⟨r2, N + 1, g7⟩, ?_⟩
      · rw [b_X3_runExchange_1, e3, if_neg (n_lt hkn (by omega)), if_neg hx, g1, bs, g2, bs, nI_1]
      · show fb_ct (fun i => bt (x1 &&& (y ^^^ (-1 : Int32))) i) sm + (k + 1) ≤ sm
        omega)
  obtain ⟨c1, c2, c3⟩ := q2
  have hlt : ∀ s, bt x0 s = true → r s < N := fun s hs => by
    rcases Nat.lt_or_ge (r s) N with h | h
    · exact h
    · have := (c1 s).mpr ⟨hs, h⟩
      rw [b_0] at this; cases this
  have hval : ∀ s, bt x0 s = true → ∃ y, (∀ t, bt y t = true ↔ (bt x0 t = true ∧ r s ≤ r t)) ∧ nn (σ' (24 + s) 8) = Tg μ sm y s ∧ r (nn (σ' (24 + s) 8)) = r s ∧ σ' (24 + s) 8 = nI (nn (σ' (24 + s) 8)) := fun s hs => by
    obtain ⟨y, y1, y2, y3⟩ := c2 s hs (hlt s hs)
    have y2 : σ' (24 + s) 8 = nI (Tg μ sm y s) := y2
    have h1 := Tg_rng (μ := μ) (x := y) (h0 s hs) ((y1 s).mpr ⟨hs, Nat.le_refl _⟩)
    have h2 : nn (σ' (24 + s) 8) = Tg μ sm y s := by rw [y2, n_cl (by omega)]
    exact ⟨y, y1, h2, by rw [h2]; exact y3, by rw [h2]; exact y2⟩
  refine ⟨σ', a, b, r, fun s => nn (σ' (24 + s) 8), G, q1, fun s hs => ?_, fun s hs => ?_, fun s t hs ht e => ?_⟩
  · obtain ⟨y, -, -, -, h⟩ := hval s hs
    exact h
  · obtain ⟨y, h1, h2, h3, -⟩ := hval s hs
    exact ⟨y, h1, h2, h3⟩
  · obtain ⟨-, -, -, -, h1⟩ := hval s hs
    obtain ⟨-, -, -, -, h2⟩ := hval t ht
    have e : nn (σ' (24 + s) 8) = nn (σ' (24 + t) 8) := e
    refine c3 s t hs ht (hlt s hs) (hlt t ht) ?_
    show σ' (24 + s) 8 = σ' (24 + t) 8
    rw [h1, h2, e]
/-- A CIRCLE of any open set that g keeps: there everybody points as in the end -/
theorem circ_g {x0 x : Int32} {r g : Nat → Nat} (h0 : ∀ s, bt x0 s = true → s < sm) (hF : Fing sm μ x0 r g) (hsub : ∀ s, bt x s = true → bt x0 s = true) (hcl : ∀ s, bt x s = true → bt x (g s) = true) {b : Nat} (hb : bt x b = true) (hc : cyc (Tg μ sm x) b) : ∀ i, bt x (itr (Tg μ sm x) i b) = true ∧ Tg μ sm x (itr (Tg μ sm x) i b) = g (itr (Tg μ sm x) i b) := by
  have hin : ∀ i, bt x (itr (Tg μ sm x) i b) = true := fun i => by
    induction i with
    | zero => exact hb
    | succ i ih => exact (Tg_rng (h0 _ (hsub _ ih)) ih).2
  -- the least rank
  obtain ⟨m, ⟨i0, hi0⟩, hmin⟩ := pk_least (fun m => ∃ i, r (itr (Tg μ sm x) i b) = m) ⟨_, 0, rfl⟩
  have hge : ∀ i, m ≤ r (itr (Tg μ sm x) i b) := fun i => by
    rcases Nat.lt_or_ge (r (itr (Tg μ sm x) i b)) m with h | h
    · exact absurd ⟨i, rfl⟩ (hmin _ h)
    · exact h
  have key : ∀ k, r (itr (Tg μ sm x) (k + i0) b) = m ∧ Tg μ sm x (itr (Tg μ sm x) (k + i0) b) = g (itr (Tg μ sm x) (k + i0) b) := fun k => by
    have one : ∀ k, r (itr (Tg μ sm x) (k + i0) b) = m → Tg μ sm x (itr (Tg μ sm x) (k + i0) b) = g (itr (Tg μ sm x) (k + i0) b) ∧ r (itr (Tg μ sm x) (k + 1 + i0) b) = m := fun k hk => by
      have hs := hin (k + i0)
      have hn := hin (k + 1 + i0)
      have hge' := hge (k + 1 + i0)
      have en : itr (Tg μ sm x) (k + 1 + i0) b = Tg μ sm x (itr (Tg μ sm x) (k + i0) b) := by
        rw [show k + 1 + i0 = (k + i0) + 1 by omega]; rfl
      rw [en] at hn hge' ⊢
      generalize itr (Tg μ sm x) (k + i0) b = s at *
      obtain ⟨y, y1, y2, y3⟩ := hF.1 s (hsub s hs)
      have hys : bt y s = true := (y1 s).mpr ⟨hsub s hs, Nat.le_refl _⟩
      have hgx := hcl s hs
      have hgy : bt y (g s) = true := by rw [y2]; exact (Tg_rng (h0 s (hsub s hs)) hys).2
      have t1 : Tg μ sm (x &&& y) s = Tg μ sm x s := Tg_pers (fun i hi => by rw [b_and, Bool.and_eq_true] at hi; exact hi.1) (by
        rw [b_and, Bool.and_eq_true]
        exact ⟨hn, (y1 _).mpr ⟨hsub _ hn, by omega⟩⟩)
      have t2 : Tg μ sm (x &&& y) s = Tg μ sm y s := Tg_pers (fun i hi => by rw [b_and, Bool.and_eq_true] at hi; exact hi.2) (by
        rw [b_and, Bool.and_eq_true, ← y2]
        exact ⟨hgx, hgy⟩)
      have e : Tg μ sm x s = g s := by rw [← t1, t2, y2]
      exact ⟨e, by rw [e, y3]; exact hk⟩
    have hr : r (itr (Tg μ sm x) (k + i0) b) = m := by
      induction k with
      | zero => rw [Nat.zero_add]; exact hi0
      | succ k ih => exact (one k ih).2
    exact ⟨hr, (one k hr).1⟩
  intro i
  refine ⟨hin i, ?_⟩
  obtain ⟨p, p1, p2⟩ := hc
  have e : itr (Tg μ sm x) i b = itr (Tg μ sm x) (i + p * i0 - i0 + i0) b := by
    have h1 : i0 ≤ p * i0 := Nat.le_mul_of_pos_left i0 p1
    rw [show i + p * i0 - i0 + i0 = i + p * i0 by omega, itr_add, itr_per p2]
  rw [e]
  exact (key _).2
end bkx
