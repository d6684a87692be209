section lev
variable {cm sm td : Nat} {τ μ : gw_S}
/-- n is the length of the longest path from c -/
def lon (D : Nat → Int32) (c n : Nat) : Prop := (∀ m, m < n → ∃ k, pth D m c k) ∧ ∀ k, ¬ pth D n c k
theorem pth_pre {D : Nat → Int32} {c k : Nat} : ∀ {n : Nat}, pth D (n + 1) c k → ∃ q, pth D n c q := fun h => by
  obtain ⟨j, h1, -⟩ := pth_last h
  exact ⟨j, h1⟩
theorem pth_dn {D : Nat → Int32} {c n m : Nat} (h : ∃ k, pth D n c k) (hm : m ≤ n) : ∃ k, pth D m c k := by
  induction n with
  | zero => rw [show m = 0 from by omega]; exact h
  | succ n ih =>
    by_cases e : m = n + 1
    · subst e; exact h
    · obtain ⟨k, hk⟩ := h
      exact ih (pth_pre hk) (by omega)
theorem lon_one {D : Nat → Int32} {c n m : Nat} (h1 : lon D c n) (h2 : lon D c m) : n = m := by
  rcases Nat.lt_or_ge n m with h | h
  · obtain ⟨k, hk⟩ := h2.1 n h
    exact absurd hk (h1.2 k)
  · rcases Nat.lt_or_ge m n with h' | h'
    · obtain ⟨k, hk⟩ := h1.1 m h'
      exact absurd hk (h2.2 k)
    · omega
theorem lon_ex {D : Nat → Int32} {c N : Nat} (h : ∀ k, ¬ pth D N c k) : ∃ n, n ≤ N ∧ lon D c n := by
  induction N with
  | zero => exact ⟨0, Nat.le_refl _, fun m hm => absurd hm (Nat.not_lt_zero m), h⟩
  | succ N ih =>
    by_cases e : ∃ k, pth D N c k
    · exact ⟨N + 1, Nat.le_refl _, fun m hm => pth_dn e (by omega), h⟩
    · obtain ⟨n, hn, h2⟩ := ih (fun k hk => e ⟨k, hk⟩)
      exact ⟨n, by omega, h2⟩
theorem c_dir (R : Rl cm sm τ μ) (x : Int32) : ∃ y, f_X3_directOf τ x = some y ∧ ∀ i, bt y i = true ↔ ∃ k, k < cm ∧ bt x k = true ∧ bt (μ 4 k) i = true := by
  have hc := R.1
  unfold f_X3_directOf
  obtain ⟨t, G, h⟩ : ∃ t, gw_it (b_X3_directOf_1 τ x) 4096 ((0 : Int32), (0 : Int32)) = some t ∧ ∀ i, bt t.1 i = true ↔ ∃ k, k < cm ∧ bt x k = true ∧ bt (μ 4 k) i = true := by
    refine gw_for (fun n s => s.2 = nI n ∧ ∀ i, bt s.1 i = true ↔ ∃ k, k < n ∧ bt x k = true ∧ bt (μ 4 k) i = true) _ cm (by omega) ⟨rfl, fun i => ⟨fun h => (by rw [b_0] at h; cases h), fun ⟨k, hk, _⟩ => absurd hk (Nat.not_lt_zero k)⟩⟩ (fun k s hk hI => ?_) (fun s hI => ?_)
    · obtain ⟨v, w⟩ := s
      obtain ⟨rfl, h1⟩ := hI
      have h1 : ∀ i, bt v i = true ↔ ∃ j, j < k ∧ bt x j = true ∧ bt (μ 4 j) i = true := h1
      have hv : b_X3_directOf_1 τ x (v, nI k) = if bt x k = true then some (.inl (v ||| μ 4 k, nI (k + 1))) else some (.inl (v, nI (k + 1))) := by
        rw [b_X3_directOf_1, r_cm R, if_neg (n_lt hk), c_isIn (by omega), bd, if_pos (ib_ok (by omega)), nI_clamp (by omega), r_dir R hk, nI_1]
      rw [hv]
      cases hx : bt x k
      · refine ⟨_, rfl, rfl, fun i => ?_⟩
        show bt v i = true ↔ _
        rw [h1 i]
        constructor
        · rintro ⟨j, hj, h⟩; exact ⟨j, by omega, h⟩
        · rintro ⟨j, hj, h, h2⟩
          refine ⟨j, ?_, h, h2⟩
          rcases Nat.lt_or_ge j k with h4 | h4
          · exact h4
          · rw [show j = k from by omega, hx] at h; cases h
      · refine ⟨_, rfl, rfl, fun i => ?_⟩
        show bt (v ||| μ 4 k) i = true ↔ _
        rw [b_or, Bool.or_eq_true, h1 i]
        constructor
        · rintro (⟨j, hj, h⟩ | h)
          · exact ⟨j, by omega, h⟩
          · exact ⟨k, by omega, hx, h⟩
        · rintro ⟨j, hj, h, h2⟩
          rcases Nat.lt_or_ge j k with h4 | h4
          · exact Or.inl ⟨j, h4, h, h2⟩
          · rw [show j = k from by omega] at h2; exact Or.inr h2
    · obtain ⟨v, w⟩ := s
      obtain ⟨rfl, h1⟩ := hI
      refine ⟨(v, nI cm), ?_, h1⟩
      rw [b_X3_directOf_1, r_cm R, if_pos (n_le (Nat.le_refl _))]
  exact ⟨t.1, it_bd G rfl, h⟩
theorem c_lev (R : Rl cm sm τ μ) (hb : ∀ c, c < cm → ∀ k, bt (μ 4 c) k = true → k < cm) {c L : Nat} (hc : c < cm) (hL : lon (μ 4) c L) (hL2 : L ≤ cm) : f_X3_levelOf τ (4 + c) = some (nI L) := by
  have h20 := R.1
  have lay : ∀ n k, pth (μ 4) n c k → k < cm := fun n k h => rch_lt hb hc ⟨n, h⟩
  unfold f_X3_levelOf
  obtain ⟨t, G, h⟩ : ∃ t, gw_it (b_X3_levelOf_1 τ (4 + c)) 4096 ((0 : Int32), τ (4 + c) 6) = some t ∧ t.1 = nI L := by
    refine gw_run0 (fun n s => s.1 = nI n ∧ n ≤ L ∧ ∀ i, bt s.2 i = true ↔ pth (μ 4) n c i) _ L (by omega) ⟨rfl, Nat.zero_le _, fun i => by rw [r_dir R hc]; exact Iff.rfl⟩ (fun n s hn hI => ?_)
    obtain ⟨v, w⟩ := s
    obtain ⟨e, h1, h2⟩ := hI
    have e : v = nI n := e
    subst e
    have h2 : ∀ i, bt w i = true ↔ pth (μ 4) n c i := h2
    by_cases e : n = L
    · subst e
      refine Or.inl ⟨(nI n, w), ?_, rfl⟩
      rw [b_X3_levelOf_1, if_pos (bt_nz.mpr (fun i hi => by
        cases hw : bt w i
        · rfl
        · exact absurd ((h2 i).mp hw) (hL.2 i)))]
    · obtain ⟨y, ey, hy⟩ := c_dir R w
      refine Or.inr ⟨by omega, (nI (n + 1), y), ?_, rfl, by omega, fun i => ?_⟩
      · rw [b_X3_levelOf_1, if_neg (fun h0 => by
          obtain ⟨k, hk⟩ := hL.1 n (by omega)
          rw [← h2 k, h0, b_0] at hk; cases hk), r_cm R, if_neg (n_lt (show n < cm by omega) (by omega)), ey, bs, nI_1]
      · show bt y i = true ↔ _
        rw [hy i]
        constructor
        · rintro ⟨k, -, h3, h4⟩
          exact pth_snoc h4 ((h2 k).mp h3)
        · intro h3
          obtain ⟨k, h4, h5⟩ := pth_last h3
          exact ⟨k, lay n k h4, (h2 k).mpr h4, h5⟩
  rw [it_bd G rfl, h]
/-- what the reference's table of levels says: between r rounds' worth and the truth -/
def tab (D : Nat → Int32) (cm : Nat) (ν : Nat → Int32) (lo : Nat → Nat) : Prop := ∀ c, c < cm → ∃ v L, ν c = nI v ∧ lon D c L ∧ v ≤ L ∧ L ≤ cm ∧ min L (lo c) ≤ v
theorem lon_edge {D : Nat → Int32} {c k L M : Nat} (h : bt (D c) k = true) (hc : lon D c L) (hk : lon D k M) : M + 1 ≤ L := by
  rcases Nat.lt_or_ge M L with h1 | h1
  · exact h1
  · exfalso
    cases L with
    | zero => exact hc.2 k h
    | succ L =>
      obtain ⟨q, hq⟩ := hk.1 L (by omega)
      exact hc.2 q ⟨k, h, hq⟩
theorem lon_way {D : Nat → Int32} {c L : Nat} (hc : lon D c (L + 1)) : ∃ k, bt (D c) k = true ∧ ∀ M, lon D k M → L ≤ M := by
  cases L with
  | zero =>
    obtain ⟨k, hk⟩ := hc.1 0 (by omega)
    exact ⟨k, hk, fun M _ => Nat.zero_le M⟩
  | succ L =>
    obtain ⟨q, k, hk, hq⟩ := hc.1 (L + 1) (by omega)
    refine ⟨k, hk, fun M hM => ?_⟩
    rcases Nat.lt_or_ge M (L + 1) with h | h
    · exfalso
      obtain ⟨z, hz⟩ := pth_dn ⟨q, hq⟩ (show M ≤ L by omega)
      exact hM.2 z hz
    · exact h
theorem m_lev (h20 : cm ≤ 20) (e0 : μ 0 0 = nI cm) (hb : ∀ c, c < cm → ∀ k, bt (μ 4 c) k = true → k < cm) (ha : ∀ c, c < cm → ¬ rch (μ 4) c c) {x : Int32} (v1 : Int32) {c L : Nat} (hc : c < cm) (hL : lon (μ 4) c L) : ∃ t3 t16 : Int32 × gw_S, gw_it (b_X4_level_1 v1) 4096 ((0 : Int32), μ) = some t3 ∧ gw_it (b_X4_level_2 v1) 4096 ((0 : Int32), t3.2) = some t16 ∧ t16.2 16 c = nI L ∧ ∀ k, k ≠ 16 → t16.2 k = μ k := by
  have hN : ∀ c, c < cm → ∃ L, L ≤ cm ∧ lon (μ 4) c L := fun c hc => lon_ex (fun k hk => by have := pth_short hb ha hc hk; omega)
  obtain ⟨t3, G3, z1, z2⟩ : ∃ t3 : Int32 × gw_S, gw_it (b_X4_level_1 v1) 4096 ((0 : Int32), μ) = some t3 ∧ (∀ k, k ≠ 16 → t3.2 k = μ k) ∧ ∀ c, c < cm → t3.2 16 c = 0 := by
    refine gw_for (fun n s => s.1 = nI n ∧ (∀ k, k ≠ 16 → s.2 k = μ k) ∧ ∀ c, c < n → s.2 16 c = 0) _ cm (by omega) ⟨rfl, fun _ _ => rfl, fun c hc => absurd hc (Nat.not_lt_zero c)⟩ (fun n s hn hI => ?_) (fun s hI => ?_)
    · obtain ⟨v, σ⟩ := s
      obtain ⟨e, h1, h2⟩ := hI
      have e : v = nI n := e
      subst e
      have h1 : ∀ k, k ≠ 16 → σ k = μ k := h1
      refine ⟨(nI (n + 1), gw_up σ 16 n 0), ?_, rfl, fun k hk => ?_, fun c hc => ?_⟩
      · rw [b_X4_level_1, h1 0 (by omega), e0, if_neg (n_lt hn), if_pos (ib_ok (by show n < 20; omega) (by decide)), nI_clamp (by omega), nI_1]
      · show gw_up σ 16 n 0 k = μ k
        rw [gw_up_rown hk, h1 k hk]
      · show gw_up σ 16 n 0 16 c = 0
        by_cases e : c = n
        · subst e; rw [gw_up_s]
        · rw [gw_up_n (by omega)]; exact h2 c (by omega)
    · obtain ⟨v, σ⟩ := s
      obtain ⟨e, h1, h2⟩ := hI
      have e : v = nI cm := e
      subst e
      have h1 : ∀ k, k ≠ 16 → σ k = μ k := h1
      refine ⟨(nI cm, σ), ?_, h1, h2⟩
      rw [b_X4_level_1, h1 0 (by omega), e0, if_pos (n_le (Nat.le_refl _))]
  -- a round
  have inner : ∀ (w : Int32) (r n : Nat) (σ : gw_S), n < cm → (∀ k, k ≠ 16 → σ k = μ k) → tab (μ 4) cm (σ 16) (fun q => if q < n then r + 1 else r) → ∃ t, gw_it (b_X4_level_4 v1 w (nI n)) 4096 ((0 : Int32), σ) = some t ∧ (∀ k, k ≠ 16 → t.2 k = μ k) ∧ tab (μ 4) cm (t.2 16) (fun q => if q < n + 1 then r + 1 else r) := by
    intro w r n σ hn hσ hT
    obtain ⟨vn, Ln, a1, a2, a3, a4, a5⟩ := hT n hn
    obtain ⟨t, G, t1, t2, v, t3, t4, t5⟩ : ∃ t, gw_it (b_X4_level_4 v1 w (nI n)) 4096 ((0 : Int32), σ) = some t ∧ (∀ k, k ≠ 16 → t.2 k = μ k) ∧ (∀ q, q ≠ n → t.2 16 q = σ 16 q) ∧ ∃ v, t.2 16 n = nI v ∧ (vn ≤ v ∧ v ≤ Ln) ∧ ∀ k y, k < cm → bt (μ 4 n) k = true → σ 16 k = nI y → y < 2000 → y + 1 ≤ v := by
      refine gw_for (fun m s => s.1 = nI m ∧ (∀ k, k ≠ 16 → s.2 k = μ k) ∧ (∀ q, q ≠ n → s.2 16 q = σ 16 q) ∧ ∃ v, s.2 16 n = nI v ∧ (vn ≤ v ∧ v ≤ Ln) ∧ ∀ k y, k < m → bt (μ 4 n) k = true → σ 16 k = nI y → y < 2000 → y + 1 ≤ v) _ cm (by omega) ⟨rfl, hσ, fun _ _ => rfl, vn, a1, ⟨Nat.le_refl _, a3⟩, fun k y hk => absurd hk (Nat.not_lt_zero k)⟩ (fun m s hm hI => ?_) (fun s hI => ?_)
      · obtain ⟨u, ρ⟩ := s
        obtain ⟨e, h1, h2, v, h3, h4, h5⟩ := hI
        have e : u = nI m := e
        subst e
        have h1 : ∀ k, k ≠ 16 → ρ k = μ k := h1
        have h2 : ∀ q, q ≠ n → ρ 16 q = σ 16 q := h2
        have h3 : ρ 16 n = nI v := h3
        have hsame : gw_up ρ 16 n (nI v) = ρ := gw_up_same h3
        have hv : b_X4_level_4 v1 w (nI n) (nI m, ρ) = if bt (μ 4 n) m = true then (if ρ 16 m < nI v then some (.inl (nI (m + 1), ρ)) else some (.inl (nI (m + 1), gw_up ρ 16 n (ρ 16 m + 1)))) else some (.inl (nI (m + 1), ρ)) := by
          have i1 : gw_ib (nI n) (gr_ml 16) = true := ib_ok (by show n < 20; omega) (by decide)
          have i2 : gw_ib (nI m) (gr_ml 16) = true := ib_ok (by show m < 20; omega) (by decide)
          have i3 : gw_ib (nI n) (gr_ml 4) = true := ib_ok (by show n < 20; omega) (by decide)
          rw [b_X4_level_4, h1 0 (by omega), e0, if_neg (n_lt hm), if_pos i3, nI_clamp (n := n) (by omega), h1 4 (by omega), m_has (by omega), bd]
          simp only [i1, i2, ↓reduceIte]
          rw [nI_clamp (n := m) (by omega), h3, hsame, nI_1]
        rw [hv]
        by_cases hbm : bt (μ 4 n) m = true
        · rw [if_pos hbm]
          have hmn : m ≠ n := fun e => ha n hn ⟨0, by rw [e] at hbm; exact hbm⟩
          obtain ⟨y, M, b1, b2, b3, b4, -⟩ := hT m hm
          have b1 : σ 16 m = nI y := b1
          have hM := lon_edge hbm a2 b2
          rw [h2 m hmn, b1]
          by_cases hyv : y < v
          · rw [if_pos (show nI y < nI v from nI_lt hyv (by omega))]
            refine ⟨_, rfl, rfl, h1, h2, v, h3, h4, fun k z hk hk2 hz hz2 => ?_⟩
            rcases Nat.lt_or_ge k m with h6 | h6
            · exact h5 k z h6 hk2 hz hz2
            · rw [show k = m from by omega, b1] at hz
              have := nI_inj hz
              omega
          · rw [if_neg (show ¬ nI y < nI v from nI_nlt (by omega) (by omega)), nI_1]
            refine ⟨_, rfl, rfl, fun k hk => ?_, fun q hq => ?_, y + 1, gw_up_s _ _ _ _, ⟨by omega, by omega⟩, fun k z hk hk2 hz hz2 => ?_⟩
            · show gw_up ρ 16 n (nI (y + 1)) k = μ k
              rw [gw_up_rown hk, h1 k hk]
            · show gw_up ρ 16 n (nI (y + 1)) 16 q = σ 16 q
              rw [gw_up_n (by omega), h2 q hq]
            · rcases Nat.lt_or_ge k m with h6 | h6
              · have := h5 k z h6 hk2 hz hz2
                omega
              · rw [show k = m from by omega, b1] at hz
                have := nI_inj hz
                omega
        · rw [if_neg hbm]
          refine ⟨_, rfl, rfl, h1, h2, v, h3, h4, fun k z hk hk2 hz hz2 => ?_⟩
          rcases Nat.lt_or_ge k m with h6 | h6
          · exact h5 k z h6 hk2 hz hz2
          · rw [show k = m from by omega] at hk2
            exact absurd hk2 hbm
      · obtain ⟨u, ρ⟩ := s
        obtain ⟨e, h1, h2⟩ := hI
        have e : u = nI cm := e
        subst e
        have h1 : ∀ k, k ≠ 16 → ρ k = μ k := h1
        refine ⟨(nI cm, ρ), ?_, h1, h2⟩
        rw [b_X4_level_4, h1 0 (by omega), e0, if_pos (n_le (Nat.le_refl _))]
    refine ⟨t, G, t1, fun q hq => ?_⟩
    by_cases e : q = n
    · subst e
      refine ⟨v, Ln, t3, a2, t4.2, a4, ?_⟩
      show min Ln (if q < q + 1 then r + 1 else r) ≤ v
      rw [if_pos (by omega)]
      cases Ln with
      | zero => omega
      | succ Lp =>
        obtain ⟨k, hk, hk2⟩ := lon_way a2
        have hkc := hb q hq k hk
        obtain ⟨y, M, b1, b2, b3, b4, b5⟩ := hT k hkc
        have := hk2 M b2
        have := t5 k y hkc hk b1 (by omega)
        have b5 : min M (if k < q then r + 1 else r) ≤ y := b5
        have : min M r ≤ y := by split at b5 <;> omega
        omega
    · obtain ⟨v, L, b1, b2, b3, b4, b5⟩ := hT q hq
      refine ⟨v, L, (t2 q e).trans b1, b2, b3, b4, ?_⟩
      have b5 : min L (if q < n then r + 1 else r) ≤ v := b5
      show min L (if q < n + 1 then r + 1 else r) ≤ v
      by_cases h : q < n
      · rw [if_pos h] at b5; rw [if_pos (by omega)]; exact b5
      · rw [if_neg h] at b5; rw [if_neg (by omega)]; exact b5
  have round : ∀ (w : Int32) (r : Nat) (σ : gw_S), (∀ k, k ≠ 16 → σ k = μ k) → tab (μ 4) cm (σ 16) (fun _ => r) → ∃ t, gw_it (b_X4_level_3 v1 w) 4096 ((0 : Int32), σ) = some t ∧ (∀ k, k ≠ 16 → t.2 k = μ k) ∧ tab (μ 4) cm (t.2 16) (fun _ => r + 1) := by
    intro w r σ hσ hT
    obtain ⟨t, G, t1, t2⟩ : ∃ t, gw_it (b_X4_level_3 v1 w) 4096 ((0 : Int32), σ) = some t ∧ (∀ k, k ≠ 16 → t.2 k = μ k) ∧ tab (μ 4) cm (t.2 16) (fun q => if q < cm then r + 1 else r) := by
      refine gw_for (fun n s => s.1 = nI n ∧ (∀ k, k ≠ 16 → s.2 k = μ k) ∧ tab (μ 4) cm (s.2 16) (fun q => if q < n then r + 1 else r)) _ cm (by omega) ⟨rfl, hσ, fun q hq => by
        obtain ⟨v, L, b⟩ := hT q hq
        refine ⟨v, L, b.1, b.2.1, b.2.2.1, b.2.2.2.1, ?_⟩
        show min L (if q < 0 then r + 1 else r) ≤ v
        rw [if_neg (by omega)]; exact b.2.2.2.2⟩ (fun n s hn hI => ?_) (fun s hI => ?_)
      · obtain ⟨u, ρ⟩ := s
        obtain ⟨e, h1, h2⟩ := hI
        have e : u = nI n := e
        subst e
        have h1 : ∀ k, k ≠ 16 → ρ k = μ k := h1
        obtain ⟨t, G, g1, g2⟩ := inner w r n ρ hn h1 h2
        refine ⟨(nI (n + 1), t.2), ?_, rfl, g1, g2⟩
        rw [b_X4_level_3, h1 0 (by omega), e0, if_neg (n_lt hn), nI_1]
        exact it_bd G rfl
      · obtain ⟨u, ρ⟩ := s
        obtain ⟨e, h1, h2⟩ := hI
        have e : u = nI cm := e
        subst e
        have h1 : ∀ k, k ≠ 16 → ρ k = μ k := h1
        refine ⟨(nI cm, ρ), ?_, h1, h2⟩
        rw [b_X4_level_3, h1 0 (by omega), e0, if_pos (n_le (Nat.le_refl _))]
    refine ⟨t, G, t1, fun q hq => ?_⟩
    obtain ⟨v, L, b⟩ := t2 q hq
    refine ⟨v, L, b.1, b.2.1, b.2.2.1, b.2.2.2.1, ?_⟩
    have b5 : min L (if q < cm then r + 1 else r) ≤ v := b.2.2.2.2
    rw [if_pos hq] at b5; exact b5
  obtain ⟨t16, G16, y1, y2⟩ : ∃ t, gw_it (b_X4_level_2 v1) 4096 ((0 : Int32), t3.2) = some t ∧ (∀ k, k ≠ 16 → t.2 k = μ k) ∧ tab (μ 4) cm (t.2 16) (fun _ => 20) := by
    refine gw_for (fun r s => s.1 = nI r ∧ (∀ k, k ≠ 16 → s.2 k = μ k) ∧ tab (μ 4) cm (s.2 16) (fun _ => r)) _ 20 (by omega) ⟨rfl, z1, fun q hq => by
      obtain ⟨L, hL, hL2⟩ := hN q hq
      exact ⟨0, L, z2 q hq, hL2, Nat.zero_le _, hL, by show min L 0 ≤ 0; omega⟩⟩ (fun r s hr hI => ?_) (fun s hI => ?_)
    · obtain ⟨u, ρ⟩ := s
      obtain ⟨e, h1, h2⟩ := hI
      have e : u = nI r := e
      subst e
      obtain ⟨t, G, g1, g2⟩ := round (nI r) r ρ h1 h2
      refine ⟨(nI (r + 1), t.2), ?_, rfl, g1, g2⟩
      rw [b_X4_level_2, if_neg (show ¬ (20 : Int32) ≤ nI r from n_lt (n := 20) hr (by decide)), nI_1]
      exact it_bd G rfl
    · obtain ⟨u, ρ⟩ := s
      obtain ⟨e, h1, h2⟩ := hI
      have e : u = nI 20 := e
      subst e
      exact ⟨(nI 20, ρ), rfl, h1, h2⟩
  refine ⟨t3, t16, G3, G16, ?_, y1⟩
  obtain ⟨v, L', b1, b2, b3, b4, b5⟩ := y2 c hc
  have b5 : min L' 20 ≤ v := b5
  have := lon_one hL b2
  subst this
  rw [b1, show v = L from by omega]
theorem op_level {j : Nat} {τ μ : gw_S} (h : Inv j τ μ) (hj : j < 512) (a1 : Int32) : ∃ r q, f_X3_level τ a1 = some r ∧ f_X4_level μ a1 = some q ∧ (∀ e, r = .inr e → e = "java/lang/IndexOutOfBoundsException") ∧ q.2 0 18 = lw_k ["java/lang/IndexOutOfBoundsException"] r ∧ (∀ v, r = .inl v → v = q.1) ∧ Inv (j + 1) τ q.2 := by
  obtain ⟨cm, sm, td, -, -, R, I, -⟩ := id h
  have h20 := R.1
  have hb : ∀ c, c < cm → ∀ k, bt (μ 4 c) k = true → k < cm := fun c hc => (I.2.1 c hc).2.2.2
  have ha := I.2.2.2.2.2.2.2.2.2
  unfold f_X3_level f_X4_level
  rcases a_c R a1 with ⟨c, hc, rfl, e2, e3⟩ | ⟨e1, e2⟩
  · obtain ⟨L, hL, hL2⟩ := lon_ex (D := μ 4) (c := c) (N := cm) (fun k hk => by have := pth_short hb ha hc hk; omega)
    obtain ⟨t3, t16, G3, G16, r1, r2⟩ := m_lev (μ := gw_up μ 0 18 0) (x := 0) h20.1 (show μ 0 0 = nI cm from r_cm' R) hb ha (nI c) hc hL2
    refine ⟨.inl (nI L), (nI L, t16.2), ?_, ?_, fun e h => (by cases h), ?_, fun v h => (by cases h; rfl), ?_⟩
    · rw [e2, bs, gx_l, c_lev R hb hc hL2 hL, bs]
    · rw [e3, bs, if_neg n10, G3, bs, G16, bs, if_pos (ib_ok (by show c < 20; omega) (by decide)), nI_clamp (by omega), r1]
    · show t16.2 0 18 = 0
      rw [r2 0 (by omega)]; rfl
    · refine Inv_mono (Inv_sim h (simT_rf _) (fun k i hk hne => ?_))
      show t16.2 k i = μ k i
      rw [r2 k (by omega), gw_up_n hne]
  · refine rd_ex h ?_ ?_ rfl (by decide +kernel) (n := 1) (x := "java/lang/IndexOutOfBoundsException")
    · rw [e1, bs, gx_r]
    · rw [e2, bs, if_pos rfl]
end lev
