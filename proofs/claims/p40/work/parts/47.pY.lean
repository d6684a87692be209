section exj
variable {cm sm td : Nat} {τ μ : gw_S}
theorem x_init {μ1 : gw_S} (h20 : sm ≤ 16) (e5 : μ1 0 5 = nI sm) : ∃ t, gw_it b_X4_runExchange_1 4096 ((0 : Int32), μ1) = some t ∧ (∀ k, k ≠ 18 → t.2 k = μ1 k) ∧ ∀ s, s < sm → t.2 18 s = nI s := by
  refine gw_for (fun k s => s.1 = nI k ∧ (∀ q, q ≠ 18 → s.2 q = μ1 q) ∧ ∀ q, q < k → s.2 18 q = nI q) _ sm (by omega) ⟨rfl, fun _ _ => rfl, fun q hq => absurd hq (Nat.not_lt_zero q)⟩ (fun k s hk hI => ?_) (fun s hI => ?_)
  · obtain ⟨v, σ⟩ := s
    obtain ⟨e, h1, h2⟩ := hI
    have e : v = nI k := e
    subst e
    have h1 : ∀ q, q ≠ 18 → σ q = μ1 q := h1
    refine ⟨(nI (k + 1), gw_up σ 18 k (nI k)), ?_, rfl, fun q hq => ?_, fun q hq => ?_⟩
    · rw [b_X4_runExchange_1, h1 0 (by omega), e5, if_neg (n_lt hk), if_pos (ib_ok (by show k < 16; omega) (by decide)), nI_clamp (by omega), nI_1]
    · show gw_up σ 18 k (nI k) q = μ1 q
      rw [gw_up_rown hq, h1 q hq]
    · show gw_up σ 18 k (nI k) 18 q = nI q
      by_cases e : q = k
      · subst e; rw [gw_up_s]
      · rw [gw_up_n (by omega)]; exact h2 q (by omega)
  · obtain ⟨v, σ⟩ := s
    obtain ⟨e, h1, h2⟩ := hI
    have e : v = nI sm := e
    subst e
    have h1 : ∀ q, q ≠ 18 → σ q = μ1 q := h1
    refine ⟨(nI sm, σ), ?_, h1, h2⟩
    rw [b_X4_runExchange_1, h1 0 (by omega), e5, if_pos (n_le (Nat.le_refl _))]
/-- the new place of s, or none -/
def Dst (μ ν : gw_S) (s : Nat) : Int32 := if ν 18 s = nI s then -1 else μ 11 (nn (ν 18 s))
theorem mv1 (h20 : sm ≤ 16) {σ ν : gw_S} {x : Int32} (e3 : σ 0 3 = nI sm) (e7 : ∀ s, s < sm → σ (24 + s) 7 = μ 11 s) (hx : ∀ s, s < sm → (bt x s = true ↔ μ 11 s ≠ -1)) (h8 : ∀ s, s < sm → μ 11 s ≠ -1 → ∃ t, t < sm ∧ σ (24 + s) 8 = nI t ∧ ν 18 s = nI t) (h18 : ∀ s, s < sm → μ 11 s = -1 → ν 18 s = nI s) : ∃ t, gw_it (b_X3_movePlaces_1 x) 4096 ((0 : Int32), σ) = some t ∧ (∀ k i, ¬ (24 ≤ k ∧ k < 40 ∧ i = 9) → t.2 k i = σ k i) ∧ ∀ s, s < sm → t.2 (24 + s) 9 = Dst μ ν s := by
  refine gw_for (fun k s => s.1 = nI k ∧ (∀ q i, ¬ (24 ≤ q ∧ q < 40 ∧ i = 9) → s.2 q i = σ q i) ∧ ∀ q, q < k → s.2 (24 + q) 9 = Dst μ ν q) _ sm (by omega) ⟨rfl, fun _ _ _ => rfl, fun q hq => absurd hq (Nat.not_lt_zero q)⟩ (fun k s hk hI => ?_) (fun s hI => ?_)
  · obtain ⟨v, ρ⟩ := s
    obtain ⟨e, h1, h2⟩ := hI
    have e : v = nI k := e
    subst e
    have h1 : ∀ q i, ¬ (24 ≤ q ∧ q < 40 ∧ i = 9) → ρ q i = σ q i := h1
    have hv : b_X3_movePlaces_1 x (nI k, ρ) = some (.inl (nI (k + 1), gw_up ρ (24 + k) 9 (Dst μ ν k))) := by
      rw [b_X3_movePlaces_1, h1 0 3 (by omega), e3, if_neg (n_lt hk), if_pos (ib_ok (by omega)), nI_clamp (by omega), c_isIn (by omega), bd, nI_1, h1 (24 + k) 8 (by omega)]
      unfold Dst
      by_cases hu : μ 11 k = -1
      · rw [if_neg (fun hb => (hx k hk).mp hb hu), if_pos (h18 k hk hu)]
      · obtain ⟨t, t1, t2, t3⟩ := h8 k hk hu
        rw [if_pos ((hx k hk).mpr hu), t2, t3]
        by_cases htk : nI t = nI k
        · rw [if_pos htk, if_pos htk]
        · rw [if_neg htk, if_neg htk, f_X3_studentAt, h1 0 3 (by omega), e3, if_neg (nI_pos (by omega)), if_pos (nI_lt t1 (by omega)), if_pos (ib_ok (by omega)), nI_clamp (by omega), bs, gx_l, h1 (24 + t) 7 (by omega), e7 t t1, n_cl (n := t) (by omega)]
    refine ⟨_, hv, rfl, fun q i hq => ?_, fun q hq => ?_⟩
    · show gw_up ρ (24 + k) 9 _ q i = _
      rw [gw_up_n (by omega)]; exact h1 q i hq
    · show gw_up ρ (24 + k) 9 _ (24 + q) 9 = _
      by_cases e : q = k
      · subst e; rw [gw_up_s]
      · rw [gw_up_n (by omega)]; exact h2 q (by omega)
  · obtain ⟨v, ρ⟩ := s
    obtain ⟨e, h1, h2⟩ := hI
    have e : v = nI sm := e
    subst e
    have h1 : ∀ q i, ¬ (24 ≤ q ∧ q < 40 ∧ i = 9) → ρ q i = σ q i := h1
    refine ⟨(nI sm, ρ), ?_, h1, h2⟩
    rw [b_X3_movePlaces_1, h1 0 3 (by omega), e3, if_pos (n_le (Nat.le_refl _))]
theorem mv3 (h20 : sm ≤ 16) {ν : gw_S} (e5 : ν 0 5 = nI sm) (e11 : ν 11 = μ 11) (h18 : ∀ s, s < sm → ∃ t, t < sm ∧ ν 18 s = nI t) (x y : Int32) : ∃ t, gw_it (b_X4_runExchange_3 x y) 4096 ((0 : Int32), ν) = some t ∧ (∀ k, k ≠ 17 → t.2 k = ν k) ∧ ∀ s, s < sm → t.2 17 s = Dst μ ν s := by
  refine gw_for (fun k s => s.1 = nI k ∧ (∀ q, q ≠ 17 → s.2 q = ν q) ∧ ∀ q, q < k → s.2 17 q = Dst μ ν q) _ sm (by omega) ⟨rfl, fun _ _ => rfl, fun q hq => absurd hq (Nat.not_lt_zero q)⟩ (fun k s hk hI => ?_) (fun s hI => ?_)
  · obtain ⟨v, ρ⟩ := s
    obtain ⟨e, h1, h2⟩ := hI
    have e : v = nI k := e
    subst e
    have h1 : ∀ q, q ≠ 17 → ρ q = ν q := h1
    have hv : b_X4_runExchange_3 x y (nI k, ρ) = some (.inl (nI (k + 1), gw_up ρ 17 k (Dst μ ν k))) := by
      obtain ⟨t, t1, t2⟩ := h18 k hk
      rw [b_X4_runExchange_3, h1 0 (by omega), e5, if_neg (n_lt hk), if_pos (ib_ok (by show k < 16; omega) (by decide)), nI_clamp (n := k) (by omega), h1 18 (by omega), if_pos (ib_ok (by show k < 16; omega) (by decide)), if_pos (ib_ok (by show k < 16; omega) (by decide)), if_pos (show gw_ib (ν 18 k) (gr_ml 11) = true from by rw [t2]; exact ib_ok (by show t < 16; omega) (by decide)), if_pos (ib_ok (by show k < 16; omega) (by decide)), h1 11 (by omega), e11, nI_1]
      unfold Dst
      split <;> rfl
    refine ⟨_, hv, rfl, fun q hq => ?_, fun q hq => ?_⟩
    · show gw_up ρ 17 k _ q = _
      rw [gw_up_rown hq]; exact h1 q hq
    · show gw_up ρ 17 k _ 17 q = _
      by_cases e : q = k
      · subst e; rw [gw_up_s]
      · rw [gw_up_n (by omega)]; exact h2 q (by omega)
  · obtain ⟨v, ρ⟩ := s
    obtain ⟨e, h1, h2⟩ := hI
    have e : v = nI sm := e
    subst e
    have h1 : ∀ q, q ≠ 17 → ρ q = ν q := h1
    refine ⟨(nI sm, ρ), ?_, h1, h2⟩
    rw [b_X4_runExchange_3, h1 0 (by omega), e5, if_pos (n_le (Nat.le_refl _))]
/-- the moves: D says where -/
def Mvd (cm sm : Nat) (μ : gw_S) (D : Nat → Int32) (k : Nat) (ν : gw_S) : Prop :=
  (∀ q, q ≠ 8 → q ≠ 9 → q ≠ 10 → q ≠ 11 → q ≠ 13 → q ≠ 14 → q ≠ 15 → ν q = μ q) ∧
  (∀ s, s < sm → k ≤ s → ν 8 s = μ 8 s ∧ ν 11 s = μ 11 s) ∧
  (∀ s c, s < k → c < cm → (D s = -1 → bt (ν 8 s) c = bt (μ 8 s) c) ∧ ∀ u d, u < cm → d < cm → μ 11 s = nI u → D s = nI d → bt (ν 8 s) c = ((bt (μ 8 s) c && !decide (c = u)) || decide (c = d))) ∧
  (∀ c, c < cm → ofc ν sm c ≤ ofc μ sm c)
theorem mv2 (R : Rl cm sm τ μ) (I : Iv cm sm td μ) {D : Nat → Int32} (h9 : ∀ s, s < sm → τ (24 + s) 9 = D s) (h17 : ∀ s, s < sm → μ 17 s = D s) (hD : ∀ s, s < sm → D s = -1 ∨ ((∃ u, u < cm ∧ μ 11 s = nI u) ∧ ∃ d, d < cm ∧ D s = nI d ∧ bt (μ 8 s) d = false)) (x y : Int32) : ∃ v τ' ν, (∃ w, gw_it (b_X3_movePlaces_2 x) 4096 ((0 : Int32), (0 : Int32), τ) = some (v, w, τ')) ∧ (∃ w, gw_it (b_X4_runExchange_4 y) 4096 ((0 : Int32), (0 : Int32), μ) = some (v, w, ν)) ∧ Rl cm sm τ' ν ∧ Iv cm sm td ν ∧ Mvd cm sm μ D sm ν := by
  have h20 := R.1
  obtain ⟨⟨v, w, τ'⟩, G, w', ν, hm, q1, q2, q3⟩ := gw_for (b := b_X3_movePlaces_2 x) (s := ((0 : Int32), (0 : Int32), τ)) (fun k s => s.2.1 = nI k ∧ ∃ ν, Rl cm sm s.2.2 ν ∧ Iv cm sm td ν ∧ Mvd cm sm μ D k ν ∧ scr τ s.2.2 ∧ gw_it (b_X4_runExchange_4 y) 4096 ((0 : Int32), (0 : Int32), μ) = gw_it (b_X4_runExchange_4 y) (4096 - k) (s.1, nI k, ν)) (fun t => ∃ w ν, gw_it (b_X4_runExchange_4 y) 4096 ((0 : Int32), (0 : Int32), μ) = some (t.1, w, ν) ∧ Rl cm sm t.2.2 ν ∧ Iv cm sm td ν ∧ Mvd cm sm μ D sm ν) sm (by omega) ⟨rfl, μ, R, I, ⟨fun _ _ _ _ _ _ _ _ => rfl, fun _ _ _ => ⟨rfl, rfl⟩, fun s c hs => absurd hs (Nat.not_lt_zero s), fun _ _ => Nat.le_refl _⟩, scr_rf τ, rfl⟩ (fun k s hk hI => by
    obtain ⟨v, w, σ⟩ := s
    obtain ⟨e, ν, R1, I1, ⟨m1, m2, m3, m4⟩, S1, hm⟩ := hI
    have e : w = nI k := e
    subst e
    have R1 : Rl cm sm σ ν := R1
    have S1 : scr τ σ := S1
    have hm : gw_it (b_X4_runExchange_4 y) 4096 ((0 : Int32), (0 : Int32), μ) = gw_it (b_X4_runExchange_4 y) (4096 - k) (v, nI k, ν) := hm
    have e9 : σ (24 + k) 9 = D k := by rw [S1 (24 + k) 9 (Or.inr ⟨by omega, by omega, by omega⟩)]; exact h9 k hk
    have e17 : ν 17 k = D k := by rw [m1 17 (by omega) (by omega) (by omega) (by omega) (by omega) (by omega) (by omega)]; exact h17 k hk
    have i17 : gw_ib (nI k) (gr_ml 17) = true := ib_ok (by show k < 16; omega) (by decide)
    by_cases hd1 : D k = -1
    · refine ⟨(v, nI (k + 1), σ), ?_, rfl, ν, R1, I1, ⟨m1, fun s hs h => m2 s hs (by omega), fun s c hs hc => ?_, m4⟩, S1, ?_⟩
      · rw [b_X3_movePlaces_2, r_sm R1, if_neg (n_lt hk), if_pos (ib_ok (by omega)), nI_clamp (by omega), e9, if_pos hd1, nI_1]
      · by_cases e : s = k
        · subst e
          refine ⟨fun _ => by rw [(m2 s hk (Nat.le_refl _)).1], fun u d hu hd a b => ?_⟩
          rw [hd1] at b
          exact absurd b.symm (ne_m1 (by omega))
        · exact m3 s c (by omega) hc
      · rw [hm, show 4096 - k = 4096 - (k + 1) + 1 from by omega, gw_it_st]
        rw [b_X4_runExchange_4, r_sm' R1, if_neg (n_lt hk), if_pos i17, nI_clamp (by omega), e17, if_pos hd1, nI_1]
    · obtain ⟨⟨u, hu, eu⟩, d, hd, ed, hnd⟩ : (∃ u, u < cm ∧ μ 11 k = nI u) ∧ ∃ d, d < cm ∧ D k = nI d ∧ bt (μ 8 k) d = false := by
        rcases hD k hk with h | h
        · exact absurd h hd1
        · exact h
      obtain ⟨σ2, ν2, b1', b2', R2, I2, E2, S2⟩ := gva_pair R1 I1 hu hk
      obtain ⟨σ3, ν3, d1', d2', R3, I3, E3, S3⟩ := enrol_pair R2 I2 hd hk
      have eu' : ν 11 k = nI u := by rw [(m2 k hk (Nat.le_refl _)).2]; exact eu
      have e9' : σ2 (24 + k) 9 = nI d := by rw [S2 (24 + k) 9 (Or.inr ⟨by omega, by omega, by omega⟩), e9, ed]
      have e17' : ν2 17 k = nI d := by rw [E2.1 17 (by omega) (by omega), e17, ed]
      refine ⟨(v + 1, nI (k + 1), σ3), ?_, rfl, ν3, R3, I3, ⟨fun q a1 a2 a3 a4 a5 a6 a7 => by rw [E3.1 q a1 a2 a3 a5 a6 a7, E2.1 q a1 a4, m1 q a1 a2 a3 a4 a5 a6 a7], fun s hs h => ⟨?_, ?_⟩, fun s c hs hc => ?_, fun c hc => ?_⟩, scr_tr S1 (scr_tr S2 S3), ?_⟩
      · rw [b_X3_movePlaces_2, r_sm R1, if_neg (n_lt hk), if_pos (ib_ok (by omega)), nI_clamp (by omega), e9, if_neg hd1, r_upp R1 hk, eu', c_at R1 hu, bs, gx_l, b1', bs, e9', c_at R2 hd, bs, gx_l, d1', bs, nI_1]
      · rw [E3.2.1 s, if_neg (by omega), E2.2.1 s, if_neg (by omega)]; exact (m2 s hs (by omega)).1
      · rw [E3.1 11 (by omega) (by omega) (by omega) (by omega) (by omega) (by omega), E2.2.2 s, if_neg (fun h => by omega)]; exact (m2 s hs (by omega)).2
      · by_cases e : s = k
        · subst e
          refine ⟨fun h => absurd h hd1, fun u' d' hu' hd' a b => ?_⟩
          have h1 : u = u' := nI_inj (eu.symm.trans a)
          have h2 : d = d' := nI_inj (ed.symm.trans b)
          subst h1 h2
          rw [E3.2.1 s, if_pos rfl, bt_or_bit (by omega) (by omega), E2.2.1 s, if_pos rfl, bt_nbit (by omega) (by omega), (m2 s hk (Nat.le_refl _)).1]
        · rw [E3.2.1 s, if_neg e, E2.2.1 s, if_neg e]; exact m3 s c (by omega) hc
      · have h1 := ofc_off (cm := cm) (μ := ν2) hd hk E3.2.2.1 hc
        have h2 : ofc ν2 sm c = ofc ν sm c := ofc_same (fun t ht => by rw [E2.1 15 (by omega) (by omega)])
        have := m4 c hc
        omega
      · rw [hm, show 4096 - k = 4096 - (k + 1) + 1 from by omega, gw_it_st]
        rw [b_X4_runExchange_4, r_sm' R1, if_neg (n_lt hk), if_pos i17, nI_clamp (by omega), e17, if_neg hd1, if_pos (ib_ok (by show k < 16; omega) (by decide)), eu', b2', bs, if_pos i17, e17', d2', bs, nI_1]) (fun s hI => by
    obtain ⟨v, w, σ⟩ := s
    obtain ⟨e, ν, R1, I1, M1, S1, hm⟩ := hI
    have e : w = nI sm := e
    subst e
    have R1 : Rl cm sm σ ν := R1
    refine ⟨(v, nI sm, σ), ?_, nI sm, ν, ?_, R1, I1, M1⟩
    · rw [b_X3_movePlaces_2, r_sm R1, if_pos (n_le (Nat.le_refl _))]
    · rw [hm, show 4096 - sm = 4096 - sm - 1 + 1 from by omega, gw_it_en]
      show b_X4_runExchange_4 y (v, nI sm, ν) = _
      rw [b_X4_runExchange_4, r_sm' R1, if_pos (n_le (Nat.le_refl _))])
  exact ⟨v, τ', ν, ⟨w, G⟩, ⟨w', hm⟩, q1, q2, q3⟩
end exj
