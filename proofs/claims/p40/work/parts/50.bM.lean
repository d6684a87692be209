/-! THE BOOK'S EXCHANGE: the moves, and the whole deed -/
theorem gw_it_keep {S T : Type} {b : S → Option (S ⊕ T)} (P : S → Prop) (Q : T → Prop) (h1 : ∀ s s', P s → b s = some (.inl s') → P s') (h2 : ∀ s t, P s → b s = some (.inr t) → Q t) : ∀ (n : Nat) (s : S) (t : T), P s → gw_it b n s = some t → Q t
  | 0, s, t, _, h => by rw [gw_it] at h; cases h
  | n + 1, s, t, hP, h => by
    obtain ⟨r, e, q⟩ := gw_it_s h
    rcases q with ⟨s', rfl, h'⟩ | rfl
    · exact gw_it_keep P Q h1 h2 n s' t (h1 s s' hP e) h'
    · exact h2 s t hP e
theorem kp_gives {β β' : gw_S} {o o' : Nat → Int64} {a b : Int32} (h : f_L_gives β o a b = some (β', o')) : β' 4 = β 4 := by
  unfold f_L_gives at h
  obtain ⟨-, h⟩ := gw_ifs h
  obtain ⟨-, h⟩ := gw_ifs h
  obtain ⟨-, h⟩ := gw_ifs h
  by_cases e : (gw_up β 1 ((((8 : Int32) * a) + (3 : Int32)).toNatClampNeg) ((β 1 (((8 : Int32) * a) + (3 : Int32)).toNatClampNeg) &&& (((1 : Int32) <<< (b &&& 31)) ^^^ (-1 : Int32)))) 1 (((8 : Int32) * a) + (5 : Int32)).toNatClampNeg = b
  · rw [if_pos e] at h
    obtain ⟨-, h⟩ := gw_ifs h
    cases h; rw [gw_up_rown (by omega), gw_up_rown (by omega)]
  · rw [if_neg e] at h
    obtain ⟨-, h⟩ := gw_ifs h
    obtain ⟨-, h⟩ := gw_ifs h
    cases h; rw [gw_up_rown (by omega), gw_up_rown (by omega)]
theorem kp_unw {β β' : gw_S} {o o' : Nat → Int64} {a b : Int32} (h : f_L_unwishes β o a b = some (β', o')) : β' 4 = β 4 := by
  unfold f_L_unwishes at h
  obtain ⟨-, h⟩ := gw_ifs h
  obtain ⟨r, -, h⟩ := gw_bnd h
  obtain ⟨-, h⟩ := gw_ifs h
  cases h; rw [gw_up_rown (by omega)]
theorem kp_lea {β β' : gw_S} {o o' : Nat → Int64} {a b : Int32} (h : f_L_leaves β o a b = some (β', o')) : β' 4 = β 4 := by
  unfold f_L_leaves at h
  obtain ⟨-, h⟩ := gw_ifs h
  obtain ⟨r, -, h⟩ := gw_bnd h
  obtain ⟨-, h⟩ := gw_ifs h
  obtain ⟨t, ht, h⟩ := gw_bnd h
  have := gw_it_keep (b := b_L_leaves_1 a b) (fun s => s.2.1 4 = β 4) (fun s => s.2.1 4 = β 4) (fun s s' hs e => by
    obtain ⟨v, β1, o1⟩ := s
    have hs : β1 4 = β 4 := hs
    rw [b_L_leaves_1] at e
    by_cases hv : (8 : Int32) ≤ v
    · rw [if_pos hv] at e; cases e
    · rw [if_neg hv] at e
      obtain ⟨-, e⟩ := gw_ifs e
      obtain ⟨-, e⟩ := gw_ifs e
      cases e
      dsimp only
      rw [gw_up_rown (by decide)]
      exact hs) (fun s t hs e => by
    obtain ⟨v, β1, o1⟩ := s
    have hs : β1 4 = β 4 := hs
    rw [b_L_leaves_1] at e
    by_cases hv : (8 : Int32) ≤ v
    · rw [if_pos hv] at e; cases e; exact hs
    · rw [if_neg hv] at e
      obtain ⟨-, e⟩ := gw_ifs e
      obtain ⟨-, e⟩ := gw_ifs e
      cases e) 4096 _ t rfl ht
  cases h; exact this
theorem kp_enr {β β' : gw_S} {o o' : Nat → Int64} {a b : Int32} (h : f_L_enrols β o a b = some (β', o')) : β' 4 = β 4 := by
  unfold f_L_enrols at h
  obtain ⟨-, h⟩ := gw_ifs h
  obtain ⟨-, h⟩ := gw_ifs h
  obtain ⟨r, e1, h⟩ := gw_bnd h
  obtain ⟨q, e2, h⟩ := gw_bnd h
  cases h
  rw [kp_lea (β' := q.1) (o' := q.2) e2, kp_unw (β' := r.1) (o' := r.2) e1, gw_up_rown (by omega)]
section bm
variable {j cm sm td tb : Nat} {τ μ β : gw_S} {o : Nat → Int64} {a b d : Int32}
theorem k_mv2 (R : Rl cm sm τ μ) (I : Iv cm sm td μ) (B : Bk cm sm tb μ β o) {D : Nat → Int32} (h9 : ∀ s, s < sm → τ (24 + s) 9 = D s) (h4 : ∀ s, s < sm → β 4 s = D s) (h4' : ∀ s, sm ≤ s → s < 8 → β 4 s = -1) (hD : ∀ s, s < sm → D s = -1 ∨ ((∃ u, u < cm ∧ μ 11 s = nI u) ∧ ∃ d, d < cm ∧ D s = nI d ∧ bt (μ 8 s) d = false)) (x : Int32) : ∃ v τ' ν β' o', (∃ w, gw_it (b_X3_movePlaces_2 x) 4096 ((0 : Int32), (0 : Int32), τ) = some (v, w, τ')) ∧ (∃ w, gw_it b_L_swaps_6 4096 ((0 : Int32), (0 : Int32), β, o) = some (v, w, β', o')) ∧ Rl cm sm τ' ν ∧ Iv cm sm td ν ∧ Bk cm sm tb ν β' o' ∧ Mvd cm sm μ D sm ν := by
  have h20 := R.1
  have hB := B.1
  have key : ∀ k, k ≤ sm → ∃ v σ ν β' o', gw_it (b_X3_movePlaces_2 x) 4096 ((0 : Int32), (0 : Int32), τ) = gw_it (b_X3_movePlaces_2 x) (4096 - k) (v, nI k, σ) ∧ gw_it b_L_swaps_6 4096 ((0 : Int32), (0 : Int32), β, o) = gw_it b_L_swaps_6 (4096 - k) (v, nI k, β', o') ∧ Rl cm sm σ ν ∧ Iv cm sm td ν ∧ Bk cm sm tb ν β' o' ∧ Mvd cm sm μ D k ν ∧ scr τ σ ∧ β' 4 = β 4 := by
    intro k
    induction k with
    | zero =>
      intro _
      exact ⟨0, τ, μ, β, o, rfl, rfl, R, I, B, ⟨fun _ _ _ _ _ _ _ _ => rfl, fun _ _ _ => ⟨rfl, rfl⟩, fun s c hs => absurd hs (Nat.not_lt_zero s), fun _ _ => Nat.le_refl _⟩, scr_rf τ, rfl⟩
    | succ k ih =>
      intro hk
      obtain ⟨v, σ, ν, β1, o1, g1, g2, R1, I1, B1, ⟨m1, m2, m3, m4⟩, S1, r4⟩ := ih (by omega)
      have hk : k < sm := hk
      have e9 : σ (24 + k) 9 = D k := by rw [S1 (24 + k) 9 (Or.inr ⟨by omega, by omega, by omega⟩)]; exact h9 k hk
      have e4 : β1 4 k = D k := by rw [r4]; exact h4 k hk
      rw [g1, g2, show 4096 - k = 4096 - (k + 1) + 1 from by omega]
      by_cases hd1 : D k = -1
      · refine ⟨v, σ, ν, β1, o1, gw_it_st ?_, gw_it_st ?_, R1, I1, B1, ⟨m1, fun s hs h => m2 s hs (by omega), fun s c hs hc => ?_, m4⟩, S1, r4⟩
        · rw [b_X3_movePlaces_2, r_sm R1, if_neg (n_lt hk), if_pos (ib_ok (by omega)), nI_clamp (by omega), e9, if_pos hd1, nI_1]
        · rw [b_L_swaps_6, if_neg (n8 (by omega)), rdq (by omega), cln (by omega), e4, if_pos (show D k < 0 by rw [hd1]; decide), nI_1]
        · by_cases e : s = k
          · subst e
            refine ⟨fun _ => by rw [(m2 s hk (Nat.le_refl _)).1], fun u d hu hd a b => ?_⟩
            rw [hd1] at b
            exact absurd b.symm (ne_m1 (by omega))
          · exact m3 s c (by omega) hc
      · obtain ⟨⟨u, hu, eu⟩, d, hd, ed, hnd⟩ : (∃ u, u < cm ∧ μ 11 k = nI u) ∧ ∃ d, d < cm ∧ D k = nI d ∧ bt (μ 8 k) d = false := by
          rcases hD k hk with h | h
          · exact absurd h hd1
          · exact h
        obtain ⟨σ2, ν2, β2, b1', b2', R2, I2, E2, S2, b3', B2⟩ := k_gi R1 I1 B1 hu hk
        obtain ⟨σ3, ν3, β3, o3, d1', d2', R3, I3, E3, S3, d3', B3⟩ := k_en R2 I2 B2 hd hk
        have eu' : ν 11 k = nI u := by rw [(m2 k hk (Nat.le_refl _)).2]; exact eu
        have e9' : σ2 (24 + k) 9 = nI d := by rw [S2 (24 + k) 9 (Or.inr ⟨by omega, by omega, by omega⟩), e9, ed]
        have e4' : β2 4 k = nI d := by rw [kp_gives b3', e4, ed]
        refine ⟨v + 1, σ3, ν3, β3, o3, gw_it_st ?_, gw_it_st ?_, R3, I3, B3, ⟨fun q a1 a2 a3 a4 a5 a6 a7 => by rw [E3.1 q a1 a2 a3 a5 a6 a7, E2.1 q a1 a4, m1 q a1 a2 a3 a4 a5 a6 a7], fun s hs h => ⟨?_, ?_⟩, fun s c hs hc => ?_, fun c hc => ?_⟩, scr_tr S1 (scr_tr S2 S3), by rw [kp_enr d3', kp_gives b3', r4]⟩
        · rw [b_X3_movePlaces_2, r_sm R1, if_neg (n_lt hk), if_pos (ib_ok (by omega)), nI_clamp (by omega), e9, if_neg hd1, r_upp R1 hk, eu', c_at R1 hu, bs, gx_l, b1', bs, e9', c_at R2 hd, bs, gx_l, d1', bs, nI_1]
        · rw [b_L_swaps_6, if_neg (n8 (by omega)), rdq (by omega), cln (by omega), e4, if_neg (show ¬ D k < 0 by rw [ed]; exact nI_pos (by omega))]
          simp (disch := omega) only [x8, x8_5, rd1, cln, rdq]
          rw [e_s5 B1 hk, eu', b3', bs]
          dsimp only
          rw [e4', d3', bs, nI_1]
        · rw [E3.2.1 s, if_neg (by omega), E2.2.1 s, if_neg (by omega)]; exact (m2 s hs (by omega)).1
        · rw [E3.1 11 (by omega) (by omega) (by omega) (by omega) (by omega) (by omega), E2.2.2 s, if_neg (fun h => by omega)]; exact (m2 s hs (by omega)).2
        · by_cases e : s = k
          · subst e
            refine ⟨fun h => absurd h hd1, fun u' d' hu' hd' a b => ?_⟩
            have h1 : u = u' := nI_inj (eu.symm.trans a)
            have h2 : d = d' := nI_inj (ed.symm.trans b)
            subst h1 h2
            rw [E3.2.1 s, if_pos rfl, bt_or_bit (by omega) (by omega), E2.2.1 s, if_pos rfl, bt_nbit (by omega) (by omega), (m2 s hk (Nat.le_refl _)).1]
          · rw [E3.2.1 s, if_neg e, E2.2.1 s, if_neg e]; exact m3 s c (by omega) hc
        · have h1 := ofc_off (cm := cm) (μ := ν2) hd hk E3.2.2.1 hc
          have h2 : ofc ν2 sm c = ofc ν sm c := ofc_same (fun t ht => by rw [E2.1 15 (by omega) (by omega)])
          have := m4 c hc
          omega
  obtain ⟨v, σ, ν, β1, o1, g1, g2, R1, I1, B1, M1, S1, r4⟩ := key sm (Nat.le_refl _)
  have tail : ∀ i, sm + i ≤ 8 → gw_it b_L_swaps_6 (4096 - sm) (v, nI sm, β1, o1) = gw_it b_L_swaps_6 (4096 - (sm + i)) (v, nI (sm + i), β1, o1) := by
    intro i
    induction i with
    | zero => intro _; rfl
    | succ i ih =>
      intro hi
      rw [ih (by omega), show 4096 - (sm + i) = 4096 - (sm + (i + 1)) + 1 from by omega]
      refine gw_it_st ?_
      rw [b_L_swaps_6, if_neg (n8 (by omega)), rdq (by omega), cln (by omega), r4, h4' (sm + i) (by omega) (by omega), if_pos (by decide), nI_1]
      rfl
  refine ⟨v, σ, ν, β1, o1, ⟨nI sm, ?_⟩, ⟨nI 8, ?_⟩, R1, I1, B1, M1⟩
  · rw [g1, show 4096 - sm = 4096 - sm - 1 + 1 from by omega]
    refine gw_it_en ?_
    rw [b_X3_movePlaces_2, r_sm R1, if_pos (n_le (Nat.le_refl _))]
  · rw [g2, tail (8 - sm) (by omega), show sm + (8 - sm) = 8 by omega]
    have hen : ∀ v w : Int32, (8 : Int32) ≤ w → b_L_swaps_6 (v, w, β1, o1) = some (.inr (v, w, β1, o1)) := fun v w hw => by rw [b_L_swaps_6, if_pos hw]
    exact gw_it_en (hen v (nI 8) (by decide))
theorem dz14 : f_L_does τ 14 a b d = (f_X3_runExchange τ).bind fun r => some (r.1, r.2) := rfl
theorem bz14 : f_L_books β o 14 a b d = (f_L_swaps β o).bind fun r => some (r.1, r.2.1, r.2.2) := rfl
theorem go_exchange (hj : j < 500) (h : St j cm sm td τ μ β o) : Go j cm sm τ β o 14 a b d := by
  obtain ⟨h7, -, hd, R1, I1, F1, S, B⟩ := id h
  have hB := B.1
  have h20 := R1.1
  obtain ⟨⟨w0, ν0⟩, G0, z1, z2⟩ := x_init (μ1 := μ) h20.2 (r_sm' R1)
  have z1 : ∀ k, k ≠ 18 → ν0 k = μ k := z1
  have z2 : ∀ s, s < sm → ν0 18 s = nI s := z2
  have hM0 : kM μ ν0 := fun k _ b => z1 k b
  have hps := fun i => pset_bt μ sm h20.2 i
  have hR0 : Rnd cm sm μ (pset μ sm) τ ν0 := by
    refine ⟨fun i hi => (hps i).mp hi, fun s hs hu hb => ?_, fun s hs _ => z2 s hs, fun s t hs ht hu _ hb _ _ => ?_⟩
    · rw [(hps s).mpr ⟨hs, hu⟩] at hb; cases hb
    · rw [(hps s).mpr ⟨hs, hu⟩] at hb; cases hb
  obtain ⟨σ', ν', ⟨x1, x2, g1⟩, -, k1, k2, ⟨-, rb, rc, rd⟩⟩ := rounds R1 I1 hM0 hR0 (pset μ sm)
  obtain ⟨σ'', x1', x2', r, g, g1', -, p8, hF⟩ := c_rounds R1 I1 (x0 := pset μ sm) (fun s hs => ((hps s).mp hs).1) (pset μ sm)
  have eσ : σ'' = σ' := by
    rw [g1] at g1'
    have := Option.some.inj g1'
    exact (congrArg (fun q : Int32 × Int32 × gw_S => q.2.2) this).symm
  rw [eσ] at p8
  have rb : ∀ s, s < sm → μ 11 s ≠ -1 → ∃ t, t < sm ∧ σ' (24 + s) 8 = nI t ∧ ν' 18 s = nI t ∧ μ 11 t ≠ -1 ∧ (t = s ∨ Wsh cm μ s t) := fun s hs hu => by
    obtain ⟨t, a1, a2, a3, a4, -, a6⟩ := rb s hs hu (b_0 s)
    exact ⟨t, a1, a2, a3, a4, a6⟩
  have rc : ∀ s, s < sm → μ 11 s = -1 → ν' 18 s = nI s := fun s hs hu => rc s hs (Or.inl hu)
  obtain ⟨⟨w1, σ2⟩, G1, s1, s2⟩ := mv1 (σ := σ') (ν := ν') (μ := μ) (x := pset μ sm) h20.2 (by rw [k1 0 3 (by omega)]; exact r_sm R1) (fun s hs => by rw [k1 _ _ (by omega)]; exact r_upp R1 hs) (fun s hs => ⟨fun hb => ((hps s).mp hb).2, fun hu => (hps s).mpr ⟨hs, hu⟩⟩) (fun s hs hu => by obtain ⟨t, a1, a2, a3, -⟩ := rb s hs hu; exact ⟨t, a1, a2, a3⟩) rc
  have s1 : ∀ k i, ¬ (24 ≤ k ∧ k < 40 ∧ i = 9) → σ2 k i = σ' k i := s1
  have s2 : ∀ s, s < sm → σ2 (24 + s) 9 = Dst μ ν' s := s2
  have h18a : ∀ s, s < sm → ∃ t, t < sm ∧ ν' 18 s = nI t := fun s hs => by
    by_cases hu : μ 11 s = -1
    · exact ⟨s, hs, rc s hs hu⟩
    · obtain ⟨t, a1, a2, a3, -⟩ := rb s hs hu
      exact ⟨t, a1, a3⟩
  have hT2 : kT τ σ2 := fun k i hh => by rw [s1 k i (by omega), k1 k i hh]
  have R2 : Rl cm sm σ2 μ := Rl_sim R1 (kT_sim hT2) (simM_rf _)
  have mv : ∀ s, s < sm → ν' 18 s = nI s ∧ Dst μ ν' s = -1 ∨ ∃ t u d, t < sm ∧ t ≠ s ∧ ν' 18 s = nI t ∧ u < cm ∧ μ 11 s = nI u ∧ bt (μ 8 s) u = true ∧ d < cm ∧ μ 11 t = nI d ∧ Dst μ ν' s = nI d ∧ bt (μ 8 s) d = false := fun s hs => by
    unfold Dst
    by_cases e : ν' 18 s = nI s
    · rw [if_pos e]; exact Or.inl ⟨e, rfl⟩
    · rw [if_neg e]
      have hu : μ 11 s ≠ -1 := fun hu => e (rc s hs hu)
      obtain ⟨t, a1, a2, a3, a4, a5⟩ := rb s hs hu
      obtain ⟨u, u1, u2, u3⟩ := ups I1 hs hu
      rcases a5 with rfl | ⟨d, d1, d2, d3⟩
      · exact absurd a3 e
      · refine Or.inr ⟨t, u, d, a1, fun e2 => e (by rw [a3, e2]), a3, u1, u2, u3, d1, d2, ?_, d3⟩
        rw [a3, n_cl]; exact d2
  -- the book so far
  obtain ⟨y1, βa, K1, ra, h4a⟩ := k_sw1 I1 B
  obtain ⟨y2, βb, K2, rb', h4b, h4c⟩ := k_circles R1 I1 (Bk_r4 ra B) hF h4a
  have Bb := Bk_r4 (fun q hq => (rb' q hq).trans (ra q hq)) B
  have hDs : ∀ s, s < sm → βb 4 s = Dst μ ν' s := fun s hs => by
    by_cases hu : μ 11 s = -1
    · rw [h4c s (by omega) (fun h => ((hps s).mp h).2 hu)]
      unfold Dst
      rw [if_pos (rc s hs hu)]
    · have hin := (hps s).mpr ⟨hs, hu⟩
      rw [h4b s hin]
      obtain ⟨t, a1, a2, a3, -⟩ := rb s hs hu
      have et : g s = t := by
        have h1 := p8 s hin
        obtain ⟨y, y1, y2, y3⟩ := hF.1 s hin
        have hg := (Tg_rng (μ := μ) (x := y) hs ((y1 s).mpr ⟨hin, Nat.le_refl _⟩)).1
        rw [← y2] at hg
        rw [a2] at h1
        exact (nI_inj h1).symm
      unfold Dst Dg
      rw [a3, et, n_cl]
      by_cases e : t = s
      · rw [if_pos e, if_pos (by rw [e])]
      · rw [if_neg e, if_neg (fun h => e (nI_inj h))]
  obtain ⟨v, σ3, ν3, β3, o3, ⟨x3, G4⟩, ⟨x4, G5⟩, R3, I3, B3, m1, -, m3, m4⟩ := k_mv2 R2 I1 Bb (D := Dst μ ν') s2 hDs (fun s h1 h2 => h4c s h2 (fun h => by have := ((hps s).mp h).1; omega)) (fun s hs => by
    rcases mv s hs with ⟨-, e⟩ | ⟨t, u, d, a1, a2, a3, a4, a5, a6, a7, a8, a9, a10⟩
    · exact Or.inl e
    · exact Or.inr ⟨⟨u, a4, a5⟩, d, a7, a9, a10⟩) (pset μ sm)
  have row0 : ν3 0 = μ 0 := m1 0 (by omega) (by omega) (by omega) (by omega) (by omega) (by omega) (by omega)
  -- the counts
  have hπ : ∀ s, s < sm → nn (ν' 18 s) < sm := fun s hs => by
    obtain ⟨t, a1, a2⟩ := h18a s hs
    rw [a2, n_cl]; exact a1
  have hinj : ∀ s t, s < sm → t < sm → nn (ν' 18 s) = nn (ν' 18 t) → s = t := fun s t hs ht e => by
    have e' : ν' 18 s = ν' 18 t := by
      obtain ⟨a, a1, a2⟩ := h18a s hs
      obtain ⟨b, b1, b2⟩ := h18a t ht
      rw [a2, b2] at e ⊢
      rw [n_cl, n_cl] at e
      rw [e]
    by_cases hs1 : μ 11 s = -1
    · by_cases ht1 : μ 11 t = -1
      · rw [rc s hs hs1, rc t ht ht1] at e'
        exact nI_inj e'
      · obtain ⟨q, a1, -, a3, a4, -⟩ := rb t ht ht1
        rw [rc s hs hs1, a3] at e'
        rw [← nI_inj e'] at a4
        exact absurd hs1 a4
    · by_cases ht1 : μ 11 t = -1
      · obtain ⟨q, a1, -, a3, a4, -⟩ := rb s hs hs1
        rw [rc t ht ht1, a3] at e'
        rw [nI_inj e'] at a4
        exact absurd ht1 a4
      · exact rd s t hs ht hs1 ht1 (b_0 s) (b_0 t) e'
  have henr : ∀ c, c < cm → enr ν3 sm c = enr μ sm c := fun c hc => by
    have key := ct_sum (p := fun s => bt (ν3 8 s) c) (g := fun s => decide (nn (ν' 18 s) ≠ s) && decide (μ 11 s = nI c)) (q := fun s => bt (μ 8 s) c) (r := fun s => decide (nn (ν' 18 s) ≠ s) && decide (μ 11 (nn (ν' 18 s)) = nI c)) sm (fun s hs => by
      have hm := m3 s c hs hc
      rcases mv s hs with ⟨e1, e2⟩ | ⟨t, u, d, a1, a2, a3, a4, a5, a6, a7, a8, a9, a10⟩
      · have : nn (ν' 18 s) = s := by rw [e1, n_cl]
        show b1 (bt (ν3 8 s) c) + b1 (decide (nn (ν' 18 s) ≠ s) && _) = b1 (bt (μ 8 s) c) + b1 (decide (nn (ν' 18 s) ≠ s) && _)
        rw [hm.1 e2, this]
      · have ht : nn (ν' 18 s) = t := by rw [a3, n_cl]
        have hb := hm.2 u d a4 a7 a5 a9
        show b1 (bt (ν3 8 s) c) + b1 (decide (nn (ν' 18 s) ≠ s) && decide (μ 11 s = nI c)) = b1 (bt (μ 8 s) c) + b1 (decide (nn (ν' 18 s) ≠ s) && decide (μ 11 (nn (ν' 18 s)) = nI c))
        rw [hb, ht, a5, a8]
        have n1 : (nI u = nI c) = (c = u) := propext ⟨fun e => (nI_inj e).symm, fun e => by rw [e]⟩
        have n2 : (nI d = nI c) = (c = d) := propext ⟨fun e => (nI_inj e).symm, fun e => by rw [e]⟩
        have hud : u ≠ d := fun e => by rw [e, a10] at a6; cases a6
        simp only [n1, n2]
        by_cases c1 : c = u
        · subst c1
          simp [hud, a2, a6, b1]
        · by_cases c2 : c = d
          · subst c2
            simp [c1, a2, a10, b1]
          · simp [c1, c2])
    have perm := ct_perm (n := sm) (f := fun s => nn (ν' 18 s)) hπ hinj (fun s => decide (nn (ν' 18 s) ≠ s) && decide (μ 11 s = nI c))
    have same : fb_ct (fun s => decide (nn (ν' 18 s) ≠ s) && decide (μ 11 (nn (ν' 18 s)) = nI c)) sm = fb_ct (fun s => decide (nn (ν' 18 (nn (ν' 18 s))) ≠ nn (ν' 18 s)) && decide (μ 11 (nn (ν' 18 s)) = nI c)) sm := fb_ct_cong (fun s hs => by
      have : (nn (ν' 18 s) ≠ s) = (nn (ν' 18 (nn (ν' 18 s))) ≠ nn (ν' 18 s)) := propext ⟨fun a b => a (hinj _ _ (hπ s hs) hs b), fun a b => a (by rw [b, b])⟩
      simp only [this])
    unfold enr
    rw [same] at key
    have perm : fb_ct (fun s => decide (nn (ν' 18 (nn (ν' 18 s))) ≠ nn (ν' 18 s)) && decide (μ 11 (nn (ν' 18 s)) = nI c)) sm = fb_ct (fun s => decide (nn (ν' 18 s) ≠ s) && decide (μ 11 s = nI c)) sm := perm
    omega
  have F3 : Fr cm sm ν3 := fun c hc => by
    have a := m4 c hc
    have d := F1 c hc
    rw [henr c hc, m1 1 (by omega) (by omega) (by omega) (by omega) (by omega) (by omega) (by omega)]
    omega
  refine go_of hj (by omega) (td := td) (by rw [row0]; exact hd) R3 I3 F3 B3 (v := v) ?_ (fun τ' μ' o1 R' rw' => ?_)
  · rw [bz14]
    have e : f_L_swaps β o = some (v, β3, o3) := by
      unfold f_L_swaps
      rw [it_bd K1 rfl, it_bd K2 rfl, it_bd G5 rfl]
    rw [e]; rfl
  · rw [dz14]
    unfold f_X3_runExchange f_X3_movePlaces
    rw [c_par R1, bs, it_bd g1 rfl, it_bd G1 rfl, it_bd G4 rfl, bs, o1, bs]
    rfl
end bm
