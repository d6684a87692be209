/-! THE BOOK MAKES THE OFFERS as the reference does -/
section bm
variable {cm sm td : Nat} {τ μ β : gw_S} {o : Nat → Int64}
theorem m_of2 (R : Rl cm sm τ μ) (I : Iv cm sm td μ) {c k n s : Nat} (hc : c < cm) (hn : μ 13 c = nI n) (hn17 : n < 17) (hk : k < n) (hs : s < sm) (es : μ 14 (16 * c + k) = nI s) {v : Int32} (o2 : f_X4_obstacleWith μ (nI s) (nI c) (μ 8 s) = some v) : b_X4_offers_2 (nI c) (nI k, μ) = if decide (¬ μ 15 (16 * c + s) = -1) = true then some (.inl (nI (k + 1), μ)) else if fr μ sm c ≤ 0 then some (.inl (nI (k + 1), μ)) else if v = 0 then some (.inl (nI (k + 1), gw_up μ 15 (16 * c + s) (μ 0 17))) else some (.inl (nI (k + 1), μ)) := by
  have h20 := R.1
  show (if gw_ib (nI c) 20 = true then _ else _) = _
  rw [if_pos (ib_ok (by omega)), nI_clamp (n := c) (by omega), hn, if_neg (n_lt hk (by omega)), x16, if_pos (ib_ok (by show 16 * c + k < 320; omega) (by decide)), nI_clamp (n := 16 * c + k) (by omega), es, m_hasOff R I hc hs, bd, m_fr R I hc, bs, if_pos (ib_ok (by show s < 16; omega) (by decide)), nI_clamp (n := s) (by omega), o2, bs, x16, if_pos (ib_ok (by show 16 * c + s < 320; omega) (by decide)), nI_clamp (n := 16 * c + s) (by omega), nI_1]
theorem or0 {β : gw_S} (i : Nat) : gw_up β 0 i (β 0 i ||| (0 : Int32)) = β := gw_up_same (by rw [Int32.or_zero])
theorem k_mk2 (R : Rl cm sm τ μ) (I : Iv cm sm td μ) (B : Bk cm sm td μ β o) {c k n s : Nat} (hc : c < cm) (hn : nn (μ 13 c) = n) (hk : k < n) (hs : s < sm) (es : μ 14 (16 * c + k) = nI s) {v : Int32} (o2 : f_L_obstacle β o (nI s) (nI c) (μ 8 s) = some v) (htd : td < 10000) :
    b_L_makes_2 (nI c) (lN (plk (fun i => nn (μ 14 (16 * c + i))) n k), β, o) = some (.inl (lN (plk (fun i => nn (μ 14 (16 * c + i))) n (k + 1)), (if decide (¬ μ 15 (16 * c + s) = -1) = true then β else if fr μ sm c ≤ 0 then β else if v = 0 then gw_up β 0 (8 * c + 5 + td % 3) (β 0 (8 * c + 5 + td % 3) ||| ((1 : Int32) <<< (nI s &&& 31))) else β), o)) := by
  have hd := B.1
  have hl := q_lt B I hc
  have hln := q_len I hc
  subst hn
  have hb := plk_b hl (by omega) (show k ≤ nn (μ 13 c) by omega)
  obtain ⟨p1, p2, p3⟩ := plk_s hl hk
  have ew : ((lN (plk (fun i => nn (μ 14 (16 * c + i))) (nn (μ 13 c)) k) &&& (15 : Int64)).toInt32) - (1 : Int32) = nI s := by
    rw [l15 (by omega), p2, lN_i, nI_pred, es, n_cl]
  have hm : td % 3 < 3 := Nat.mod_lt _ (by decide)
  have e3 : nI td - nI td / (3 : Int32) * (3 : Int32) = nI (td % 3) := pk_rem (d := 3) (by omega) (by decide) (by decide)
  show (if lg_cmp (lN (plk (fun i => nn (μ 14 (16 * c + i))) (nn (μ 13 c)) k)) (0 : Int64) = 0 then _ else _) = _
  rw [if_neg (fun e => p3 ((lz (by omega)).mp e)), ew, l4 (by omega), p1]
  simp (disch := omega) only [x8, x8_3, x8_5, rd1, cln, rd22, cl2]
  rw [e_n2 B, e3, nI_add]
  simp (disch := omega) only [rd0, cln]
  rw [e_s3 B hs, k_offers (by omega), bs, k_hasOff B hc hs, bd, k_free B hc, bs, o2, bs, or0]
  by_cases q1 : decide (¬ μ 15 (16 * c + s) = -1) = true
  · rw [if_pos q1, if_pos q1]
  · rw [if_neg q1, if_neg q1]
    by_cases q2 : fr μ sm c ≤ 0
    · rw [if_pos q2, if_pos q2]
    · rw [if_neg q2, if_neg q2]
      by_cases q3 : v = 0
      · rw [if_pos q3, if_pos q3]
      · rw [if_neg q3, if_neg q3]
theorem Bk_offer (B : Bk cm sm td μ β o) {c s : Nat} (hc : c < cm) (hs : s < sm) (htd : td < 10000) (h15 : μ 15 (16 * c + s) = -1) : Bk cm sm td (gw_up μ 15 (16 * c + s) (nI td)) (gw_up β 0 (8 * c + 5 + td % 3) (β 0 (8 * c + 5 + td % 3) ||| ((1 : Int32) <<< (nI s &&& 31)))) o := by
  have hd := B.1
  have hm : td % 3 < 3 := Nat.mod_lt _ (by decide)
  have ht : ¬ nI td = (-1 : Int32) := ne_m1 (by omega)
  obtain ⟨b0, b1, b2, b3, b4, b5, b6, b7, b8, b9, b10⟩ := B
  refine ⟨b0, b1, fun c' j hc' hj => ?_, fun c' k hc' hk => ?_, fun c' j k hc' hj => ?_, b5, fun c' h1 h2 => ⟨fun j hj => ?_, (b6 c' h1 h2).2⟩, fun t j ht hj => (b7 t j ht hj).trans (gw_up_n (by omega)).symm, b8, b9, b10⟩
  · rw [gw_up_n (k := 0) (by omega), gw_up_n (k' := j + 1) (j' := c') (k := 15) (by omega)]; exact b2 c' j hc' hj
  · rw [gw_up_n (k := 0) (by omega)]; exact b3 c' k hc' hk
  · by_cases e : c' = c ∧ j = td % 3
    · obtain ⟨rfl, rfl⟩ := e
      rw [gw_up_s]
      by_cases hk : k < 32
      · rw [bt_or_bit (by omega) hk, Bool.or_eq_true, b4 c' _ k hc' hj, decide_eq_true_eq]
        by_cases e : k = s
        · subst e
          rw [gw_up_s, n_cl (by omega)]
          exact ⟨fun _ => ⟨hs, ht, rfl⟩, fun _ => Or.inr rfl⟩
        · rw [gw_up_n (by omega)]
          exact ⟨fun h => h.resolve_right e, Or.inl⟩
      · rw [b_big (by omega)]
        exact ⟨fun h => (by cases h), fun h => by have := h.1; omega⟩
    · rw [gw_up_n (by omega), b4 c' j k hc' hj]
      by_cases e2 : c' = c ∧ k = s
      · obtain ⟨rfl, rfl⟩ := e2
        rw [gw_up_s, n_cl (by omega), h15]
        exact ⟨fun h => absurd rfl h.2.1, fun h => absurd ⟨rfl, h.2.2.symm⟩ e⟩
      · constructor
        · rintro ⟨h1, h2, h3⟩
          rw [gw_up_n (by omega)]; exact ⟨h1, h2, h3⟩
        · rintro ⟨h1, h2, h3⟩
          rw [gw_up_n (by omega)] at h2 h3; exact ⟨h1, h2, h3⟩
  · rw [gw_up_n (by omega)]; exact (b6 c' h1 h2).1 j hj
/-- the offers of one course -/
theorem k_mkc (hd0 : μ 0 17 = nI td) (R : Rl cm sm τ μ) (I : Iv cm sm td μ) (F : Fr cm sm μ) (B : Bk cm sm td μ β o) {c : Nat} (hc : c < cm) : ∃ μ' β' w v, gw_it (b_X4_offers_2 (nI c)) 4096 ((0 : Int32), μ) = some (w, μ') ∧ gw_it (b_L_makes_2 (nI c)) 4096 (o c, β, o) = some (v, β', o) ∧ Bk cm sm td μ' β' o := by
  have h20 := R.1
  have hd := B.1
  obtain ⟨n, hn17, hn, hnn⟩ := lt_of (I.2.1 c hc).2.2.1
  have hl := q_lt B I hc
  have hln := q_len I hc
  have htd := I.1.1
  have key : ∀ k, k ≤ n → ∃ τ' μ' β', Joc cm sm td τ μ c k τ' μ' ∧ Bk cm sm td μ' β' o ∧ gw_it (b_X4_offers_2 (nI c)) 4096 ((0 : Int32), μ) = gw_it (b_X4_offers_2 (nI c)) (4096 - k) (nI k, μ') ∧ gw_it (b_L_makes_2 (nI c)) 4096 (o c, β, o) = gw_it (b_L_makes_2 (nI c)) (4096 - k) (lN (plk (fun i => nn (μ 14 (16 * c + i))) n k), β', o) := by
    intro k
    induction k with
    | zero =>
      intro _
      refine ⟨τ, μ, β, ⟨R, I, F, scr_rf τ, fun _ _ => rfl, fun _ _ _ _ _ => rfl, fun i _ hi => absurd hi (Nat.not_lt_zero i), fun _ => rfl⟩, B, rfl, ?_⟩
      rw [plk_0, e_q B hc, hnn]
    | succ k ih =>
      intro hk
      obtain ⟨τ', μ', β', J, B', g1, g2⟩ := ih (by omega)
      obtain ⟨τ2, μ2, J2, m1, -, -⟩ := joc_step hd0 hc hn hn17 (by omega) J
      have rw1 := J.2.2.2.2.1
      have R' := J.1
      have I' := J.2.1
      have hn' : μ' 13 c = nI n := by rw [rw1 13 (by omega)]; exact hn
      have hnn' : nn (μ' 13 c) = n := by rw [hn', n_cl]
      obtain ⟨s, hs, es, -⟩ := lt_of (I'.2.2.2.2.2.1 c k hc (by rw [hnn']; omega))
      have hx : ∀ z, bt (μ' 8 s) z = true → z < cm := (I'.2.2.1 s hs).2.2.2.2
      obtain ⟨v, o1, -, o3, -⟩ := k_ob R' I' B' hs hc (μ' 8 s) hx
      have a1 := m_of2 R' I' hc hn' hn17 (by omega) hs es o3
      have a2 := k_mk2 R' I' B' hc hnn' (by omega) hs es o1 (by omega)
      rw [rw1 14 (by omega)] at a2
      rw [a1] at m1
      have d17 : μ' 0 17 = nI td := by rw [rw1 0 (by omega)]; exact hd0
      have hst : Bk cm sm td μ2 (if decide (¬ μ' 15 (16 * c + s) = -1) = true then β' else if fr μ' sm c ≤ 0 then β' else if v = 0 then gw_up β' 0 (8 * c + 5 + td % 3) (β' 0 (8 * c + 5 + td % 3) ||| ((1 : Int32) <<< (nI s &&& 31))) else β') o := by
        by_cases q1 : decide (¬ μ' 15 (16 * c + s) = -1) = true
        · rw [if_pos q1] at m1 ⊢
          cases m1; exact B'
        · rw [if_neg q1] at m1 ⊢
          by_cases q2 : fr μ' sm c ≤ 0
          · rw [if_pos q2] at m1 ⊢
            cases m1; exact B'
          · rw [if_neg q2] at m1 ⊢
            by_cases q3 : v = 0
            · rw [if_pos q3] at m1 ⊢
              cases m1
              rw [d17]
              exact Bk_offer B' hc hs (by omega) (by simpa using q1)
            · rw [if_neg q3] at m1 ⊢
              cases m1; exact B'
      rw [← a1] at m1
      refine ⟨τ2, μ2, _, J2, hst, ?_, ?_⟩
      · rw [g1, show 4096 - k = 4096 - (k + 1) + 1 from by omega, gw_it_st m1]
      · rw [g2, show 4096 - k = 4096 - (k + 1) + 1 from by omega, gw_it_st a2]
  obtain ⟨τ', μ', β', J, B', g1, g2⟩ := key n (Nat.le_refl n)
  have e1 : b_X4_offers_2 (nI c) (nI n, μ') = some (.inr (nI n, μ')) := by
    show (if gw_ib (nI c) 20 = true then _ else _) = _
    rw [if_pos (ib_ok (by omega)), nI_clamp (n := c) (by omega), J.2.2.2.2.1 13 (by omega), hn, if_pos (n_le (Nat.le_refl _) (by omega))]
  have e2 : b_L_makes_2 (nI c) (lN (plk (fun i => nn (μ 14 (16 * c + i))) n n), β', o) = some (.inr (lN (plk (fun i => nn (μ 14 (16 * c + i))) n n), β', o)) := by
    show (if lg_cmp (lN (plk (fun i => nn (μ 14 (16 * c + i))) n n)) (0 : Int64) = 0 then _ else _) = _
    rw [if_pos ((lz (by rw [plk_end]; decide)).mpr (plk_end _ n))]
  refine ⟨μ', β', nI n, lN (plk (fun i => nn (μ 14 (16 * c + i))) n n), ?_, ?_, B'⟩
  · rw [g1, show 4096 - n = 4096 - n - 1 + 1 from by omega, gw_it_en e1]
  · rw [g2, show 4096 - n = 4096 - n - 1 + 1 from by omega, gw_it_en e2]
/-- all offers -/
theorem k_mk (hd0 : μ 0 17 = nI td) (R : Rl cm sm τ μ) (I : Iv cm sm td μ) (F : Fr cm sm μ) (B : Bk cm sm td μ β o) : ∃ τ' μ' β', f_X3_makeOffers τ = some τ' ∧ f_X4_offers μ = some μ' ∧ Rl cm sm τ' μ' ∧ Iv cm sm td μ' ∧ Fr cm sm μ' ∧ Sb cm sm μ' ∧ scr τ τ' ∧ (∀ j, j ≠ 15 → μ' j = μ j) ∧ (Sb cm sm μ → μ' = μ) ∧ f_L_makes β o = some (β', o) ∧ Bk cm sm td μ' β' o := by
  have h20 := R.1
  have hd := B.1
  obtain ⟨τ', μ', a1, a2, R', I', F', S', c', r', st'⟩ := offers_pair hd0 R I F
  obtain ⟨t, G, t1, μ2, B2, ⟨w, g2⟩⟩ := gw_for (b := b_L_makes_1) (s := ((0 : Int32), β, o)) (fun k q => q.1 = nI k ∧ q.2.2 = o ∧ ∃ τ1 μ1, μ1 0 17 = nI td ∧ Rl cm sm τ1 μ1 ∧ Iv cm sm td μ1 ∧ Fr cm sm μ1 ∧ Bk cm sm td μ1 q.2.1 o ∧ gw_it b_X4_offers_1 4096 ((0 : Int32), μ) = gw_it b_X4_offers_1 (4096 - k) (nI k, μ1)) (fun t => t.2.2 = o ∧ ∃ μ2, Bk cm sm td μ2 t.2.1 o ∧ ∃ w, gw_it b_X4_offers_1 4096 ((0 : Int32), μ) = some (w, μ2)) cm (by omega) ⟨rfl, rfl, τ, μ, hd0, R, I, F, B, rfl⟩ (fun k q hk hI => by
    obtain ⟨v, β1, o1⟩ := q
    obtain ⟨q1, q2, τ1, μ1, d1, R1, I1, F1, B1, g1⟩ := hI
    have q1 : v = nI k := q1
    have q2 : o1 = o := q2
    subst q1 q2
    have B1 : Bk cm sm td μ1 β1 o1 := B1
    obtain ⟨μ2, β2, w, v, m1, m2, B2⟩ := k_mkc d1 R1 I1 F1 B1 hk
    obtain ⟨τ3, μ3, c1, ⟨w3, c2⟩, J⟩ := joc_all d1 R1 I1 F1 hk
    rw [m1] at c2
    cases c2
    refine ⟨(nI (k + 1), β2, o1), ?_, rfl, rfl, τ3, μ2, by rw [J.2.2.2.2.1 0 (by omega)]; exact d1, J.1, J.2.1, J.2.2.1, B2, ?_⟩
    · rw [b_L_makes_1, rd20, cl0, e_n0 B1, if_neg (n_lt hk), rdq (by omega), cln (by omega), m2, bs, nI_1]
    · rw [g1, show 4096 - k = 4096 - (k + 1) + 1 from by omega, gw_it_st]
      show (if μ1 0 0 ≤ nI k then _ else _) = _
      rw [r_cm' R1, if_neg (n_lt hk), nI_1]
      exact it_bd m1 rfl) (fun q hI => by
    obtain ⟨v, β1, o1⟩ := q
    obtain ⟨q1, q2, τ1, μ1, d1, R1, I1, F1, B1, g1⟩ := hI
    have q1 : v = nI cm := q1
    have q2 : o1 = o := q2
    subst q1 q2
    have B1 : Bk cm sm td μ1 β1 o1 := B1
    refine ⟨(nI cm, β1, o1), ?_, rfl, μ1, B1, nI cm, ?_⟩
    · rw [b_L_makes_1, rd20, cl0, e_n0 B1, if_pos (n_le (Nat.le_refl _))]
    · rw [g1, show 4096 - cm = 4096 - cm - 1 + 1 from by omega, gw_it_en]
      show (if μ1 0 0 ≤ nI cm then _ else _) = _
      rw [r_cm' R1, if_pos (n_le (Nat.le_refl _))])
  have e2 : f_X4_offers μ = some μ2 := it_bd g2 rfl
  rw [a2] at e2
  cases e2
  refine ⟨τ', μ', t.2.1, a1, a2, R', I', F', S', c', r', st', ?_, B2⟩
  unfold f_L_makes
  refine it_bd G ?_
  rw [t1]
end bm
