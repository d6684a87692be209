/-! DAYS -/
section bh
variable {j cm sm td tb : Nat} {τ μ β : gw_S} {o : Nat → Int64} {k a b d : Int32}
theorem k_ex2 (hd : μ 0 17 = nI (td + 1)) (R : Rl cm sm τ μ) (I : Iv cm sm td μ) (F : Fr cm sm μ) (B : Bk cm sm tb μ β o) {c : Nat} (hc : c < cm) (v0 v4 v5 v6 : Int32) {x : Int32} (hx : ∀ k, bt x k = true ↔ (k < sm ∧ ¬ μ 15 (16 * c + k) = -1 ∧ nn (μ 15 (16 * c + k)) + 3 = td + 1)) :
    ∃ τ' μ' β' o' w w', gw_it (b_X3_endOldOffers_2 (nI c) (4 + c)) 4096 (v0, (0 : Int32), τ) = some (v0 + nI (fb_ct (fun i => bt x i) sm), w, τ') ∧ gw_it (b_L_goesOn_3 v4 v5 v6 (nI c) x) 4096 ((0 : Int32), β, o) = some (w', β', o') ∧ Rl cm sm τ' μ' ∧ Iv cm sm td μ' ∧ Fr cm sm μ' ∧ (∀ q, q ≠ 13 → q ≠ 14 → q ≠ 15 → μ' q = μ q) ∧ Bk cm sm tb μ' β' o' ∧ ∀ c' s, c' < cm → s < sm → μ' 15 (16 * c' + s) = if c' = c ∧ bt x s = true then -1 else μ 15 (16 * c' + s) := by
  have h20 := R.1
  have hB := B.1
  have key : ∀ k, k ≤ 8 → ∃ τ' μ' β' o', gw_it (b_X3_endOldOffers_2 (nI c) (4 + c)) 4096 (v0, (0 : Int32), τ) = gw_it (b_X3_endOldOffers_2 (nI c) (4 + c)) (4096 - min k sm) (v0 + nI (fb_ct (fun i => bt x i) (min k sm)), nI (min k sm), τ') ∧ gw_it (b_L_goesOn_3 v4 v5 v6 (nI c) x) 4096 ((0 : Int32), β, o) = gw_it (b_L_goesOn_3 v4 v5 v6 (nI c) x) (4096 - k) (nI k, β', o') ∧ Rl cm sm τ' μ' ∧ Iv cm sm td μ' ∧ Fr cm sm μ' ∧ (∀ q, q ≠ 13 → q ≠ 14 → q ≠ 15 → μ' q = μ q) ∧ Bk cm sm tb μ' β' o' ∧ ∀ c' s, c' < cm → s < sm → μ' 15 (16 * c' + s) = if c' = c ∧ s < k ∧ bt x s = true then -1 else μ 15 (16 * c' + s) := by
    intro k
    induction k with
    | zero =>
      intro _
      refine ⟨τ, μ, β, o, ?_, rfl, R, I, F, fun _ _ _ _ => rfl, B, fun c' s _ _ => by rw [if_neg (by omega)]⟩
      rw [Nat.zero_min]
      show gw_it _ 4096 (v0, (0 : Int32), τ) = gw_it _ 4096 (v0 + nI 0, nI 0, τ)
      rw [show nI 0 = (0 : Int32) from rfl, Int32.add_zero]
    | succ k ih =>
      intro hk
      obtain ⟨τ1, μ1, β1, o1, g1, g2, R1, I1, F1, rw1, B1, e1⟩ := ih (by omega)
      have hL : ∀ (β1 : gw_S) (o1 : Nat → Int64), b_L_goesOn_3 v4 v5 v6 (nI c) x (nI k, β1, o1) = if bt x k = true then ((f_L_leaves β1 o1 (nI k) (nI c)).bind fun r8 => some (.inl (nI (k + 1), r8.1, r8.2))) else some (.inl (nI (k + 1), β1, o1)) := fun β1 o1 => by
        rw [b_L_goesOn_3, if_neg (n8 (by omega)), k_has (by omega), bd, nI_1]
      rcases Nat.lt_or_ge k sm with hks | hks
      · rw [show min k sm = k by omega] at g1
        rw [show min (k + 1) sm = k + 1 by omega]
        obtain ⟨τ3, μ3, β3, o3, l1, l2, R3, I3, L3, S3, l3, B3⟩ := k_le R1 I1 B1 hc hks
        have hday : μ1 0 17 = nI (td + 1) := by rw [rw1 0 (by omega) (by omega) (by omega)]; exact hd
        have hsame : μ1 15 (16 * c + k) = μ 15 (16 * c + k) := by rw [e1 c k hc hks, if_neg (by omega)]
        have hC : b_X3_endOldOffers_2 (nI c) (4 + c) (v0 + nI (fb_ct (fun i => bt x i) k), nI k, τ1) = if decide (¬ μ 15 (16 * c + k) = -1) = true then (if 0 < μ 15 (16 * c + k) + 3 - nI (td + 1) then some (.inl (v0 + nI (fb_ct (fun i => bt x i) k), nI (k + 1), τ1)) else some (.inl (v0 + nI (fb_ct (fun i => bt x i) k) + 1, nI (k + 1), τ3))) else some (.inl (v0 + nI (fb_ct (fun i => bt x i) k), nI (k + 1), τ1)) := by
          rw [b_X3_endOldOffers_2, r_sm R1, if_neg (n_lt hks), c_hasOff R1 hc hks, bd, f_X3_daysLeft, show 4 + c + 108 = 112 + c from by omega, show gw_len (112 + c) = 16 from by unfold gw_len; rw [if_neg (by omega)], if_pos (ib_ok (by omega)), nI_clamp (by omega), bs, r_off R1 hc hks, r_day R1, hday, days_eq, l1, bs, nI_1, hsame]
        by_cases hb : bt x k = true
        · obtain ⟨-, q1, q2⟩ := (hx k).mp hb
          have ho := I.2.2.2.2.2.2.2.1 c k hc hks
          rcases ho with ho | ⟨ho, ho2, -⟩
          · exact absurd ho q1
          obtain ⟨d, hd1, ed, ed2⟩ := lt_of ho
          rw [ed2] at q2
          rw [if_pos (decide_eq_true q1), ed, show nI d + (3 : Int32) = nI (d + 3) from nI_add d 3, q2, if_neg (show ¬ (0 : Int32) < nI (td + 1) - nI (td + 1) from by rw [Int32.sub_self]; decide)] at hC
          refine ⟨τ3, μ3, β3, o3, ?_, ?_, R3, I3, Fr_lva F1 hc hks L3, fun q a b e => by rw [L3.1 q a b e, rw1 q a b e], B3, fun c' s hc' hs' => ?_⟩
          · rw [g1, show 4096 - k = 4096 - (k + 1) + 1 from by omega, gw_it_st hC, fb_ct_succ, if_pos hb, ← nI_1 (fb_ct (fun i => bt x i) k), ← Int32.add_assoc]
          · rw [g2, show 4096 - k = 4096 - (k + 1) + 1 from by omega, gw_it_st]
            rw [hL, if_pos hb, l3]; rfl
          · rw [L3.2.1 c' s hc' hs', e1 c' s hc' hs']
            by_cases e : c' = c ∧ s = k
            · obtain ⟨rfl, rfl⟩ := e
              rw [if_pos ⟨rfl, rfl⟩, if_pos ⟨rfl, by omega, hb⟩]
            · rw [if_neg e]
              by_cases e2 : c' = c ∧ s < k ∧ bt x s = true
              · rw [if_pos e2, if_pos ⟨e2.1, by omega, e2.2.2⟩]
              · rw [if_neg e2, if_neg (fun h => e2 ⟨h.1, by omega, h.2.2⟩)]
        · have hC' : b_X3_endOldOffers_2 (nI c) (4 + c) (v0 + nI (fb_ct (fun i => bt x i) k), nI k, τ1) = some (.inl (v0 + nI (fb_ct (fun i => bt x i) k), nI (k + 1), τ1)) := by
            rw [hC]
            by_cases q1 : μ 15 (16 * c + k) = -1
            · rw [if_neg (by simp [q1])]
            · rw [if_pos (decide_eq_true q1)]
              have ho := I.2.2.2.2.2.2.2.1 c k hc hks
              rcases ho with ho | ⟨ho, ho2, -⟩
              · exact absurd ho q1
              obtain ⟨d, hd1, ed, ed2⟩ := lt_of ho
              have htd := I.1.1
              have q2 : ¬ d + 3 = td + 1 := fun h => hb ((hx k).mpr ⟨hks, q1, by rw [ed2]; exact h⟩)
              rw [ed2] at ho2
              rw [ed, show nI d + (3 : Int32) = nI (d + 3) from nI_add d 3, pk_sub (by omega), if_pos (show (0 : Int32) < nI (d + 3 - (td + 1)) from nI_lt (a := 0) (by omega) (by omega))]
          refine ⟨τ1, μ1, β1, o1, ?_, ?_, R1, I1, F1, rw1, B1, fun c' s hc' hs' => ?_⟩
          · rw [g1, show 4096 - k = 4096 - (k + 1) + 1 from by omega, gw_it_st hC', fb_ct_succ, if_neg hb]; rfl
          · rw [g2, show 4096 - k = 4096 - (k + 1) + 1 from by omega, gw_it_st]
            rw [hL, if_neg hb]
          · rw [e1 c' s hc' hs']
            by_cases e2 : c' = c ∧ s < k ∧ bt x s = true
            · rw [if_pos e2, if_pos ⟨e2.1, by omega, e2.2.2⟩]
            · rw [if_neg e2, if_neg (fun h => by
                rcases Nat.lt_or_ge s k with h3 | h3
                · exact e2 ⟨h.1, h3, h.2.2⟩
                · rw [show s = k by omega] at h; exact hb h.2.2)]
      · have hb : ¬ bt x k = true := fun h => by have := ((hx k).mp h).1; omega
        rw [show min k sm = sm by omega] at g1
        rw [show min (k + 1) sm = sm by omega]
        refine ⟨τ1, μ1, β1, o1, g1, ?_, R1, I1, F1, rw1, B1, fun c' s hc' hs' => ?_⟩
        · rw [g2, show 4096 - k = 4096 - (k + 1) + 1 from by omega, gw_it_st]
          rw [hL, if_neg hb]
        · rw [e1 c' s hc' hs']
          by_cases e2 : c' = c ∧ s < k ∧ bt x s = true
          · rw [if_pos e2, if_pos ⟨e2.1, by omega, e2.2.2⟩]
          · rw [if_neg e2, if_neg (fun h => e2 ⟨h.1, by omega, h.2.2⟩)]
  obtain ⟨τ1, μ1, β1, o1, g1, g2, R1, I1, F1, rw1, B1, e1⟩ := key 8 (Nat.le_refl 8)
  rw [show min 8 sm = sm by omega] at g1
  refine ⟨τ1, μ1, β1, o1, nI sm, nI 8, ?_, ?_, R1, I1, F1, rw1, B1, fun c' s hc' hs' => ?_⟩
  · rw [g1, show 4096 - sm = 4096 - sm - 1 + 1 from by omega, gw_it_en]
    rw [b_X3_endOldOffers_2, r_sm R1, if_pos (n_le (Nat.le_refl _))]
  · have hen : ∀ w : Int32, (8 : Int32) ≤ w → b_L_goesOn_3 v4 v5 v6 (nI c) x (w, β1, o1) = some (.inr (w, β1, o1)) := fun w hw => by
      rw [b_L_goesOn_3, if_pos hw]
    rw [g2, show 4096 - 8 = 4096 - 8 - 1 + 1 from rfl, gw_it_en (hen _ (by decide))]
  · rw [e1 c' s hc' hs']
    by_cases e2 : c' = c ∧ bt x s = true
    · rw [if_pos e2, if_pos ⟨e2.1, by omega, e2.2⟩]
    · rw [if_neg e2, if_neg (fun h => e2 ⟨h.1, h.2.2⟩)]
theorem k_exp (hd : μ 0 17 = nI (td + 1)) (htd : td + 1 ≤ 4000) (R : Rl cm sm τ μ) (I : Iv cm sm td μ) (F : Fr cm sm μ) (B : Bk cm sm (td + 1) μ β o) (v4 v5 v6 : Int32) : ∃ v τ' μ' β' o' w, f_X3_endOldOffers τ = some (v, τ') ∧ gw_it (b_L_goesOn_2 v4 v6) 4096 (v5, (0 : Int32), β, o) = some (v5 + v, w, β', o') ∧ Rl cm sm τ' μ' ∧ Iv cm sm (td + 1) μ' ∧ Fr cm sm μ' ∧ μ' 0 = μ 0 ∧ Bk cm sm (td + 1) μ' β' o' := by
  have h20 := R.1
  have hB := B.1
  have key : ∀ k, k ≤ cm → ∃ v τ' μ' β' o', gw_it b_X3_endOldOffers_1 4096 ((0 : Int32), (0 : Int32), τ) = gw_it b_X3_endOldOffers_1 (4096 - k) (v, nI k, τ') ∧ gw_it (b_L_goesOn_2 v4 v6) 4096 (v5, (0 : Int32), β, o) = gw_it (b_L_goesOn_2 v4 v6) (4096 - k) (v5 + v, nI k, β', o') ∧ Rl cm sm τ' μ' ∧ Iv cm sm td μ' ∧ Fr cm sm μ' ∧ (∀ q, q ≠ 13 → q ≠ 14 → q ≠ 15 → μ' q = μ q) ∧ Bk cm sm (td + 1) μ' β' o' ∧ ∀ c s, c < k → s < sm → μ' 15 (16 * c + s) = -1 ∨ td + 1 ≤ nn (μ' 15 (16 * c + s)) + 2 := by
    intro k
    induction k with
    | zero =>
      intro _
      exact ⟨0, τ, μ, β, o, rfl, by rw [Int32.add_zero]; rfl, R, I, F, fun _ _ _ _ => rfl, B, fun c s hc => absurd hc (Nat.not_lt_zero c)⟩
    | succ k ih =>
      intro hk
      obtain ⟨v, τ1, μ1, β1, o1, g1, g2, R1, I1, F1, rw1, B1, e1⟩ := ih (by omega)
      have hm : (td + 1) % 3 < 3 := Nat.mod_lt _ (by decide)
      have hday : μ1 0 17 = nI (td + 1) := by rw [rw1 0 (by omega) (by omega) (by omega)]; exact hd
      have hx : ∀ i, bt (β1 0 (8 * k + 5 + (td + 1) % 3)) i = true ↔ (i < sm ∧ ¬ μ1 15 (16 * k + i) = -1 ∧ nn (μ1 15 (16 * k + i)) + 3 = td + 1) := fun i => by
        rw [e_of B1 (by omega) hm]
        constructor
        · rintro ⟨q1, q2, q3⟩
          rcases I1.2.2.2.2.2.2.2.1 k i (by omega) q1 with ho | ⟨ho, ho2, -⟩
          · exact absurd ho q2
          · have := ho.2
            exact ⟨q1, q2, by omega⟩
        · rintro ⟨q1, q2, q3⟩
          exact ⟨q1, q2, by omega⟩
      obtain ⟨τ2, μ2, β2, o2, w, w', m1, m2, R2, I2, F2, rw2, B2, e2⟩ := k_ex2 hday R1 I1 F1 B1 (c := k) (by omega) v v4 (v5 + v + nI (fb_ct (fun i => bt (β1 0 (8 * k + 5 + (td + 1) % 3)) i) sm)) v6 hx
      have hmany : f_L_many (β1 0 (8 * k + 5 + (td + 1) % 3)) = some (nI (fb_ct (fun i => bt (β1 0 (8 * k + 5 + (td + 1) % 3)) i) sm)) := by
        rw [k_many (fun i hi => by have := ((hx i).mp hi).1; omega)]
        refine congrArg some (congrArg nI (ct_ext (fun _ _ => rfl) 8 hB.2 (fun i h1 _ => ?_)))
        cases e : bt (β1 0 (8 * k + 5 + (td + 1) % 3)) i
        · rfl
        · have := ((hx i).mp e).1; omega
      have e3 : nI (td + 1) - nI (td + 1) / (3 : Int32) * (3 : Int32) = nI ((td + 1) % 3) := pk_rem (d := 3) (by omega) (by decide) (by decide)
      refine ⟨v + nI (fb_ct (fun i => bt (β1 0 (8 * k + 5 + (td + 1) % 3)) i) sm), τ2, μ2, β2, o2, ?_, ?_, R2, I2, F2, fun q a b e => by rw [rw2 q a b e, rw1 q a b e], B2, fun c s hc hs => ?_⟩
      · rw [g1, show 4096 - k = 4096 - (k + 1) + 1 from by omega, gw_it_st]
        rw [b_X3_endOldOffers_1, r_cm R1, if_neg (n_lt (by omega)), if_pos (ib_ok (by omega)), nI_clamp (by omega), nI_1]
        exact it_bd m1 rfl
      · rw [g2, show 4096 - k = 4096 - (k + 1) + 1 from by omega, gw_it_st]
        rw [b_L_goesOn_2, rd20, cl0, e_n0 B1, if_neg (n_lt (by omega)), rd22, cl2, e_n2 B1, e3, x8, x8_5, nI_add]
        simp (disch := omega) only [rd0, cln]
        rw [hmany, bs, m2, bs, nI_1, ← Int32.add_assoc]
      · rw [e2 c s (by omega) hs]
        by_cases e4 : c = k ∧ bt (β1 0 (8 * k + 5 + (td + 1) % 3)) s = true
        · rw [if_pos e4]; exact Or.inl rfl
        · rw [if_neg e4]
          rcases Nat.lt_or_ge c k with h4 | h4
          · exact e1 c s h4 hs
          · have hck : c = k := by omega
            subst hck
            rcases I1.2.2.2.2.2.2.2.1 c s (by omega) hs with ho | ⟨ho, ho2, -⟩
            · exact Or.inl ho
            · refine Or.inr ?_
              have h5 : ¬ nn (μ1 15 (16 * c + s)) + 3 = td + 1 := fun h => e4 ⟨rfl, (hx s).mpr ⟨hs, fun h6 => by rw [h6] at ho; exact absurd ho.1 (by decide), h⟩⟩
              omega
  obtain ⟨v, τ1, μ1, β1, o1, g1, g2, R1, I1, F1, rw1, B1, e1⟩ := key cm (Nat.le_refl cm)
  refine ⟨v, τ1, μ1, β1, o1, nI cm, ?_, ?_, R1, ?_, F1, rw1 0 (by omega) (by omega) (by omega), B1⟩
  · unfold f_X3_endOldOffers
    refine it_bd (t := (v, nI cm, τ1)) ?_ rfl
    rw [g1, show 4096 - cm = 4096 - cm - 1 + 1 from by omega, gw_it_en]
    rw [b_X3_endOldOffers_1, r_cm R1, if_pos (n_le (Nat.le_refl _))]
  · rw [g2, show 4096 - cm = 4096 - cm - 1 + 1 from by omega, gw_it_en]
    rw [b_L_goesOn_2, rd20, cl0, e_n0 B1, if_pos (n_le (Nat.le_refl _))]
  · obtain ⟨w1, w3, w4, w5, w6, w7, w8, w9, w10, w11⟩ := I1
    refine ⟨⟨htd, Or.inl (by rw [rw1 0 (by omega) (by omega) (by omega)]; exact hd)⟩, w3, w4, w5, w6, w7, w8, fun c s hc hs => ?_, w10, w11⟩
    rcases w9 c s hc hs with h | ⟨h1, h2, h3⟩
    · exact Or.inl h
    · rcases e1 c s hc hs with h | h
      · exact Or.inl h
      · exact Or.inr ⟨lt_mono h1 (by omega), h, h3⟩
theorem go_advance (hj : j < 500) (h : St j cm sm td τ μ β o) {n : Nat} (hn1 : 1 ≤ n) (hn7 : n ≤ 7) : Go j cm sm τ β o 10 (nI n) b d := by
  obtain ⟨h7, -, hd, R, I, F, S, B⟩ := id h
  have hB := B.1
  have h20 := R.1
  have key : ∀ k, k ≤ n → ∃ v τ' μ' β' o', gw_it (b_X3_advance_1 (nI n)) 4096 ((0 : Int32), (0 : Int32), τ) = gw_it (b_X3_advance_1 (nI n)) (4096 - k) (v, nI k, τ') ∧ gw_it (b_L_goesOn_1 (nI n)) 4096 ((0 : Int32), (0 : Int32), β, o) = gw_it (b_L_goesOn_1 (nI n)) (4096 - k) (v, nI k, β', o') ∧ μ' 0 17 = nI (td + k) ∧ Rl cm sm τ' μ' ∧ Iv cm sm (td + k) μ' ∧ Fr cm sm μ' ∧ Sb cm sm μ' ∧ Bk cm sm (td + k) μ' β' o' := by
    intro k
    induction k with
    | zero =>
      intro _
      exact ⟨0, τ, μ, β, o, rfl, rfl, hd, R, I, F, S, B⟩
    | succ k ih =>
      intro hk
      obtain ⟨v, τ1, μ1, β1, o1, g1, g2, d1, R1, I1, F1, S1, B1⟩ := ih (by omega)
      have I2 : Iv cm sm (td + k) (gw_up μ1 0 17 (nI (td + k + 1))) := by
        obtain ⟨w1, w3⟩ := I1
        exact ⟨⟨w1.1, Or.inr (gw_up_s _ _ _ _)⟩, w3⟩
      have B2 : Bk cm sm (td + k + 1) (gw_up μ1 0 17 (nI (td + k + 1))) (gw_up β1 2 2 (nI (td + k + 1))) o1 := by
        obtain ⟨b0, b1, b2, b3, b4, b5, b6, b7, b8, b9, b10⟩ := B1
        refine ⟨b0, ⟨b1.1, b1.2.1, gw_up_s _ _ _ _⟩, fun c' j hc' hj => (b2 c' j hc' hj).trans ?_, b3, b4, b5, b6, fun t j ht hj => (b7 t j ht hj).trans ?_, b8, b9, b10⟩
        · rw [gw_up_n (by omega)]
        · rw [gw_up_n (by omega)]
      obtain ⟨v', τ3, μ3, β3, o3, w, x1, x2, R3, I3, F3, r3, B3⟩ := k_exp (μ := gw_up μ1 0 17 (nI (td + k + 1))) (gw_up_s _ _ _ _) (by omega) (Rl_day R1 (nI (td + k + 1))) I2 (Fr_rows (μ := μ1) F1 rfl rfl rfl) B2 (nI n) v (nI k)
      obtain ⟨τ4, μ4, β4, y1, -, R4, I4, F4, S4, -, rw4, -, y2, B4⟩ := k_mk (by rw [r3, gw_up_s]) R3 I3 F3 B3
      refine ⟨v + v', τ4, μ4, β4, o3, ?_, ?_, by rw [rw4 0 (by omega), r3, gw_up_s]; rfl, R4, I4, F4, S4, B4⟩
      · rw [g1, show 4096 - k = 4096 - (k + 1) + 1 from by omega, gw_it_st]
        rw [b_X3_advance_1, if_neg (n_lt (by omega) (by omega)), r_day R1, d1, nI_1, x1, bs, y1, bs, nI_1]
      · rw [g2, show 4096 - k = 4096 - (k + 1) + 1 from by omega, gw_it_st]
        rw [b_L_goesOn_1, if_neg (n_lt (by omega) (by omega)), rd22, rd22, cl2, e_n2 B1, nI_1, x2, bs, y2, bs, nI_1]
  obtain ⟨v, τ1, μ1, β1, o1, g1, g2, d1, R1, I1, F1, S1, B1⟩ := key n (Nat.le_refl n)
  refine go_rd hj (by omega) (td := td + n) d1 R1 I1 F1 S1 B1 (v := v) ?_ ?_
  · show (f_L_goesOn β o (nI n)).bind _ = _
    have e : f_L_goesOn β o (nI n) = some (v, β1, o1) := by
      unfold f_L_goesOn
      refine it_bd (t := (v, nI n, β1, o1)) ?_ rfl
      rw [g2, show 4096 - n = 4096 - n - 1 + 1 from by omega, gw_it_en]
      rw [b_L_goesOn_1, if_pos (n_le (Nat.le_refl _) (by omega))]
    rw [e]; rfl
  · rw [dz10]
    unfold f_X3_advance f_X3_isOutside
    rw [if_neg (show ¬ nI n < (1 : Int32) from nI_nlt (b := 1) hn1 (by omega)), if_pos (show nI n ≤ (7 : Int32) from nI_le (b := 7) hn7 (by decide)), bs, if_pos rfl]
    have e : gw_it (b_X3_advance_1 (nI n)) 4096 ((0 : Int32), (0 : Int32), τ) = some (v, nI n, τ1) := by
      rw [g1, show 4096 - n = 4096 - n - 1 + 1 from by omega, gw_it_en]
      rw [b_X3_advance_1, if_pos (n_le (Nat.le_refl _) (by omega))]
    rw [e]; rfl
end bh
