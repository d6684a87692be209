section adv
variable {cm sm td : Nat} {τ μ : gw_S}
theorem Rl_day (R : Rl cm sm τ μ) (v : Int32) : Rl cm sm (gw_up τ 0 4 v) (gw_up μ 0 17 v) := by
  obtain ⟨⟨h1, h2⟩, ⟨e1, e2, e3, e4, e5⟩, ⟨i1, i2⟩, L, d1, d2, d3, cl⟩ := R
  refine ⟨⟨h1, h2⟩, ⟨e1, e2, e3, e4, by rw [gw_up_s, gw_up_s]⟩, ⟨fun c hc => ?_, fun s hs => ?_⟩, fun k i hl => ?_, fun c hc hc2 => ⟨?_, ?_, ?_⟩, fun s hs hs2 => ⟨?_, ?_, ?_, ?_, ?_⟩, fun c s hc hs h => ?_, fun c k hc hk => (by rw [gw_up_n (by omega)]; exact cl c k hc hk)⟩
  · rw [gw_up_n (by omega), i1 c hc]
  · rw [gw_up_n (by omega), i2 s hs]
  · have := gm_rng h1 h2 hl
    rw [gw_up_n (by unfold lv at hl; omega), gw_up_n (by omega), L k i hl]
  · rw [gw_up_n (by omega)]; exact (d1 c hc hc2).1
  · rw [gw_up_n (by omega)]; exact (d1 c hc hc2).2.1
  · rw [gw_up_n (by omega)]; exact (d1 c hc hc2).2.2
  · rw [gw_up_n (by omega)]; exact (d2 s hs hs2).1
  · rw [gw_up_n (by omega)]; exact (d2 s hs hs2).2.1
  · rw [gw_up_n (by omega)]; exact (d2 s hs hs2).2.2.1
  · rw [gw_up_n (by omega)]; exact (d2 s hs hs2).2.2.2.1
  · rw [gw_up_n (by omega)]; exact (d2 s hs hs2).2.2.2.2
  · rw [gw_up_n (by omega)]; exact d3 c s hc hs h
/-- the old offers end: on the new day td + 1 -/
def Jex (cm sm td : Nat) (τ μ : gw_S) (c k : Nat) (τ' μ' : gw_S) : Prop :=
  Rl cm sm τ' μ' ∧ Iv cm sm td μ' ∧ Fr cm sm μ' ∧ scr τ τ' ∧ (∀ q, q ≠ 13 → q ≠ 14 → q ≠ 15 → μ' q = μ q) ∧
  (∀ c' s, c' < cm → s < sm → c' < c ∨ (c' = c ∧ s < k) → μ' 15 (16 * c' + s) = -1 ∨ td + 1 ≤ nn (μ' 15 (16 * c' + s)) + 2)
theorem jex_in {τ' μ' : gw_S} {c : Nat} (v0 : Int32) (hd : μ 0 17 = nI (td + 1)) (hc : c < cm) (J : Jex cm sm td τ μ c 0 τ' μ') : ∃ v1 τ2 μ2, (∃ w, gw_it (b_X3_endOldOffers_2 (nI c) (4 + c)) 4096 (v0, (0 : Int32), τ') = some (v1, w, τ2)) ∧ (∃ w, gw_it (b_X4_expires_2 (nI c)) 4096 (v0, (0 : Int32), μ') = some (v1, w, μ2)) ∧ Jex cm sm td τ μ c sm τ2 μ2 := by
  have h20 := J.1.1
  obtain ⟨⟨v1, w, τ2⟩, G, w', μ2, hm, J2⟩ := gw_for (b := b_X3_endOldOffers_2 (nI c) (4 + c)) (s := (v0, (0 : Int32), τ')) (fun k s => s.2.1 = nI k ∧ ∃ μ2, Jex cm sm td τ μ c k s.2.2 μ2 ∧ gw_it (b_X4_expires_2 (nI c)) 4096 (v0, (0 : Int32), μ') = gw_it (b_X4_expires_2 (nI c)) (4096 - k) (s.1, nI k, μ2)) (fun t => ∃ w μ2, gw_it (b_X4_expires_2 (nI c)) 4096 (v0, (0 : Int32), μ') = some (t.1, w, μ2) ∧ Jex cm sm td τ μ c sm t.2.2 μ2) sm (by omega) ⟨rfl, μ', J, rfl⟩ (fun k s hk hI => by
    obtain ⟨v1, v4, τ2⟩ := s
    obtain ⟨e4, μ2, J2, hm⟩ := hI
    have e4 : v4 = nI k := e4
    subst e4
    have hm : gw_it (b_X4_expires_2 (nI c)) 4096 (v0, (0 : Int32), μ') = gw_it (b_X4_expires_2 (nI c)) (4096 - k) (v1, nI k, μ2) := hm
    obtain ⟨R, I, F, S, rw1, pr⟩ : Jex cm sm td τ μ c k τ2 μ2 := J2
    have hday : μ2 0 17 = nI (td + 1) := by rw [rw1 0 (by omega) (by omega) (by omega)]; exact hd
    obtain ⟨τ3, μ3, l1, l2, R3, I3, L3, S3⟩ := lva_pair R I hc hk
    have hC : b_X3_endOldOffers_2 (nI c) (4 + c) (v1, nI k, τ2) = if decide (¬ μ2 15 (16 * c + k) = -1) = true then (if 0 < μ2 15 (16 * c + k) + 3 - nI (td + 1) then some (.inl (v1, nI (k + 1), τ2)) else some (.inl (v1 + 1, nI (k + 1), τ3))) else some (.inl (v1, nI (k + 1), τ2)) := by
      rw [b_X3_endOldOffers_2, r_sm R, if_neg (n_lt hk), c_hasOff R hc hk, bd, f_X3_daysLeft, show 4 + c + 108 = 112 + c from by omega, show gw_len (112 + c) = 16 from by unfold gw_len; rw [if_neg (by omega)], if_pos (ib_ok (by omega)), nI_clamp (by omega), bs, r_off R hc hk, r_day R, hday, days_eq, l1, bs, nI_1]
    have hM : b_X4_expires_2 (nI c) (v1, nI k, μ2) = if decide (¬ μ2 15 (16 * c + k) = -1) = true then (if μ2 15 (16 * c + k) + 3 = nI (td + 1) then some (.inl (v1 + 1, nI (k + 1), μ3)) else some (.inl (v1, nI (k + 1), μ2))) else some (.inl (v1, nI (k + 1), μ2)) := by
      rw [b_X4_expires_2, r_sm' R, if_neg (n_lt hk), m_hasOff R I hc hk, bd, x16, if_pos (ib_ok (by show 16 * c + k < 320; omega) (by decide)), nI_clamp (by omega), hday, l2, bs, nI_1]
    have hadv : ∀ {z : Int32} {μ4 : gw_S}, b_X4_expires_2 (nI c) (v1, nI k, μ2) = some (.inl (z, nI (k + 1), μ4)) → gw_it (b_X4_expires_2 (nI c)) 4096 (v0, (0 : Int32), μ') = gw_it (b_X4_expires_2 (nI c)) (4096 - (k + 1)) (z, nI (k + 1), μ4) := fun h => by
      rw [hm, show 4096 - k = 4096 - (k + 1) + 1 from by omega, gw_it_st h]
    by_cases q1 : μ2 15 (16 * c + k) = -1
    · have q1' : ¬ (decide (¬ μ2 15 (16 * c + k) = -1) = true) := by simp [q1]
      rw [if_neg q1'] at hC hM
      refine ⟨_, hC, rfl, μ2, ⟨R, I, F, S, rw1, fun c' s hc' hs' h => ?_⟩, hadv hM⟩
      by_cases e : c' = c ∧ s = k
      · rw [e.1, e.2]; exact Or.inl q1
      · exact pr c' s hc' hs' (by omega)
    · have q1' : decide (¬ μ2 15 (16 * c + k) = -1) = true := by simp [q1]
      rw [if_pos q1'] at hC hM
      have ho := I.2.2.2.2.2.2.2.1 c k hc hk
      rcases ho with ho | ⟨ho, ho2, -⟩
      · exact absurd ho q1
      · obtain ⟨d, hd1, ed, ed2⟩ := lt_of ho
        have htd := I.1.1
        rw [ed2] at ho2
        rw [ed, show nI d + (3 : Int32) = nI (d + 3) from nI_add d 3] at hC hM
        by_cases q2 : d + 3 = td + 1
        · rw [q2, if_neg (show ¬ (0 : Int32) < nI (td + 1) - nI (td + 1) from by rw [Int32.sub_self]; decide)] at hC
          rw [q2, if_pos rfl] at hM
          refine ⟨_, hC, rfl, μ3, ⟨R3, I3, Fr_lva F hc hk L3, scr_tr S S3, fun q a b e => by rw [L3.1 q a b e, rw1 q a b e], fun c' s hc' hs' h => ?_⟩, hadv hM⟩
          rw [L3.2.1 c' s hc' hs']
          by_cases e : c' = c ∧ s = k
          · rw [if_pos e]; exact Or.inl rfl
          · rw [if_neg e]; exact pr c' s hc' hs' (by omega)
        · rw [pk_sub (by omega), if_pos (show (0 : Int32) < nI (d + 3 - (td + 1)) from nI_lt (a := 0) (by omega) (by omega))] at hC
          rw [if_neg (fun e => q2 (nI_inj e))] at hM
          refine ⟨_, hC, rfl, μ2, ⟨R, I, F, S, rw1, fun c' s hc' hs' h => ?_⟩, hadv hM⟩
          by_cases e : c' = c ∧ s = k
          · rw [e.1, e.2, ed2]; exact Or.inr (by omega)
          · exact pr c' s hc' hs' (by omega)) (fun s hI => by
    obtain ⟨v1, v4, τ2⟩ := s
    obtain ⟨e4, μ2, J2, hm⟩ := hI
    have e4 : v4 = nI sm := e4
    subst e4
    have J2 : Jex cm sm td τ μ c sm τ2 μ2 := J2
    refine ⟨(v1, nI sm, τ2), ?_, nI sm, μ2, ?_, J2⟩
    · rw [b_X3_endOldOffers_2, r_sm J2.1, if_pos (n_le (Nat.le_refl _))]
    · rw [hm, show 4096 - sm = 4096 - sm - 1 + 1 from by omega, gw_it_en]
      show b_X4_expires_2 (nI c) (v1, nI sm, μ2) = _
      rw [b_X4_expires_2, r_sm' J2.1, if_pos (n_le (Nat.le_refl _))])
  exact ⟨v1, τ2, μ2, ⟨w, G⟩, ⟨w', hm⟩, J2⟩
theorem exp_pair (hd : μ 0 17 = nI (td + 1)) (htd : td + 1 ≤ 4000) (R : Rl cm sm τ μ) (I : Iv cm sm td μ) (F : Fr cm sm μ) : ∃ v τ' μ', f_X3_endOldOffers τ = some (v, τ') ∧ f_X4_expires μ = some (v, μ') ∧ Rl cm sm τ' μ' ∧ Iv cm sm (td + 1) μ' ∧ Fr cm sm μ' ∧ scr τ τ' ∧ μ' 0 = μ 0 := by
  have h20 := R.1
  obtain ⟨⟨v1, w, τ2⟩, G, w', μ2, hm, J2⟩ := gw_for (b := b_X3_endOldOffers_1) (s := ((0 : Int32), (0 : Int32), τ)) (fun k s => s.2.1 = nI k ∧ ∃ μ2, Jex cm sm td τ μ k 0 s.2.2 μ2 ∧ gw_it b_X4_expires_1 4096 ((0 : Int32), (0 : Int32), μ) = gw_it b_X4_expires_1 (4096 - k) (s.1, nI k, μ2)) (fun t => ∃ w μ2, gw_it b_X4_expires_1 4096 ((0 : Int32), (0 : Int32), μ) = some (t.1, w, μ2) ∧ Jex cm sm td τ μ cm 0 t.2.2 μ2) cm (by omega) ⟨rfl, μ, ⟨R, I, F, scr_rf τ, fun _ _ _ _ => rfl, fun c' s _ _ h => by omega⟩, rfl⟩ (fun k s hk hI => by
    obtain ⟨v1, v2, τ2⟩ := s
    obtain ⟨e4, μ2, J2, hm⟩ := hI
    have e4 : v2 = nI k := e4
    subst e4
    have hm : gw_it b_X4_expires_1 4096 ((0 : Int32), (0 : Int32), μ) = gw_it b_X4_expires_1 (4096 - k) (v1, nI k, μ2) := hm
    have J2 : Jex cm sm td τ μ k 0 τ2 μ2 := J2
    obtain ⟨v3, τ3, μ3, ⟨w, g1⟩, ⟨w', g2⟩, J3⟩ := jex_in v1 hd hk J2
    refine ⟨(v3, nI (k + 1), τ3), ?_, rfl, μ3, ⟨J3.1, J3.2.1, J3.2.2.1, J3.2.2.2.1, J3.2.2.2.2.1, fun c' s a b h => J3.2.2.2.2.2 c' s a b (by omega)⟩, ?_⟩
    · rw [b_X3_endOldOffers_1, r_cm J2.1, if_neg (n_lt hk), if_pos (ib_ok (by omega)), nI_clamp (by omega), nI_1]
      exact it_bd g1 rfl
    · rw [hm, show 4096 - k = 4096 - (k + 1) + 1 from by omega, gw_it_st]
      rw [b_X4_expires_1, r_cm' J2.1, if_neg (n_lt hk), nI_1]
      exact it_bd g2 rfl) (fun s hI => by
    obtain ⟨v1, v2, τ2⟩ := s
    obtain ⟨e4, μ2, J2, hm⟩ := hI
    have e4 : v2 = nI cm := e4
    subst e4
    have J2 : Jex cm sm td τ μ cm 0 τ2 μ2 := J2
    refine ⟨(v1, nI cm, τ2), ?_, nI cm, μ2, ?_, J2⟩
    · rw [b_X3_endOldOffers_1, r_cm J2.1, if_pos (n_le (Nat.le_refl _))]
    · rw [hm, show 4096 - cm = 4096 - cm - 1 + 1 from by omega, gw_it_en]
      show b_X4_expires_1 (v1, nI cm, μ2) = _
      rw [b_X4_expires_1, r_cm' J2.1, if_pos (n_le (Nat.le_refl _))])
  obtain ⟨R2, I2, F2, S2, rw2, pr⟩ := J2
  refine ⟨v1, τ2, μ2, it_bd G rfl, it_bd hm rfl, R2, ?_, F2, S2, rw2 0 (by omega) (by omega) (by omega)⟩
  obtain ⟨w1, w3, w4, w5, w6, w7, w8, w9, w10, w11⟩ := I2
  refine ⟨⟨htd, Or.inl (by rw [rw2 0 (by omega) (by omega) (by omega)]; exact hd)⟩, w3, w4, w5, w6, w7, w8, fun c s hc hs => ?_, w10, w11⟩
  rcases w9 c s hc hs with h | ⟨h1, h2, h3⟩
  · exact Or.inl h
  · rcases pr c s hc hs (Or.inl hc) with h | h
    · exact Or.inl h
    · exact Or.inr ⟨lt_mono h1 (by omega), h, h3⟩
theorem op_advance {j : Nat} {τ μ : gw_S} (h : Inv j τ μ) (hj : j < 512) (a1 : Int32) : ∃ r q, f_X3_advance τ a1 = some r ∧ f_X4_advance μ a1 = some q ∧ (∀ e, r.1 = .inr e → e = "java/lang/IllegalArgumentException") ∧ q.2 0 18 = lw_k ["java/lang/IllegalArgumentException"] r.1 ∧ (∀ v, r.1 = .inl v → v = q.1) ∧ Inv (j + 1) r.2 q.2 := by
  unfold f_X3_advance f_X4_advance f_X3_isOutside
  by_cases q1 : a1 < 1
  · rw [if_pos q1, if_pos q1, bs, if_neg n10]
    have hle : a1 ≤ 0 := by
      rw [fa_lt] at q1
      rw [fa_le]
      have : (1 : Int32).toInt = 1 := rfl
      have : (0 : Int32).toInt = 0 := rfl
      omega
    have G : gw_it (b_X4_advance_1 a1) 4096 ((0 : Int32), (0 : Int32), gw_up μ 0 18 1) = some ((0 : Int32), (0 : Int32), gw_up μ 0 18 1) := by
      refine gw_it_en (m := 4095) ?_
      rw [b_X4_advance_1, if_pos hle]
    rw [it_bd G rfl]
    exact wr_ex h rfl rfl rfl (by decide +kernel)
  · rw [if_neg q1, if_neg q1]
    have hpos : ¬ a1 ≤ 0 := by
      rw [fa_lt] at q1
      rw [fa_le]
      have : (1 : Int32).toInt = 1 := rfl
      have : (0 : Int32).toInt = 0 := rfl
      omega
    by_cases q2 : a1 ≤ 7
    · rw [if_pos q2, if_pos q2, bs, if_pos (show (0 : Int32) = 0 from rfl)]
      obtain ⟨n, hn, rfl⟩ := nI_of2 (M := 7) (n := 7) (by decide) (fun h5 => hpos (fa_of_lt h5).1) q2
      obtain ⟨cm, sm, td, h7, hd, R, I, F, B⟩ := h
      obtain ⟨⟨v2, w, τ2⟩, G, w', μ2, hm, hI⟩ := gw_for (b := b_X3_advance_1 (nI n)) (s := ((0 : Int32), (0 : Int32), τ)) (fun k s => s.2.1 = nI k ∧ ∃ μ2, (μ2 0 17 = nI (td + k) ∧ μ2 0 18 = 0 ∧ Rl cm sm s.2.2 μ2 ∧ Iv cm sm (td + k) μ2 ∧ Fr cm sm μ2 ∧ Sb cm sm μ2) ∧ gw_it (b_X4_advance_1 (nI n)) 4096 ((0 : Int32), (0 : Int32), gw_up μ 0 18 0) = gw_it (b_X4_advance_1 (nI n)) (4096 - k) (s.1, nI k, μ2)) (fun t => ∃ w μ2, gw_it (b_X4_advance_1 (nI n)) 4096 ((0 : Int32), (0 : Int32), gw_up μ 0 18 0) = some (t.1, w, μ2) ∧ μ2 0 17 = nI (td + n) ∧ μ2 0 18 = 0 ∧ Rl cm sm t.2.2 μ2 ∧ Iv cm sm (td + n) μ2 ∧ Fr cm sm μ2 ∧ Sb cm sm μ2) n (by omega) ⟨rfl, gw_up μ 0 18 0, ⟨hd, rfl, Rl_sim R (simT_rf _) (simM_18 _ _), Iv_sim I (simM_18 _ _), Fr_sim F (simM_18 _ _), Sb_sim B (simM_18 _ _)⟩, rfl⟩ (fun k s hk hI => by
        obtain ⟨v2, v3, τ2⟩ := s
        obtain ⟨e4, μ2, ⟨d1, d2, R2, I2, F2, B2⟩, hm⟩ := hI
        have e4 : v3 = nI k := e4
        subst e4
        have R2 : Rl cm sm τ2 μ2 := R2
        have hm : gw_it (b_X4_advance_1 (nI n)) 4096 ((0 : Int32), (0 : Int32), gw_up μ 0 18 0) = gw_it (b_X4_advance_1 (nI n)) (4096 - k) (v2, nI k, μ2) := hm
        have hI2 : Iv cm sm (td + k) (gw_up μ2 0 17 (nI (td + k + 1))) := by
          obtain ⟨w1, w3⟩ := I2
          exact ⟨⟨w1.1, Or.inr (gw_up_s _ _ _ _)⟩, w3⟩
        obtain ⟨v, τ3, μ3, x1, x2, R3, I3, F3, S3, r3⟩ := exp_pair (μ := gw_up μ2 0 17 (nI (td + k + 1))) (gw_up_s _ _ _ _) (by omega) (Rl_day R2 (nI (td + k + 1))) hI2 (Fr_rows (μ := μ2) F2 rfl rfl rfl)
        obtain ⟨τ4, μ4, y1, y2, R4, I4, F4, B4, S4, rw4, -⟩ := offers_pair (by rw [r3, gw_up_s]) R3 I3 F3
        refine ⟨(v2 + v, nI (k + 1), τ4), ?_, rfl, μ4, ⟨by rw [rw4 0 (by omega), r3, gw_up_s]; rfl, by rw [rw4 0 (by omega), r3]; exact d2, R4, I4, F4, B4⟩, ?_⟩
        · rw [b_X3_advance_1, if_neg (n_lt hk (by omega)), r_day R2, d1, nI_1, x1, bs, y1, bs, nI_1]
        · rw [hm, show 4096 - k = 4096 - (k + 1) + 1 from by omega, gw_it_st]
          rw [b_X4_advance_1, if_neg (n_lt hk (by omega)), if_pos d2, d1, nI_1, x2, bs, y2, bs, nI_1]) (fun s hI => by
        obtain ⟨v2, v3, τ2⟩ := s
        obtain ⟨e4, μ2, J2, hm⟩ := hI
        have e4 : v3 = nI n := e4
        subst e4
        refine ⟨(v2, nI n, τ2), ?_, nI n, μ2, ?_, J2⟩
        · rw [b_X3_advance_1, if_pos (n_le (Nat.le_refl _) (by omega))]
        · rw [hm, show 4096 - n = 4096 - n - 1 + 1 from by omega, gw_it_en]
          show b_X4_advance_1 (nI n) (v2, nI n, μ2) = _
          rw [b_X4_advance_1, if_pos (n_le (Nat.le_refl _) (by omega))])
      rw [it_bd G rfl, it_bd hm rfl]
      exact wr_ok rfl rfl hI.2.1 ⟨cm, sm, td + n, by omega, hI.1, hI.2.2.1, hI.2.2.2.1, hI.2.2.2.2.1, hI.2.2.2.2.2⟩
    · rw [if_neg q2, if_neg q2, bs, if_neg n10]
      have G : gw_it (b_X4_advance_1 a1) 4096 ((0 : Int32), (0 : Int32), gw_up μ 0 18 1) = some ((0 : Int32), (0 : Int32), gw_up μ 0 18 1) := by
        refine gw_it_en (m := 4095) ?_
        rw [b_X4_advance_1, if_neg hpos, gw_up_s, if_neg n10]
      rw [it_bd G rfl]
      exact wr_ex h rfl rfl rfl (by decide +kernel)
end adv
