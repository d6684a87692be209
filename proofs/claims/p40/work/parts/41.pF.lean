section of
variable {cm sm td : Nat} {τ μ : gw_S}
theorem c_size (τ : gw_S) (a : Nat) : f_X1_size τ a = some (τ a 1) := rfl
theorem gw_it_st {S T : Type} {f : S → Option (S ⊕ T)} {m : Nat} {s s' : S} (h : f s = some (.inl s')) : gw_it f (m + 1) s = gw_it f m s' := by rw [gw_it, h]
theorem gw_it_en {S T : Type} {f : S → Option (S ⊕ T)} {m : Nat} {s : S} {t : T} (h : f s = some (.inr t)) : gw_it f (m + 1) s = some t := by rw [gw_it, h]
theorem noob_row {μ' : gw_S} (h2 : μ' 2 = μ 2) (h3 : μ' 3 = μ 3) (h4 : μ' 4 = μ 4) (h6 : μ' 6 = μ 6) (h7 : μ' 7 = μ 7) {s c : Nat} {x : Int32} : noob cm μ' s c x ↔ noob cm μ s c x := by
  unfold noob
  rw [h3, h4, h6, h7, wsum_sim h2, h2]
theorem c_at1 {a n k : Nat} (h1 : τ a 1 = nI n) (h2 : n ≤ gw_len (a + 36)) (hk : k < n) : f_X1_at τ a (nI k) = some (τ (a + 36) k) := by
  have hg : gw_len (a + 36) ≤ 16 := by unfold gw_len; split <;> omega
  unfold f_X1_at
  rw [h1, if_neg (nI_pos (by omega)), if_pos (nI_lt hk (by omega)), if_pos (ib_ok (by omega) (by omega)), nI_clamp (by omega)]
/-- the offers of course c: after k of the list -/
def Joc (cm sm td : Nat) (τ μ : gw_S) (c k : Nat) (τ' μ' : gw_S) : Prop :=
  Rl cm sm τ' μ' ∧ Iv cm sm td μ' ∧ Fr cm sm μ' ∧ scr τ τ' ∧ (∀ j, j ≠ 15 → μ' j = μ j) ∧
  (∀ c' s, c' < cm → c' ≠ c → s < sm → μ' 15 (16 * c' + s) = μ 15 (16 * c' + s)) ∧
  (∀ i s, i < k → s < sm → μ 14 (16 * c + i) = nI s → μ' 15 (16 * c + s) = -1 → enr μ' sm c + ofc μ' sm c < nn (μ' 1 c) → ¬ noob cm μ s c (μ 8 s)) ∧
  (Sb cm sm μ → μ' = μ)
theorem joc_step {τ' μ' : gw_S} {c k n : Nat} (hd0 : μ 0 17 = nI td) (hc : c < cm) (hn : μ 13 c = nI n) (hn17 : n < 17) (hk : k < n) (J : Joc cm sm td τ μ c k τ' μ') : ∃ τ2 μ2, Joc cm sm td τ μ c (k + 1) τ2 μ2 ∧ b_X4_offers_2 (nI c) (nI k, μ') = some (.inl (nI (k + 1), μ2)) ∧ (¬ fr μ' sm c ≤ 0 → b_X3_makeOffersFor_1 (4 + c) (fr μ' sm c, nI k, τ') = some (.inl (fr μ2 sm c, nI (k + 1), τ2))) ∧ (fr μ' sm c ≤ 0 → τ2 = τ' ∧ μ2 = μ') := by
  obtain ⟨R, I, F, S, rw1, rw2, pr, st⟩ := J
  have h20 := R.1
  have hn' : μ' 13 c = nI n := by rw [rw1 13 (by omega)]; exact hn
  have hnn : nn (μ' 13 c) = n := by rw [hn', n_cl]
  obtain ⟨s, hs, es, -⟩ := lt_of (I.2.2.2.2.2.1 c k hc (by rw [hnn]; exact hk))
  have es0 : μ 14 (16 * c + k) = nI s := by rw [← rw1 14 (by omega)]; exact es
  have hnb : ∀ {t : Nat} {x : Int32}, noob cm μ' t c x ↔ noob cm μ t c x := fun {t x} => noob_row (rw1 2 (by omega)) (rw1 3 (by omega)) (rw1 4 (by omega)) (rw1 6 (by omega)) (rw1 7 (by omega))
  obtain ⟨v, o1, o2, o3⟩ := obst R I hs hc (μ' 8 s)
  have hgl : gw_len (76 + c) = 16 := by unfold gw_len; rw [if_neg (by omega)]
  have hw : τ' (40 + c) 1 = nI n := by rw [r_wct R hc, hn']
  have hM : b_X4_offers_2 (nI c) (nI k, μ') = if decide (¬ μ' 15 (16 * c + s) = -1) = true then some (.inl (nI (k + 1), μ')) else if fr μ' sm c ≤ 0 then some (.inl (nI (k + 1), μ')) else if v = 0 then some (.inl (nI (k + 1), gw_up μ' 15 (16 * c + s) (μ' 0 17))) else some (.inl (nI (k + 1), μ')) := by
    show (if gw_ib (nI c) 20 = true then _ else _) = _
    rw [if_pos (ib_ok (by omega)), nI_clamp (n := c) (by omega), hn', if_neg (n_lt hk (by omega)), x16, if_pos (ib_ok (by show 16 * c + k < 320; omega) (by decide)), nI_clamp (n := 16 * c + k) (by omega), es, m_hasOff R I hc hs, bd, m_fr R I hc, bs, if_pos (ib_ok (by show s < 16; omega) (by decide)), nI_clamp (n := s) (by omega), o2, bs, x16, if_pos (ib_ok (by show 16 * c + s < 320; omega) (by decide)), nI_clamp (n := 16 * c + s) (by omega), nI_1]
  have hC : ¬ fr μ' sm c ≤ 0 → b_X3_makeOffersFor_1 (4 + c) (fr μ' sm c, nI k, τ') = if decide (¬ μ' 15 (16 * c + s) = -1) = true then some (.inl (fr μ' sm c, nI (k + 1), τ')) else if v = 0 then some (.inl (fr μ' sm c + (-1), nI (k + 1), gw_up τ' (112 + c) s (μ' 0 17))) else some (.inl (fr μ' sm c, nI (k + 1), τ')) := by
    intro hf
    rw [b_X3_makeOffersFor_1]
    rw [show 4 + c + 36 = 40 + c from by omega, c_size, bs, hw, if_neg (n_lt hk (by omega)), if_neg hf, c_at1 hw (by rw [show 40 + c + 36 = 76 + c from by omega, hgl]; omega) hk, bs, show 40 + c + 36 = 76 + c from by omega, r_wai R (by omega) (by omega), es, s_at R hs, bs]
    show (f_X0_hasOfferFor τ' (4 + c) (τ' (24 + s) 0)).bind _ = _
    rw [r_si R hs, c_hasOff R hc hs, bd, r_tak R hs, o1, bs, show 4 + c + 108 = 112 + c from by omega, show gw_len (112 + c) = 16 from by unfold gw_len; rw [if_neg (by omega)], if_pos (ib_ok (by omega)), nI_clamp (n := s) (by omega), r_day R, nI_1]
  rw [hM]
  by_cases q1 : μ' 15 (16 * c + s) = -1
  · have q1' : ¬ (decide (¬ μ' 15 (16 * c + s) = -1) = true) := by simp [q1]
    rw [if_neg q1']
    by_cases q2 : fr μ' sm c ≤ 0
    · rw [if_pos q2]
      refine ⟨τ', μ', ⟨R, I, F, S, rw1, rw2, fun i t hi ht h1 h2 h3 => ?_, st⟩, rfl, fun h => absurd q2 h, fun _ => ⟨rfl, rfl⟩⟩
      have := (fr_le I F hc).mp q2
      omega
    · rw [if_neg q2]
      by_cases q3 : v = 0
      · rw [if_pos q3]
        have hroom : enr μ' sm c + ofc μ' sm c < nn (μ' 1 c) := by
          rcases Nat.lt_or_ge (enr μ' sm c + ofc μ' sm c) (nn (μ' 1 c)) with h | h
          · exact h
          · exact absurd ((fr_le I F hc).mpr h) q2
        have e15 : ∀ c' t, c' < cm → t < sm → gw_up μ' 15 (16 * c + s) (μ' 0 17) 15 (16 * c' + t) = if c' = c ∧ t = s then μ' 0 17 else μ' 15 (16 * c' + t) := fun c' t hc' ht => by
          by_cases e : c' = c ∧ t = s
          · obtain ⟨rfl, rfl⟩ := e; rw [gw_up_s, if_pos ⟨rfl, rfl⟩]
          · rw [gw_up_n (by omega), if_neg e]
        have hd : μ' 0 17 = nI td := by rw [rw1 0 (by omega)]; exact hd0
        have htd := I.1.1
        have hofc : ∀ c', c' < cm → ofc (gw_up μ' 15 (16 * c + s) (μ' 0 17)) sm c' = ofc μ' sm c' + if c' = c then 1 else 0 := fun c' hc' => by
          by_cases e : c' = c
          · subst e
            have := ofc_set (μ := μ') (μ' := gw_up μ' 15 (16 * c' + s) (μ' 0 17)) (v := μ' 0 17) hs (fun t ht => by rw [e15 c' t hc' ht]; by_cases e : t = s <;> simp [e])
            rw [q1, hd] at this
            rw [if_pos rfl, hd]
            simp [b1, ne_m1 (show td < 2 ^ 30 by omega)] at this
            exact this
          · rw [if_neg e, Nat.add_zero]
            exact ofc_same (fun t ht => by rw [e15 c' t hc' ht, if_neg (fun h => e h.1)])
        have henr : ∀ c', enr (gw_up μ' 15 (16 * c + s) (μ' 0 17)) sm c' = enr μ' sm c' := fun c' => enr_same (gw_up_rown (by omega)) c'
        have hrow : ∀ j, j ≠ 15 → gw_up μ' 15 (16 * c + s) (μ' 0 17) j = μ' j := fun j hj => gw_up_rown hj
        have hfr : fr (gw_up μ' 15 (16 * c + s) (μ' 0 17)) sm c = fr μ' sm c + (-1) := by
          unfold fr
          rw [henr, hofc c hc, if_pos rfl, hrow 1 (by omega), ← Nat.add_assoc, ← sub_1, Int32.sub_eq_add_neg (b := 1)]
        refine ⟨gw_up τ' (112 + c) s (μ' 0 17), gw_up μ' 15 (16 * c + s) (μ' 0 17), ⟨Rl_uoff R _ hc hs, ?_, fun c' hc' => ?_, scr_tr S (fun k i h => by rw [gw_up_n (by omega)]), fun j hj => by rw [hrow j hj, rw1 j hj], fun c' t hc' hne ht => by rw [e15 c' t hc' ht, if_neg (fun h => hne h.1), rw2 c' t hc' hne ht], fun i t hi ht h1 h2 h3 => ?_, fun hS => ?_⟩, rfl, fun hf => ?_, fun h => absurd h q2⟩
        · obtain ⟨⟨v1, v2⟩, v3, v4, v5, v6, v7, v8, v9, v10, v11⟩ := I
          refine ⟨⟨v1, v2⟩, v3, v4, v5, v6, v7, v8, fun c' t hc' ht => ?_, v10, v11⟩
          rw [e15 c' t hc' ht]
          by_cases e : c' = c ∧ t = s
          · obtain ⟨rfl, rfl⟩ := e
            rw [if_pos ⟨rfl, rfl⟩, hd]
            exact Or.inr ⟨lt_mk (by omega), by rw [n_cl]; omega, ⟨k, by rw [show nn (gw_up μ' 15 (16 * c' + t) (nI td) 13 c') = nn (μ' 13 c') from rfl, hnn]; exact hk, es⟩⟩
          · rw [if_neg e]; exact v9 c' t hc' ht
        · rw [henr, hofc c' hc', hrow 1 (by omega)]
          have := F c' hc'
          by_cases e : c' = c
          · subst e; rw [if_pos rfl]; omega
          · rw [if_neg e]; omega
        · rw [henr, hofc c hc, if_pos rfl, hrow 1 (by omega)] at h3
          rw [e15 c t hc ht] at h2
          by_cases e : t = s
          · subst e
            rw [if_pos ⟨rfl, rfl⟩, hd] at h2
            exact absurd h2 (ne_m1 (by omega))
          · rw [if_neg (fun h => e h.2)] at h2
            rcases Nat.lt_or_ge i k with h4 | h4
            · exact pr i t h4 ht h1 h2 (by omega)
            · rw [show i = k from by omega, es0] at h1
              exact absurd (nI_inj h1).symm e
        · exfalso
          have e : μ' = μ := st hS
          rw [e] at hroom q1 es hn' hnn o3
          exact hS c s hc hs ⟨k, by rw [hnn]; exact hk, es⟩ q1 hroom (o3.mp q3)
        · rw [hC hf, if_neg q1', if_pos q3, hfr]
      · rw [if_neg q3]
        refine ⟨τ', μ', ⟨R, I, F, S, rw1, rw2, fun i t hi ht h1 h2 h3 => ?_, st⟩, rfl, fun hf => by rw [hC hf, if_neg q1', if_neg q3], fun _ => ⟨rfl, rfl⟩⟩
        rcases Nat.lt_or_ge i k with h4 | h4
        · exact pr i t h4 ht h1 h2 h3
        · rw [show i = k from by omega, es0] at h1
          have := nI_inj h1
          subst this
          rw [rw1 8 (by omega)] at o3
          exact fun h => q3 (o3.mpr (hnb.mpr h))
  · have q1' : decide (¬ μ' 15 (16 * c + s) = -1) = true := by simp [q1]
    rw [if_pos q1']
    refine ⟨τ', μ', ⟨R, I, F, S, rw1, rw2, fun i t hi ht h1 h2 h3 => ?_, st⟩, rfl, fun hf => by rw [hC hf, if_pos q1'], fun _ => ⟨rfl, rfl⟩⟩
    rcases Nat.lt_or_ge i k with h4 | h4
    · exact pr i t h4 ht h1 h2 h3
    · rw [show i = k from by omega, es0] at h1
      have := nI_inj h1
      subst this
      exact absurd h2 q1
theorem joc_all (hd0 : μ 0 17 = nI td) (R : Rl cm sm τ μ) (I : Iv cm sm td μ) (F : Fr cm sm μ) {c : Nat} (hc : c < cm) : ∃ τ' μ', f_X3_makeOffersFor τ (4 + c) = some τ' ∧ (∃ w, gw_it (b_X4_offers_2 (nI c)) 4096 ((0 : Int32), μ) = some (w, μ')) ∧ Joc cm sm td τ μ c (nn (μ 13 c)) τ' μ' := by
  have h20 := R.1
  obtain ⟨n, hn17, hn, hnn⟩ := lt_of (I.2.1 c hc).2.2.1
  rw [hnn]
  have J0 : Joc cm sm td τ μ c 0 τ μ := ⟨R, I, F, scr_rf τ, fun _ _ => rfl, fun _ _ _ _ _ => rfl, fun i _ hi => absurd hi (Nat.not_lt_zero i), fun _ => rfl⟩
  have hend : ∀ τ' μ', Joc cm sm td τ μ c n τ' μ' → b_X4_offers_2 (nI c) (nI n, μ') = some (.inr (nI n, μ')) := fun τ' μ' J => by
    show (if gw_ib (nI c) 20 = true then _ else _) = _
    rw [if_pos (ib_ok (by omega)), nI_clamp (n := c) (by omega), J.2.2.2.2.1 13 (by omega), hn, if_pos (n_le (Nat.le_refl _) (by omega))]
  have hstay : ∀ (d k : Nat) (τ' μ' : gw_S), k + d = n → Joc cm sm td τ μ c k τ' μ' → fr μ' sm c ≤ 0 → gw_it (b_X4_offers_2 (nI c)) (4096 - k) (nI k, μ') = some (nI n, μ') ∧ Joc cm sm td τ μ c n τ' μ' := by
    intro d
    induction d with
    | zero =>
      intro k τ' μ' e J hf
      have : k = n := by omega
      subst this
      refine ⟨?_, J⟩
      rw [show 4096 - k = 4096 - k - 1 + 1 from by omega, gw_it_en (hend _ _ J)]
    | succ d ih =>
      intro k τ' μ' e J hf
      obtain ⟨τ2, μ2, J2, m1, -, m3⟩ := joc_step hd0 hc hn hn17 (by omega) J
      obtain ⟨rfl, rfl⟩ := m3 hf
      obtain ⟨a, b⟩ := ih (k + 1) _ _ (by omega) J2 hf
      refine ⟨?_, b⟩
      rw [show 4096 - k = 4096 - (k + 1) + 1 from by omega, gw_it_st m1, a]
  obtain ⟨t, G, μ', ⟨w, hm⟩, J⟩ := gw_run0 (b := b_X3_makeOffersFor_1 (4 + c)) (s := (fr μ sm c, (0 : Int32), τ)) (fun k s => k ≤ n ∧ s.2.1 = nI k ∧ ∃ μ', s.1 = fr μ' sm c ∧ Joc cm sm td τ μ c k s.2.2 μ' ∧ gw_it (b_X4_offers_2 (nI c)) 4096 ((0 : Int32), μ) = gw_it (b_X4_offers_2 (nI c)) (4096 - k) (nI k, μ')) (fun t => ∃ μ', (∃ w, gw_it (b_X4_offers_2 (nI c)) 4096 ((0 : Int32), μ) = some (w, μ')) ∧ Joc cm sm td τ μ c n t.2.2 μ') n (by omega) ⟨Nat.zero_le _, rfl, μ, rfl, J0, rfl⟩ (fun k s hk hI => by
    obtain ⟨v2, v3, τ'⟩ := s
    obtain ⟨hkn, e3, μ', e2, J, hm⟩ := hI
    have e3 : v3 = nI k := e3
    have e2 : v2 = fr μ' sm c := e2
    subst e3 e2
    have J : Joc cm sm td τ μ c k τ' μ' := J
    have hw : τ' (40 + c) 1 = nI n := by rw [r_wct J.1 hc, J.2.2.2.2.1 13 (by omega), hn]
    rcases Nat.lt_or_ge k n with h | h
    · by_cases hf : fr μ' sm c ≤ 0
      · obtain ⟨a, b⟩ := hstay (n - k) k τ' μ' (by omega) J hf
        refine Or.inl ⟨(fr μ' sm c, nI k, τ'), ?_, μ', ⟨nI n, hm.trans a⟩, b⟩
        rw [b_X3_makeOffersFor_1]
        rw [show 4 + c + 36 = 40 + c from by omega, c_size, bs, hw, if_neg (n_lt h (by omega)), if_pos hf]
      · obtain ⟨τ2, μ2, J2, m1, m2, -⟩ := joc_step hd0 hc hn hn17 h J
        refine Or.inr ⟨h, _, m2 hf, by omega, rfl, μ2, rfl, J2, ?_⟩
        rw [hm, show 4096 - k = 4096 - (k + 1) + 1 from by omega, gw_it_st m1]
    · have : k = n := by omega
      subst this
      refine Or.inl ⟨(fr μ' sm c, nI k, τ'), ?_, μ', ⟨nI k, ?_⟩, J⟩
      · rw [b_X3_makeOffersFor_1]
        rw [show 4 + c + 36 = 40 + c from by omega, c_size, bs, hw, if_pos (n_le (Nat.le_refl _) (by omega))]
      · rw [hm, show 4096 - k = 4096 - k - 1 + 1 from by omega, gw_it_en (hend _ _ J)])
  refine ⟨t.2.2, μ', ?_, ⟨w, hm⟩, J⟩
  unfold f_X3_makeOffersFor
  rw [c_fr R hc, bs]
  exact it_bd G rfl
/-- all offers: after the courses below k -/
def Jof (cm sm td : Nat) (τ μ : gw_S) (k : Nat) (τ' μ' : gw_S) : Prop :=
  Rl cm sm τ' μ' ∧ Iv cm sm td μ' ∧ Fr cm sm μ' ∧ scr τ τ' ∧ (∀ j, j ≠ 15 → μ' j = μ j) ∧
  (∀ c s, c < k → s < sm → onl μ' c s → μ' 15 (16 * c + s) = -1 → enr μ' sm c + ofc μ' sm c < nn (μ' 1 c) → ¬ noob cm μ' s c (μ' 8 s)) ∧
  (Sb cm sm μ → μ' = μ)
theorem offers_pair (hd0 : μ 0 17 = nI td) (R : Rl cm sm τ μ) (I : Iv cm sm td μ) (F : Fr cm sm μ) : ∃ τ' μ', f_X3_makeOffers τ = some τ' ∧ f_X4_offers μ = some μ' ∧ Rl cm sm τ' μ' ∧ Iv cm sm td μ' ∧ Fr cm sm μ' ∧ Sb cm sm μ' ∧ scr τ τ' ∧ (∀ j, j ≠ 15 → μ' j = μ j) ∧ (Sb cm sm μ → μ' = μ) := by
  have h20 := R.1
  obtain ⟨t, G, μ', ⟨w, hm⟩, J⟩ := gw_for (b := b_X3_makeOffers_1) (s := ((0 : Int32), τ)) (fun k s => s.1 = nI k ∧ ∃ μ', Jof cm sm td τ μ k s.2 μ' ∧ gw_it b_X4_offers_1 4096 ((0 : Int32), μ) = gw_it b_X4_offers_1 (4096 - k) (nI k, μ')) (fun t => ∃ μ', (∃ w, gw_it b_X4_offers_1 4096 ((0 : Int32), μ) = some (w, μ')) ∧ Jof cm sm td τ μ cm t.2 μ') cm (by omega) ⟨rfl, μ, ⟨R, I, F, scr_rf τ, fun _ _ => rfl, fun i _ hi => absurd hi (Nat.not_lt_zero i), fun _ => rfl⟩, rfl⟩ (fun k s hk hI => by
    obtain ⟨v1, τ'⟩ := s
    obtain ⟨e1, μ', ⟨R', I', F', S', rw1, pr, st⟩, hm⟩ := hI
    have e1 : v1 = nI k := e1
    subst e1
    have R' : Rl cm sm τ' μ' := R'
    have S' : scr τ τ' := S'
    obtain ⟨τ2, μ2, m1, ⟨w, m2⟩, R2, I2, F2, S2, rw2, o2, pr2, st2⟩ := joc_all (by rw [rw1 0 (by omega)]; exact hd0) R' I' F' hk
    refine ⟨(nI (k + 1), τ2), ?_, rfl, μ2, ⟨R2, I2, F2, scr_tr S' S2, fun j hj => by rw [rw2 j hj, rw1 j hj], fun c s hc hs h1 h2 h3 h4 => ?_, fun hS => ?_⟩, ?_⟩
    · show (if τ' 0 2 ≤ nI k then _ else _) = _
      rw [r_cm R', if_neg (n_lt hk), if_pos (ib_ok (by omega)), nI_clamp (by omega), m1, bs, nI_1]
    · have hnb := (noob_row (cm := cm) (s := s) (c := c) (x := μ2 8 s) (rw2 2 (by omega)) (rw2 3 (by omega)) (rw2 4 (by omega)) (rw2 6 (by omega)) (rw2 7 (by omega))).mp h4
      rw [rw2 8 (by omega)] at hnb
      unfold onl at h1
      rw [rw2 13 (by omega), rw2 14 (by omega)] at h1
      rcases Nat.lt_or_ge c k with h5 | h5
      · rw [o2 c s (by omega) (by omega) hs] at h2
        rw [enr_same (rw2 8 (by omega)), ofc_same (fun t ht => o2 c t (by omega) (by omega) ht), rw2 1 (by omega)] at h3
        exact pr c s h5 hs h1 h2 h3 hnb
      · have : c = k := by omega
        subst this
        obtain ⟨i, hi, hi2⟩ := h1
        exact pr2 i s hi hs hi2 h2 h3 hnb
    · have e := st hS
      rw [st2 (by rw [e]; exact hS), e]
    · rw [hm, show 4096 - k = 4096 - (k + 1) + 1 from by omega, gw_it_st]
      show (if μ' 0 0 ≤ nI k then _ else _) = _
      rw [r_cm' R', if_neg (n_lt hk), nI_1]
      exact it_bd m2 rfl) (fun s hI => by
    obtain ⟨v1, τ'⟩ := s
    obtain ⟨e1, μ', J, hm⟩ := hI
    have e1 : v1 = nI cm := e1
    subst e1
    have J : Jof cm sm td τ μ cm τ' μ' := J
    refine ⟨(nI cm, τ'), ?_, μ', ⟨nI cm, ?_⟩, J⟩
    · show (if τ' 0 2 ≤ nI cm then _ else _) = _
      rw [r_cm J.1, if_pos (n_le (Nat.le_refl _))]
    · rw [hm, show 4096 - cm = 4096 - cm - 1 + 1 from by omega, gw_it_en]
      show (if μ' 0 0 ≤ nI cm then _ else _) = _
      rw [r_cm' J.1, if_pos (n_le (Nat.le_refl _))])
  refine ⟨t.2, μ', it_bd G rfl, it_bd hm rfl, J.1, J.2.1, J.2.2.1, fun c s hc hs h1 h2 h3 => J.2.2.2.2.2.1 c s hc hs h1 h2 h3, J.2.2.2.1, J.2.2.2.2.1, J.2.2.2.2.2.2⟩
end of
