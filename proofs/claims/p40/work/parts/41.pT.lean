section lot
variable {cm sm td : Nat} {τ μ : gw_S}
theorem ct_inj {n : Nat} : ∀ {q p : Nat → Bool} {m : Nat} {f : Nat → Nat}, (∀ i, i < n → q i = true → f i < m ∧ p (f i) = true) → (∀ i j, i < n → j < n → q i = true → q j = true → f i = f j → i = j) → fb_ct q n ≤ fb_ct p m := by
  induction n with
  | zero => intro q p m f _ _; exact Nat.zero_le _
  | succ n ih =>
    intro q p m f h1 h2
    rw [fb_ct_succ]
    cases hq : q n
    · rw [if_neg (by decide)]
      exact ih (f := f) (fun i hi => h1 i (by omega)) (fun i j hi hj => h2 i j (by omega) (by omega))
    · rw [if_pos rfl]
      obtain ⟨hm, hp⟩ := h1 n (by omega) hq
      have h3 := fb_ct_upd p false hm
      rw [hp] at h3
      have h4 := ih (q := q) (p := fun k => if k = f n then false else p k) (m := m) (f := f) (fun i hi hqi => by
        obtain ⟨a, b⟩ := h1 i (by omega) hqi
        refine ⟨a, ?_⟩
        show (if f i = f n then false else p (f i)) = true
        rw [if_neg (fun e => by have := h2 i n (by omega) (by omega) hqi hq e; omega)]; exact b) (fun i j hi hj => h2 i j (by omega) (by omega))
      simp only [↓reduceIte, Bool.false_eq_true] at h3
      omega
theorem ct_perm {n : Nat} {f : Nat → Nat} (h1 : ∀ i, i < n → f i < n) (h2 : ∀ i j, i < n → j < n → f i = f j → i = j) (p : Nat → Bool) : fb_ct (fun i => p (f i)) n = fb_ct p n := by
  have a := ct_inj (n := n) (q := fun i => p (f i)) (p := p) (m := n) (f := f) (fun i hi h => ⟨h1 i hi, h⟩) (fun i j hi hj _ _ e => h2 i j hi hj e)
  have b := ct_inj (n := n) (q := fun i => !p (f i)) (p := fun i => !p i) (m := n) (f := f) (fun i hi h => ⟨h1 i hi, h⟩) (fun i j hi hj _ _ e => h2 i j hi hj e)
  have c := fb_ct_not (fun i => p (f i)) n
  have d := fb_ct_not p n
  omega
theorem ct_lt {n i : Nat} (h : i ≤ n) : fb_ct (fun w => decide (w < i)) n = i := by
  have := ct_ext (p := fun w => decide (w < i)) (q := fun _ => true) (m := i) (fun k hk => by simp [hk]) n h (fun k a b => by simp; omega)
  rw [this, fb_ct_all]
  intro k hk; rfl
/-- a student's turn -/
theorem turn_pair (R : Rl cm sm τ μ) (I : Iv cm sm td μ) (F : Fr cm sm μ) {s : Nat} (hs : s < sm) : ∃ b τ' μ', f_X3_takeTurn τ (24 + s) = some (b, τ') ∧ f_X4_getsOne μ (nI s) = some (b, μ') ∧ Rl cm sm τ' μ' ∧ Iv cm sm td μ' ∧ Fr cm sm μ' ∧ scr τ τ' ∧ (∀ k, k ≠ 8 → k ≠ 9 → k ≠ 10 → k ≠ 13 → k ≠ 14 → k ≠ 15 → μ' k = μ k) ∧ (b = 0 ∨ b = 1) := by
  have h20 := R.1
  obtain ⟨n, hn, en, en2⟩ := lt_of (I.2.2.1 s hs).2.2.1
  have hgl : gw_len (60 + s + 36) = 6 := by unfold gw_len; rw [if_pos (by omega)]
  have hw : τ (60 + s) 1 = nI n := by rw [r_wic R hs, en]
  have step : ∀ k, k < n → (b_X3_takeTurn_1 (24 + s) (nI k, τ) = some (.inl (nI (k + 1), τ)) ∧ b_X4_getsOne_1 (nI s) (nI k, μ) = some (.inl (nI (k + 1), μ))) ∨ ∃ τ' μ', b_X3_takeTurn_1 (24 + s) (nI k, τ) = some (.inr (.inr (1, τ'))) ∧ b_X4_getsOne_1 (nI s) (nI k, μ) = some (.inr (.inr (1, μ'))) ∧ Rl cm sm τ' μ' ∧ Iv cm sm td μ' ∧ Fr cm sm μ' ∧ scr τ τ' ∧ (∀ k, k ≠ 8 → k ≠ 9 → k ≠ 10 → k ≠ 13 → k ≠ 14 → k ≠ 15 → μ' k = μ k) := by
    intro k hk
    have hi := I.2.2.2.1 s k hs (by rw [en2]; exact hk)
    obtain ⟨c, hc, ec, ec2⟩ := lt_of hi.1
    obtain ⟨v, o1, o2, o3⟩ := obst R I hs hc (μ 8 s)
    obtain ⟨τ2, μ2, d1, d2, R2, I2, E2, S2⟩ := enrol_pair R I hc hs
    have hC : b_X3_takeTurn_1 (24 + s) (nI k, τ) = if fr μ sm c ≤ 0 then some (.inl (nI (k + 1), τ)) else if v = 0 then some (.inr (.inr (1, τ2))) else some (.inl (nI (k + 1), τ)) := by
      rw [b_X3_takeTurn_1, show 24 + s + 36 = 60 + s from by omega, c_size, bs, hw, if_neg (n_lt hk (by omega)), c_at1 hw (by rw [hgl]; omega) hk, bs, show 60 + s + 36 = 96 + s from by omega, r_wis R (by omega) (by omega), ec, c_at R hc, bs, gx_l, c_fr R hc, bs, r_tak R hs, o1, bs, d1, bs, nI_1]
    have hM : b_X4_getsOne_1 (nI s) (nI k, μ) = if v = 0 then (if fr μ sm c ≤ 0 then some (.inl (nI (k + 1), μ)) else some (.inr (.inr (1, μ2)))) else some (.inl (nI (k + 1), μ)) := by
      have i1 : gw_ib (nI s) (gr_ml 9) = true := ib_ok (by show s < 16; omega) (by decide)
      have i2 : gw_ib (nI s) (gr_ml 8) = true := ib_ok (by show s < 16; omega) (by decide)
      rw [b_X4_getsOne_1, if_pos i1, nI_clamp (n := s) (by omega), en, if_neg (n_lt hk (by omega)), x6, if_pos (ib_ok (by show 6 * s + k < 96; omega) (by decide)), if_pos i2, nI_clamp (n := 6 * s + k) (by omega), ec, o2, bs, m_fr R I hc, bs, d2, bs, nI_1]
    rw [hC, hM]
    by_cases hf : fr μ sm c ≤ 0
    · rw [if_pos hf, if_pos hf, ite_self]; exact Or.inl ⟨rfl, rfl⟩
    · rw [if_neg hf, if_neg hf]
      by_cases hv : v = 0
      · rw [if_pos hv, if_pos hv]
        refine Or.inr ⟨τ2, μ2, rfl, rfl, R2, I2, fun c' hc' => ?_, S2, E2.1⟩
        have hnb := o3.mp hv
        rw [ena_enr (by omega) hs E2 hnb.2.1 c' (by omega), E2.1 1 (by omega) (by omega) (by omega) (by omega) (by omega) (by omega)]
        have h1 := ofc_off (cm := cm) (μ := μ) hc hs E2.2.2.1 hc'
        have h2 := F c' hc'
        by_cases e : c' = c
        · subst e
          have := Nat.lt_of_not_le (fun h => hf ((fr_le I F hc).mpr h))
          rw [if_pos rfl] at h1 ⊢
          omega
        · rw [if_neg e] at h1 ⊢; omega
      · rw [if_neg hv, if_neg hv]; exact Or.inl ⟨rfl, rfl⟩
  have hendC : b_X3_takeTurn_1 (24 + s) (nI n, τ) = some (.inr (.inl (nI n, τ))) := by
    rw [b_X3_takeTurn_1, show 24 + s + 36 = 60 + s from by omega, c_size, bs, hw, if_pos (n_le (Nat.le_refl _) (by omega))]
  have hendM : b_X4_getsOne_1 (nI s) (nI n, μ) = some (.inr (.inl (nI n, μ))) := by
    rw [b_X4_getsOne_1, if_pos (ib_ok (by show s < 16; omega) (by decide)), nI_clamp (n := s) (by omega), en, if_pos (n_le (Nat.le_refl _) (by omega))]
  obtain ⟨t, G, u, hM, hP⟩ := gw_run0 (b := b_X3_takeTurn_1 (24 + s)) (s := ((0 : Int32), τ)) (fun k z => z = (nI k, τ) ∧ gw_it (b_X4_getsOne_1 (nI s)) 4096 ((0 : Int32), μ) = gw_it (b_X4_getsOne_1 (nI s)) (4096 - k) (nI k, μ)) (fun t => ∃ u, gw_it (b_X4_getsOne_1 (nI s)) 4096 ((0 : Int32), μ) = some u ∧ ((t = .inl (nI n, τ) ∧ u = .inl (nI n, μ)) ∨ ∃ τ' μ', t = .inr (1, τ') ∧ u = .inr (1, μ') ∧ Rl cm sm τ' μ' ∧ Iv cm sm td μ' ∧ Fr cm sm μ' ∧ scr τ τ' ∧ (∀ k, k ≠ 8 → k ≠ 9 → k ≠ 10 → k ≠ 13 → k ≠ 14 → k ≠ 15 → μ' k = μ k))) n (by omega) ⟨rfl, rfl⟩ (fun k z hk hI => by
    obtain ⟨rfl, hm⟩ := hI
    rcases Nat.lt_or_ge k n with h | h
    · rcases step k h with ⟨hC, hM⟩ | ⟨τ', μ', hC, hM, hh⟩
      · refine Or.inr ⟨h, _, hC, rfl, ?_⟩
        rw [hm, show 4096 - k = 4096 - (k + 1) + 1 from by omega, gw_it_st hM]
      · refine Or.inl ⟨_, hC, _, ?_, Or.inr ⟨τ', μ', rfl, rfl, hh⟩⟩
        rw [hm, show 4096 - k = 4096 - k - 1 + 1 from by omega, gw_it_en hM]
    · have : k = n := by omega
      subst this
      refine Or.inl ⟨_, hendC, _, ?_, Or.inl ⟨rfl, rfl⟩⟩
      rw [hm, show 4096 - k = 4096 - k - 1 + 1 from by omega, gw_it_en hendM])
  rcases hP with ⟨rfl, rfl⟩ | ⟨τ', μ', rfl, rfl, hh⟩
  · exact ⟨0, τ, μ, it_bd G rfl, it_bd hM rfl, R, I, F, scr_rf τ, fun _ _ _ _ _ _ _ => rfl, Or.inl rfl⟩
  · exact ⟨1, τ', μ', it_bd G rfl, it_bd hM rfl, hh.1, hh.2.1, hh.2.2.1, hh.2.2.2.1, hh.2.2.2.2, Or.inr rfl⟩
/-- a student's key -/
def lky (μ : gw_S) (s : Nat) : Nat := (nn (μ 5 s) * 32768 + nn (μ 12 s)) * 16 + s
def Lt (sm : Nat) (μ : gw_S) : Prop := sm ≤ 16 ∧ ∀ s, s < sm → lt_ (μ 5 s) 4 ∧ lt_ (μ 12 s) 32768
theorem lky_lt (h : Lt sm μ) {s : Nat} (hs : s < sm) : lky μ s < 2 ^ 22 ∧ lky μ s % 16 = s := by
  have := h.2 s hs
  have h1 := this.1.2
  have h2 := this.2.2
  have := h.1
  unfold lky
  constructor <;> omega
theorem lky_inj (h : Lt sm μ) {s t : Nat} (hs : s < sm) (ht : t < sm) (e : lky μ s = lky μ t) : s = t := by
  rw [← (lky_lt h hs).2, ← (lky_lt h ht).2, e]
theorem m_ahead (h : Lt sm μ) {s t : Nat} (hs : s < sm) (ht : t < sm) : f_X4_isAhead μ (nI s) (nI t) = some (if decide (lky μ s < lky μ t) = true then 1 else 0) := by
  have h16 := h.1
  obtain ⟨a, ha, ea, na⟩ := lt_of (h.2 s hs).1
  obtain ⟨b, hb, eb, nb⟩ := lt_of (h.2 s hs).2
  obtain ⟨c, hc, ec, nc⟩ := lt_of (h.2 t ht).1
  obtain ⟨d, hd, ed, nd⟩ := lt_of (h.2 t ht).2
  have k1 : lky μ s = (a * 32768 + b) * 16 + s := by unfold lky; rw [na, nb]
  have k2 : lky μ t = (c * 32768 + d) * 16 + t := by unfold lky; rw [nc, nd]
  rw [k1, k2]
  unfold f_X4_isAhead
  have i1 : gw_ib (nI s) (gr_ml 5) = true := ib_ok (by show s < 16; omega) (by decide)
  have i2 : gw_ib (nI t) (gr_ml 5) = true := ib_ok (by show t < 16; omega) (by decide)
  have i3 : gw_ib (nI s) (gr_ml 12) = true := ib_ok (by show s < 16; omega) (by decide)
  have i4 : gw_ib (nI t) (gr_ml 12) = true := ib_ok (by show t < 16; omega) (by decide)
  simp only [i1, i2, i3, i4, ↓reduceIte]
  rw [nI_clamp (n := s) (by omega), nI_clamp (n := t) (by omega), ea, eb, ec, ed]
  by_cases q1 : a = c
  · subst q1
    rw [if_pos rfl]
    by_cases q2 : b = d
    · subst q2
      rw [if_pos rfl]
      by_cases q3 : t ≤ s
      · rw [if_pos (show nI t ≤ nI s from nI_le q3 (by omega)), if_neg (by rw [decide_eq_true_eq]; omega)]
      · rw [if_neg (show ¬ nI t ≤ nI s from nI_ge (by omega) (by omega)), if_pos (by rw [decide_eq_true_eq]; omega)]
    · rw [if_neg (fun e => q2 (nI_inj e))]
      by_cases q3 : d ≤ b
      · rw [if_pos (show nI d ≤ nI b from nI_le q3 (by omega)), if_neg (by rw [decide_eq_true_eq]; omega)]
      · rw [if_neg (show ¬ nI d ≤ nI b from nI_ge (by omega) (by omega)), if_pos (by rw [decide_eq_true_eq]; omega)]
  · rw [if_neg (fun e => q1 (nI_inj e))]
    by_cases q3 : c ≤ a
    · rw [if_pos (show nI c ≤ nI a from nI_le q3 (by omega)), if_neg (by rw [decide_eq_true_eq]; omega)]
    · rw [if_neg (show ¬ nI c ≤ nI a from nI_ge (by omega) (by omega)), if_pos (by rw [decide_eq_true_eq]; omega)]
theorem m_rank (h : Lt sm μ) (e0 : μ 0 5 = nI sm) {t : Nat} (ht : t < sm) (x1 : Int32) (x2 : Int64) (x4 x5 : Int32) : ∃ w, gw_it (b_X4_runLottery_4 μ x1 x2 x4 x5 (nI t)) 4096 ((0 : Int32), (0 : Int32)) = some (nI (fb_ct (fun s => decide (lky μ s < lky μ t)) sm), w) := by
  have h16 := h.1
  refine ⟨nI sm, ?_⟩
  have G : gw_it (b_X4_runLottery_4 μ x1 x2 x4 x5 (nI t)) 4096 (nI (fb_ct (fun s => decide (lky μ s < lky μ t)) 0), nI 0) = some (nI (fb_ct (fun s => decide (lky μ s < lky μ t)) sm), nI sm) := by
    refine gw_fun (fun k => (nI (fb_ct (fun s => decide (lky μ s < lky μ t)) k), nI k)) _ sm (by omega) (fun k hk => ?_) ?_
    · show b_X4_runLottery_4 μ x1 x2 x4 x5 (nI t) (nI (fb_ct (fun s => decide (lky μ s < lky μ t)) k), nI k) = some (.inl (nI (fb_ct (fun s => decide (lky μ s < lky μ t)) (k + 1)), nI (k + 1)))
      rw [b_X4_runLottery_4, e0, if_neg (n_lt hk), m_ahead h hk ht, bd, fb_ct_succ, nI_1]
      cases decide (lky μ k < lky μ t)
      · rw [if_neg (by decide), Int32.add_zero, nI_1]; rfl
      · rw [if_pos rfl, nI_1]; rfl
    · show b_X4_runLottery_4 μ x1 x2 x4 x5 (nI t) (nI (fb_ct (fun s => decide (lky μ s < lky μ t)) sm), nI sm) = _
      rw [b_X4_runLottery_4, e0, if_pos (n_le (Nat.le_refl _))]
  exact G
/-- the class's order of turns -/
def Srt (μ : gw_S) (k : Nat) (T : Nat → Nat) : Prop := (∀ i j, i < j → j < k → T i < T j) ∧ (∀ i, i < k → ∃ s, s < k ∧ T i = lky μ s) ∧ ∀ s, s < k → ∃ i, i < k ∧ T i = lky μ s
theorem ins (h : Lt sm μ) {k : Nat} (hk : k < sm) {T : Nat → Nat} (hT : Srt μ k T) {τ : gw_S} (e : ∀ i, i < k → τ 3 i = nI (T i)) (x1 : Int32) : ∃ p τ', gw_it (b_X3_orderTurns_2 x1 (nI (lky μ k))) 4096 (nI k, τ) = some (nI p, τ') ∧ p ≤ k ∧ (∀ q i, q ≠ 3 → τ' q i = τ q i) ∧ (∀ i, i < p → τ' 3 i = nI (T i)) ∧ (∀ i, p ≤ i → i < k → τ' 3 (i + 1) = nI (T i)) ∧ (∀ i, i < p → T i < lky μ k) ∧ ∀ i, p ≤ i → i < k → lky μ k < T i := by
  have h16 := h.1
  have hb : ∀ i, i < k → T i < 2 ^ 22 := fun i hi => by
    obtain ⟨s, hs, es⟩ := hT.2.1 i hi
    rw [es]; exact (lky_lt h (by omega)).1
  have hne : ∀ i, i < k → T i ≠ lky μ k := fun i hi e => by
    obtain ⟨s, hs, es⟩ := hT.2.1 i hi
    have := lky_inj h (s := s) (t := k) (by omega) hk (by rw [← es, e])
    omega
  have hkk := (lky_lt h hk).1
  obtain ⟨t, G, p, e1, e2, e3⟩ := gw_run0 (b := b_X3_orderTurns_2 x1 (nI (lky μ k))) (s := (nI k, τ)) (fun d s => d ≤ k ∧ s.1 = nI (k - d) ∧ (∀ q i, q ≠ 3 → s.2 q i = τ q i) ∧ (∀ i, i < k - d → s.2 3 i = nI (T i)) ∧ (∀ i, k - d ≤ i → i < k → s.2 3 (i + 1) = nI (T i)) ∧ ∀ i, k - d ≤ i → i < k → lky μ k < T i) (fun t => ∃ p, t.1 = nI p ∧ p ≤ k ∧ ((∀ q i, q ≠ 3 → t.2 q i = τ q i) ∧ (∀ i, i < p → t.2 3 i = nI (T i)) ∧ (∀ i, p ≤ i → i < k → t.2 3 (i + 1) = nI (T i)) ∧ (∀ i, i < p → T i < lky μ k) ∧ ∀ i, p ≤ i → i < k → lky μ k < T i)) k (by omega) ⟨Nat.zero_le _, rfl, fun _ _ _ => rfl, e, fun i a b => by omega, fun i a b => by omega⟩ (fun d s hd hI => by
    obtain ⟨v, σ⟩ := s
    obtain ⟨h0, h1, h2, h3, h4, h5⟩ := hI
    have h1 : v = nI (k - d) := h1
    subst h1
    have h2 : ∀ q i, q ≠ 3 → σ q i = τ q i := h2
    have h3 : ∀ i, i < k - d → σ 3 i = nI (T i) := h3
    have h4 : ∀ i, k - d ≤ i → i < k → σ 3 (i + 1) = nI (T i) := h4
    by_cases hz : d = k
    · subst hz
      refine Or.inl ⟨(nI 0, σ), ?_, 0, rfl, Nat.zero_le _, h2, fun i hi => absurd hi (Nat.not_lt_zero i), fun i a b => h4 i (by omega) b, fun i hi => absurd hi (Nat.not_lt_zero i), fun i a b => h5 i (by omega) b⟩
      rw [Nat.sub_self, b_X3_orderTurns_2, if_pos (show nI 0 ≤ (0 : Int32) by decide)]
    · have hp : nI (k - d) - (1 : Int32) = nI (k - d - 1) := by rw [show k - d = k - d - 1 + 1 from by omega]; exact nI_pred _
      have hv : b_X3_orderTurns_2 x1 (nI (lky μ k)) (nI (k - d), σ) = if nI (T (k - d - 1)) ≤ nI (lky μ k) then some (.inr (nI (k - d), σ)) else some (.inl (nI (k - d - 1), gw_up σ 3 (k - d) (nI (T (k - d - 1))))) := by
        have i1 : gw_ib (nI (k - d - 1)) (gw_len 3) = true := ib_ok (by show k - d - 1 < 16; omega) (by decide)
        have i2 : gw_ib (nI (k - d)) (gw_len 3) = true := ib_ok (by show k - d < 16; omega) (by decide)
        rw [b_X3_orderTurns_2, if_neg (show ¬ nI (k - d) ≤ (0 : Int32) from nI_nle (by omega) (by omega)), hp, if_pos i1, nI_clamp (n := k - d - 1) (by omega), h3 _ (by omega), if_pos i1, if_pos i2, nI_clamp (n := k - d) (by omega), show nI (k - d) + (-1 : Int32) = nI (k - d - 1) from by rw [show k - d = k - d - 1 + 1 from by omega]; exact pk_m1 _]
      rw [hv]
      have hbT := hb (k - d - 1) (by omega)
      by_cases hc : T (k - d - 1) ≤ lky μ k
      · rw [if_pos (show nI (T (k - d - 1)) ≤ nI (lky μ k) from nI_le hc (by omega))]
        refine Or.inl ⟨_, rfl, k - d, rfl, by omega, h2, h3, h4, fun i hi => ?_, h5⟩
        have hn := hne i (by omega)
        by_cases hi2 : i = k - d - 1
        · subst hi2; omega
        · have := hT.1 i (k - d - 1) (by omega) (by omega); omega
      · rw [if_neg (show ¬ nI (T (k - d - 1)) ≤ nI (lky μ k) from nI_ge (by omega) (by omega))]
        refine Or.inr ⟨by omega, _, rfl, by omega, by rw [show k - (d + 1) = k - d - 1 from by omega], fun q i hq => ?_, fun i hi => ?_, fun i a b => ?_, fun i a b => ?_⟩
        · show gw_up σ 3 (k - d) _ q i = _
          rw [gw_up_n (by omega)]; exact h2 q i hq
        · show gw_up σ 3 (k - d) _ 3 i = _
          rw [gw_up_n (by omega)]; exact h3 i (by omega)
        · show gw_up σ 3 (k - d) _ 3 (i + 1) = _
          by_cases hi2 : i + 1 = k - d
          · rw [hi2, gw_up_s, show i = k - d - 1 from by omega]
          · rw [gw_up_n (by omega)]; exact h4 i (by omega) b
        · by_cases hi2 : i = k - d - 1
          · subst hi2; omega
          · exact h5 i (by omega) b)
  obtain ⟨t1, t2⟩ := t
  have e1 : t1 = nI p := e1
  subst e1
  exact ⟨p, t2, G, e2, e3⟩
theorem order (h : Lt sm μ) (R : Rl cm sm τ μ) : ∃ τ' T, f_X3_orderTurns τ = some τ' ∧ (∀ q i, q ≠ 3 → τ' q i = τ q i) ∧ Srt μ sm T ∧ ∀ i, i < sm → τ' 3 i = nI (T i) := by
  have h16 := h.1
  obtain ⟨t, G, h1, T, h2, h3⟩ := gw_for (b := b_X3_orderTurns_1) (s := ((0 : Int32), τ)) (fun k s => s.1 = nI k ∧ (∀ q i, q ≠ 3 → s.2 q i = τ q i) ∧ ∃ T, Srt μ k T ∧ ∀ i, i < k → s.2 3 i = nI (T i)) (fun t => (∀ q i, q ≠ 3 → t.2 q i = τ q i) ∧ ∃ T, Srt μ sm T ∧ ∀ i, i < sm → t.2 3 i = nI (T i)) sm (by omega) ⟨rfl, fun _ _ _ => rfl, fun _ => 0, ⟨fun i j _ hj => absurd hj (Nat.not_lt_zero j), fun i hi => absurd hi (Nat.not_lt_zero i), fun i hi => absurd hi (Nat.not_lt_zero i)⟩, fun i hi => absurd hi (Nat.not_lt_zero i)⟩ (fun k s hk hI => by
    obtain ⟨v, σ⟩ := s
    obtain ⟨e, h1, T, h2, h3⟩ := hI
    have e : v = nI k := e
    subst e
    have h1 : ∀ q i, q ≠ 3 → σ q i = τ q i := h1
    have h3 : ∀ i, i < k → σ 3 i = nI (T i) := h3
    obtain ⟨p, τ', G, p1, p2, p3, p4, p5, p6⟩ := ins h hk h2 h3 (nI k)
    obtain ⟨a, ha, ea, na⟩ := lt_of (h.2 k hk).1
    obtain ⟨b, hb, eb, nb⟩ := lt_of (h.2 k hk).2
    have hkey : f_X3_turnOf σ (24 + k) = some (nI (lky μ k)) := by
      unfold f_X3_turnOf lky
      rw [h1 _ _ (by omega), h1 _ _ (by omega), h1 _ _ (by omega), r_ban R hk, r_lot R hk, r_si R hk, ea, eb, fa_lit 32768, fa_lit 16, pk_mul, nI_add, pk_mul, nI_add, n_cl, n_cl]
    refine ⟨(nI (k + 1), gw_up τ' 3 p (nI (lky μ k))), ?_, rfl, fun q i hq => ?_, fun i => if i < p then T i else if i = p then lky μ k else T (i - 1), ⟨fun i j hij hj => ?_, fun i hi => ?_, fun s hs => ?_⟩, fun i hi => ?_⟩
    · rw [b_X3_orderTurns_1, h1 0 3 (by omega), r_sm R, if_neg (n_lt hk), if_pos (ib_ok (by omega)), nI_clamp (by omega), hkey, bs]
      refine it_bd G ?_
      rw [if_pos (ib_ok (by show p < 16; omega) (by decide)), nI_clamp (by omega), nI_1]
    · show gw_up τ' 3 p _ q i = _
      rw [gw_up_n (by omega), p2 q i hq, h1 q i hq]
    · show (if i < p then T i else if i = p then lky μ k else T (i - 1)) < (if j < p then T j else if j = p then lky μ k else T (j - 1))
      by_cases q1 : j < p
      · rw [if_pos q1, if_pos (by omega)]; exact h2.1 i j hij (by omega)
      · rw [if_neg q1]
        by_cases q2 : j = p
        · rw [if_pos q2, if_pos (by omega)]; exact p5 i (by omega)
        · rw [if_neg q2]
          by_cases q3 : i < p
          · rw [if_pos q3]; exact h2.1 i (j - 1) (by omega) (by omega)
          · rw [if_neg q3]
            by_cases q4 : i = p
            · rw [if_pos q4]; exact p6 (j - 1) (by omega) (by omega)
            · rw [if_neg q4]; exact h2.1 (i - 1) (j - 1) (by omega) (by omega)
    · show ∃ s, s < k + 1 ∧ (if i < p then T i else if i = p then lky μ k else T (i - 1)) = lky μ s
      by_cases q1 : i < p
      · rw [if_pos q1]
        obtain ⟨s, a, b⟩ := h2.2.1 i (by omega)
        exact ⟨s, by omega, b⟩
      · rw [if_neg q1]
        by_cases q2 : i = p
        · rw [if_pos q2]; exact ⟨k, by omega, rfl⟩
        · rw [if_neg q2]
          obtain ⟨s, a, b⟩ := h2.2.1 (i - 1) (by omega)
          exact ⟨s, by omega, b⟩
    · show ∃ i, i < k + 1 ∧ (if i < p then T i else if i = p then lky μ k else T (i - 1)) = lky μ s
      by_cases q1 : s = k
      · subst q1; exact ⟨p, by omega, by rw [if_neg (by omega), if_pos rfl]⟩
      · obtain ⟨i, a, b⟩ := h2.2.2 s (by omega)
        by_cases q2 : i < p
        · exact ⟨i, by omega, by rw [if_pos q2]; exact b⟩
        · exact ⟨i + 1, by omega, by rw [if_neg (by omega), if_neg (by omega)]; exact b⟩
    · show gw_up τ' 3 p _ 3 i = nI (if i < p then T i else if i = p then lky μ k else T (i - 1))
      by_cases q1 : i < p
      · rw [if_pos q1, gw_up_n (by omega)]; exact p3 i q1
      · rw [if_neg q1]
        by_cases q2 : i = p
        · rw [if_pos q2, q2, gw_up_s]
        · rw [if_neg q2, gw_up_n (by omega)]
          have := p4 (i - 1) (by omega) (by omega)
          rw [show i - 1 + 1 = i from by omega] at this; exact this) (fun s hI => by
    obtain ⟨v, σ⟩ := s
    obtain ⟨e, h1, h2⟩ := hI
    have e : v = nI sm := e
    subst e
    refine ⟨(nI sm, σ), ?_, h1, h2⟩
    have h1 : ∀ q i, q ≠ 3 → σ q i = τ q i := h1
    rw [b_X3_orderTurns_1, h1 0 3 (by omega), r_sm R, if_pos (n_le (Nat.le_refl _))])
  exact ⟨t.2, T, it_bd G rfl, h1, h2, h3⟩
end lot
