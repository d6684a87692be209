section exg
variable {cm sm td : Nat} {τ μ : gw_S}
/-- what the rounds leave alone -/
def kM (μ ν : gw_S) : Prop := ∀ k, k ≠ 17 → k ≠ 18 → ν k = μ k
def kT (τ σ : gw_S) : Prop := ∀ k i, ¬ (24 ≤ k ∧ k < 40 ∧ 8 ≤ i) → σ k i = τ k i
theorem kM_tr {a b c : gw_S} (h1 : kM a b) (h2 : kM b c) : kM a c := fun k x y => (h2 k x y).trans (h1 k x y)
theorem kT_tr {a b c : gw_S} (h1 : kT a b) (h2 : kT b c) : kT a c := fun k i h => (h2 k i h).trans (h1 k i h)
theorem kM_sim {μ ν : gw_S} (h : kM μ ν) : simM μ ν := fun k i hk _ => by rw [h k (by omega) (by omega)]
theorem kT_sim {τ σ : gw_S} (h : kT τ σ) : simT τ σ := fun k i _ h2 => h k i h2
/-- student t holds a place that student s wishes and has not got -/
def Wsh (cm : Nat) (μ : gw_S) (s t : Nat) : Prop := ∃ c, c < cm ∧ μ 11 t = nI c ∧ bt (μ 8 s) c = false
/-- everybody of x points -/
def Ptd (cm sm : Nat) (μ : gw_S) (x : Int32) (τ ν : gw_S) (n : Nat) : Prop := ∀ s, s < n → bt x s = true → ∃ t, t < sm ∧ τ (24 + s) 8 = nI t ∧ ν 17 s = nI t ∧ (t = s ∨ (bt x t = true ∧ Wsh cm μ s t))
theorem point_pair (R : Rl cm sm τ μ) (I : Iv cm sm td μ) {x : Int32} (hx : ∀ s, bt x s = true → s < sm ∧ μ 11 s ≠ -1) {σ ν : gw_S} (hT : kT τ σ) (hM : kM μ ν) : ∃ σ' ν', f_X3_pointAll σ x = some σ' ∧ (∃ w, gw_it (b_X4_circles_1 x x) 4096 ((0 : Int32), ν) = some (w, ν')) ∧ kT σ σ' ∧ (∀ k, k ≠ 17 → ν' k = ν k) ∧ Ptd cm sm μ x σ' ν' sm ∧ ∀ s i, s < sm → bt x s = false ∨ i ≠ 8 → σ' (24 + s) i = σ (24 + s) i := by
  have h20 := R.1
  obtain ⟨⟨w, σ'⟩, G, ν', ⟨w', hm⟩, r1, r2, r3, r4⟩ := gw_for (b := b_X3_pointAll_1 x) (s := ((0 : Int32), σ)) (fun k s => s.1 = nI k ∧ ∃ ν', (kT σ s.2 ∧ (∀ k, k ≠ 17 → ν' k = ν k) ∧ Ptd cm sm μ x s.2 ν' k ∧ ∀ q i, q < sm → (q < k → bt x q = false ∨ i ≠ 8) → s.2 (24 + q) i = σ (24 + q) i) ∧ gw_it (b_X4_circles_1 x x) 4096 ((0 : Int32), ν) = gw_it (b_X4_circles_1 x x) (4096 - k) (nI k, ν')) (fun t => ∃ ν', (∃ w, gw_it (b_X4_circles_1 x x) 4096 ((0 : Int32), ν) = some (w, ν')) ∧ kT σ t.2 ∧ (∀ k, k ≠ 17 → ν' k = ν k) ∧ Ptd cm sm μ x t.2 ν' sm ∧ ∀ s i, s < sm → bt x s = false ∨ i ≠ 8 → t.2 (24 + s) i = σ (24 + s) i) sm (by omega) ⟨rfl, ν, ⟨fun _ _ _ => rfl, fun _ _ => rfl, fun s hs => absurd hs (Nat.not_lt_zero s), fun _ _ _ _ => rfl⟩, rfl⟩ (fun k s hk hI => by
    obtain ⟨v, ρ⟩ := s
    obtain ⟨e, ν1, ⟨a1, a2, a3, a4⟩, hm⟩ := hI
    have e : v = nI k := e
    subst e
    have a1 : kT σ ρ := a1
    have a3 : Ptd cm sm μ x ρ ν1 k := a3
    have a4 : ∀ q i, q < sm → (q < k → bt x q = false ∨ i ≠ 8) → ρ (24 + q) i = σ (24 + q) i := a4
    have hM1 : kM μ ν1 := kM_tr hM (fun q b _ => a2 q b)
    have R1 : Rl cm sm ρ ν1 := Rl_sim R (kT_sim (kT_tr hT a1)) (kM_sim hM1)
    have I1 : Iv cm sm td ν1 := Iv_sim I (kM_sim hM1)
    have hadv : ∀ {z : gw_S}, b_X4_circles_1 x x (nI k, ν1) = some (.inl (nI (k + 1), z)) → gw_it (b_X4_circles_1 x x) 4096 ((0 : Int32), ν) = gw_it (b_X4_circles_1 x x) (4096 - (k + 1)) (nI (k + 1), z) := fun h => by
      rw [hm, show 4096 - k = 4096 - (k + 1) + 1 from by omega, gw_it_st h]
    have i1 : gw_ib (nI k) (gr_ml 17) = true := ib_ok (by show k < 16; omega) (by decide)
    cases hb : bt x k
    · have hC : b_X3_pointAll_1 x (nI k, ρ) = some (.inl (nI (k + 1), ρ)) := by
        rw [b_X3_pointAll_1, r_sm R1, if_neg (n_lt hk), c_isIn (by omega), bd, hb, if_neg (by decide), nI_1]
      have hMo : b_X4_circles_1 x x (nI k, ν1) = some (.inl (nI (k + 1), gw_up ν1 17 k (nI k))) := by
        rw [b_X4_circles_1, r_sm' R1, if_neg (n_lt hk), m_has (by omega), bd, hb, if_neg (by decide), if_pos i1, nI_clamp (by omega), nI_1]
      refine ⟨_, hC, rfl, _, ⟨a1, fun q hq => by rw [gw_up_rown hq, a2 q hq], fun s hs hbs => ?_, fun q i hq h => a4 q i hq (fun hqk => h (by omega))⟩, hadv hMo⟩
      have hsk : s ≠ k := fun e => by rw [e, hb] at hbs; cases hbs
      obtain ⟨t, t1, t2, t3, t4⟩ := a3 s (by omega) hbs
      exact ⟨t, t1, t2, by rw [gw_up_n (by omega)]; exact t3, t4⟩
    · have hp := hx k hb
      obtain ⟨t, t1, t2, t3, t4⟩ := tgt R1 I1 hk (by rw [hM1 11 (by omega) (by omega)]; exact hp.2) x
      have hC : b_X3_pointAll_1 x (nI k, ρ) = some (.inl (nI (k + 1), gw_up ρ (24 + k) 8 (nI t))) := by
        rw [b_X3_pointAll_1, r_sm R1, if_neg (n_lt hk), c_isIn (by omega), bd, hb, if_pos rfl, if_pos (ib_ok (by omega)), nI_clamp (by omega), t2, bs, nI_1]
      have hMo : b_X4_circles_1 x x (nI k, ν1) = some (.inl (nI (k + 1), gw_up ν1 17 k (nI t))) := by
        rw [b_X4_circles_1, r_sm' R1, if_neg (n_lt hk), m_has (by omega), bd, hb, if_pos rfl, t3, bs, if_pos i1, nI_clamp (by omega), nI_1]
      refine ⟨_, hC, rfl, _, ⟨fun q i h => (gw_up_n (by omega)).trans (a1 q i h), fun q hq => by rw [gw_up_rown hq, a2 q hq], fun s hs hbs => ?_, fun q i hq h => ?_⟩, hadv hMo⟩
      · by_cases e : s = k
        · subst e
          refine ⟨t, t1, gw_up_s _ _ _ _, gw_up_s _ _ _ _, ?_⟩
          rcases t4 with t4 | ⟨t4, c, t5, t6, t7⟩
          · exact Or.inl t4
          · refine Or.inr ⟨t4, c, t5, ?_, ?_⟩
            · rw [← hM1 11 (by omega) (by omega)]; exact t6
            · rw [← hM1 8 (by omega) (by omega)]; exact t7
        · obtain ⟨t', t1', t2', t3', t4'⟩ := a3 s (by omega) hbs
          refine ⟨t', t1', ?_, ?_, t4'⟩
          · show gw_up ρ (24 + k) 8 (nI t) (24 + s) 8 = _
            rw [gw_up_n (by omega)]; exact t2'
          · rw [gw_up_n (by omega)]; exact t3'
      · show gw_up ρ (24 + k) 8 (nI t) (24 + q) i = _
        by_cases e : q = k
        · subst e
          rcases h (by omega) with h1 | h1
          · rw [hb] at h1; cases h1
          · rw [gw_up_n (by omega)]; exact a4 q i hq (fun hqk => absurd hqk (Nat.lt_irrefl q))
        · rw [gw_up_n (by omega)]; exact a4 q i hq (fun hqk => h (by omega))) (fun s hI => by
    obtain ⟨v, ρ⟩ := s
    obtain ⟨e, ν1, ⟨a1, a2, a3, a4⟩, hm⟩ := hI
    have e : v = nI sm := e
    subst e
    have a1 : kT σ ρ := a1
    have hM1 : kM μ ν1 := kM_tr hM (fun q b _ => a2 q b)
    have R1 : Rl cm sm ρ ν1 := Rl_sim R (kT_sim (kT_tr hT a1)) (kM_sim hM1)
    refine ⟨(nI sm, ρ), ?_, ν1, ⟨nI sm, ?_⟩, a1, a2, a3, fun s i hs h => a4 s i hs (fun _ => h)⟩
    · rw [b_X3_pointAll_1, r_sm R1, if_pos (n_le (Nat.le_refl _))]
    · rw [hm, show 4096 - sm = 4096 - sm - 1 + 1 from by omega, gw_it_en]
      rw [b_X4_circles_1, r_sm' R1, if_pos (n_le (Nat.le_refl _))])
  exact ⟨σ', ν', it_bd G rfl, ⟨w', hm⟩, r1, r2, r3, r4⟩
/-! CIRCLES -/
def itr (f : Nat → Nat) : Nat → Nat → Nat
  | 0, a => a
  | n + 1, a => f (itr f n a)
theorem itr_add (f : Nat → Nat) (a : Nat) : ∀ m n, itr f (m + n) a = itr f m (itr f n a)
  | 0, n => by rw [Nat.zero_add]; rfl
  | m + 1, n => by rw [show m + 1 + n = m + n + 1 from by omega, itr, itr, itr_add f a m n]
def cyc (f : Nat → Nat) (a : Nat) : Prop := ∃ p, 1 ≤ p ∧ itr f p a = a
theorem cyc_least {f : Nat → Nat} {a : Nat} : ∀ p, 1 ≤ p → itr f p a = a → ∃ q, 1 ≤ q ∧ itr f q a = a ∧ ∀ r, 1 ≤ r → r < q → itr f r a ≠ a := by
  intro p
  induction p using Nat.strongRecOn with
  | ind p ih =>
    intro h1 h2
    by_cases e : ∃ r, 1 ≤ r ∧ r < p ∧ itr f r a = a
    · obtain ⟨r, a1, a2, a3⟩ := e
      exact ih r a2 a1 a3
    · exact ⟨p, h1, h2, fun r a1 a2 a3 => e ⟨r, a1, a2, a3⟩⟩
theorem cyc_bd {f : Nat → Nat} {a n : Nat} (hv : ∀ i, itr f i a < n) (h : cyc f a) : ∃ p, 1 ≤ p ∧ p ≤ n ∧ itr f p a = a := by
  obtain ⟨p, h1, h2⟩ := h
  obtain ⟨q, q1, q2, q3⟩ := cyc_least p h1 h2
  refine ⟨q, q1, fb_holes n q (fun i => itr f i a) (fun i _ => hv i) (fun i j hij hj e => ?_), q2⟩
  have e : itr f i a = itr f j a := e
  refine q3 (q - j + i) (by omega) (by omega) ?_
  rw [itr_add, e, ← itr_add, show q - j + j = q from by omega]; exact q2
theorem cyc_ex {f : Nat → Nat} {a n : Nat} (hv : ∀ i, itr f i a < n) : ∃ i, cyc f (itr f i a) := by
  obtain ⟨i, j, hij, hj, e⟩ := fb_twice (m := n) (n := n + 1) (f := fun i => itr f i a) (fun i _ => hv i) (by omega)
  have e : itr f i a = itr f j a := e
  refine ⟨i, j - i, by omega, ?_⟩
  rw [← itr_add, show j - i + i = j from by omega, ← e]
theorem cyc_nx {f : Nat → Nat} {a : Nat} (h : cyc f a) : cyc f (f a) := by
  obtain ⟨p, h1, h2⟩ := h
  refine ⟨p, h1, ?_⟩
  have : itr f p (itr f 1 a) = itr f 1 (itr f p a) := by rw [← itr_add, ← itr_add, Nat.add_comm]
  rw [h2] at this
  exact this
theorem itr_per {f : Nat → Nat} {a p : Nat} (h : itr f p a = a) : ∀ q, itr f (p * q) a = a
  | 0 => rfl
  | q + 1 => by rw [Nat.mul_succ, itr_add, h, itr_per h q]
theorem cyc_inj {f : Nat → Nat} {a b : Nat} (ha : cyc f a) (hb : cyc f b) (e : f a = f b) : a = b := by
  obtain ⟨p, p1, p2⟩ := ha
  obtain ⟨q, q1, q2⟩ := hb
  have h1 := itr_per p2 q
  have h2 : itr f (p * q) b = b := by rw [Nat.mul_comm]; exact itr_per q2 p
  have hpos : 1 ≤ p * q := Nat.mul_pos p1 q1
  have k : ∀ c, itr f (p * q) c = itr f (p * q - 1) (f c) := fun c => by
    have := itr_add f c (p * q - 1) 1
    rw [show p * q - 1 + 1 = p * q from by omega] at this
    exact this
  rw [← h1, ← h2, k a, k b, e]
end exg
