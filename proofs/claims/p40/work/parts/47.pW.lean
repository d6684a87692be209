section exh
variable {cm sm td : Nat} {τ μ : gw_S}
/-- the pointers of x, as a function -/
def Nx (sm : Nat) (x : Int32) (σ ν : gw_S) (f : Nat → Nat) : Prop := ∀ s, s < sm → bt x s = true → σ (24 + s) 8 = nI (f s) ∧ ν 17 s = nI (f s) ∧ f s < sm ∧ bt x (f s) = true
theorem nx_in {x : Int32} {σ ν : gw_S} {f : Nat → Nat} (h : Nx sm x σ ν f) {a : Nat} (ha : a < sm) (hx : bt x a = true) : ∀ i, itr f i a < sm ∧ bt x (itr f i a) = true
  | 0 => ⟨ha, hx⟩
  | i + 1 => by
    obtain ⟨h1, h2⟩ := nx_in h ha hx i
    exact ⟨(h _ h1 h2).2.2.1, (h _ h1 h2).2.2.2⟩
theorem c_cir {σ ν : gw_S} (h20 : sm ≤ 16) (e3 : σ 0 3 = nI sm) {x : Int32} {f : Nat → Nat} (h : Nx sm x σ ν f) {a : Nat} (ha : a < sm) (hx : bt x a = true) : (cyc f a → f_X3_isOnCircle σ (24 + a) = some 1) ∧ (¬ cyc f a → f_X3_isOnCircle σ (24 + a) = some 0) := by
  have sAt : ∀ c, c < sm → f_X3_studentAt σ (nI c) = some (.inl (24 + c)) := fun c hc => by
    unfold f_X3_studentAt
    rw [e3, if_neg (nI_pos (by omega)), if_pos (nI_lt hc (by omega)), if_pos (ib_ok (by omega)), nI_clamp (by omega)]
  have hin := nx_in h ha hx
  have G : ∃ t, gw_it (b_X3_isOnCircle_1 σ (24 + a)) 4096 (24 + itr f 1 a, nI 1) = some t ∧ (t.1 = 24 + a ↔ cyc f a) := by
    refine gw_run0 (fun k s => s = (24 + itr f (k + 1) a, nI (k + 1)) ∧ ∀ r, 1 ≤ r → r ≤ k → itr f r a ≠ a) _ sm (by omega) ⟨rfl, fun r a b => by omega⟩ (fun k s hk hI => ?_)
    obtain ⟨rfl, hI⟩ := hI
    by_cases q1 : sm ≤ k + 1
    · refine Or.inl ⟨_, by rw [b_X3_isOnCircle_1, e3, if_pos (n_le q1 (by omega))], fun e => ⟨k + 1, by omega, by
        have e : 24 + itr f (k + 1) a = 24 + a := e
        omega⟩, fun hc => ?_⟩
      obtain ⟨p, p1, p2, p3⟩ := cyc_bd (fun i => (hin i).1) hc
      show 24 + itr f (k + 1) a = 24 + a
      by_cases e : p ≤ k
      · exact absurd p3 (hI p p1 e)
      · rw [show k + 1 = p from by omega, p3]
    · by_cases q2 : 24 + itr f (k + 1) a = 24 + a
      · refine Or.inl ⟨_, by rw [b_X3_isOnCircle_1, e3, if_neg (n_lt (by omega) (by omega)), if_pos q2], fun _ => ⟨k + 1, by omega, by omega⟩, fun _ => q2⟩
      · refine Or.inr ⟨by omega, _, by
          have hj := hin (k + 1)
          rw [b_X3_isOnCircle_1, e3, if_neg (n_lt (by omega) (by omega)), if_neg q2, (h _ hj.1 hj.2).1, sAt _ (h _ hj.1 hj.2).2.2.1, bs, gx_l, nI_1]
          rfl, rfl, fun r a b => ?_⟩
        by_cases e : r = k + 1
        · subst e; intro e2; exact q2 (by rw [e2])
        · exact hI r a (by omega)
  obtain ⟨t, G, hP⟩ := G
  have hv : f_X3_isOnCircle σ (24 + a) = if t.1 = 24 + a then some 1 else some 0 := by
    unfold f_X3_isOnCircle
    rw [(h a ha hx).1, sAt _ (h a ha hx).2.2.1, bs, gx_l]
    exact it_bd G rfl
  rw [hv]
  exact ⟨fun hc => by rw [if_pos (hP.mpr hc)], fun hc => by rw [if_neg (fun e => hc (hP.mp e))]⟩
theorem m_cir {σ ν : gw_S} (h20 : sm ≤ 16) {x : Int32} {f : Nat → Nat} (h : Nx sm x σ ν f) {a : Nat} (ha : a < sm) (hx : bt x a = true) {ν' : gw_S} (h17 : ν' 17 = ν 17) : (cyc f a → f_X4_isOnCircle ν' (nI a) = some 1) ∧ (¬ cyc f a → f_X4_isOnCircle ν' (nI a) = some 0) := by
  have hin := nx_in h ha hx
  have G : ∃ t, gw_it (b_X4_isOnCircle_1 ν' (nI a)) 4096 (nI (itr f 1 a), (0 : Int32)) = some t ∧ (t.1 = nI a ↔ cyc f a) := by
    refine gw_run0 (fun k s => s = (nI (itr f (k + 1) a), nI k) ∧ ∀ r, 1 ≤ r → r ≤ k → itr f r a ≠ a) _ 16 (by omega) ⟨rfl, fun r a b => by omega⟩ (fun k s hk hI => ?_)
    obtain ⟨rfl, hI⟩ := hI
    have hj := hin (k + 1)
    by_cases q1 : 16 ≤ k
    · refine Or.inl ⟨_, by rw [b_X4_isOnCircle_1, if_pos (show (16 : Int32) ≤ nI k from nI_le (a := 16) q1 (by omega))], fun e => ⟨k + 1, by omega, nI_inj e⟩, fun hc => ?_⟩
      obtain ⟨p, p1, p2, p3⟩ := cyc_bd (fun i => (hin i).1) hc
      exact absurd p3 (hI p p1 (by omega))
    · by_cases q2 : nI (itr f (k + 1) a) = nI a
      · refine Or.inl ⟨_, by rw [b_X4_isOnCircle_1, if_neg (show ¬ (16 : Int32) ≤ nI k from n_lt (n := 16) (by omega) (by decide)), if_pos q2], fun _ => ⟨k + 1, by omega, nI_inj q2⟩, fun _ => q2⟩
      · refine Or.inr ⟨by omega, _, by
          rw [b_X4_isOnCircle_1, if_neg (show ¬ (16 : Int32) ≤ nI k from n_lt (n := 16) (by omega) (by decide)), if_neg q2, if_pos (ib_ok (by show itr f (k + 1) a < 16; omega) (by decide)), nI_clamp (by omega), h17, (h _ hj.1 hj.2).2.1, nI_1]
          rfl, rfl, fun r a b => ?_⟩
        by_cases e : r = k + 1
        · subst e; intro e2; exact q2 (by rw [e2])
        · exact hI r a (by omega)
  obtain ⟨t, G, hP⟩ := G
  have hv : f_X4_isOnCircle ν' (nI a) = if t.1 = nI a then some 1 else some 0 := by
    unfold f_X4_isOnCircle
    rw [if_pos (ib_ok (by show a < 16; omega) (by decide)), nI_clamp (by omega), h17, (h a ha hx).2.1]
    exact it_bd G rfl
  rw [hv]
  exact ⟨fun hc => by rw [if_pos (hP.mpr hc)], fun hc => by rw [if_neg (fun e => hc (hP.mp e))]⟩
theorem c_onc {σ ν : gw_S} (h20 : sm ≤ 16) (e3 : σ 0 3 = nI sm) {x : Int32} {f : Nat → Nat} (h : Nx sm x σ ν f) : ∃ y, f_X3_onCircles σ x = some y ∧ ∀ i, i < 32 → (bt y i = true ↔ (i < sm ∧ bt x i = true ∧ cyc f i)) := by
  obtain ⟨t, G, hP⟩ : ∃ t, gw_it (b_X3_onCircles_1 σ x) 4096 ((0 : Int32), (0 : Int32)) = some t ∧ ∀ i, i < 32 → (bt t.1 i = true ↔ (i < sm ∧ bt x i = true ∧ cyc f i)) := by
    refine gw_for (fun k s => s.2 = nI k ∧ ∀ i, i < 32 → (bt s.1 i = true ↔ (i < k ∧ bt x i = true ∧ cyc f i))) _ sm (by omega) ⟨rfl, fun i _ => ⟨fun h => (by rw [b_0] at h; cases h), fun h => absurd h.1 (Nat.not_lt_zero i)⟩⟩ (fun k s hk hI => ?_) (fun s hI => ?_)
    · obtain ⟨y, v⟩ := s
      obtain ⟨e, h1⟩ := hI
      have e : v = nI k := e
      subst e
      have h1 : ∀ i, i < 32 → (bt y i = true ↔ (i < k ∧ bt x i = true ∧ cyc f i)) := h1
      have hst : ∀ (hn : ¬ (bt x k = true ∧ cyc f k)), ∀ i, i < 32 → (bt y i = true ↔ (i < k + 1 ∧ bt x i = true ∧ cyc f i)) := fun hn i hi => by
        rw [h1 i hi]
        constructor
        · rintro ⟨a, b⟩; exact ⟨by omega, b⟩
        · rintro ⟨a, b⟩
          refine ⟨?_, b⟩
          rcases Nat.lt_or_ge i k with h5 | h5
          · exact h5
          · rw [show i = k from by omega] at b; exact absurd b hn
      cases hb : bt x k
      · refine ⟨(y, nI (k + 1)), ?_, rfl, hst (fun h => by rw [hb] at h; cases h.1)⟩
        rw [b_X3_onCircles_1, e3, if_neg (n_lt hk), c_isIn (by omega), bd, hb, if_neg (by decide), nI_1]
      · obtain ⟨c1, c2⟩ := c_cir h20 e3 h hk hb
        by_cases hc : cyc f k
        · refine ⟨(y ||| ((1 : Int32) <<< (nI k &&& 31)), nI (k + 1)), ?_, rfl, fun i hi => ?_⟩
          · rw [b_X3_onCircles_1, e3, if_neg (n_lt hk), c_isIn (by omega), bd, hb, if_pos rfl, if_pos (ib_ok (by omega)), nI_clamp (by omega), c1 hc, bs, if_neg n10, f_X3_bit, bs, nI_1]
          · show bt (y ||| ((1 : Int32) <<< (nI k &&& 31))) i = true ↔ _
            rw [bt_or_bit (by omega) hi, Bool.or_eq_true, h1 i hi, decide_eq_true_eq]
            constructor
            · rintro (⟨a, b⟩ | rfl)
              · exact ⟨by omega, b⟩
              · exact ⟨by omega, hb, hc⟩
            · rintro ⟨a, b⟩
              by_cases e : i = k
              · exact Or.inr e
              · exact Or.inl ⟨by omega, b⟩
        · refine ⟨(y, nI (k + 1)), ?_, rfl, hst (fun h => hc h.2)⟩
          rw [b_X3_onCircles_1, e3, if_neg (n_lt hk), c_isIn (by omega), bd, hb, if_pos rfl, if_pos (ib_ok (by omega)), nI_clamp (by omega), c2 hc, bs, if_pos rfl, nI_1]
    · obtain ⟨y, v⟩ := s
      obtain ⟨e, h1⟩ := hI
      have e : v = nI sm := e
      subst e
      refine ⟨(y, nI sm), ?_, h1⟩
      rw [b_X3_onCircles_1, e3, if_pos (n_le (Nat.le_refl _))]
  exact ⟨t.1, it_bd G rfl, hP⟩
theorem m_onc {σ ν : gw_S} (h20 : sm ≤ 16) (e5 : ν 0 5 = nI sm) {x : Int32} {f : Nat → Nat} (h : Nx sm x σ ν f) : ∃ t, gw_it (b_X4_circles_2 x) 4096 (x, (0 : Int32), ν) = some t ∧ (∀ i, i < 32 → (bt t.1 i = true ↔ (bt x i = true ∧ ¬ (i < sm ∧ cyc f i)))) ∧ (∀ k, k ≠ 18 → t.2.2 k = ν k) ∧ ∀ s, s < sm → ((bt x s = true ∧ cyc f s) → t.2.2 18 s = nI (f s)) ∧ (¬ (bt x s = true ∧ cyc f s) → t.2.2 18 s = ν 18 s) := by
  refine gw_for (fun k s => s.2.1 = nI k ∧ (∀ i, i < 32 → (bt s.1 i = true ↔ (bt x i = true ∧ ¬ (i < k ∧ cyc f i)))) ∧ (∀ k, k ≠ 18 → s.2.2 k = ν k) ∧ ∀ q, q < sm → ((q < k ∧ bt x q = true ∧ cyc f q) → s.2.2 18 q = nI (f q)) ∧ (¬ (q < k ∧ bt x q = true ∧ cyc f q) → s.2.2 18 q = ν 18 q)) _ sm (by omega) ⟨rfl, fun i _ => ⟨fun h => ⟨h, fun h2 => absurd h2.1 (Nat.not_lt_zero i)⟩, fun h => h.1⟩, fun _ _ => rfl, fun q _ => ⟨fun h => absurd h.1 (Nat.not_lt_zero q), fun _ => rfl⟩⟩ (fun k s hk hI => ?_) (fun s hI => ?_)
  · obtain ⟨y, v, ρ⟩ := s
    obtain ⟨e, h1, h2, h3⟩ := hI
    have e : v = nI k := e
    subst e
    have h1 : ∀ i, i < 32 → (bt y i = true ↔ (bt x i = true ∧ ¬ (i < k ∧ cyc f i))) := h1
    have h2 : ∀ k, k ≠ 18 → ρ k = ν k := h2
    have h3 : ∀ q, q < sm → ((q < k ∧ bt x q = true ∧ cyc f q) → ρ 18 q = nI (f q)) ∧ (¬ (q < k ∧ bt x q = true ∧ cyc f q) → ρ 18 q = ν 18 q) := h3
    have e5' : ρ 0 5 = nI sm := by rw [h2 0 (by omega)]; exact e5
    have stay : ¬ (bt x k = true ∧ cyc f k) → (∀ i, i < 32 → (bt y i = true ↔ (bt x i = true ∧ ¬ (i < k + 1 ∧ cyc f i)))) ∧ ∀ q, q < sm → ((q < k + 1 ∧ bt x q = true ∧ cyc f q) → ρ 18 q = nI (f q)) ∧ (¬ (q < k + 1 ∧ bt x q = true ∧ cyc f q) → ρ 18 q = ν 18 q) := fun hn => ⟨fun i hi => by
      rw [h1 i hi]
      constructor
      · rintro ⟨a, b⟩
        refine ⟨a, fun h => ?_⟩
        by_cases e : i = k
        · subst e; exact hn ⟨a, h.2⟩
        · exact b ⟨by omega, h.2⟩
      · rintro ⟨a, b⟩; exact ⟨a, fun h => b ⟨by omega, h.2⟩⟩, fun q hq => ⟨fun hh => by
        by_cases e : q = k
        · subst e; exact absurd hh.2 hn
        · exact (h3 q hq).1 ⟨by omega, hh.2⟩, fun hh => (h3 q hq).2 (fun h4 => hh ⟨by omega, h4.2⟩)⟩⟩
    cases hb : bt x k
    · have hn : ¬ (bt x k = true ∧ cyc f k) := fun h => by rw [hb] at h; cases h.1
      refine ⟨(y, nI (k + 1), ρ), ?_, rfl, (stay hn).1, h2, (stay hn).2⟩
      rw [b_X4_circles_2, e5', if_neg (n_lt hk), m_has (by omega), bd, hb, if_neg (by decide), nI_1]
    · obtain ⟨c1, c2⟩ := m_cir h20 h hk hb (h2 17 (by omega))
      by_cases hc : cyc f k
      · refine ⟨(y &&& (((1 : Int32) <<< (nI k &&& 31)) ^^^ (-1 : Int32)), nI (k + 1), gw_up ρ 18 k (nI (f k))), ?_, rfl, fun i hi => ?_, fun q hq => ?_, fun q hq => ⟨fun hh => ?_, fun hh => ?_⟩⟩
        · rw [b_X4_circles_2, e5', if_neg (n_lt hk), m_has (by omega), bd, hb, if_pos rfl, c1 hc, bs, if_neg n10, if_pos (ib_ok (by show k < 16; omega) (by decide)), if_pos (ib_ok (by show k < 16; omega) (by decide)), nI_clamp (by omega), h2 17 (by omega), (h k hk hb).2.1, nI_1]
        · show bt (y &&& (((1 : Int32) <<< (nI k &&& 31)) ^^^ (-1 : Int32))) i = true ↔ _
          rw [bt_nbit (by omega) hi, Bool.and_eq_true, h1 i hi]
          constructor
          · rintro ⟨⟨a, b⟩, d⟩
            have hik : i ≠ k := by simpa using d
            exact ⟨a, fun hh => b ⟨by omega, hh.2⟩⟩
          · rintro ⟨a, b⟩
            have hik : i ≠ k := fun e => b ⟨by omega, by rw [e]; exact hc⟩
            exact ⟨⟨a, fun hh => b ⟨by omega, hh.2⟩⟩, by simpa using hik⟩
        · show gw_up ρ 18 k (nI (f k)) q = ν q
          rw [gw_up_rown hq, h2 q hq]
        · show gw_up ρ 18 k (nI (f k)) 18 q = nI (f q)
          by_cases e : q = k
          · subst e; rw [gw_up_s]
          · rw [gw_up_n (by omega)]; exact (h3 q hq).1 ⟨by omega, hh.2⟩
        · show gw_up ρ 18 k (nI (f k)) 18 q = ν 18 q
          by_cases e : q = k
          · subst e; exact absurd ⟨by omega, hb, hc⟩ hh
          · rw [gw_up_n (by omega)]; exact (h3 q hq).2 (fun h4 => hh ⟨by omega, h4.2⟩)
      · have hn : ¬ (bt x k = true ∧ cyc f k) := fun h => hc h.2
        refine ⟨(y, nI (k + 1), ρ), ?_, rfl, (stay hn).1, h2, (stay hn).2⟩
        rw [b_X4_circles_2, e5', if_neg (n_lt hk), m_has (by omega), bd, hb, if_pos rfl, c2 hc, bs, if_pos rfl, nI_1]
  · obtain ⟨y, v, ρ⟩ := s
    obtain ⟨e, h1, h2, h3⟩ := hI
    have e : v = nI sm := e
    subst e
    have h2 : ∀ k, k ≠ 18 → ρ k = ν k := h2
    refine ⟨(y, nI sm, ρ), ?_, h1, h2, fun s hs => ⟨fun hh => (h3 s hs).1 ⟨hs, hh⟩, fun hh => (h3 s hs).2 (fun h4 => hh h4.2)⟩⟩
    rw [b_X4_circles_2, show ρ 0 5 = nI sm from by rw [h2 0 (by omega)]; exact e5, if_pos (n_le (Nat.le_refl _))]
end exh
