/-! PATHS -/
theorem pth_snoc {D : Nat → Int32} {j i : Nat} (h : bt (D j) i = true) : ∀ {n c : Nat}, pth D n c j → pth D (n + 1) c i
  | 0, c, h1 => ⟨j, h1, h⟩
  | n + 1, c, ⟨m, h1, h2⟩ => ⟨m, h1, pth_snoc h h2⟩
theorem pth_last {D : Nat → Int32} {i : Nat} : ∀ {n c : Nat}, pth D (n + 1) c i → ∃ j, pth D n c j ∧ bt (D j) i = true
  | 0, c, ⟨m, h1, h2⟩ => ⟨m, h1, h2⟩
  | n + 1, c, ⟨m, h1, h2⟩ => by
    obtain ⟨j, h3, h4⟩ := pth_last h2
    exact ⟨j, ⟨m, h1, h3⟩, h4⟩
theorem rch_snoc {D : Nat → Int32} {c j i : Nat} (h1 : rch D c j) (h : bt (D j) i = true) : rch D c i := by
  obtain ⟨n, h1⟩ := h1
  exact ⟨n + 1, pth_snoc h h1⟩
theorem pth_add {D : Nat → Int32} {j i n : Nat} (h : pth D n j i) : ∀ {m c : Nat}, pth D m c j → pth D (m + n + 1) c i
  | 0, c, h1 => ⟨j, h1, by rw [Nat.zero_add]; exact h⟩
  | m + 1, c, ⟨q, h1, h2⟩ => ⟨q, h1, by rw [show m + 1 + n = m + n + 1 from by omega]; exact pth_add h h2⟩
theorem rch_tr {D : Nat → Int32} {c j i : Nat} (h1 : rch D c j) (h2 : rch D j i) : rch D c i := by
  obtain ⟨m, h1⟩ := h1
  obtain ⟨n, h2⟩ := h2
  exact ⟨_, pth_add h2 h1⟩
theorem pth_fn {D : Nat → Int32} {i : Nat} : ∀ {n c : Nat}, pth D n c i → ∃ f : Nat → Nat, f 0 = c ∧ f (n + 1) = i ∧ ∀ j, j ≤ n → bt (D (f j)) (f (j + 1)) = true
  | 0, c, h => ⟨fun k => if k = 0 then c else i, rfl, rfl, fun j hj => by rw [show j = 0 from by omega]; exact h⟩
  | n + 1, c, ⟨m, h1, h2⟩ => by
    obtain ⟨f, e1, e2, e3⟩ := pth_fn h2
    refine ⟨fun k => if k = 0 then c else f (k - 1), rfl, ?_, fun j hj => ?_⟩
    · show (if n + 1 + 1 = 0 then c else f (n + 1 + 1 - 1)) = i
      rw [if_neg (by omega)]; exact e2
    · rcases Nat.eq_zero_or_pos j with h | h
      · subst h
        show bt (D c) (if 0 + 1 = 0 then c else f (0 + 1 - 1)) = true
        rw [if_neg (by omega), show 0 + 1 - 1 = 0 from rfl, e1]; exact h1
      · show bt (D (if j = 0 then c else f (j - 1))) (if j + 1 = 0 then c else f (j + 1 - 1)) = true
        rw [if_neg (by omega), if_neg (by omega)]
        have := e3 (j - 1) (by omega)
        rw [show j - 1 + 1 = j + 1 - 1 from by omega] at this
        exact this
theorem seg {D : Nat → Int32} {f : Nat → Nat} {n : Nat} (h : ∀ j, j ≤ n → bt (D (f j)) (f (j + 1)) = true) {i : Nat} : ∀ d, i + d ≤ n → rch D (f i) (f (i + d + 1))
  | 0, h1 => ⟨0, h i h1⟩
  | d + 1, h1 => rch_snoc (seg h d (by omega)) (h (i + d + 1) (by omega))
/-- no circles: paths are short -/
theorem pth_short {D : Nat → Int32} {cm : Nat} (hb : ∀ c, c < cm → ∀ k, bt (D c) k = true → k < cm) (ha : ∀ c, c < cm → ¬ rch D c c) {n c i : Nat} (hc : c < cm) (h : pth D n c i) : n + 1 ≤ cm := by
  obtain ⟨f, e1, e2, e3⟩ := pth_fn h
  have hl : ∀ j, j ≤ n + 1 → f j < cm := by
    intro j
    induction j with
    | zero => intro _; rw [e1]; exact hc
    | succ j ih => intro hj; exact hb _ (ih (by omega)) _ (e3 j (by omega))
  refine fb_holes cm (n + 1) (fun j => f (j + 1)) (fun j hj => hl _ (by omega)) (fun i j hij hj e => ?_)
  have e : f (i + 1) = f (j + 1) := e
  have := seg e3 (i := i + 1) (j - i - 1) (by omega)
  rw [show i + 1 + (j - i - 1) + 1 = j + 1 from by omega, ← e] at this
  exact ha _ (hl _ (by omega)) this
section rq
variable {cm sm td : Nat} {τ μ : gw_S}
/-- what a course requires, as the reference finds it -/
theorem m_req0 (h20 : cm ≤ 20) (e0 : μ 0 0 = nI cm) (hb : ∀ c, c < cm → ∀ k, bt (μ 4 c) k = true → k < cm) (ha : ∀ c, c < cm → ¬ rch (μ 4) c c) {c : Nat} (hc : c < cm) : ∃ x, f_X4_requiredBy μ (nI c) = some x ∧ ∀ k, bt x k = true ↔ rch (μ 4) c k := by
  have hin : ∀ (r : Int32) (B : Int32), (∀ i, bt B i = true → rch (μ 4) c i) → ∃ t, gw_it (b_X4_requiredBy_2 μ (nI c) r) 4096 (B, 0) = some t ∧ ((∀ j, bt B j = true → bt t.1 j = true) ∧ (∀ j, j < cm → bt B j = true → ∀ i, bt (μ 4 j) i = true → bt t.1 i = true) ∧ ∀ i, bt t.1 i = true → rch (μ 4) c i) := by
    intro r B hB
    refine gw_for (fun k s => s.2 = nI k ∧ (∀ j, bt B j = true → bt s.1 j = true) ∧ (∀ j, j < k → bt B j = true → ∀ i, bt (μ 4 j) i = true → bt s.1 i = true) ∧ ∀ i, bt s.1 i = true → rch (μ 4) c i) _ cm (by omega) ⟨rfl, fun j h => h, fun j h => absurd h (Nat.not_lt_zero j), hB⟩ (fun k s hk hI => ?_) (fun s hI => ?_)
    · obtain ⟨v, w⟩ := s
      obtain ⟨rfl, h1, h2, h3⟩ := hI
      have hv : b_X4_requiredBy_2 μ (nI c) r (v, nI k) = if bt v k = true then some (.inl (v ||| μ 4 k, nI (k + 1))) else some (.inl (v, nI (k + 1))) := by
        show (if μ 0 0 ≤ nI k then _ else _) = _
        rw [e0, if_neg (n_lt hk), m_has (by omega), bd, if_pos (ib_ok (by show k < 20; omega) (by decide)), nI_clamp (by omega), nI_1, show v ||| 0 = v from by rw [Int32.or_zero]]
      rw [hv]
      cases hb2 : bt v k
      · refine ⟨_, rfl, rfl, h1, fun j hj hj2 i hi => ?_, h3⟩
        rcases Nat.lt_or_ge j k with h4 | h4
        · exact h2 j h4 hj2 i hi
        · rw [show j = k from by omega] at hj2
          have := h1 k hj2
          rw [hb2] at this; cases this
      · refine ⟨_, rfl, rfl, fun j hj => ?_, fun j hj hj2 i hi => ?_, fun i hi => ?_⟩
        · show bt (v ||| μ 4 k) j = true
          rw [b_or, h1 j hj]; rfl
        · show bt (v ||| μ 4 k) i = true
          rw [b_or]
          rcases Nat.lt_or_ge j k with h4 | h4
          · rw [h2 j h4 hj2 i hi]; rfl
          · rw [show j = k from by omega] at hi
            rw [hi, Bool.or_true]
        · have hi : bt (v ||| μ 4 k) i = true := hi
          rw [b_or] at hi
          cases hv2 : bt v i
          · rw [hv2, Bool.false_or] at hi
            exact rch_snoc (h3 k hb2) hi
          · exact h3 i hv2
    · obtain ⟨v, w⟩ := s
      obtain ⟨rfl, h1, h2, h3⟩ := hI
      refine ⟨(v, nI cm), ?_, h1, h2, h3⟩
      show (if μ 0 0 ≤ nI cm then _ else _) = _
      rw [e0, if_pos (n_le (Nat.le_refl _))]
  obtain ⟨t, G, h1, h2⟩ : ∃ t, gw_it (b_X4_requiredBy_1 μ (nI c)) 4096 (μ 4 c, 0) = some t ∧ ((∀ n, n ≤ 20 → ∀ i, pth (μ 4) n c i → bt t.1 i = true) ∧ ∀ i, bt t.1 i = true → rch (μ 4) c i) := by
    refine gw_for (fun r s => s.2 = nI r ∧ (∀ n, n ≤ r → ∀ i, pth (μ 4) n c i → bt s.1 i = true) ∧ ∀ i, bt s.1 i = true → rch (μ 4) c i) _ 20 (by omega) ⟨rfl, fun n hn i hp => by rw [show n = 0 from by omega] at hp; exact hp, fun i (hi : bt (μ 4 c) i = true) => ⟨0, hi⟩⟩ (fun r s hr hI => ?_) (fun s hI => ?_)
    · obtain ⟨v, w⟩ := s
      obtain ⟨rfl, h1, h2⟩ := hI
      obtain ⟨t, G, g1, g2, g3⟩ := hin (nI r) v h2
      refine ⟨(t.1, nI (r + 1)), ?_, rfl, fun n hn i hp => ?_, g3⟩
      · show (if nI 20 ≤ nI r then _ else _) = _
        rw [if_neg (n_lt hr)]
        refine it_bd G ?_
        rw [nI_1]
      · rcases Nat.lt_or_ge n (r + 1) with h4 | h4
        · exact g1 i (h1 n (by omega) i hp)
        · have hn2 : n = r + 1 := by omega
          subst hn2
          obtain ⟨j, hj, hi⟩ := pth_last hp
          have hjb : bt v j = true := h1 r (Nat.le_refl _) j hj
          have hjc : j < cm := by
            cases r with
            | zero => exact hb c hc j hj
            | succ r =>
              obtain ⟨q, hq, hq2⟩ := pth_last hj
              have : q < cm := by
                have hq3 : pth (μ 4) (r + 1) c j := hj
                have := pth_short hb ha hc hq3
                obtain ⟨f, e1, e2, e3⟩ := pth_fn hq
                have hl : ∀ x, x ≤ r + 1 → f x < cm := by
                  intro x
                  induction x with
                  | zero => intro _; rw [e1]; exact hc
                  | succ x ih => intro hx; exact hb _ (ih (by omega)) _ (e3 x (by omega))
                rw [← e2]; exact hl _ (Nat.le_refl _)
              exact hb q this j hq2
          exact g2 j hjc hjb i hi
    · obtain ⟨v, w⟩ := s
      obtain ⟨rfl, h1, h2⟩ := hI
      exact ⟨(v, nI 20), rfl, h1, h2⟩
  refine ⟨t.1, ?_, fun k => ⟨h2 k, fun hk => ?_⟩⟩
  · unfold f_X4_requiredBy
    rw [if_pos (ib_ok (by show c < 20; omega) (by decide)), nI_clamp (by omega)]
    exact it_bd G rfl
  · obtain ⟨n, hn⟩ := hk
    have := pth_short hb ha hc hn
    exact h1 n (by omega) k hn
theorem m_req (R : Rl cm sm τ μ) (I : Iv cm sm td μ) {c : Nat} (hc : c < cm) : f_X4_requiredBy μ (nI c) = some (τ (4 + c) 7) := by
  obtain ⟨x, e, hx⟩ := m_req0 R.1.1 (r_cm' R) (fun c hc => (I.2.1 c hc).2.2.2) I.2.2.2.2.2.2.2.2.2 hc
  rw [e]
  refine congrArg some (b_ext (fun i hi => ?_))
  rw [Bool.eq_iff_iff, hx i, r_clo R hc hi]
/-! THE OBSTACLE -/
theorem c_cre (R : Rl cm sm τ μ) (x : Int32) : f_X3_creditsOf τ x = some (wsum μ x cm) := by
  have hc := R.1
  unfold f_X3_creditsOf
  have G : gw_it (b_X3_creditsOf_1 τ x) 4096 (wsum μ x 0, nI 0) = some (wsum μ x cm, nI cm) := by
    refine gw_fun (fun k => (wsum μ x k, nI k)) (wsum μ x cm, nI cm) cm (by omega) (fun k hk => ?_) ?_
    · show (if τ 0 2 ≤ nI k then _ else _) = _
      rw [r_cm R, if_neg (n_lt hk), c_isIn (by omega), bd, if_pos (ib_ok (by omega)), nI_clamp (by omega), r_wor R hk, nI_1, wsum]
      cases bt x k <;> rfl
    · show (if τ 0 2 ≤ nI cm then _ else _) = _
      rw [r_cm R, if_pos (n_le (Nat.le_refl _))]
  exact it_bd G rfl
theorem m_wor (R : Rl cm sm τ μ) (x : Int32) : f_X4_worthOf μ x = some (wsum μ x cm) := by
  have hc := R.1
  unfold f_X4_worthOf
  have G : gw_it (b_X4_worthOf_1 μ x) 4096 (wsum μ x 0, nI 0) = some (wsum μ x cm, nI cm) := by
    refine gw_fun (fun k => (wsum μ x k, nI k)) (wsum μ x cm, nI cm) cm (by omega) (fun k hk => ?_) ?_
    · show (if μ 0 0 ≤ nI k then _ else _) = _
      rw [r_cm' R, if_neg (n_lt hk), m_has (by omega), bd, if_pos (ib_ok (by show k < 20; omega) (by decide)), nI_clamp (by omega), nI_1, wsum, Int32.add_zero]
      cases bt x k <;> rfl
    · show (if μ 0 0 ≤ nI cm then _ else _) = _
      rw [r_cm' R, if_pos (n_le (Nat.le_refl _))]
  exact it_bd G rfl
theorem c_hou (R : Rl cm sm τ μ) (x : Int32) : ∃ y, f_X3_hoursOf τ x = some y ∧ ∀ i, i < 32 → (bt y i = true ↔ ∃ k, k < cm ∧ bt x k = true ∧ bt (μ 3 k) i = true) := by
  have hc := R.1
  unfold f_X3_hoursOf
  obtain ⟨t, G, h⟩ : ∃ t, gw_it (b_X3_hoursOf_1 τ x) 4096 ((0 : Int32), (0 : Int32)) = some t ∧ ∀ i, i < 32 → (bt t.1 i = true ↔ ∃ k, k < cm ∧ bt x k = true ∧ bt (μ 3 k) i = true) := by
    refine gw_for (fun n s => s.2 = nI n ∧ ∀ i, i < 32 → (bt s.1 i = true ↔ ∃ k, k < n ∧ bt x k = true ∧ bt (μ 3 k) i = true)) _ cm (by omega) ⟨rfl, fun i hi => ⟨fun h => (by rw [b_0] at h; cases h), fun ⟨k, hk, _⟩ => absurd hk (Nat.not_lt_zero k)⟩⟩ (fun k s hk hI => ?_) (fun s hI => ?_)
    · obtain ⟨v, w⟩ := s
      obtain ⟨rfl, h1⟩ := hI
      have hv : b_X3_hoursOf_1 τ x (v, nI k) = if bt x k = true then some (.inl (v ||| μ 3 k, nI (k + 1))) else some (.inl (v, nI (k + 1))) := by
        show (if τ 0 2 ≤ nI k then _ else _) = _
        rw [r_cm R, if_neg (n_lt hk), c_isIn (by omega), bd, if_pos (ib_ok (by omega)), nI_clamp (by omega), r_hou R hk, nI_1]
      rw [hv]
      cases hx : bt x k
      · refine ⟨_, rfl, rfl, fun i hi => ?_⟩
        rw [h1 i hi]
        constructor
        · rintro ⟨j, hj, h⟩; exact ⟨j, by omega, h⟩
        · rintro ⟨j, hj, h, h2⟩
          refine ⟨j, ?_, h, h2⟩
          rcases Nat.lt_or_ge j k with h4 | h4
          · exact h4
          · rw [show j = k from by omega, hx] at h; cases h
      · refine ⟨_, rfl, rfl, fun i hi => ?_⟩
        show bt (v ||| μ 3 k) i = true ↔ _
        rw [b_or, Bool.or_eq_true, h1 i hi]
        constructor
        · rintro (⟨j, hj, h⟩ | h)
          · exact ⟨j, by omega, h⟩
          · exact ⟨k, by omega, hx, h⟩
        · rintro ⟨j, hj, h, h2⟩
          rcases Nat.lt_or_ge j k with h4 | h4
          · exact Or.inl ⟨j, h4, h, h2⟩
          · rw [show j = k from by omega] at h2; exact Or.inr h2
    · obtain ⟨v, w⟩ := s
      obtain ⟨rfl, h1⟩ := hI
      refine ⟨(v, nI cm), ?_, h1⟩
      show (if τ 0 2 ≤ nI cm then _ else _) = _
      rw [r_cm R, if_pos (n_le (Nat.le_refl _))]
  exact ⟨t.1, it_bd G rfl, h⟩
theorem hou_iff {y z x : Int32} {H : Nat → Int32} (h : ∀ i, i < 32 → (bt y i = true ↔ ∃ k, k < cm ∧ bt x k = true ∧ bt (H k) i = true)) : y &&& z = 0 ↔ ∀ k, k < cm → bt x k = true → H k &&& z = 0 := by
  rw [bt_nz]
  constructor
  · intro h1 k hk hx
    rw [bt_nz]
    intro i hi
    have := h1 i hi
    rw [b_and] at this ⊢
    cases hz : bt (H k) i
    · rfl
    · rw [(h i hi).mpr ⟨k, hk, hx, hz⟩] at this; exact this
  · intro h1 i hi
    rw [b_and]
    cases hy : bt y i
    · rfl
    · obtain ⟨k, hk, hx, hz⟩ := (h i hi).mp hy
      have := bt_nz.mp (h1 k hk hx) i hi
      rw [b_and, hz] at this; exact this
theorem m_obs5 (R : Rl cm sm τ μ) (y : Int32) {c : Nat} (hc : c < cm) (x : Int32) : ∃ t, gw_it (b_X4_obstacleWith_1 μ y (nI c) x) 4096 (0 : Int32) = some t ∧ ((∃ w, t = .inl w ∧ ∀ k, k < cm → bt x k = true → μ 3 k &&& μ 3 c = 0) ∨ (t = .inr 5 ∧ ¬ ∀ k, k < cm → bt x k = true → μ 3 k &&& μ 3 c = 0)) := by
  have h20 := R.1
  refine gw_run0 (fun n s => s = nI n ∧ ∀ k, k < n → bt x k = true → μ 3 k &&& μ 3 c = 0) _ cm (by omega) ⟨rfl, fun k hk => absurd hk (Nat.not_lt_zero k)⟩ (fun n s hn hI => ?_)
  obtain ⟨rfl, h1⟩ := hI
  rcases Nat.lt_or_ge n cm with h | h
  · have hv : b_X4_obstacleWith_1 μ y (nI c) x (nI n) = if bt x n = true then (if μ 3 n &&& μ 3 c = 0 then some (.inl (nI (n + 1))) else some (.inr (.inr 5))) else some (.inl (nI (n + 1))) := by
      show (if μ 0 0 ≤ nI n then _ else _) = _
      rw [r_cm' R, if_neg (n_lt h), m_has (by omega), bd, if_pos (ib_ok (by show n < 20; omega) (by decide)), if_pos (ib_ok (by show c < 20; omega) (by decide)), nI_clamp (by omega), nI_clamp (by omega), nI_1]
    rw [hv]
    cases hx : bt x n
    · refine Or.inr ⟨h, _, rfl, rfl, fun k hk hk2 => ?_⟩
      rcases Nat.lt_or_ge k n with h4 | h4
      · exact h1 k h4 hk2
      · rw [show k = n from by omega, hx] at hk2; cases hk2
    · by_cases hz : μ 3 n &&& μ 3 c = 0
      · rw [if_pos rfl, if_pos hz]
        refine Or.inr ⟨h, _, rfl, rfl, fun k hk hk2 => ?_⟩
        rcases Nat.lt_or_ge k n with h4 | h4
        · exact h1 k h4 hk2
        · rw [show k = n from by omega]; exact hz
      · rw [if_pos rfl, if_neg hz]
        exact Or.inl ⟨_, rfl, Or.inr ⟨rfl, fun h5 => hz (h5 n h hx)⟩⟩
  · rw [show n = cm from by omega] at h1 ⊢
    refine Or.inl ⟨.inl (nI cm), ?_, Or.inl ⟨_, rfl, h1⟩⟩
    show (if μ 0 0 ≤ nI cm then _ else _) = _
    rw [r_cm' R, if_pos (n_le (Nat.le_refl _))]
/-- the obstacle: both find the same -/
theorem obst (R : Rl cm sm τ μ) (I : Iv cm sm td μ) {s c : Nat} (hs : s < sm) (hc : c < cm) (x : Int32) : ∃ v, f_X3_obstacleFor τ (24 + s) (4 + c) x = some v ∧ f_X4_obstacleWith μ (nI s) (nI c) x = some v ∧ (v = 0 ↔ noob cm μ s c x) := by
  have h20 := R.1
  obtain ⟨y, ey, hy⟩ := c_hou R x
  obtain ⟨t, G, ht⟩ := m_obs5 R (nI s) hc x
  have h3 : (∀ i, i < 32 → bt (τ (4 + c) 7) i = true → bt (μ 7 s) i = true) ↔ ∀ k, k < 32 → rch (μ 4) c k → bt (μ 7 s) k = true := by
    constructor
    · intro h k hk hr; exact h k hk ((r_clo R hc hk).mpr hr)
    · intro h k hk hr; exact h k hk ((r_clo R hc hk).mp hr)
  have hA : f_X3_obstacleFor τ (24 + s) (4 + c) x = if bt (μ 7 s) c = true then some 1 else if bt x c = true then some 2 else if τ (4 + c) 7 &&& (μ 7 s ^^^ (-1 : Int32)) = 0 then (if wsum μ x cm + μ 2 c ≤ μ 6 s then (if y &&& μ 3 c = 0 then some 0 else some 5) else some 4) else some 3 := by
    unfold f_X3_obstacleFor
    rw [r_ci R hc, r_pas R hs, c_isIn (by omega), bd, c_isIn (by omega), bd, c_cre R, bs, r_wor R hc, r_lim R hs, ey, bs, r_hou R hc]
  have hB : f_X4_obstacleWith μ (nI s) (nI c) x = if bt (μ 7 s) c = true then some 1 else if bt x c = true then some 2 else if τ (4 + c) 7 &&& (μ 7 s ^^^ (-1 : Int32)) = 0 then (if wsum μ x cm + μ 2 c ≤ μ 6 s then (gw_xb t (fun _ => some 0) (fun r => some r)) else some 4) else some 3 := by
    unfold f_X4_obstacleWith
    rw [if_pos (ib_ok (by show s < 16; omega) (by decide)), nI_clamp (n := s) (by omega), m_has (by omega), bd, m_has (by omega), bd, m_req R I hc, bs, if_pos (ib_ok (by show s < 16; omega) (by decide)), m_wor R, bs, if_pos (ib_ok (by show c < 20; omega) (by decide)), if_pos (ib_ok (by show s < 16; omega) (by decide)), nI_clamp (n := c) (by omega), G, bs]
  rw [hA, hB]
  unfold noob
  by_cases a1 : bt (μ 7 s) c = true
  · rw [if_pos a1, if_pos a1, a1]
    exact ⟨_, rfl, rfl, by simp⟩
  rw [if_neg a1, if_neg a1]
  by_cases a2 : bt x c = true
  · rw [if_pos a2, if_pos a2, a2]
    exact ⟨_, rfl, rfl, by simp⟩
  rw [if_neg a2, if_neg a2]
  by_cases a3 : τ (4 + c) 7 &&& (μ 7 s ^^^ (-1 : Int32)) = 0
  · rw [if_pos a3, if_pos a3]
    have b3 := h3.mp (and_not.mp a3)
    by_cases a4 : wsum μ x cm + μ 2 c ≤ μ 6 s
    · rw [if_pos a4, if_pos a4]
      rcases ht with ⟨w, e, h5⟩ | ⟨e, h5⟩
      · rw [if_pos ((hou_iff hy).mpr h5), e]
        exact ⟨_, rfl, rfl, fun _ => ⟨by simpa using a1, by simpa using a2, b3, a4, h5⟩, fun _ => rfl⟩
      · rw [if_neg (fun h => h5 ((hou_iff hy).mp h)), e]
        exact ⟨_, rfl, rfl, fun h => absurd h (by decide), fun h => absurd h.2.2.2.2 h5⟩
    · rw [if_neg a4, if_neg a4]
      exact ⟨_, rfl, rfl, fun h => absurd h (by decide), fun h => absurd h.2.2.2.1 a4⟩
  · rw [if_neg a3, if_neg a3]
    exact ⟨_, rfl, rfl, fun h => absurd h (by decide), fun h => absurd (and_not.mpr (h3.mpr h.2.2.1)) a3⟩
end rq
/-! PLACES ON LISTS -/
def fnd (f : Nat → Int32) (n : Nat) (x : Int32) : Int32 := if fa_first (fun i => decide (f i = x)) n < n then nI (fa_first (fun i => decide (f i = x)) n) else -1
theorem fnd_c {f : Nat → Int32} {n : Nat} {x : Int32} (hn : n < 1000) : (fnd f n x = -1 ∧ ∀ i, i < n → f i ≠ x) ∨ ∃ p, p < n ∧ fnd f n x = nI p ∧ f p = x ∧ ∀ i, i < p → f i ≠ x := by
  unfold fnd
  by_cases h : fa_first (fun i => decide (f i = x)) n < n
  · rw [if_pos h]
    exact Or.inr ⟨_, h, rfl, by simpa using fa_first_yes _ n h, fun i hi => by simpa using fa_first_no _ n i hi⟩
  · rw [if_neg h]
    exact Or.inl ⟨rfl, fun i hi => by simpa using fa_first_no (fun i => decide (f i = x)) n i (by omega)⟩
theorem c_place {τ : gw_S} {a n : Nat} {f : Nat → Int32} (x : Int32) (h1 : τ a 1 = nI n) (h2 : n ≤ gw_len (a + 36)) (h3 : ∀ i, i < n → τ (a + 36) i = f i) : f_X1_placeOf τ a x = some (fnd f n x) := by
  have hg : gw_len (a + 36) ≤ 16 := by unfold gw_len; split <;> omega
  have hl := fa_first_le (fun i => decide (f i = x)) n
  unfold f_X1_placeOf fnd
  have G : gw_it (b_X1_placeOf_1 τ a x) 4096 (nI 0) = some (if fa_first (fun i => decide (f i = x)) n < n then .inr (nI (fa_first (fun i => decide (f i = x)) n)) else .inl (nI n)) := by
    refine gw_fun (fun k => nI k) _ (fa_first (fun i => decide (f i = x)) n) (by omega) (fun k hk => ?_) ?_
    · have := fa_first_no (fun i => decide (f i = x)) n k hk
      show (if τ a 1 ≤ nI k then _ else _) = _
      rw [h1, if_neg (n_lt (by omega) (by omega)), if_pos (ib_ok (by omega) (by omega)), nI_clamp (by omega), h3 k (by omega), if_neg (by simpa using this), nI_1]
    · show (if τ a 1 ≤ nI _ then _ else _) = _
      by_cases h : fa_first (fun i => decide (f i = x)) n < n
      · have := fa_first_yes (fun i => decide (f i = x)) n h
        rw [h1, if_neg (n_lt h (by omega)), if_pos (ib_ok (by omega) (by omega)), nI_clamp (by omega), h3 _ h, if_pos (by simpa using this), if_pos h]
      · rw [h1, if_pos (n_le (by omega) (by omega)), if_neg h, show fa_first (fun i => decide (f i = x)) n = n from by omega]
  refine it_bd G ?_
  split <;> rfl
theorem m_waitPlace {μ : gw_S} {c n : Nat} (x : Int32) (hc : c < 20) (h1 : μ 13 c = nI n) (h2 : n ≤ 16) : f_X4_waitPlace μ x (nI c) = some (fnd (fun i => μ 14 (16 * c + i)) n x) := by
  have hl := fa_first_le (fun i => decide (μ 14 (16 * c + i) = x)) n
  unfold f_X4_waitPlace fnd
  have G : gw_it (b_X4_waitPlace_1 μ x (nI c)) 4096 (nI 0) = some (if fa_first (fun i => decide (μ 14 (16 * c + i) = x)) n < n then .inr (nI (fa_first (fun i => decide (μ 14 (16 * c + i) = x)) n)) else .inl (nI n)) := by
    refine gw_fun (fun k => nI k) _ (fa_first (fun i => decide (μ 14 (16 * c + i) = x)) n) (by omega) (fun k hk => ?_) ?_
    · have := fa_first_no (fun i => decide (μ 14 (16 * c + i) = x)) n k hk
      show (if gw_ib (nI c) 20 = true then _ else _) = _
      rw [if_pos (ib_ok hc), nI_clamp (n := c) (by omega), h1, if_neg (n_lt (by omega) (by omega)), x16, if_pos (ib_ok (by show 16 * c + k < 320; omega) (by decide)), nI_clamp (by omega), if_neg (by simpa using this), nI_1]
    · show (if gw_ib (nI c) 20 = true then _ else _) = _
      rw [if_pos (ib_ok hc), nI_clamp (n := c) (by omega), h1]
      by_cases h : fa_first (fun i => decide (μ 14 (16 * c + i) = x)) n < n
      · have := fa_first_yes (fun i => decide (μ 14 (16 * c + i) = x)) n h
        rw [if_neg (n_lt h (by omega)), x16, if_pos (ib_ok (by show 16 * c + _ < 320; omega) (by decide)), nI_clamp (by omega), if_pos (by simpa using this), if_pos h]
      · rw [if_pos (n_le (by omega) (by omega)), if_neg h, show fa_first (fun i => decide (μ 14 (16 * c + i) = x)) n = n from by omega]
  refine it_bd G ?_
  split <;> rfl
theorem m_wishPlace {μ : gw_S} {s n : Nat} (x : Int32) (hc : s < 16) (h1 : μ 9 s = nI n) (h2 : n ≤ 6) : f_X4_wishPlace μ (nI s) x = some (fnd (fun i => μ 10 (6 * s + i)) n x) := by
  have hl := fa_first_le (fun i => decide (μ 10 (6 * s + i) = x)) n
  unfold f_X4_wishPlace fnd
  have G : gw_it (b_X4_wishPlace_1 μ (nI s) x) 4096 (nI 0) = some (if fa_first (fun i => decide (μ 10 (6 * s + i) = x)) n < n then .inr (nI (fa_first (fun i => decide (μ 10 (6 * s + i) = x)) n)) else .inl (nI n)) := by
    refine gw_fun (fun k => nI k) _ (fa_first (fun i => decide (μ 10 (6 * s + i) = x)) n) (by omega) (fun k hk => ?_) ?_
    · have := fa_first_no (fun i => decide (μ 10 (6 * s + i) = x)) n k hk
      show (if gw_ib (nI s) 16 = true then _ else _) = _
      rw [if_pos (ib_ok hc), nI_clamp (n := s) (by omega), h1, if_neg (n_lt (by omega) (by omega)), x6, if_pos (ib_ok (by show 6 * s + k < 96; omega) (by decide)), nI_clamp (by omega), if_neg (by simpa using this), nI_1]
    · show (if gw_ib (nI s) 16 = true then _ else _) = _
      rw [if_pos (ib_ok hc), nI_clamp (n := s) (by omega), h1]
      by_cases h : fa_first (fun i => decide (μ 10 (6 * s + i) = x)) n < n
      · have := fa_first_yes (fun i => decide (μ 10 (6 * s + i) = x)) n h
        rw [if_neg (n_lt h (by omega)), x6, if_pos (ib_ok (by show 6 * s + _ < 96; omega) (by decide)), nI_clamp (by omega), if_pos (by simpa using this), if_pos h]
      · rw [if_pos (n_le (by omega) (by omega)), if_neg h, show fa_first (fun i => decide (μ 10 (6 * s + i) = x)) n = n from by omega]
  refine it_bd G ?_
  split <;> rfl
