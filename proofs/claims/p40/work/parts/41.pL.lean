section ad
variable {cm sm td : Nat} {τ μ : gw_S}
theorem pth_cong {D D' : Nat → Int32} {cm k : Nat} (h : ∀ c, c < cm → D' c = D c) (hb : ∀ c, c < cm → ∀ k, bt (D c) k = true → k < cm) : ∀ n c, c < cm → (pth D' n c k ↔ pth D n c k)
  | 0, c, hc => by unfold pth; rw [h c hc]
  | n + 1, c, hc => by
    unfold pth
    rw [h c hc]
    constructor
    · rintro ⟨m, h1, h2⟩; exact ⟨m, h1, (pth_cong h hb n m (hb c hc m h1)).mp h2⟩
    · rintro ⟨m, h1, h2⟩; exact ⟨m, h1, (pth_cong h hb n m (hb c hc m h1)).mpr h2⟩
theorem rch_cong {D D' : Nat → Int32} {cm : Nat} (h : ∀ c, c < cm → D' c = D c) (hb : ∀ c, c < cm → ∀ k, bt (D c) k = true → k < cm) {c k : Nat} (hc : c < cm) : rch D' c k ↔ rch D c k := by
  unfold rch
  constructor
  · rintro ⟨n, h1⟩; exact ⟨n, (pth_cong h hb n c hc).mp h1⟩
  · rintro ⟨n, h1⟩; exact ⟨n, (pth_cong h hb n c hc).mpr h1⟩
theorem rch_none {D : Nat → Int32} {c k : Nat} (h : D c = 0) : ¬ rch D c k := by
  rintro ⟨n, h1⟩
  cases n with
  | zero => unfold pth at h1; rw [h, b_0] at h1; cases h1
  | succ n => obtain ⟨m, h2, -⟩ := h1; rw [h, b_0] at h2; cases h2
theorem wsum_cg {μ' : gw_S} (x : Int32) : ∀ n, (∀ k, k < n → μ' 2 k = μ 2 k) → wsum μ' x n = wsum μ x n
  | 0, _ => rfl
  | n + 1, h => by rw [wsum, wsum, wsum_cg x n (fun k hk => h k (by omega)), h n (by omega)]
theorem fill16 {b : Nat} {a1 a2 a3 a4 : Int32} {μ : gw_S} (hb : b < 20) : ∃ t, gw_it (b_X4_addCourse_1 a1 a2 a3 a4 (nI b)) 4096 ((0 : Int32), μ) = some t ∧ (∀ r i, r ≠ 15 → t.2 r i = μ r i) ∧ ∀ i, t.2 15 i = if 16 * b ≤ i ∧ i < 16 * b + 16 then -1 else μ 15 i := by
  refine gw_for (fun k s => s.1 = nI k ∧ (∀ r i, r ≠ 15 → s.2 r i = μ r i) ∧ ∀ i, s.2 15 i = if 16 * b ≤ i ∧ i < 16 * b + k then -1 else μ 15 i) _ 16 (by omega) ⟨rfl, fun _ _ _ => rfl, fun i => by rw [if_neg (by omega)]⟩ (fun k s hk hI => ?_) (fun s hI => ?_)
  · obtain ⟨v, σ⟩ := s
    obtain ⟨e, h1, h2⟩ := hI
    have e : v = nI k := e
    subst e
    refine ⟨(nI (k + 1), gw_up σ 15 (16 * b + k) (-1)), ?_, rfl, fun r i hr => ?_, fun i => ?_⟩
    · rw [b_X4_addCourse_1, if_neg (show ¬ (16 : Int32) ≤ nI k from n_lt (n := 16) hk (by decide)), x16, if_pos (ib_ok (by show 16 * b + k < 320; omega) (by decide)), nI_clamp (by omega), nI_1]
    · show gw_up σ 15 (16 * b + k) (-1) r i = _
      rw [gw_up_n (by omega)]; exact h1 r i hr
    · show gw_up σ 15 (16 * b + k) (-1) 15 i = _
      by_cases e : i = 16 * b + k
      · subst e; rw [gw_up_s, if_pos (by omega)]
      · have h2 : σ 15 i = _ := h2 i
        rw [gw_up_n (by omega), h2]
        by_cases e2 : 16 * b ≤ i ∧ i < 16 * b + k
        · rw [if_pos e2, if_pos (by omega)]
        · rw [if_neg e2, if_neg (by omega)]
  · obtain ⟨v, σ⟩ := s
    obtain ⟨e, h1, h2⟩ := hI
    have e : v = nI 16 := e
    subst e
    refine ⟨(nI 16, σ), ?_, h1, h2⟩
    rw [b_X4_addCourse_1, if_pos (show (16 : Int32) ≤ nI 16 by decide)]
theorem fill20 {b : Nat} {a1 a2 : Int32} {μ : gw_S} (hb : b < 16) : ∃ t, gw_it (b_X4_addStudent_1 a1 a2 (nI b)) 4096 ((0 : Int32), μ) = some t ∧ (∀ r i, r ≠ 15 → t.2 r i = μ r i) ∧ ∀ c i, c < 20 → i < 16 → t.2 15 (16 * c + i) = if i = b then -1 else μ 15 (16 * c + i) := by
  obtain ⟨t, G, h1, h2⟩ : ∃ t, gw_it (b_X4_addStudent_1 a1 a2 (nI b)) 4096 ((0 : Int32), μ) = some t ∧ (∀ r i, r ≠ 15 → t.2 r i = μ r i) ∧ ∀ c i, c < 20 → i < 16 → t.2 15 (16 * c + i) = if i = b ∧ c < 20 then -1 else μ 15 (16 * c + i) := by
    refine gw_for (fun k s => s.1 = nI k ∧ (∀ r i, r ≠ 15 → s.2 r i = μ r i) ∧ ∀ c i, c < 20 → i < 16 → s.2 15 (16 * c + i) = if i = b ∧ c < k then -1 else μ 15 (16 * c + i)) _ 20 (by omega) ⟨rfl, fun _ _ _ => rfl, fun c i _ _ => by rw [if_neg (by omega)]⟩ (fun k s hk hI => ?_) (fun s hI => ?_)
    · obtain ⟨v, σ⟩ := s
      obtain ⟨e, h1, h2⟩ := hI
      have e : v = nI k := e
      subst e
      refine ⟨(nI (k + 1), gw_up σ 15 (16 * k + b) (-1)), ?_, rfl, fun r i hr => ?_, fun c i hc hi => ?_⟩
      · rw [b_X4_addStudent_1, if_neg (show ¬ (20 : Int32) ≤ nI k from n_lt (n := 20) hk (by decide)), x16, if_pos (ib_ok (by show 16 * k + b < 320; omega) (by decide)), nI_clamp (by omega), nI_1]
      · show gw_up σ 15 (16 * k + b) (-1) r i = _
        rw [gw_up_n (by omega)]; exact h1 r i hr
      · show gw_up σ 15 (16 * k + b) (-1) 15 (16 * c + i) = _
        by_cases e : c = k ∧ i = b
        · obtain ⟨rfl, rfl⟩ := e; rw [gw_up_s, if_pos (by omega)]
        · have h2 : σ 15 (16 * c + i) = _ := h2 c i hc hi
          rw [gw_up_n (by omega), h2]
          by_cases e2 : i = b ∧ c < k
          · rw [if_pos e2, if_pos (by omega)]
          · rw [if_neg e2, if_neg (by omega)]
    · obtain ⟨v, σ⟩ := s
      obtain ⟨e, h1, h2⟩ := hI
      have e : v = nI 20 := e
      subst e
      refine ⟨(nI 20, σ), ?_, h1, h2⟩
      rw [b_X4_addStudent_1, if_pos (show (20 : Int32) ≤ nI 20 by decide)]
  refine ⟨t, G, h1, fun c i hc hi => ?_⟩
  rw [h2 c i hc hi]
  by_cases e : i = b
  · rw [if_pos ⟨e, hc⟩, if_pos e]
  · rw [if_neg (fun h => e h.1), if_neg e]
/-- a course more -/
theorem newC {j : Nat} {a1 a2 a3 : Int32} {μ' τ' : gw_S} (hj : td ≤ 7 * (j + 1)) (hd : μ 0 17 = nI td) (R : Rl cm sm τ μ) (I : Iv cm sm td μ) (F : Fr cm sm μ) (B : Sb cm sm μ) (hcm : cm < 20) (p1 : lt_ a1 17) (p2 : lt_ a2 13)
    (t0 : τ' 0 2 = nI (cm + 1)) (t1 : τ' (4 + cm) 3 = a1 ∧ τ' (4 + cm) 4 = a2 ∧ τ' (4 + cm) 5 = a3) (tn : ∀ k i, ¬ (k = 0 ∧ i = 2) → ¬ (k = 4 + cm ∧ 3 ≤ i ∧ i ≤ 5) → τ' k i = τ k i)
    (m0 : μ' 0 0 = nI (cm + 1)) (m1 : μ' 1 cm = a1 ∧ μ' 2 cm = a2 ∧ μ' 3 cm = a3 ∧ μ' 4 cm = 0 ∧ μ' 13 cm = 0)
    (m15 : ∀ i, μ' 15 i = if 16 * cm ≤ i ∧ i < 16 * cm + 16 then -1 else μ 15 i) (mn : ∀ r i, r < 15 → ¬ (r = 0 ∧ (i = 0 ∨ i = 18)) → ¬ (i = cm ∧ (r = 1 ∨ r = 2 ∨ r = 3 ∨ r = 4 ∨ r = 13)) → μ' r i = μ r i) : Inv (j + 1) τ' μ' := by
  have hR := id R
  have hI := id I
  obtain ⟨⟨h1, h2⟩, ⟨e1, e2, e3, e4, e5⟩, ⟨i1, i2⟩, L, d1, d2, d3, cl⟩ := R
  obtain ⟨⟨v1, v2⟩, v3, v4, v5, v6, v7, v8, v9, v10, v11⟩ := I
  have hb4 : ∀ c, c < cm → ∀ k, bt (μ 4 c) k = true → k < cm := fun c hc => (v3 c hc).2.2.2
  have m4 : ∀ c, c < cm → μ' 4 c = μ 4 c := fun c hc => mn 4 c (by omega) (by omega) (by omega)
  have rc : ∀ {c k : Nat}, c < cm → (rch (μ' 4) c k ↔ rch (μ 4) c k) := fun {c k} hc => rch_cong m4 hb4 hc
  have row : ∀ r, 5 ≤ r → r < 13 → μ' r = μ r := fun r a b => funext fun i => mn r i (by omega) (by omega) (by omega)
  have r14 : μ' 14 = μ 14 := funext fun i => mn 14 i (by omega) (by omega) (by omega)
  have m13 : ∀ c, c < cm → μ' 13 c = μ 13 c := fun c hc => mn 13 c (by omega) (by omega) (by omega)
  have m15o : ∀ c s, c < cm → s < 16 → μ' 15 (16 * c + s) = μ 15 (16 * c + s) := fun c s hc hs => by rw [m15, if_neg (by omega)]
  have m15n : ∀ s, s < 16 → μ' 15 (16 * cm + s) = -1 := fun s hs => by rw [m15, if_pos (by omega)]
  have henr : ∀ c, enr μ' sm c = enr μ sm c := fun c => enr_same (row 8 (by omega) (by omega)) c
  have hofc : ∀ c, c < cm → ofc μ' sm c = ofc μ sm c := fun c hc => ofc_same (fun t ht => m15o c t hc (by omega))
  refine ⟨cm + 1, sm, td, hj, by rw [mn 0 17 (by omega) (by omega) (by omega)]; exact hd, ⟨⟨by omega, h2⟩, ⟨t0, ?_, m0, ?_, ?_⟩, ⟨fun c hc => ?_, fun s hs => ?_⟩, fun k i hl => ?_, fun c hc hc2 => ⟨?_, ?_, ?_⟩, fun s hs hs2 => ⟨?_, ?_, ?_, ?_, ?_⟩, fun c s hc hs h => ?_, fun c k hc hk => ?_⟩, ⟨⟨v1, ?_⟩, fun c h => ?_, fun s h => ⟨?_, ?_, ?_, ?_, ?_⟩, fun s i h hi => ?_, fun s i j h hi hj => ?_, fun c i h hi => ?_, fun c i j h hi hj => ?_, fun c s h hs => ?_, fun s h => ?_, fun c h => ?_⟩, fun c h => ?_, fun c s h hs g1 g2 g3 g4 => ?_⟩
  · rw [tn 0 3 (by omega) (by omega), e2]
  · rw [mn 0 5 (by omega) (by omega) (by omega), e4]
  · rw [tn 0 4 (by omega) (by omega), mn 0 17 (by omega) (by omega) (by omega), e5]
  · rw [tn _ _ (by omega) (by omega), i1 c hc]
  · rw [tn _ _ (by omega) (by omega), i2 s hs]
  · unfold lv at hl
    rcases hl with ⟨a, b, c, d⟩ | ⟨a, b, c, d⟩ | ⟨a, b, c⟩ | ⟨a, b, c⟩ | ⟨a, b, c⟩ | ⟨a, b, c⟩ | ⟨a, b, c⟩
    · obtain ⟨q, rfl⟩ : ∃ q, k = 4 + q := ⟨k - 4, by omega⟩
      rw [g_c (by omega)]
      by_cases e : q = cm
      · subst e
        rcases (show i = 3 ∨ i = 4 ∨ i = 5 ∨ i = 6 by omega) with rfl | rfl | rfl | rfl
        · exact t1.1.trans m1.1.symm
        · exact t1.2.1.trans m1.2.1.symm
        · exact t1.2.2.trans m1.2.2.1.symm
        · rw [tn _ _ (by omega) (by omega), (d1 q (Nat.le_refl _) hcm).1]; exact m1.2.2.2.1.symm
      · rw [tn _ _ (by omega) (by omega), r_c hR (by omega) c d]
        exact (mn _ _ (by show i - 2 < 15; omega) (by show ¬ (i - 2 = 0 ∧ _); omega) (by show ¬ (q = cm ∧ _); omega)).symm
    · obtain ⟨q, rfl⟩ : ∃ q, k = 24 + q := ⟨k - 24, by omega⟩
      rw [g_s (by omega), tn _ _ (by omega) (by omega), r_s hR (by omega) c d]
      show μ (if i < 6 then i + 3 else if i = 6 then 12 else 11) q = μ' (if i < 6 then i + 3 else if i = 6 then 12 else 11) q
      rw [row _ (by split <;> (try split) <;> omega) (by split <;> (try split) <;> omega)]
    · obtain ⟨q, rfl⟩ : ∃ q, k = 40 + q := ⟨k - 40, by omega⟩
      subst c
      rw [g_wct (by omega), tn _ _ (by omega) (by omega)]
      by_cases e : q = cm
      · subst e
        rw [(d1 q (Nat.le_refl _) hcm).2.2]; exact m1.2.2.2.2.symm
      · rw [r_wct hR (by omega)]; exact (m13 q (by omega)).symm
    · obtain ⟨q, rfl⟩ : ∃ q, k = 60 + q := ⟨k - 60, by omega⟩
      subst c
      rw [g_wic (by omega), tn _ _ (by omega) (by omega), r_wic hR (by omega)]
      show μ 9 q = μ' 9 q
      rw [row 9 (by omega) (by omega)]
    · obtain ⟨q, rfl⟩ : ∃ q, k = 76 + q := ⟨k - 76, by omega⟩
      rw [g_wai (by omega), tn _ _ (by omega) (by omega), r_wai hR (by omega) c]
      show μ 14 _ = μ' 14 _
      rw [r14]
    · obtain ⟨q, rfl⟩ : ∃ q, k = 96 + q := ⟨k - 96, by omega⟩
      rw [g_wis (by omega), tn _ _ (by omega) (by omega), r_wis hR (by omega) c]
      show μ 10 _ = μ' 10 _
      rw [row 10 (by omega) (by omega)]
    · obtain ⟨q, rfl⟩ : ∃ q, k = 112 + q := ⟨k - 112, by omega⟩
      rw [g_off (by omega), tn _ _ (by omega) (by omega)]
      by_cases e : q = cm
      · subst e
        rw [d3 q i hcm (by omega) (Or.inl (Nat.le_refl _))]; exact (m15n i (by omega)).symm
      · rw [r_off hR (by omega) c]; exact (m15o q i (by omega) (by omega)).symm
  · rw [tn _ _ (by omega) (by omega)]; exact (d1 c (by omega) hc2).1
  · rw [tn _ _ (by omega) (by omega)]; exact (d1 c (by omega) hc2).2.1
  · rw [tn _ _ (by omega) (by omega)]; exact (d1 c (by omega) hc2).2.2
  · rw [tn _ _ (by omega) (by omega)]; exact (d2 s hs hs2).1
  · rw [tn _ _ (by omega) (by omega)]; exact (d2 s hs hs2).2.1
  · rw [tn _ _ (by omega) (by omega)]; exact (d2 s hs hs2).2.2.1
  · rw [tn _ _ (by omega) (by omega)]; exact (d2 s hs hs2).2.2.2.1
  · rw [tn _ _ (by omega) (by omega)]; exact (d2 s hs hs2).2.2.2.2
  · rw [tn _ _ (by omega) (by omega)]; exact d3 c s hc hs (by omega)
  · rw [tn _ _ (by omega) (by omega)]
    by_cases e : c = cm
    · subst e
      rw [(d1 c (Nat.le_refl _) hcm).2.1, b_0]
      exact ⟨fun h => (by cases h), fun h => absurd h (rch_none m1.2.2.2.1)⟩
    · rw [rc (by omega)]; exact cl c k (by omega) hk
  · rw [mn 0 17 (by omega) (by omega) (by omega)]; exact v2
  · by_cases e : c = cm
    · subst e
      rw [m1.1, m1.2.1, m1.2.2.2.1, m1.2.2.2.2]
      exact ⟨p1, p2, lt_mk (k := 0) (by omega), fun k hk => by rw [b_0] at hk; cases hk⟩
    · rw [mn 1 c (by omega) (by omega) (by omega), mn 2 c (by omega) (by omega) (by omega), m13 c (by omega), m4 c (by omega)]
      obtain ⟨a, b, d, g⟩ := v3 c (by omega)
      exact ⟨a, b, d, fun k hk => by have := g k hk; omega⟩
  · rw [row 5 (by omega) (by omega)]; exact (v4 s h).1
  · rw [row 6 (by omega) (by omega)]; exact (v4 s h).2.1
  · rw [row 9 (by omega) (by omega)]; exact (v4 s h).2.2.1
  · rw [row 7 (by omega) (by omega)]; intro k hk; have := (v4 s h).2.2.2.1 k hk; omega
  · rw [row 8 (by omega) (by omega)]; intro k hk; have := (v4 s h).2.2.2.2 k hk; omega
  · rw [row 9 (by omega) (by omega)] at hi
    rw [row 10 (by omega) (by omega), row 8 (by omega) (by omega)]
    exact ⟨lt_mono (v5 s i h hi).1 (by omega), (v5 s i h hi).2⟩
  · rw [row 9 (by omega) (by omega)] at hi hj
    rw [row 10 (by omega) (by omega)]; exact v6 s i j h hi hj
  · by_cases e : c = cm
    · subst e; rw [m1.2.2.2.2] at hi; exact absurd hi (Nat.not_lt_zero i)
    · rw [m13 c (by omega)] at hi
      rw [r14]; exact v7 c i (by omega) hi
  · by_cases e : c = cm
    · subst e; rw [m1.2.2.2.2] at hi; exact absurd hi (Nat.not_lt_zero i)
    · rw [m13 c (by omega)] at hi hj
      rw [r14]; exact v8 c i j (by omega) hi hj
  · by_cases e : c = cm
    · subst e; exact Or.inl (m15n s (by omega))
    · unfold onl
      rw [m15o c s (by omega) (by omega), m13 c (by omega), r14]; exact v9 c s (by omega) hs
  · rw [row 11 (by omega) (by omega), row 8 (by omega) (by omega)]
    rcases v10 s h with a | ⟨a, b⟩
    · exact Or.inl a
    · exact Or.inr ⟨lt_mono a (by omega), b⟩
  · by_cases e : c = cm
    · subst e; exact rch_none m1.2.2.2.1
    · rw [rc (by omega)]; exact v11 c (by omega)
  · by_cases e : c = cm
    · subst e
      have z1 : enr μ' sm c = 0 := by
        rw [henr]
        unfold enr
        rw [fb_ct_zero]
        intro k hk
        cases hb : bt (μ 8 k) c
        · rfl
        · exact absurd ((v4 k hk).2.2.2.2 c hb) (Nat.lt_irrefl _)
      have z2 : ofc μ' sm c = 0 := by
        unfold ofc
        rw [fb_ct_zero]
        intro k hk
        show decide (¬ μ' 15 (16 * c + k) = -1) = false
        rw [m15n k (by omega)]; rfl
      omega
    · rw [henr, hofc c (by omega), mn 1 c (by omega) (by omega) (by omega)]; exact F c (by omega)
  · by_cases e : c = cm
    · subst e
      have := onl_lt g1
      rw [m1.2.2.2.2] at this
      exact absurd this (Nat.not_lt_zero 0)
    · rw [henr, hofc c (by omega), mn 1 c (by omega) (by omega) (by omega)] at g3
      rw [m15o c s (by omega) (by omega)] at g2
      unfold onl at g1
      rw [m13 c (by omega), r14] at g1
      refine B c s (by omega) hs g1 g2 g3 ?_
      obtain ⟨n1, n2, n3, n4, n5⟩ := g4
      rw [row 7 (by omega) (by omega)] at n1
      rw [row 8 (by omega) (by omega)] at n2 n4 n5
      rw [row 6 (by omega) (by omega)] at n4
      have hx : bt (μ 8 s) cm = false := by
        cases hb : bt (μ 8 s) cm
        · rfl
        · exact absurd ((v4 s hs).2.2.2.2 cm hb) (Nat.lt_irrefl _)
      refine ⟨n1, n2, fun k hk hr => ?_, ?_, fun k hk hb => ?_⟩
      · have := n3 k hk ((rc (by omega)).mpr hr)
        rw [row 7 (by omega) (by omega)] at this; exact this
      · rw [wsum, hx, if_neg (by decide), wsum_cg (μ := μ) _ cm (fun k hk => mn 2 k (by omega) (by omega) (by omega)), mn 2 c (by omega) (by omega) (by omega)] at n4
        exact n4
      · have := n5 k (by omega) hb
        rw [mn 3 k (by omega) (by omega) (by omega), mn 3 c (by omega) (by omega) (by omega)] at this; exact this
/-- a student more -/
theorem newS {j : Nat} {a1 a2 : Int32} {μ' τ' : gw_S} (hj : td ≤ 7 * (j + 1)) (hd : μ 0 17 = nI td) (R : Rl cm sm τ μ) (I : Iv cm sm td μ) (F : Fr cm sm μ) (B : Sb cm sm μ) (hsm : sm < 16) (p1 : lt_ a1 4) (p2 : lt_ a2 41)
    (t0 : τ' 0 3 = nI (sm + 1)) (t1 : τ' (24 + sm) 2 = a1 ∧ τ' (24 + sm) 3 = a2) (tn : ∀ k i, ¬ (k = 0 ∧ i = 3) → ¬ (k = 24 + sm ∧ 2 ≤ i ∧ i ≤ 3) → τ' k i = τ k i)
    (m0 : μ' 0 5 = nI (sm + 1)) (m1 : μ' 5 sm = a1 ∧ μ' 6 sm = a2 ∧ μ' 7 sm = 0 ∧ μ' 8 sm = 0 ∧ μ' 9 sm = 0 ∧ μ' 11 sm = -1 ∧ μ' 12 sm = -1)
    (m15 : ∀ c i, c < 20 → i < 16 → μ' 15 (16 * c + i) = if i = sm then -1 else μ 15 (16 * c + i)) (mn : ∀ r i, r < 15 → ¬ (r = 0 ∧ (i = 5 ∨ i = 18)) → ¬ (i = sm ∧ (r = 5 ∨ r = 6 ∨ r = 7 ∨ r = 8 ∨ r = 9 ∨ r = 11 ∨ r = 12)) → μ' r i = μ r i) : Inv (j + 1) τ' μ' := by
  have hR := id R
  obtain ⟨⟨h1, h2⟩, ⟨e1, e2, e3, e4, e5⟩, ⟨i1, i2⟩, L, d1, d2, d3, cl⟩ := R
  obtain ⟨⟨v1, v2⟩, v3, v4, v5, v6, v7, v8, v9, v10, v11⟩ := I
  have row : ∀ r, 1 ≤ r → r < 15 → r ≠ 5 → r ≠ 6 → r ≠ 7 → r ≠ 8 → r ≠ 9 → r ≠ 11 → r ≠ 12 → μ' r = μ r := fun r a b _ _ _ _ _ _ _ => funext fun i => mn r i (by omega) (by omega) (by omega)
  have r1 := row 1 (by omega) (by omega) (by omega) (by omega) (by omega) (by omega) (by omega) (by omega) (by omega)
  have r2 := row 2 (by omega) (by omega) (by omega) (by omega) (by omega) (by omega) (by omega) (by omega) (by omega)
  have r3 := row 3 (by omega) (by omega) (by omega) (by omega) (by omega) (by omega) (by omega) (by omega) (by omega)
  have r4 := row 4 (by omega) (by omega) (by omega) (by omega) (by omega) (by omega) (by omega) (by omega) (by omega)
  have r10 := row 10 (by omega) (by omega) (by omega) (by omega) (by omega) (by omega) (by omega) (by omega) (by omega)
  have r13 := row 13 (by omega) (by omega) (by omega) (by omega) (by omega) (by omega) (by omega) (by omega) (by omega)
  have r14 := row 14 (by omega) (by omega) (by omega) (by omega) (by omega) (by omega) (by omega) (by omega) (by omega)
  have old : ∀ r s, 5 ≤ r → r < 15 → s < sm → μ' r s = μ r s := fun r s a b c => mn r s (by omega) (by omega) (by omega)
  have m15o : ∀ c s, c < 20 → s < sm → μ' 15 (16 * c + s) = μ 15 (16 * c + s) := fun c s hc hs => by rw [m15 c s hc (by omega), if_neg (by omega)]
  have m15n : ∀ c, c < 20 → μ' 15 (16 * c + sm) = -1 := fun c hc => by rw [m15 c sm hc (by omega), if_pos rfl]
  have henr : ∀ c, enr μ' (sm + 1) c = enr μ sm c := fun c => by
    unfold enr
    rw [fb_ct_succ, m1.2.2.2.1, b_0]
    exact (fb_ct_cong (fun k hk => by rw [old 8 k (by omega) (by omega) hk]))
  have hofc : ∀ c, c < 20 → ofc μ' (sm + 1) c = ofc μ sm c := fun c hc => by
    unfold ofc
    rw [fb_ct_succ, m15n c hc]
    exact (fb_ct_cong (fun k hk => by rw [m15o c k hc hk]))
  refine ⟨cm, sm + 1, td, hj, by rw [mn 0 17 (by omega) (by omega) (by omega)]; exact hd, ⟨⟨h1, by omega⟩, ⟨?_, t0, ?_, m0, ?_⟩, ⟨fun c hc => ?_, fun s hs => ?_⟩, fun k i hl => ?_, fun c hc hc2 => ⟨?_, ?_, ?_⟩, fun s hs hs2 => ⟨?_, ?_, ?_, ?_, ?_⟩, fun c s hc hs h => ?_, fun c k hc hk => ?_⟩, ⟨⟨v1, ?_⟩, fun c h => ?_, fun s h => ?_, fun s i h hi => ?_, fun s i j h hi hj => ?_, fun c i h hi => ?_, fun c i j h hi hj => ?_, fun c s h hs => ?_, fun s h => ?_, fun c h => ?_⟩, fun c h => ?_, fun c s h hs g1 g2 g3 g4 => ?_⟩
  · rw [tn 0 2 (by omega) (by omega), e1]
  · rw [mn 0 0 (by omega) (by omega) (by omega), e3]
  · rw [tn 0 4 (by omega) (by omega), mn 0 17 (by omega) (by omega) (by omega), e5]
  · rw [tn _ _ (by omega) (by omega), i1 c hc]
  · rw [tn _ _ (by omega) (by omega), i2 s hs]
  · unfold lv at hl
    rcases hl with ⟨a, b, c, d⟩ | ⟨a, b, c, d⟩ | ⟨a, b, c⟩ | ⟨a, b, c⟩ | ⟨a, b, c⟩ | ⟨a, b, c⟩ | ⟨a, b, c⟩
    · obtain ⟨q, rfl⟩ : ∃ q, k = 4 + q := ⟨k - 4, by omega⟩
      rw [g_c (by omega), tn _ _ (by omega) (by omega), r_c hR (by omega) c d]
      exact (mn _ _ (by show i - 2 < 15; omega) (by show ¬ (i - 2 = 0 ∧ _); omega) (by show ¬ (q = sm ∧ (i - 2 = 5 ∨ i - 2 = 6 ∨ i - 2 = 7 ∨ i - 2 = 8 ∨ i - 2 = 9 ∨ i - 2 = 11 ∨ i - 2 = 12)); omega)).symm
    · obtain ⟨q, rfl⟩ : ∃ q, k = 24 + q := ⟨k - 24, by omega⟩
      rw [g_s (by omega)]
      by_cases e : q = sm
      · subst e
        have := d2 q (Nat.le_refl _) hsm
        rcases (show i = 2 ∨ i = 3 ∨ i = 4 ∨ i = 5 ∨ i = 6 ∨ i = 7 by omega) with rfl | rfl | rfl | rfl | rfl | rfl
        · exact t1.1.trans m1.1.symm
        · exact t1.2.trans m1.2.1.symm
        · rw [tn _ _ (by omega) (by omega), this.1]; exact m1.2.2.1.symm
        · rw [tn _ _ (by omega) (by omega), this.2.1]; exact m1.2.2.2.1.symm
        · rw [tn _ _ (by omega) (by omega), this.2.2.1]; exact m1.2.2.2.2.2.2.symm
        · rw [tn _ _ (by omega) (by omega), this.2.2.2.1]; exact m1.2.2.2.2.2.1.symm
      · rw [tn _ _ (by omega) (by omega), r_s hR (by omega) c d]
        show μ (if i < 6 then i + 3 else if i = 6 then 12 else 11) q = μ' (if i < 6 then i + 3 else if i = 6 then 12 else 11) q
        rw [old _ q (by split <;> (try split) <;> omega) (by split <;> (try split) <;> omega) (by omega)]
    · obtain ⟨q, rfl⟩ : ∃ q, k = 40 + q := ⟨k - 40, by omega⟩
      subst c
      rw [g_wct (by omega), tn _ _ (by omega) (by omega), r_wct hR (by omega)]
      show μ 13 _ = μ' 13 _
      rw [r13]
    · obtain ⟨q, rfl⟩ : ∃ q, k = 60 + q := ⟨k - 60, by omega⟩
      subst c
      rw [g_wic (by omega), tn _ _ (by omega) (by omega)]
      by_cases e : q = sm
      · subst e
        rw [(d2 q (Nat.le_refl _) hsm).2.2.2.2]; exact m1.2.2.2.2.1.symm
      · rw [r_wic hR (by omega)]; exact (old 9 q (by omega) (by omega) (by omega)).symm
    · obtain ⟨q, rfl⟩ : ∃ q, k = 76 + q := ⟨k - 76, by omega⟩
      rw [g_wai (by omega), tn _ _ (by omega) (by omega), r_wai hR (by omega) c]
      show μ 14 _ = μ' 14 _
      rw [r14]
    · obtain ⟨q, rfl⟩ : ∃ q, k = 96 + q := ⟨k - 96, by omega⟩
      rw [g_wis (by omega), tn _ _ (by omega) (by omega), r_wis hR (by omega) c]
      show μ 10 _ = μ' 10 _
      rw [r10]
    · obtain ⟨q, rfl⟩ : ∃ q, k = 112 + q := ⟨k - 112, by omega⟩
      rw [g_off (by omega), tn _ _ (by omega) (by omega)]
      by_cases e : i = sm
      · subst e
        rw [d3 q i (by omega) (by omega) (Or.inr (Nat.le_refl _))]; exact (m15n q (by omega)).symm
      · rw [r_off hR (by omega) (by omega)]; exact (m15o q i (by omega) (by omega)).symm
  · rw [tn _ _ (by omega) (by omega)]; exact (d1 c (by omega) hc2).1
  · rw [tn _ _ (by omega) (by omega)]; exact (d1 c (by omega) hc2).2.1
  · rw [tn _ _ (by omega) (by omega)]; exact (d1 c (by omega) hc2).2.2
  · rw [tn _ _ (by omega) (by omega)]; exact (d2 s (by omega) hs2).1
  · rw [tn _ _ (by omega) (by omega)]; exact (d2 s (by omega) hs2).2.1
  · rw [tn _ _ (by omega) (by omega)]; exact (d2 s (by omega) hs2).2.2.1
  · rw [tn _ _ (by omega) (by omega)]; exact (d2 s (by omega) hs2).2.2.2.1
  · rw [tn _ _ (by omega) (by omega)]; exact (d2 s (by omega) hs2).2.2.2.2
  · rw [tn _ _ (by omega) (by omega)]; exact d3 c s hc hs (by omega)
  · rw [tn _ _ (by omega) (by omega), r4]; exact cl c k hc hk
  · rw [mn 0 17 (by omega) (by omega) (by omega)]; exact v2
  · rw [r1, r2, r13, r4]; exact v3 c h
  · by_cases e : s = sm
    · subst e
      rw [m1.1, m1.2.1, m1.2.2.1, m1.2.2.2.1, m1.2.2.2.2.1]
      exact ⟨p1, p2, lt_mk (k := 0) (by omega), fun k hk => (by rw [b_0] at hk; cases hk), fun k hk => (by rw [b_0] at hk; cases hk)⟩
    · rw [old 5 s (by omega) (by omega) (by omega), old 6 s (by omega) (by omega) (by omega), old 7 s (by omega) (by omega) (by omega), old 8 s (by omega) (by omega) (by omega), old 9 s (by omega) (by omega) (by omega)]
      exact v4 s (by omega)
  · by_cases e : s = sm
    · subst e; rw [m1.2.2.2.2.1] at hi; exact absurd hi (Nat.not_lt_zero i)
    · rw [old 9 s (by omega) (by omega) (by omega)] at hi
      rw [r10, old 8 s (by omega) (by omega) (by omega)]; exact v5 s i (by omega) hi
  · by_cases e : s = sm
    · subst e; rw [m1.2.2.2.2.1] at hi; exact absurd hi (Nat.not_lt_zero i)
    · rw [old 9 s (by omega) (by omega) (by omega)] at hi hj
      rw [r10]; exact v6 s i j (by omega) hi hj
  · rw [r13] at hi; rw [r14]; exact lt_mono (v7 c i h hi) (by omega)
  · rw [r13] at hi hj; rw [r14]; exact v8 c i j h hi hj
  · by_cases e : s = sm
    · subst e; exact Or.inl (m15n c (by omega))
    · unfold onl
      rw [m15o c s (by omega) (by omega), r13, r14]; exact v9 c s h (by omega)
  · by_cases e : s = sm
    · subst e; exact Or.inl m1.2.2.2.2.2.1
    · rw [old 11 s (by omega) (by omega) (by omega), old 8 s (by omega) (by omega) (by omega)]; exact v10 s (by omega)
  · rw [r4]; exact v11 c h
  · rw [henr, hofc c (by omega), r1]; exact F c h
  · rw [henr, hofc c (by omega), r1] at g3
    unfold onl at g1
    rw [r13, r14] at g1
    have hs2 : s < sm := by
      obtain ⟨i, hi, hi2⟩ := g1
      have := v7 c i h hi
      have h3 := this.1
      have h4 := this.2
      rw [hi2] at h3 h4
      rw [n_cl] at h4
      exact h4
    rw [m15o c s (by omega) hs2] at g2
    refine B c s h hs2 g1 g2 g3 ?_
    obtain ⟨n1, n2, n3, n4, n5⟩ := g4
    rw [old 7 s (by omega) (by omega) hs2] at n1 n3
    rw [old 8 s (by omega) (by omega) hs2] at n2 n4 n5
    rw [old 6 s (by omega) (by omega) hs2, r2, wsum_sim r2] at n4
    rw [r4] at n3
    rw [r3] at n5
    exact ⟨n1, n2, n3, n4, n5⟩
end ad
