section en
variable {cm sm td : Nat} {τ μ : gw_S}
/-- course c off the wishes of student s -/
def Wva (sm : Nat) (μ μ' : gw_S) (c s : Nat) : Prop :=
  (∀ k, k ≠ 9 → k ≠ 10 → μ' k = μ k) ∧
  (∀ t, t < sm → t ≠ s → μ' 9 t = μ 9 t ∧ ∀ i, i < 6 → μ' 10 (6 * t + i) = μ 10 (6 * t + i)) ∧
  lt_ (μ' 9 s) 7 ∧
  (∀ i, i < nn (μ' 9 s) → (∃ j, j < nn (μ 9 s) ∧ μ' 10 (6 * s + i) = μ 10 (6 * s + j)) ∧ μ' 10 (6 * s + i) ≠ nI c) ∧
  (∀ i j, i < nn (μ' 9 s) → j < nn (μ' 9 s) → μ' 10 (6 * s + i) = μ' 10 (6 * s + j) → i = j)
theorem wva_pair (R : Rl cm sm τ μ) {c s : Nat} (hs : s < sm) (h7 : lt_ (μ 9 s) 7) (hnd : ∀ i j, i < nn (μ 9 s) → j < nn (μ 9 s) → μ 10 (6 * s + i) = μ 10 (6 * s + j) → i = j) : ∃ τ' μ', f_X1_remove τ (60 + s) (nI c) = some τ' ∧ f_X4_dropsWish μ (nI s) (nI c) = some μ' ∧ Rl cm sm τ' μ' ∧ Wva sm μ μ' c s ∧ scr τ τ' := by
  have h20 := R.1
  obtain ⟨n, hn, en, en2⟩ := lt_of h7
  have hle : ∀ i, i < n → τ (96 + s) i = μ 10 (6 * s + i) := fun i hi => r_wis R (by omega) (by omega)
  have hw : τ (60 + s) 1 = nI n := by rw [r_wic R hs, en]
  have hgl : gw_len (96 + s) = 6 := by unfold gw_len; rw [if_pos (by omega)]
  by_cases ho : ∃ i, i < n ∧ μ 10 (6 * s + i) = nI c
  · obtain ⟨p, hp, ep, hf⟩ := fb_first ho
    rw [c_rem_yes (n := n) (p := p) (x := nI c) hw (by rw [show 60 + s + 36 = 96 + s from by omega, hgl]; omega) hp (by rw [show 60 + s + 36 = 96 + s from by omega, hle p hp, ep]) (fun i hi => by rw [show 60 + s + 36 = 96 + s from by omega, hle i (by omega)]; exact hf i hi), show 60 + s + 36 = 96 + s from by omega]
    refine ⟨_, _, rfl, m_dro_yes (by omega) en (by omega) hp ep hf, Rl_uwic (Rl_shi (by omega) _ (by omega) R) _ hs, ⟨fun k a b => ?_, fun t ht hne => ⟨?_, fun i hi => ?_⟩, ?_, fun i hi => ?_, fun i j hi hj e => ?_⟩, fun k i h => ?_⟩
    · rw [gw_up_rown a, shf_row b]
    · rw [gw_up_n (by omega), shf_row (by omega)]
    · rw [gw_up_n (by omega), shf_o _ (by omega)]
    · rw [gw_up_s]; exact lt_mk (by omega)
    · rw [gw_up_s, n_cl] at hi
      rw [gw_up_n (by omega), en2]
      by_cases h : i < p
      · rw [shf_o _ (by omega)]
        exact ⟨⟨i, by omega, rfl⟩, hf i h⟩
      · rw [shf_i _ (by omega) (by omega)]
        refine ⟨⟨i + 1, by omega, rfl⟩, fun e => ?_⟩
        have := hnd (i + 1) p (by omega) (by omega) (e.trans ep.symm)
        omega
    · rw [gw_up_s, n_cl] at hi hj
      rw [gw_up_n (by omega), gw_up_n (by omega)] at e
      have e14c : ∀ i, i < n - 1 → shf μ 10 (6 * s) p (n - 1 - p) 10 (6 * s + i) = μ 10 (6 * s + (if i < p then i else i + 1)) := fun i hi => by
        by_cases h : i < p
        · rw [shf_o _ (by omega), if_pos h]
        · rw [shf_i _ (by omega) (by omega), if_neg h]; rfl
      rw [e14c i hi, e14c j hj] at e
      have := hnd _ _ (by rw [en2]; split <;> omega) (by rw [en2]; split <;> omega) e
      split at this <;> split at this <;> omega
    · rw [gw_up_n (by omega), shf_o _ (by omega)]
  · have hno : ∀ i, i < n → μ 10 (6 * s + i) ≠ nI c := fun i hi e => ho ⟨i, hi, e⟩
    rw [c_rem_no (n := n) hw (by rw [show 60 + s + 36 = 96 + s from by omega, hgl]; omega) (fun i hi => by rw [show 60 + s + 36 = 96 + s from by omega, hle i hi]; exact hno i hi)]
    exact ⟨_, _, rfl, m_dro_no (by omega) en (by omega) hno, R, ⟨fun _ _ _ => rfl, fun _ _ _ => ⟨rfl, fun _ _ => rfl⟩, h7, fun i hi => ⟨⟨i, hi, rfl⟩, hno i (by omega)⟩, hnd⟩, scr_rf τ⟩
/-- the reference's own, when a course leaves the wishes and perhaps is taken -/
theorem Iv_wva (I : Iv cm sm td μ) {v : Int32} {c s : Nat} {μ' : gw_S} (hs : s < sm) (hc : c < cm) (h1 : ∀ k, bt v k = true → bt (μ 8 s) k = true ∨ k = c) (h2 : ∀ k, bt (μ 8 s) k = true → bt v k = true) (W : Wva sm (gw_up μ 8 s v) μ' c s) : Iv cm sm td μ' := by
  obtain ⟨⟨v1, v2⟩, v3, v4, v5, v6, v7, v8, v9, v10, v11⟩ := I
  obtain ⟨w1, w2, w3, w4, w5⟩ := W
  have row : ∀ k, k ≠ 8 → k ≠ 9 → k ≠ 10 → μ' k = μ k := fun k a b d => by rw [w1 k b d, gw_up_rown a]
  have e8 : ∀ t, μ' 8 t = if t = s then v else μ 8 t := fun t => by
    rw [w1 8 (by omega) (by omega)]
    by_cases e : t = s
    · subst e; rw [gw_up_s, if_pos rfl]
    · rw [gw_up_n (by omega), if_neg e]
  have e9 : ∀ t, t < sm → t ≠ s → μ' 9 t = μ 9 t := fun t ht e => by rw [(w2 t ht e).1, gw_up_n (by omega)]
  have e10 : ∀ t i, t < sm → t ≠ s → i < 6 → μ' 10 (6 * t + i) = μ 10 (6 * t + i) := fun t i ht e hi => by rw [(w2 t ht e).2 i hi, gw_up_n (by omega)]
  have w4 : ∀ i, i < nn (μ' 9 s) → (∃ j, j < nn (μ 9 s) ∧ μ' 10 (6 * s + i) = μ 10 (6 * s + j)) ∧ μ' 10 (6 * s + i) ≠ nI c := fun i hi => by
    obtain ⟨⟨j, a, b⟩, d⟩ := w4 i hi
    rw [gw_up_n (by omega)] at a b
    exact ⟨⟨j, a, b⟩, d⟩
  have hv : ∀ k, bt v k = true → k < cm := fun k hk => by
    rcases h1 k hk with h | h
    · exact (v4 s hs).2.2.2.2 k h
    · omega
  refine ⟨⟨v1, by rw [row 0 (by omega) (by omega) (by omega)]; exact v2⟩, fun c' h => ?_, fun t h => ⟨?_, ?_, ?_, ?_, ?_⟩, fun t i h hi => ?_, fun t i j h hi hj e => ?_, fun c' i h hi => ?_, fun c' i j h hi hj e => ?_, fun c' t h ht => ?_, fun t h => ?_, fun c' h => ?_⟩
  · rw [row 1 (by omega) (by omega) (by omega), row 2 (by omega) (by omega) (by omega), row 13 (by omega) (by omega) (by omega), row 4 (by omega) (by omega) (by omega)]; exact v3 c' h
  · rw [row 5 (by omega) (by omega) (by omega)]; exact (v4 t h).1
  · rw [row 6 (by omega) (by omega) (by omega)]; exact (v4 t h).2.1
  · by_cases e : t = s
    · subst e; exact w3
    · rw [e9 t h e]; exact (v4 t h).2.2.1
  · rw [row 7 (by omega) (by omega) (by omega)]; exact (v4 t h).2.2.2.1
  · intro k hk
    rw [e8] at hk
    by_cases e : t = s
    · rw [if_pos e] at hk; exact hv k hk
    · rw [if_neg e] at hk; exact (v4 t h).2.2.2.2 k hk
  · by_cases e : t = s
    · subst e
      obtain ⟨⟨j, hj, ej⟩, hne⟩ := w4 i hi
      obtain ⟨a, b⟩ := v5 t j h hj
      rw [ej, e8, if_pos rfl]
      refine ⟨a, ?_⟩
      cases hb : bt v (nn (μ 10 (6 * t + j)))
      · rfl
      · rcases h1 _ hb with h3 | h3
        · rw [h3] at b; cases b
        · exact absurd (by rw [ej, a.1, h3]) hne
    · rw [e9 t h e] at hi
      have := (v4 t h).2.2.1.2
      rw [e10 t i h e (by omega), e8, if_neg e]
      exact v5 t i h hi
  · by_cases e0 : t = s
    · subst e0; exact w5 i j hi hj e
    · rw [e9 t h e0] at hi hj
      have := (v4 t h).2.2.1.2
      rw [e10 t i h e0 (by omega), e10 t j h e0 (by omega)] at e
      exact v6 t i j h hi hj e
  · rw [row 13 (by omega) (by omega) (by omega)] at hi
    rw [row 14 (by omega) (by omega) (by omega)]; exact v7 c' i h hi
  · rw [row 13 (by omega) (by omega) (by omega)] at hi hj
    rw [row 14 (by omega) (by omega) (by omega)] at e; exact v8 c' i j h hi hj e
  · unfold onl
    rw [row 13 (by omega) (by omega) (by omega), row 14 (by omega) (by omega) (by omega), row 15 (by omega) (by omega) (by omega)]; exact v9 c' t h ht
  · rw [row 11 (by omega) (by omega) (by omega), e8]
    by_cases e : t = s
    · subst e
      rw [if_pos rfl]
      rcases v10 t h with h3 | ⟨h3, h4⟩
      · exact Or.inl h3
      · exact Or.inr ⟨h3, h2 _ h4⟩
    · rw [if_neg e]; exact v10 t h
  · rw [row 4 (by omega) (by omega) (by omega)]; exact v11 c' h
/-- student s into course c -/
def Ena (cm sm : Nat) (μ μ' : gw_S) (c s : Nat) : Prop :=
  (∀ k, k ≠ 8 → k ≠ 9 → k ≠ 10 → k ≠ 13 → k ≠ 14 → k ≠ 15 → μ' k = μ k) ∧
  (∀ t, μ' 8 t = if t = s then μ 8 s ||| ((1 : Int32) <<< (nI c &&& 31)) else μ 8 t) ∧
  (∀ c' s', c' < cm → s' < sm → μ' 15 (16 * c' + s') = if c' = c ∧ s' = s then -1 else μ 15 (16 * c' + s')) ∧
  (∀ t, t < sm → t ≠ s → μ' 9 t = μ 9 t ∧ ∀ i, i < 6 → μ' 10 (6 * t + i) = μ 10 (6 * t + i))
theorem enrol_pair (R : Rl cm sm τ μ) (I : Iv cm sm td μ) {c s : Nat} (hc : c < cm) (hs : s < sm) : ∃ τ' μ', f_X3_enrol τ (24 + s) (4 + c) = some τ' ∧ f_X4_enrols μ (nI s) (nI c) = some μ' ∧ Rl cm sm τ' μ' ∧ Iv cm sm td μ' ∧ Ena cm sm μ μ' c s ∧ scr τ τ' := by
  have h20 := R.1
  have R1 : Rl cm sm (gw_up τ (24 + s) 5 (μ 8 s ||| ((1 : Int32) <<< (nI c &&& 31)))) (gw_up μ 8 s (μ 8 s ||| ((1 : Int32) <<< (nI c &&& 31)))) := Rl_us R _ hs rfl (by omega) (by omega)
  obtain ⟨τ2, μ2, a1, a2, R2, W, S2⟩ := wva_pair R1 (c := c) hs (I.2.2.1 s hs).2.2.1 (fun i j hi hj e => I.2.2.2.2.1 s i j hs hi hj e)
  have I2 := Iv_wva I hs hc (fun k hk => by
    have hk2 := bt_lt hk
    rw [bt_or_bit (by omega) hk2] at hk
    simpa using hk) (fun k hk => by rw [bt_or_bit (by omega) (bt_lt hk), hk]; rfl) W
  obtain ⟨τ3, μ3, b1, b2, R3, I3, L, S3⟩ := lva_pair R2 I2 hc hs
  refine ⟨τ3, μ3, ?_, ?_, R3, I3, ⟨fun k h8 h9 h10 h13 h14 h15 => ?_, fun t => ?_, fun c' s' hc' hs' => ?_, fun t ht hne => ⟨?_, fun i hi => ?_⟩⟩, ?_⟩
  · unfold f_X3_enrol f_X3_bit
    rw [r_ci R hc, bs, r_tak R hs, gw_up_n (by omega), r_ci R hc, show 24 + s + 36 = 60 + s from by omega, a1, bs, r_si R2 hs, b1, bs]
  · unfold f_X4_enrols
    rw [if_pos (ib_ok (by show s < 16; omega) (by decide)), if_pos (ib_ok (by show s < 16; omega) (by decide)), nI_clamp (n := s) (by omega), a2, bs, b2, bs]
  · rw [L.1 k h13 h14 h15, W.1 k h9 h10, gw_up_rown h8]
  · rw [L.1 8 (by omega) (by omega) (by omega), W.1 8 (by omega) (by omega)]
    by_cases e : t = s
    · subst e; rw [gw_up_s, if_pos rfl]
    · rw [gw_up_n (by omega), if_neg e]
  · rw [L.2.1 c' s' hc' hs', W.1 15 (by omega) (by omega), gw_up_n (by omega)]
  · rw [L.1 9 (by omega) (by omega) (by omega), (W.2.1 t ht hne).1, gw_up_n (by omega)]
  · rw [L.1 10 (by omega) (by omega) (by omega), (W.2.1 t ht hne).2 i hi, gw_up_n (by omega)]
  · refine scr_tr (scr_tr (fun k i h => ?_) S2) S3
    rw [gw_up_n (by omega)]
/-- student s out of course c -/
def Gva (μ μ' : gw_S) (c s : Nat) : Prop :=
  (∀ k, k ≠ 8 → k ≠ 11 → μ' k = μ k) ∧
  (∀ t, μ' 8 t = if t = s then μ 8 s &&& (((1 : Int32) <<< (nI c &&& 31)) ^^^ (-1 : Int32)) else μ 8 t) ∧
  (∀ t, μ' 11 t = if t = s ∧ μ 11 s = nI c then -1 else μ 11 t)
theorem gva_pair (R : Rl cm sm τ μ) (I : Iv cm sm td μ) {c s : Nat} (hc : c < cm) (hs : s < sm) : ∃ τ' μ', f_X3_endEnrolment τ (24 + s) (4 + c) = some τ' ∧ f_X4_gives μ (nI s) (nI c) = some μ' ∧ Rl cm sm τ' μ' ∧ Iv cm sm td μ' ∧ Gva μ μ' c s ∧ scr τ τ' := by
  have h20 := R.1
  have R1 : Rl cm sm (gw_up τ (24 + s) 5 (μ 8 s &&& (((1 : Int32) <<< (nI c &&& 31)) ^^^ (-1 : Int32)))) (gw_up μ 8 s (μ 8 s &&& (((1 : Int32) <<< (nI c &&& 31)) ^^^ (-1 : Int32)))) := Rl_us R _ hs rfl (by omega) (by omega)
  have hv : ∀ k, bt (μ 8 s &&& (((1 : Int32) <<< (nI c &&& 31)) ^^^ (-1 : Int32))) k = (bt (μ 8 s) k && !decide (k = c)) := fun k => by
    rcases Nat.lt_or_ge k 32 with h | h
    · exact bt_nbit (by omega) h
    · rw [b_big h, b_big h]; rfl
  have key : ∃ τ' μ', f_X3_endEnrolment τ (24 + s) (4 + c) = some τ' ∧ f_X4_gives μ (nI s) (nI c) = some μ' ∧ Rl cm sm τ' μ' ∧ Gva μ μ' c s ∧ scr τ τ' := by
    unfold f_X3_endEnrolment f_X3_bit f_X4_gives
    rw [r_ci R hc, bs, r_tak R hs, gw_up_n (by omega), r_ci R hc, if_pos (ib_ok (by show s < 16; omega) (by decide)), if_pos (ib_ok (by show s < 16; omega) (by decide)), if_pos (ib_ok (by show s < 16; omega) (by decide)), nI_clamp (n := s) (by omega), r_upp R hs, gw_up_n (by omega)]
    by_cases e : μ 11 s = nI c
    · rw [if_pos e, if_pos e, if_pos (ib_ok (by show s < 16; omega) (by decide))]
      refine ⟨_, _, rfl, rfl, Rl_us R1 _ hs rfl (by omega) (by omega), ⟨fun k h8 h11 => by rw [gw_up_rown h11, gw_up_rown h8], fun t => ?_, fun t => ?_⟩, fun k i h => by rw [gw_up_n (by omega), gw_up_n (by omega)]⟩
      · rw [gw_up_n (by omega)]
        by_cases e : t = s
        · subst e; rw [gw_up_s, if_pos rfl]
        · rw [gw_up_n (by omega), if_neg e]
      · by_cases e2 : t = s
        · subst e2; rw [gw_up_s, if_pos ⟨rfl, e⟩]
        · rw [gw_up_n (by omega), gw_up_n (by omega), if_neg (fun h => e2 h.1)]
    · rw [if_neg e, if_neg e, if_pos (ib_ok (by show s < 16; omega) (by decide)), if_pos (ib_ok (by show s < 16; omega) (by decide))]
      refine ⟨_, _, rfl, rfl, ?_, ⟨fun k h8 h11 => by rw [gw_up_rown h11, gw_up_rown h8], fun t => ?_, fun t => ?_⟩, fun k i h => by rw [gw_up_n (by omega)]⟩
      · have h := Rl_us R1 (μ 11 s) hs (i := 7) rfl (by omega) (by omega)
        rw [gw_up_same (by rw [gw_up_n (by omega), r_upp R hs])] at h
        exact h
      · rw [gw_up_n (by omega)]
        by_cases e : t = s
        · subst e; rw [gw_up_s, if_pos rfl]
        · rw [gw_up_n (by omega), if_neg e]
      · rw [if_neg (fun h => e h.2)]
        by_cases e2 : t = s
        · subst e2; rw [gw_up_s]
        · rw [gw_up_n (by omega), gw_up_n (by omega)]
  obtain ⟨τ', μ', a1, a2, R', ⟨w1, e8, e11⟩, S⟩ := key
  refine ⟨τ', μ', a1, a2, R', ?_, ⟨w1, e8, e11⟩, S⟩
  obtain ⟨⟨v1, v2⟩, v3, v4, v5, v6, v7, v8, v9, v10, v11⟩ := I
  have b8 : ∀ t k, bt (μ' 8 t) k = true → bt (μ 8 t) k = true := fun t k h => by
    rw [e8] at h
    by_cases e : t = s
    · subst e
      rw [if_pos rfl, hv] at h
      simp at h; exact h.1
    · rw [if_neg e] at h; exact h
  refine ⟨⟨v1, by rw [w1 0 (by omega) (by omega)]; exact v2⟩, fun c' h => ?_, fun t h => ⟨?_, ?_, ?_, ?_, ?_⟩, fun t i h hi => ?_, fun t i j h hi hj e => ?_, fun c' i h hi => ?_, fun c' i j h hi hj e => ?_, fun c' t h ht => ?_, fun t h => ?_, fun c' h => ?_⟩
  · rw [w1 1 (by omega) (by omega), w1 2 (by omega) (by omega), w1 13 (by omega) (by omega), w1 4 (by omega) (by omega)]; exact v3 c' h
  · rw [w1 5 (by omega) (by omega)]; exact (v4 t h).1
  · rw [w1 6 (by omega) (by omega)]; exact (v4 t h).2.1
  · rw [w1 9 (by omega) (by omega)]; exact (v4 t h).2.2.1
  · rw [w1 7 (by omega) (by omega)]; exact (v4 t h).2.2.2.1
  · intro k hk; exact (v4 t h).2.2.2.2 k (b8 t k hk)
  · rw [w1 9 (by omega) (by omega)] at hi
    rw [w1 10 (by omega) (by omega)]
    obtain ⟨a, b⟩ := v5 t i h hi
    refine ⟨a, ?_⟩
    cases hb : bt (μ' 8 t) (nn (μ 10 (6 * t + i)))
    · rfl
    · rw [b8 _ _ hb] at b; cases b
  · rw [w1 9 (by omega) (by omega)] at hi hj
    rw [w1 10 (by omega) (by omega)] at e; exact v6 t i j h hi hj e
  · rw [w1 13 (by omega) (by omega)] at hi
    rw [w1 14 (by omega) (by omega)]; exact v7 c' i h hi
  · rw [w1 13 (by omega) (by omega)] at hi hj
    rw [w1 14 (by omega) (by omega)] at e; exact v8 c' i j h hi hj e
  · unfold onl
    rw [w1 13 (by omega) (by omega), w1 14 (by omega) (by omega), w1 15 (by omega) (by omega)]; exact v9 c' t h ht
  · rw [e11, e8]
    by_cases e : t = s
    · subst e
      rw [if_pos rfl]
      by_cases e2 : μ 11 t = nI c
      · rw [if_pos ⟨rfl, e2⟩]; exact Or.inl rfl
      · rw [if_neg (fun h => e2 h.2)]
        rcases v10 t h with h3 | ⟨h3, h4⟩
        · exact Or.inl h3
        · refine Or.inr ⟨h3, ?_⟩
          rw [hv, h4]
          have : nn (μ 11 t) ≠ c := fun e3 => e2 (by rw [h3.1, e3])
          simp [this]
    · rw [if_neg (fun h => e h.1), if_neg e]; exact v10 t h
  · rw [w1 4 (by omega) (by omega)]; exact v11 c' h
/-! COUNTS -/
def b1 (b : Bool) : Nat := if b then 1 else 0
theorem b1_t : b1 true = 1 := rfl
theorem enr_set {μ' : gw_S} {s : Nat} {v : Int32} (hs : s < sm) (h : ∀ t, t < sm → μ' 8 t = if t = s then v else μ 8 t) (c : Nat) : enr μ' sm c + b1 (bt (μ 8 s) c) = enr μ sm c + b1 (bt v c) := by
  have := fb_ct_upd (fun s => bt (μ 8 s) c) (bt v c) hs
  unfold enr
  rw [fb_ct_cong (p := fun s => bt (μ' 8 s) c) (q := fun k => if k = s then bt v c else bt (μ 8 k) c) (fun k hk => by
    show bt (μ' 8 k) c = if k = s then bt v c else bt (μ 8 k) c
    rw [h k hk]
    split <;> rfl)]
  exact this
theorem ofc_set {μ' : gw_S} {s c : Nat} {v : Int32} (hs : s < sm) (h : ∀ t, t < sm → μ' 15 (16 * c + t) = if t = s then v else μ 15 (16 * c + t)) : ofc μ' sm c + b1 (decide (¬ μ 15 (16 * c + s) = -1)) = ofc μ sm c + b1 (decide (¬ v = -1)) := by
  have := fb_ct_upd (fun s => decide (¬ μ 15 (16 * c + s) = -1)) (decide (¬ v = -1)) hs
  unfold ofc
  rw [fb_ct_cong (p := fun s => decide (¬ μ' 15 (16 * c + s) = -1)) (q := fun k => if k = s then decide (¬ v = -1) else decide (¬ μ 15 (16 * c + k) = -1)) (fun k hk => by
    show decide (¬ μ' 15 (16 * c + k) = -1) = if k = s then decide (¬ v = -1) else decide (¬ μ 15 (16 * c + k) = -1)
    rw [h k hk]
    split <;> rfl)]
  exact this
theorem ofc_same {μ' : gw_S} {c : Nat} (h : ∀ t, t < sm → μ' 15 (16 * c + t) = μ 15 (16 * c + t)) : ofc μ' sm c = ofc μ sm c := fb_ct_cong (fun k hk => by
  show decide (¬ μ' 15 (16 * c + k) = -1) = decide (¬ μ 15 (16 * c + k) = -1)
  rw [h k hk])
/-- an offer less in course c, if there was one; the other courses as they were -/
theorem ofc_off {μ' : gw_S} {c s : Nat} (hc : c < cm) (hs : s < sm) (h : ∀ c' s', c' < cm → s' < sm → μ' 15 (16 * c' + s') = if c' = c ∧ s' = s then -1 else μ 15 (16 * c' + s')) {c' : Nat} (hc' : c' < cm) : ofc μ' sm c' + (if c' = c then b1 (decide (¬ μ 15 (16 * c + s) = -1)) else 0) = ofc μ sm c' := by
  by_cases e : c' = c
  · subst e
    rw [if_pos rfl, ofc_set (μ := μ) (v := -1) hs (fun t ht => by rw [h c' t hc' ht]; by_cases e : t = s <;> simp [e])]
    rfl
  · rw [if_neg e, Nat.add_zero]
    exact ofc_same (fun t ht => by rw [h c' t hc' ht, if_neg (fun h => e h.1)])
theorem enr_same {μ' : gw_S} (h : μ' 8 = μ 8) (c : Nat) : enr μ' sm c = enr μ sm c := by unfold enr; rw [h]
theorem ena_enr {μ' : gw_S} {c s : Nat} (hc : c < 32) (hs : s < sm) (E : Ena cm sm μ μ' c s) (hn : bt (μ 8 s) c = false) (c' : Nat) (hc' : c' < 32) : enr μ' sm c' = enr μ sm c' + (if c' = c then 1 else 0) := by
  have h1 := enr_set (μ := μ) (μ' := μ') hs (fun t _ => E.2.1 t) c'
  rw [bt_or_bit hc hc'] at h1
  by_cases e : c' = c
  · subst e
    rw [hn] at h1
    simp [b1] at h1 ⊢; exact h1
  · rw [if_neg e]
    simp [b1, e] at h1 ⊢; exact h1
theorem gva_enr {μ' : gw_S} {c s : Nat} (hc : c < 32) (hs : s < sm) (E : Gva μ μ' c s) (hn : bt (μ 8 s) c = true) (c' : Nat) (hc' : c' < 32) : enr μ' sm c' + (if c' = c then 1 else 0) = enr μ sm c' := by
  have h1 := enr_set (μ := μ) (μ' := μ') hs (fun t _ => E.2.1 t) c'
  rw [bt_nbit hc hc'] at h1
  by_cases e : c' = c
  · subst e
    rw [hn] at h1
    simp [b1] at h1 ⊢; exact h1
  · rw [if_neg e]
    simp [b1, e] at h1 ⊢; exact h1
end en
