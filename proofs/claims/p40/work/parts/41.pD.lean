/-! LEAVING A LIST -/
def shf (σ : gw_S) (k b p : Nat) : Nat → gw_S
  | 0 => σ
  | d + 1 => gw_up (shf σ k b p d) k (b + p + d) (shf σ k b p d k (b + p + d + 1))
theorem shf_o {σ : gw_S} {k b p k' i : Nat} : ∀ d, ¬ (k' = k ∧ b + p ≤ i ∧ i < b + p + d) → shf σ k b p d k' i = σ k' i
  | 0, _ => rfl
  | d + 1, h => by
    rw [shf, gw_up_n (fun e => h ⟨e.1, by omega, by omega⟩), shf_o d (fun e => h ⟨e.1, e.2.1, by omega⟩)]
theorem shf_i {σ : gw_S} {k b p i : Nat} : ∀ d, b + p ≤ i → i < b + p + d → shf σ k b p d k i = σ k (i + 1)
  | 0, h1, h2 => by omega
  | d + 1, h1, h2 => by
    by_cases e : i = b + p + d
    · rw [shf, e, gw_up_s, shf_o d (by omega)]
    · rw [shf, gw_up_n (fun h => e h.2), shf_i d h1 (by omega)]
theorem shf_row {σ : gw_S} {k b p k' d : Nat} (h : k' ≠ k) : shf σ k b p d k' = σ k' := funext fun i => shf_o d (fun e => h e.1)
theorem gw_up_same {σ : gw_S} {k i : Nat} {v : Int32} (h : σ k i = v) : gw_up σ k i v = σ := by
  funext k' i'
  by_cases e : k' = k ∧ i' = i
  · obtain ⟨rfl, rfl⟩ := e
    rw [gw_up_s, h]
  · rw [gw_up_n e]
section lv
variable {cm sm td : Nat} {τ μ : gw_S}
theorem c_rem_no {a n : Nat} {x : Int32} (h1 : τ a 1 = nI n) (h2 : n ≤ gw_len (a + 36)) (h : ∀ i, i < n → τ (a + 36) i ≠ x) : f_X1_remove τ a x = some τ := by
  have hg : gw_len (a + 36) ≤ 16 := by unfold gw_len; split <;> omega
  unfold f_X1_remove
  rw [c_place x h1 h2 (fun i _ => rfl), bs]
  rcases fnd_c (f := fun i => τ (a + 36) i) (n := n) (x := x) (by omega) with ⟨e, -⟩ | ⟨p, hp, e, e2, -⟩
  · rw [e, if_pos rfl]
  · exact absurd e2 (h p hp)
theorem ne_m1 {p : Nat} (h : p < 2 ^ 30) : nI p ≠ (-1 : Int32) := by
  intro e
  have := nI_pos (n := p) (by omega)
  rw [e] at this
  exact this (by decide)
theorem c_rem_yes {a n p : Nat} {x : Int32} (h1 : τ a 1 = nI n) (h2 : n ≤ gw_len (a + 36)) (hp : p < n) (e : τ (a + 36) p = x) (hf : ∀ i, i < p → τ (a + 36) i ≠ x) : f_X1_remove τ a x = some (gw_up (shf τ (a + 36) 0 p (n - 1 - p)) a 1 (nI (n - 1))) := by
  have hg : gw_len (a + 36) ≤ 16 := by unfold gw_len; split <;> omega
  unfold f_X1_remove
  rw [c_place x h1 h2 (fun i _ => rfl), bs]
  rcases fnd_c (f := fun i => τ (a + 36) i) (n := n) (x := x) (by omega) with ⟨-, e2⟩ | ⟨q, hq, e2, e3, e4⟩
  · exact absurd e (e2 p hp)
  · have hpq : q = p := fb_first_one (p := fun i => τ (a + 36) i = x) e3 e4 e hf
    subst hpq
    rw [e2, if_neg (ne_m1 (by omega))]
    have G : gw_it (b_X1_remove_1 a x (nI q)) 4096 (nI (q + 1 + 0), shf τ (a + 36) 0 q 0) = some (nI n, shf τ (a + 36) 0 q (n - 1 - q)) := by
      refine gw_fun (fun d => (nI (q + 1 + d), shf τ (a + 36) 0 q d)) (nI n, shf τ (a + 36) 0 q (n - 1 - q)) (n - 1 - q) (by omega) (fun d hd => ?_) ?_
      · show (if shf τ (a + 36) 0 q d a 1 ≤ nI (q + 1 + d) then _ else _) = _
        rw [shf_row (by omega), h1, if_neg (n_lt (by omega) (by omega)), if_pos (ib_ok (by omega) (by omega)), show nI (q + 1 + d) - (1 : Int32) = nI (q + d) from by rw [show q + 1 + d = q + d + 1 from by omega]; exact nI_pred _, if_pos (ib_ok (by omega) (by omega)), nI_clamp (by omega), nI_clamp (by omega), nI_1, shf, show 0 + q + d + 1 = q + 1 + d from by omega, show 0 + q + d = q + d from by omega, show q + 1 + (d + 1) = q + 1 + d + 1 from rfl]
      · show (if shf τ (a + 36) 0 q (n - 1 - q) a 1 ≤ nI (q + 1 + (n - 1 - q)) then _ else _) = _
        rw [shf_row (by omega), h1, show q + 1 + (n - 1 - q) = n from by omega, if_pos (n_le (by omega) (by omega))]
    rw [nI_1]
    refine it_bd G ?_
    show some (gw_up _ a 1 (shf τ (a + 36) 0 q (n - 1 - q) a 1 - 1)) = _
    rw [shf_row (by omega), h1, show n = n - 1 + 1 from by omega, nI_pred]
    rfl
theorem m_lea_no {c n : Nat} {x : Int32} (hc : c < 20) (h1 : μ 13 c = nI n) (h2 : n ≤ 16) (h : ∀ i, i < n → μ 14 (16 * c + i) ≠ x) : f_X4_leavesList μ x (nI c) = some μ := by
  unfold f_X4_leavesList
  rw [m_waitPlace x hc h1 h2, bs]
  rcases fnd_c (f := fun i => μ 14 (16 * c + i)) (n := n) (x := x) (by omega) with ⟨e, -⟩ | ⟨p, hp, e, e2, -⟩
  · rw [e]; rfl
  · exact absurd e2 (h p hp)
theorem m_lea_yes {c n p s : Nat} (hc : c < 20) (hs : s < 16) (h1 : μ 13 c = nI n) (h2 : n ≤ 16) (hp : p < n) (e : μ 14 (16 * c + p) = nI s) (hf : ∀ i, i < p → μ 14 (16 * c + i) ≠ nI s) : f_X4_leavesList μ (nI s) (nI c) = some (gw_up (gw_up (shf μ 14 (16 * c) p (n - 1 - p)) 13 c (nI (n - 1))) 15 (16 * c + s) (-1)) := by
  unfold f_X4_leavesList
  rw [m_waitPlace (nI s) hc h1 h2, bs]
  rcases fnd_c (f := fun i => μ 14 (16 * c + i)) (n := n) (x := nI s) (by omega) with ⟨-, e2⟩ | ⟨q, hq, e2, e3, e4⟩
  · exact absurd e (e2 p hp)
  · have hpq : q = p := fb_first_one (p := fun i => μ 14 (16 * c + i) = nI s) e3 e4 e hf
    subst hpq
    rw [e2, if_pos (nI_pos' (by omega))]
    have G : gw_it (b_X4_leavesList_1 (nI s) (nI c) (nI q)) 4096 (nI (q + 0), shf μ 14 (16 * c) q 0) = some (nI (n - 1), shf μ 14 (16 * c) q (n - 1 - q)) := by
      refine gw_fun (fun d => (nI (q + d), shf μ 14 (16 * c) q d)) (nI (n - 1), shf μ 14 (16 * c) q (n - 1 - q)) (n - 1 - q) (by omega) (fun d hd => ?_) ?_
      · show (if gw_ib (nI c) 20 = true then _ else _) = _
        rw [if_pos (ib_ok hc), nI_clamp (n := c) (by omega), shf_row (by omega), h1, nI_1, if_neg (n_lt (by omega) (by omega)), x16, nI_1, if_pos (ib_ok (by show 16 * c + (q + d) + 1 < 320; omega) (by decide)), if_pos (ib_ok (by show 16 * c + (q + d) < 320; omega) (by decide)), nI_clamp (by omega), nI_clamp (by omega), shf, show 16 * c + (q + d) + 1 = 16 * c + q + d + 1 from by omega, show 16 * c + (q + d) = 16 * c + q + d from by omega]
        rfl
      · show (if gw_ib (nI c) 20 = true then _ else _) = _
        rw [if_pos (ib_ok hc), nI_clamp (n := c) (by omega), shf_row (by omega), h1, show q + (n - 1 - q) = n - 1 from by omega, nI_1, show n - 1 + 1 = n from by omega, if_pos (n_le (by omega) (by omega))]
    refine it_bd G ?_
    rw [if_pos (ib_ok (by show c < 20; omega) (by decide)), if_pos (ib_ok (by show c < 20; omega) (by decide)), x16, if_pos (ib_ok (by show 16 * c + s < 320; omega) (by decide)), nI_clamp (by omega), nI_clamp (by omega)]
    show some (gw_up (gw_up _ 13 c (shf μ 14 (16 * c) q (n - 1 - q) 13 c - 1)) 15 (16 * c + s) (-1)) = _
    rw [shf_row (by omega), h1, show nI n - (1 : Int32) = nI (n - 1) from by rw [show n = n - 1 + 1 from by omega]; exact nI_pred _]
theorem m_dro_no {s n : Nat} {x : Int32} (hc : s < 16) (h1 : μ 9 s = nI n) (h2 : n ≤ 6) (h : ∀ i, i < n → μ 10 (6 * s + i) ≠ x) : f_X4_dropsWish μ (nI s) x = some μ := by
  unfold f_X4_dropsWish
  rw [m_wishPlace x hc h1 h2, bs]
  rcases fnd_c (f := fun i => μ 10 (6 * s + i)) (n := n) (x := x) (by omega) with ⟨e, -⟩ | ⟨p, hp, e, e2, -⟩
  · rw [e]; rfl
  · exact absurd e2 (h p hp)
theorem m_dro_yes {s n p : Nat} {x : Int32} (hc : s < 16) (h1 : μ 9 s = nI n) (h2 : n ≤ 6) (hp : p < n) (e : μ 10 (6 * s + p) = x) (hf : ∀ i, i < p → μ 10 (6 * s + i) ≠ x) : f_X4_dropsWish μ (nI s) x = some (gw_up (shf μ 10 (6 * s) p (n - 1 - p)) 9 s (nI (n - 1))) := by
  unfold f_X4_dropsWish
  rw [m_wishPlace x hc h1 h2, bs]
  rcases fnd_c (f := fun i => μ 10 (6 * s + i)) (n := n) (x := x) (by omega) with ⟨-, e2⟩ | ⟨q, hq, e2, e3, e4⟩
  · exact absurd e (e2 p hp)
  · have hpq : q = p := fb_first_one (p := fun i => μ 10 (6 * s + i) = x) e3 e4 e hf
    subst hpq
    rw [e2, if_pos (nI_pos' (by omega))]
    have G : gw_it (b_X4_dropsWish_1 (nI s) x (nI q)) 4096 (nI (q + 0), shf μ 10 (6 * s) q 0) = some (nI (n - 1), shf μ 10 (6 * s) q (n - 1 - q)) := by
      refine gw_fun (fun d => (nI (q + d), shf μ 10 (6 * s) q d)) (nI (n - 1), shf μ 10 (6 * s) q (n - 1 - q)) (n - 1 - q) (by omega) (fun d hd => ?_) ?_
      · show (if gw_ib (nI s) 16 = true then _ else _) = _
        rw [if_pos (ib_ok hc), nI_clamp (n := s) (by omega), shf_row (by omega), h1, nI_1, if_neg (n_lt (by omega) (by omega)), x6, nI_1, if_pos (ib_ok (by show 6 * s + (q + d) + 1 < 96; omega) (by decide)), if_pos (ib_ok (by show 6 * s + (q + d) < 96; omega) (by decide)), nI_clamp (by omega), nI_clamp (by omega), shf, show 6 * s + (q + d) + 1 = 6 * s + q + d + 1 from by omega, show 6 * s + (q + d) = 6 * s + q + d from by omega]
        rfl
      · show (if gw_ib (nI s) 16 = true then _ else _) = _
        rw [if_pos (ib_ok hc), nI_clamp (n := s) (by omega), shf_row (by omega), h1, show q + (n - 1 - q) = n - 1 from by omega, nI_1, show n - 1 + 1 = n from by omega, if_pos (n_le (by omega) (by omega))]
    refine it_bd G ?_
    rw [if_pos (ib_ok (by show s < 16; omega) (by decide)), if_pos (ib_ok (by show s < 16; omega) (by decide)), nI_clamp (by omega)]
    show some (gw_up _ 9 s (shf μ 10 (6 * s) q (n - 1 - q) 9 s - 1)) = _
    rw [shf_row (by omega), h1, show nI n - (1 : Int32) = nI (n - 1) from by rw [show n = n - 1 + 1 from by omega]; exact nI_pred _]
theorem Rl_shw {c p : Nat} (hc : c < 20) : ∀ d, p + d < 16 → Rl cm sm τ μ → Rl cm sm (shf τ (76 + c) 0 p d) (shf μ 14 (16 * c) p d)
  | 0, _, R => R
  | d + 1, h, R => by
    have R' := Rl_shw (p := p) hc d (by omega) R
    rw [shf, shf, show shf τ (76 + c) 0 p d (76 + c) (0 + p + d + 1) = shf μ 14 (16 * c) p d 14 (16 * c + p + d + 1) from by rw [r_wai R' hc (by omega)]; exact congrArg _ (by omega)]
    have := Rl_uwai R' (shf μ 14 (16 * c) p d 14 (16 * c + p + d + 1)) hc (i := p + d) (by omega)
    rw [show 16 * c + (p + d) = 16 * c + p + d from by omega] at this
    rw [show 0 + p + d = p + d from by omega]
    exact this
theorem Rl_shi {s p : Nat} (hs : s < 16) : ∀ d, p + d < 6 → Rl cm sm τ μ → Rl cm sm (shf τ (96 + s) 0 p d) (shf μ 10 (6 * s) p d)
  | 0, _, R => R
  | d + 1, h, R => by
    have R' := Rl_shi (p := p) hs d (by omega) R
    rw [shf, shf, show shf τ (96 + s) 0 p d (96 + s) (0 + p + d + 1) = shf μ 10 (6 * s) p d 10 (6 * s + p + d + 1) from by rw [r_wis R' hs (by omega)]; exact congrArg _ (by omega)]
    have := Rl_uwis R' (shf μ 10 (6 * s) p d 10 (6 * s + p + d + 1)) hs (i := p + d) (by omega)
    rw [show 6 * s + (p + d) = 6 * s + p + d from by omega] at this
    rw [show 0 + p + d = p + d from by omega]
    exact this
/-- what is left of the scratch cells -/
def scr (τ τ' : gw_S) : Prop := ∀ k i, k = 3 ∨ (24 ≤ k ∧ k < 40 ∧ 8 ≤ i) → τ' k i = τ k i
theorem scr_rf (τ : gw_S) : scr τ τ := fun _ _ _ => rfl
theorem scr_tr {a b c : gw_S} (h1 : scr a b) (h2 : scr b c) : scr a c := fun k i h => (h2 k i h).trans (h1 k i h)
/-- student s off the list of course c -/
def Lva (cm sm : Nat) (μ μ' : gw_S) (c s : Nat) : Prop :=
  (∀ k, k ≠ 13 → k ≠ 14 → k ≠ 15 → μ' k = μ k) ∧
  (∀ c' s', c' < cm → s' < sm → μ' 15 (16 * c' + s') = if c' = c ∧ s' = s then -1 else μ 15 (16 * c' + s')) ∧
  (∀ c', c' < cm → c' ≠ c → μ' 13 c' = μ 13 c' ∧ ∀ i, i < 16 → μ' 14 (16 * c' + i) = μ 14 (16 * c' + i)) ∧
  (∀ t, t < sm → (onl μ' c t ↔ onl μ c t ∧ t ≠ s))
theorem onl_lt {c t : Nat} (h : onl μ c t) : 0 < nn (μ 13 c) := by
  obtain ⟨i, hi, _⟩ := h; omega
theorem nI_inj {a b : Nat} (h : nI a = nI b) (ha : a < 2 ^ 31 := by omega) (hb : b < 2 ^ 31 := by omega) : a = b := (nI_eq ha hb).mp h
theorem lva_pair (R : Rl cm sm τ μ) (I : Iv cm sm td μ) {c s : Nat} (hc : c < cm) (hs : s < sm) : ∃ τ' μ', f_X0_takeOff τ (4 + c) (nI s) = some τ' ∧ f_X4_leavesList μ (nI s) (nI c) = some μ' ∧ Rl cm sm τ' μ' ∧ Iv cm sm td μ' ∧ Lva cm sm μ μ' c s ∧ scr τ τ' := by
  have h20 := R.1
  obtain ⟨n, hn, en, en2⟩ := lt_of (I.2.1 c hc).2.2.1
  have hle : ∀ i, i < n → τ (76 + c) i = μ 14 (16 * c + i) := fun i hi => r_wai R (by omega) (by omega)
  have hw : τ (40 + c) 1 = nI n := by rw [r_wct R hc, en]
  have hgl : gw_len (76 + c) = 16 := by unfold gw_len; rw [if_neg (by omega)]
  unfold f_X0_takeOff
  rw [show 4 + c + 36 = 40 + c from by omega, show 4 + c + 108 = 112 + c from by omega, show gw_len (112 + c) = 16 from by unfold gw_len; rw [if_neg (by omega)]]
  by_cases ho : ∃ i, i < n ∧ μ 14 (16 * c + i) = nI s
  · obtain ⟨p, hp, ep, hf⟩ := fb_first ho
    rw [c_rem_yes (n := n) (p := p) (x := nI s) hw (by rw [show 40 + c + 36 = 76 + c from by omega, hgl]; omega) hp (by rw [show 40 + c + 36 = 76 + c from by omega, hle p hp, ep]) (fun i hi => by rw [show 40 + c + 36 = 76 + c from by omega, hle i (by omega)]; exact hf i hi), bs, if_pos (ib_ok (by omega)), nI_clamp (n := s) (by omega), show 40 + c + 36 = 76 + c from by omega]
    refine ⟨_, _, rfl, m_lea_yes (by omega) (by omega) en (by omega) hp ep hf, ?_, ?_, ?_, ?_⟩
    · exact Rl_uoff (Rl_uwct (Rl_shw (by omega) _ (by omega) R) _ hc) _ hc hs
    · obtain ⟨⟨v1, v2⟩, v3, v4, v5, v6, v7, v8, v9, v10, v11⟩ := I
      have row : ∀ k, k ≠ 13 → k ≠ 14 → k ≠ 15 → gw_up (gw_up (shf μ 14 (16 * c) p (n - 1 - p)) 13 c (nI (n - 1))) 15 (16 * c + s) (-1) k = μ k := fun k a b d => by rw [gw_up_rown d, gw_up_rown a, shf_row b]
      have e13 : ∀ c', c' < cm → gw_up (gw_up (shf μ 14 (16 * c) p (n - 1 - p)) 13 c (nI (n - 1))) 15 (16 * c + s) (-1) 13 c' = if c' = c then nI (n - 1) else μ 13 c' := fun c' _ => by
        rw [gw_up_n (by omega)]
        by_cases e : c' = c
        · subst e; rw [gw_up_s, if_pos rfl]
        · rw [gw_up_n (by omega), shf_row (by omega), if_neg e]
      have e14 : ∀ i, gw_up (gw_up (shf μ 14 (16 * c) p (n - 1 - p)) 13 c (nI (n - 1))) 15 (16 * c + s) (-1) 14 i = shf μ 14 (16 * c) p (n - 1 - p) 14 i := fun i => by rw [gw_up_n (by omega), gw_up_n (by omega)]
      have e14c : ∀ i, i < n - 1 → shf μ 14 (16 * c) p (n - 1 - p) 14 (16 * c + i) = μ 14 (16 * c + (if i < p then i else i + 1)) := fun i hi => by
        by_cases h : i < p
        · rw [shf_o _ (by omega), if_pos h]
        · rw [shf_i _ (by omega) (by omega), if_neg h]; rfl
      have e14o : ∀ c' i, c' ≠ c → i < 16 → shf μ 14 (16 * c) p (n - 1 - p) 14 (16 * c' + i) = μ 14 (16 * c' + i) := fun c' i h hi => shf_o _ (by omega)
      have e15 : ∀ c' s', c' < cm → s' < sm → gw_up (gw_up (shf μ 14 (16 * c) p (n - 1 - p)) 13 c (nI (n - 1))) 15 (16 * c + s) (-1) 15 (16 * c' + s') = if c' = c ∧ s' = s then -1 else μ 15 (16 * c' + s') := fun c' s' hc' hs' => by
        by_cases e : c' = c ∧ s' = s
        · obtain ⟨rfl, rfl⟩ := e; rw [gw_up_s, if_pos ⟨rfl, rfl⟩]
        · rw [gw_up_n (by omega), gw_up_n (by omega), shf_row (by omega), if_neg e]
      generalize gw_up (gw_up (shf μ 14 (16 * c) p (n - 1 - p)) 13 c (nI (n - 1))) 15 (16 * c + s) (-1) = μ' at row e13 e14 e15 ⊢
      have n13 : ∀ c', c' < cm → nn (μ' 13 c') = if c' = c then n - 1 else nn (μ 13 c') := fun c' h => by
        rw [e13 c' h]
        by_cases e : c' = c
        · rw [if_pos e, if_pos e, n_cl]
        · rw [if_neg e, if_neg e]
      have l16 : ∀ c', c' < cm → nn (μ 13 c') ≤ 16 := fun c' h => by have := (v3 c' h).2.2.1.2; omega
      have r4 := row 4 (by omega) (by omega) (by omega)
      refine ⟨⟨v1, by rw [row 0 (by omega) (by omega) (by omega)]; exact v2⟩, fun c' h => ⟨?_, ?_, ?_, ?_⟩, fun s' h => ?_, fun s' i h h2 => ?_, fun s' i j h h1 h2 => ?_, fun c' i h h2 => ?_, fun c' i j h h2 h3 e => ?_, fun c' s' h h2 => ?_, fun s' h => ?_, fun c' h => ?_⟩
      · rw [row 1 (by omega) (by omega) (by omega)]; exact (v3 c' h).1
      · rw [row 2 (by omega) (by omega) (by omega)]; exact (v3 c' h).2.1
      · rw [e13 c' h]
        by_cases e : c' = c
        · rw [if_pos e]; exact lt_mk (by omega)
        · rw [if_neg e]; exact (v3 c' h).2.2.1
      · rw [r4]; exact (v3 c' h).2.2.2
      · rw [row 5 (by omega) (by omega) (by omega), row 6 (by omega) (by omega) (by omega), row 9 (by omega) (by omega) (by omega), row 7 (by omega) (by omega) (by omega), row 8 (by omega) (by omega) (by omega)]; exact v4 s' h
      · rw [row 9 (by omega) (by omega) (by omega)] at h2
        rw [row 10 (by omega) (by omega) (by omega), row 8 (by omega) (by omega) (by omega)]; exact v5 s' i h h2
      · rw [row 9 (by omega) (by omega) (by omega)] at h1 h2
        rw [row 10 (by omega) (by omega) (by omega)]; exact v6 s' i j h h1 h2
      · rw [n13 c' h] at h2
        rw [e14]
        by_cases e : c' = c
        · subst e
          rw [if_pos rfl] at h2
          rw [e14c i h2]
          exact v7 c' _ h (by rw [en2]; split <;> omega)
        · rw [if_neg e] at h2
          rw [e14o c' i e (by have := l16 c' h; omega)]
          exact v7 c' i h h2
      · rw [n13 c' h] at h2 h3
        rw [e14, e14] at e
        by_cases e0 : c' = c
        · subst e0
          rw [if_pos rfl] at h2 h3
          rw [e14c i h2, e14c j h3] at e
          have := v8 c' _ _ h (by rw [en2]; split <;> omega) (by rw [en2]; split <;> omega) e
          split at this <;> split at this <;> omega
        · rw [if_neg e0] at h2 h3
          have := l16 c' h
          rw [e14o c' i e0 (by omega), e14o c' j e0 (by omega)] at e
          exact v8 c' i j h h2 h3 e
      · rw [e15 c' s' h h2]
        by_cases e : c' = c ∧ s' = s
        · rw [if_pos e]; exact Or.inl rfl
        · rw [if_neg e]
          rcases v9 c' s' h h2 with h3 | ⟨h3, h4, q, hq, hq2⟩
          · exact Or.inl h3
          · refine Or.inr ⟨h3, h4, ?_⟩
            by_cases e0 : c' = c
            · subst e0
              rw [en2] at hq
              have hqp : q ≠ p := by
                intro e5
                rw [e5, ep] at hq2
                exact e ⟨rfl, nI_inj hq2.symm⟩
              by_cases h5 : q < p
              · refine ⟨q, by rw [n13 c' h, if_pos rfl]; omega, ?_⟩
                rw [e14, e14c q (by omega), if_pos h5]; exact hq2
              · refine ⟨q - 1, by rw [n13 c' h, if_pos rfl]; omega, ?_⟩
                rw [e14, e14c (q - 1) (by omega), if_neg (by omega), show q - 1 + 1 = q from by omega]; exact hq2
            · refine ⟨q, by rw [n13 c' h, if_neg e0]; exact hq, ?_⟩
              have := l16 c' h
              rw [e14, e14o c' q e0 (by omega)]; exact hq2
      · rw [row 11 (by omega) (by omega) (by omega), row 8 (by omega) (by omega) (by omega)]; exact v10 s' h
      · rw [r4]; exact v11 c' h
    · refine ⟨fun k a b d => by rw [gw_up_rown d, gw_up_rown a, shf_row b], fun c' s' hc' hs' => ?_, fun c' hc' hne => ⟨?_, fun i hi => ?_⟩, fun t ht => ?_⟩
      · by_cases e : c' = c ∧ s' = s
        · obtain ⟨rfl, rfl⟩ := e; rw [gw_up_s, if_pos ⟨rfl, rfl⟩]
        · rw [gw_up_n (by omega), gw_up_n (by omega), shf_row (by omega), if_neg e]
      · rw [gw_up_n (by omega), gw_up_n (by omega), shf_row (by omega)]
      · rw [gw_up_n (by omega), gw_up_n (by omega), shf_o _ (by omega)]
      · unfold onl
        rw [gw_up_n (by omega), gw_up_s, n_cl, en2]
        constructor
        · rintro ⟨i, hi, hi2⟩
          rw [gw_up_n (by omega), gw_up_n (by omega)] at hi2
          by_cases h : i < p
          · rw [shf_o _ (by omega)] at hi2
            refine ⟨⟨i, by omega, hi2⟩, fun e => ?_⟩
            subst e
            exact hf i h hi2
          · rw [shf_i _ (by omega) (by omega)] at hi2
            refine ⟨⟨i + 1, by omega, hi2⟩, fun e => ?_⟩
            subst e
            have := I.2.2.2.2.2.2.1 c (i + 1) p hc (by rw [en2]; omega) (by rw [en2]; omega) (hi2.trans ep.symm)
            omega
        · rintro ⟨⟨i, hi, hi2⟩, hne⟩
          have hip : i ≠ p := fun e => hne (nI_inj (by rw [← hi2, e, ep]))
          by_cases h : i < p
          · refine ⟨i, by omega, ?_⟩
            rw [gw_up_n (by omega), gw_up_n (by omega), shf_o _ (by omega)]; exact hi2
          · refine ⟨i - 1, by omega, ?_⟩
            rw [gw_up_n (by omega), gw_up_n (by omega), shf_i _ (by omega) (by omega), show 16 * c + (i - 1) + 1 = 16 * c + i from by omega]; exact hi2
    · intro k i h
      rw [gw_up_n (by omega), gw_up_n (by omega), shf_o _ (by omega)]
  · have hno : ∀ i, i < n → μ 14 (16 * c + i) ≠ nI s := fun i hi e => ho ⟨i, hi, e⟩
    have hof : μ 15 (16 * c + s) = -1 := by
      rcases I.2.2.2.2.2.2.2.1 c s hc hs with h | ⟨-, -, q, hq, hq2⟩
      · exact h
      · exact absurd hq2 (hno q (by omega))
    rw [c_rem_no (n := n) hw (by rw [show 40 + c + 36 = 76 + c from by omega, hgl]; omega) (fun i hi => by rw [show 40 + c + 36 = 76 + c from by omega, hle i hi]; exact hno i hi), bs, if_pos (ib_ok (by omega)), nI_clamp (n := s) (by omega), gw_up_same (by rw [r_off R hc hs, hof])]
    refine ⟨_, _, rfl, m_lea_no (by omega) en (by omega) hno, R, I, ⟨fun _ _ _ _ => rfl, fun c' s' _ _ => ?_, fun _ _ _ => ⟨rfl, fun _ _ => rfl⟩, fun t ht => ⟨fun h => ⟨h, fun e => ?_⟩, fun h => h.1⟩⟩, scr_rf τ⟩
    · by_cases e : c' = c ∧ s' = s
      · rw [if_pos e, e.1, e.2, hof]
      · rw [if_neg e]
    · subst e
      obtain ⟨i, hi, hi2⟩ := h
      exact hno i (by omega) hi2
end lv
