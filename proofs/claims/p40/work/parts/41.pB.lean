/-! WRITING where both read the same -/
def simM (μ μ' : gw_S) : Prop := ∀ k i, k < 16 → ¬ (k = 0 ∧ i = 18) → μ' k i = μ k i
def simT (τ τ' : gw_S) : Prop := ∀ k i, k ≠ 3 → ¬ (24 ≤ k ∧ k < 40 ∧ 8 ≤ i) → τ' k i = τ k i
theorem simM_row {μ μ' : gw_S} (h : simM μ μ') {k : Nat} (h1 : 1 ≤ k) (h2 : k < 16) : μ' k = μ k := funext fun i => h k i h2 (by omega)
theorem simM_18 (μ : gw_S) (v : Int32) : simM μ (gw_up μ 0 18 v) := fun k i _ h => gw_up_n (by omega)
theorem simM_rf (μ : gw_S) : simM μ μ := fun k i _ _ => rfl
theorem simT_rf (μ : gw_S) : simT μ μ := fun k i _ _ => rfl
theorem simM_tr {μ μ' μ2 : gw_S} (h : simM μ μ') (h2 : simM μ' μ2) : simM μ μ2 := fun k i a b => (h2 k i a b).trans (h k i a b)
theorem simT_tr {μ μ' μ2 : gw_S} (h : simT μ μ') (h2 : simT μ' μ2) : simT μ μ2 := fun k i a b => (h2 k i a b).trans (h k i a b)
theorem simM_sy {μ μ' : gw_S} (h : simM μ μ') : simM μ' μ := fun k i a b => (h k i a b).symm
theorem Rl_sim {cm sm : Nat} {τ τ' μ μ' : gw_S} (R : Rl cm sm τ μ) (hT : simT τ τ') (hM : simM μ μ') : Rl cm sm τ' μ' := by
  obtain ⟨⟨h1, h2⟩, ⟨e1, e2, e3, e4, e5⟩, ⟨i1, i2⟩, L, d1, d2, d3, cl⟩ := R
  have r4 := simM_row hM (k := 4) (by omega) (by omega)
  refine ⟨⟨h1, h2⟩, ⟨?_, ?_, ?_, ?_, ?_⟩, ⟨fun c hc => ?_, fun s hs => ?_⟩, fun k i hl => ?_, fun c hc hc2 => ?_, fun s hs hs2 => ?_, fun c s hc hs h => ?_, fun c k hc hk => ?_⟩
  · rw [hT 0 2 (by omega) (by omega), e1]
  · rw [hT 0 3 (by omega) (by omega), e2]
  · rw [hM 0 0 (by omega) (by omega), e3]
  · rw [hM 0 5 (by omega) (by omega), e4]
  · rw [hM 0 17 (by omega) (by omega), hT 0 4 (by omega) (by omega), e5]
  · rw [hT _ _ (by omega) (by omega), i1 c hc]
  · rw [hT _ _ (by omega) (by omega), i2 s hs]
  · have := gm_rng h1 h2 hl
    rw [hM _ _ (by omega) (by omega), hT _ _ (by unfold lv at hl; omega) (by unfold lv at hl; omega), L k i hl]
  · rw [hT _ _ (by omega) (by omega), hT _ _ (by omega) (by omega), hT _ _ (by omega) (by omega)]
    exact d1 c hc hc2
  · rw [hT _ _ (by omega) (by omega), hT _ _ (by omega) (by omega), hT _ _ (by omega) (by omega), hT _ _ (by omega) (by omega), hT _ _ (by omega) (by omega)]
    exact d2 s hs hs2
  · rw [hT _ _ (by omega) (by omega), d3 c s hc hs h]
  · rw [hT _ _ (by omega) (by omega), r4, cl c k hc hk]
theorem wsum_sim {μ μ' : gw_S} (h : μ' 2 = μ 2) (x : Int32) : ∀ n, wsum μ' x n = wsum μ x n
  | 0 => rfl
  | n + 1 => by rw [wsum, wsum, wsum_sim h x n, h]
theorem Iv_sim {cm sm td : Nat} {μ μ' : gw_S} (h : Iv cm sm td μ) (hM : simM μ μ') : Iv cm sm td μ' := by
  unfold Iv onl at *
  rw [simM_row hM (k := 1) (by omega) (by omega), simM_row hM (k := 2) (by omega) (by omega), simM_row hM (k := 4) (by omega) (by omega), simM_row hM (k := 5) (by omega) (by omega), simM_row hM (k := 6) (by omega) (by omega), simM_row hM (k := 7) (by omega) (by omega), simM_row hM (k := 8) (by omega) (by omega), simM_row hM (k := 9) (by omega) (by omega), simM_row hM (k := 10) (by omega) (by omega), simM_row hM (k := 11) (by omega) (by omega), simM_row hM (k := 13) (by omega) (by omega), simM_row hM (k := 14) (by omega) (by omega), simM_row hM (k := 15) (by omega) (by omega), hM 0 17 (by omega) (by omega)]
  exact h
theorem Fr_sim {cm sm : Nat} {μ μ' : gw_S} (h : Fr cm sm μ) (hM : simM μ μ') : Fr cm sm μ' := by
  unfold Fr enr ofc at *
  rw [simM_row hM (k := 1) (by omega) (by omega), simM_row hM (k := 8) (by omega) (by omega), simM_row hM (k := 15) (by omega) (by omega)]
  exact h
theorem Sb_sim {cm sm : Nat} {μ μ' : gw_S} (h : Sb cm sm μ) (hM : simM μ μ') : Sb cm sm μ' := by
  unfold Sb noob enr ofc onl at *
  have hw := fun x n => wsum_sim (simM_row hM (k := 2) (by omega) (by omega)) x n
  simp only [hw]
  rw [simM_row hM (k := 1) (by omega) (by omega), simM_row hM (k := 2) (by omega) (by omega), simM_row hM (k := 3) (by omega) (by omega), simM_row hM (k := 4) (by omega) (by omega), simM_row hM (k := 6) (by omega) (by omega), simM_row hM (k := 7) (by omega) (by omega), simM_row hM (k := 8) (by omega) (by omega), simM_row hM (k := 13) (by omega) (by omega), simM_row hM (k := 14) (by omega) (by omega), simM_row hM (k := 15) (by omega) (by omega)]
  exact h
theorem Inv_sim {j : Nat} {τ τ' μ μ' : gw_S} (h : Inv j τ μ) (hT : simT τ τ') (hM : simM μ μ') : Inv j τ' μ' := by
  obtain ⟨cm, sm, td, h1, h0, R, I, F, B⟩ := h
  exact ⟨cm, sm, td, h1, (hM 0 17 (by omega) (by omega)).trans h0, Rl_sim R hT hM, Iv_sim I hM, Fr_sim F hM, Sb_sim B hM⟩
theorem Rl_up {cm sm : Nat} {τ μ : gw_S} (R : Rl cm sm τ μ) {k i : Nat} (v : Int32) (hl : lv cm sm k i) (h4 : (gm k i).1 ≠ 4) : Rl cm sm (gw_up τ k i v) (gw_up μ (gm k i).1 (gm k i).2 v) := by
  obtain ⟨⟨h1, h2⟩, ⟨e1, e2, e3, e4, e5⟩, ⟨i1, i2⟩, L, d1, d2, d3, cl⟩ := R
  have hr := gm_rng h1 h2 hl
  have hl2 := id hl
  unfold lv at hl2
  have h46 : ¬ (k < 24 ∧ i = 6) := fun hh => h4 (by unfold gm; rw [if_pos hh.1, hh.2])
  refine ⟨⟨h1, h2⟩, ⟨?_, ?_, ?_, ?_, ?_⟩, ⟨fun c hc => ?_, fun s hs => ?_⟩, fun k' i' hl' => ?_, fun c hc hc2 => ⟨?_, ?_, ?_⟩, fun s hs hs2 => ⟨?_, ?_, ?_, ?_, ?_⟩, fun c s hc hs h => ?_, fun c k hc hk => ?_⟩
  · rw [gw_up_n (by omega), e1]
  · rw [gw_up_n (by omega), e2]
  · rw [gw_up_n (by omega), e3]
  · rw [gw_up_n (by omega), e4]
  · rw [gw_up_n (by omega), gw_up_n (by omega), e5]
  · rw [gw_up_n (by omega), i1 c hc]
  · rw [gw_up_n (by omega), i2 s hs]
  · by_cases hh : k' = k ∧ i' = i
    · obtain ⟨rfl, rfl⟩ := hh
      rw [gw_up_s, gw_up_s]
    · rw [gw_up_n hh, gw_up_n (fun e => hh (gm_inj h1 h2 hl' hl (Prod.ext e.1 e.2))), L k' i' hl']
  · rw [gw_up_n (by omega)]; exact (d1 c hc hc2).1
  · rw [gw_up_n (by omega)]; exact (d1 c hc hc2).2.1
  · rw [gw_up_n (by omega)]; exact (d1 c hc hc2).2.2
  · rw [gw_up_n (by omega)]; exact (d2 s hs hs2).1
  · rw [gw_up_n (by omega)]; exact (d2 s hs hs2).2.1
  · rw [gw_up_n (by omega)]; exact (d2 s hs hs2).2.2.1
  · rw [gw_up_n (by omega)]; exact (d2 s hs hs2).2.2.2.1
  · rw [gw_up_n (by omega)]; exact (d2 s hs hs2).2.2.2.2
  · rw [gw_up_n (by omega)]; exact d3 c s hc hs h
  · rw [gw_up_n (by omega), gw_up_rown (Ne.symm h4), cl c k hc hk]
theorem Rl_uc {cm sm : Nat} {τ μ : gw_S} (R : Rl cm sm τ μ) {c i a : Nat} (v : Int32) (hc : c < cm) (ha : i = a + 2) (h1 : 1 ≤ a) (h3 : a ≤ 3) : Rl cm sm (gw_up τ (4 + c) i v) (gw_up μ a c v) := by
  have := Rl_up R (k := 4 + c) (i := i) v (by unfold lv; omega)
  rw [g_c (by have := R.1; omega)] at this
  subst ha
  exact this (by show a + 2 - 2 ≠ 4; omega)
theorem Rl_us {cm sm : Nat} {τ μ : gw_S} (R : Rl cm sm τ μ) {s i a : Nat} (v : Int32) (hs : s < sm) (ha : a = if i < 6 then i + 3 else if i = 6 then 12 else 11) (h1 : 2 ≤ i) (h3 : i ≤ 7) : Rl cm sm (gw_up τ (24 + s) i v) (gw_up μ a s v) := by
  have := Rl_up R (k := 24 + s) (i := i) v (by unfold lv; omega)
  rw [g_s (by have := R.1; omega)] at this
  subst ha
  exact this (by show (if i < 6 then i + 3 else if i = 6 then 12 else 11) ≠ 4; split <;> (try split) <;> omega)
theorem Rl_uwct {cm sm : Nat} {τ μ : gw_S} (R : Rl cm sm τ μ) {c : Nat} (v : Int32) (hc : c < cm) : Rl cm sm (gw_up τ (40 + c) 1 v) (gw_up μ 13 c v) := by
  have := Rl_up R (k := 40 + c) (i := 1) v (by unfold lv; omega)
  rw [g_wct (by have := R.1; omega)] at this
  exact this (by show 13 ≠ 4; omega)
theorem Rl_uwic {cm sm : Nat} {τ μ : gw_S} (R : Rl cm sm τ μ) {s : Nat} (v : Int32) (hs : s < sm) : Rl cm sm (gw_up τ (60 + s) 1 v) (gw_up μ 9 s v) := by
  have := Rl_up R (k := 60 + s) (i := 1) v (by unfold lv; omega)
  rw [g_wic (by have := R.1; omega)] at this
  exact this (by show 9 ≠ 4; omega)
theorem Rl_uwai {cm sm : Nat} {τ μ : gw_S} (R : Rl cm sm τ μ) {c i : Nat} (v : Int32) (hc : c < 20) (hi : i < 16) : Rl cm sm (gw_up τ (76 + c) i v) (gw_up μ 14 (16 * c + i) v) := by
  have := Rl_up R (k := 76 + c) (i := i) v (by unfold lv; omega)
  rw [g_wai (by have := R.1; omega)] at this
  exact this (by show 14 ≠ 4; omega)
theorem Rl_uwis {cm sm : Nat} {τ μ : gw_S} (R : Rl cm sm τ μ) {s i : Nat} (v : Int32) (hs : s < 16) (hi : i < 6) : Rl cm sm (gw_up τ (96 + s) i v) (gw_up μ 10 (6 * s + i) v) := by
  have := Rl_up R (k := 96 + s) (i := i) v (by unfold lv; omega)
  rw [g_wis (by have := R.1; omega)] at this
  exact this (by show 10 ≠ 4; omega)
theorem Rl_uoff {cm sm : Nat} {τ μ : gw_S} (R : Rl cm sm τ μ) {c s : Nat} (v : Int32) (hc : c < cm) (hs : s < sm) : Rl cm sm (gw_up τ (112 + c) s v) (gw_up μ 15 (16 * c + s) v) := by
  have := Rl_up R (k := 112 + c) (i := s) v (by unfold lv; omega)
  rw [g_off (by have := R.1; omega)] at this
  exact this (by show 15 ≠ 4; omega)
/-! READING -/
section rd
variable {cm sm : Nat} {τ μ : gw_S}
theorem r_cm (R : Rl cm sm τ μ) : τ 0 2 = nI cm := R.2.1.1
theorem r_sm (R : Rl cm sm τ μ) : τ 0 3 = nI sm := R.2.1.2.1
theorem r_cm' (R : Rl cm sm τ μ) : μ 0 0 = nI cm := R.2.1.2.2.1
theorem r_sm' (R : Rl cm sm τ μ) : μ 0 5 = nI sm := R.2.1.2.2.2.1
theorem r_day (R : Rl cm sm τ μ) : τ 0 4 = μ 0 17 := R.2.1.2.2.2.2
theorem r_ci (R : Rl cm sm τ μ) {c : Nat} (h : c < cm) : τ (4 + c) 0 = nI c := R.2.2.1.1 c (by have := R.1; omega)
theorem r_si (R : Rl cm sm τ μ) {s : Nat} (h : s < sm) : τ (24 + s) 0 = nI s := R.2.2.1.2 s (by have := R.1; omega)
theorem r_lv (R : Rl cm sm τ μ) {k i : Nat} (h : lv cm sm k i) : τ k i = μ (gm k i).1 (gm k i).2 := R.2.2.2.1 k i h
theorem r_c (R : Rl cm sm τ μ) {c i : Nat} (h : c < cm) (h1 : 3 ≤ i) (h2 : i ≤ 6) : τ (4 + c) i = μ (i - 2) c := by
  rw [r_lv R (by unfold lv; omega), g_c (by have := R.1; omega)]
theorem r_sea (R : Rl cm sm τ μ) {c : Nat} (h : c < cm) : τ (4 + c) 3 = μ 1 c := r_c R h (by omega) (by omega)
theorem r_wor (R : Rl cm sm τ μ) {c : Nat} (h : c < cm) : τ (4 + c) 4 = μ 2 c := r_c R h (by omega) (by omega)
theorem r_hou (R : Rl cm sm τ μ) {c : Nat} (h : c < cm) : τ (4 + c) 5 = μ 3 c := r_c R h (by omega) (by omega)
theorem r_dir (R : Rl cm sm τ μ) {c : Nat} (h : c < cm) : τ (4 + c) 6 = μ 4 c := r_c R h (by omega) (by omega)
theorem r_s (R : Rl cm sm τ μ) {s i : Nat} (h : s < sm) (h1 : 2 ≤ i) (h2 : i ≤ 7) : τ (24 + s) i = μ (if i < 6 then i + 3 else if i = 6 then 12 else 11) s := by
  rw [r_lv R (by unfold lv; omega), g_s (by have := R.1; omega)]
theorem r_ban (R : Rl cm sm τ μ) {s : Nat} (h : s < sm) : τ (24 + s) 2 = μ 5 s := r_s R h (by omega) (by omega)
theorem r_lim (R : Rl cm sm τ μ) {s : Nat} (h : s < sm) : τ (24 + s) 3 = μ 6 s := r_s R h (by omega) (by omega)
theorem r_pas (R : Rl cm sm τ μ) {s : Nat} (h : s < sm) : τ (24 + s) 4 = μ 7 s := r_s R h (by omega) (by omega)
theorem r_tak (R : Rl cm sm τ μ) {s : Nat} (h : s < sm) : τ (24 + s) 5 = μ 8 s := r_s R h (by omega) (by omega)
theorem r_lot (R : Rl cm sm τ μ) {s : Nat} (h : s < sm) : τ (24 + s) 6 = μ 12 s := r_s R h (by omega) (by omega)
theorem r_upp (R : Rl cm sm τ μ) {s : Nat} (h : s < sm) : τ (24 + s) 7 = μ 11 s := r_s R h (by omega) (by omega)
theorem r_wct (R : Rl cm sm τ μ) {c : Nat} (h : c < cm) : τ (40 + c) 1 = μ 13 c := by
  rw [r_lv R (by unfold lv; omega), g_wct (by have := R.1; omega)]
theorem r_wic (R : Rl cm sm τ μ) {s : Nat} (h : s < sm) : τ (60 + s) 1 = μ 9 s := by
  rw [r_lv R (by unfold lv; omega), g_wic (by have := R.1; omega)]
theorem r_wai (R : Rl cm sm τ μ) {c i : Nat} (h : c < 20) (hi : i < 16) : τ (76 + c) i = μ 14 (16 * c + i) := by
  rw [r_lv R (by unfold lv; omega), g_wai (by have := R.1; omega)]
theorem r_wis (R : Rl cm sm τ μ) {s i : Nat} (h : s < 16) (hi : i < 6) : τ (96 + s) i = μ 10 (6 * s + i) := by
  rw [r_lv R (by unfold lv; omega), g_wis (by have := R.1; omega)]
theorem r_off (R : Rl cm sm τ μ) {c s : Nat} (h : c < cm) (hs : s < sm) : τ (112 + c) s = μ 15 (16 * c + s) := by
  rw [r_lv R (by unfold lv; omega), g_off (by have := R.1; omega)]
theorem r_ofn (R : Rl cm sm τ μ) {c s : Nat} (h : c < cm) (hs : sm ≤ s) (hs2 : s < 16) : τ (112 + c) s = -1 := R.2.2.2.2.2.2.1 c s (by have := R.1; omega) hs2 (Or.inr hs)
theorem r_clo (R : Rl cm sm τ μ) {c k : Nat} (h : c < cm) (hk : k < 32) : bt (τ (4 + c) 7) k = true ↔ rch (μ 4) c k := R.2.2.2.2.2.2.2 c k h hk
/-- a course's number, a student's number -/
theorem a_c (R : Rl cm sm τ μ) (a : Int32) : (∃ c, c < cm ∧ a = nI c ∧ f_X3_courseAt τ a = some (.inl (4 + c)) ∧ f_X4_isCourse μ a = some 1) ∨ (f_X3_courseAt τ a = some (.inr "java/lang/IndexOutOfBoundsException") ∧ f_X4_isCourse μ a = some 0) := by
  have hc := R.1
  unfold f_X3_courseAt f_X4_isCourse
  rw [r_cm R, r_cm' R]
  rcases pk_ix a (n := cm) (by omega) with h | h | ⟨c, h, rfl⟩
  · right; rw [if_pos h, if_pos h]; exact ⟨rfl, rfl⟩
  · by_cases h0 : a < 0
    · right; rw [if_pos h0, if_pos h0]; exact ⟨rfl, rfl⟩
    · right
      rw [if_neg h0, if_neg h0, if_pos h, if_neg (fun h5 => (fa_of_lt h5).2.1 h)]
      exact ⟨rfl, rfl⟩
  · left
    refine ⟨c, h, rfl, ?_, ?_⟩
    · rw [if_neg (nI_pos (by omega)), if_pos (nI_lt h (by omega)), if_pos (ib_ok (by omega)), nI_clamp (by omega)]
    · rw [if_neg (nI_pos (by omega)), if_neg (n_lt h)]
theorem a_s (R : Rl cm sm τ μ) (a : Int32) : (∃ s, s < sm ∧ a = nI s ∧ f_X3_studentAt τ a = some (.inl (24 + s)) ∧ f_X4_isStudent μ a = some 1) ∨ (f_X3_studentAt τ a = some (.inr "java/lang/IndexOutOfBoundsException") ∧ f_X4_isStudent μ a = some 0) := by
  have hc := R.1
  unfold f_X3_studentAt f_X4_isStudent
  rw [r_sm R, r_sm' R]
  rcases pk_ix a (n := sm) (by omega) with h | h | ⟨c, h, rfl⟩
  · right; rw [if_pos h, if_pos h]; exact ⟨rfl, rfl⟩
  · by_cases h0 : a < 0
    · right; rw [if_pos h0, if_pos h0]; exact ⟨rfl, rfl⟩
    · right
      rw [if_neg h0, if_neg h0, if_pos h, if_neg (fun h5 => (fa_of_lt h5).2.1 h)]
      exact ⟨rfl, rfl⟩
  · left
    refine ⟨c, h, rfl, ?_, ?_⟩
    · rw [if_neg (nI_pos (by omega)), if_pos (nI_lt h (by omega)), if_pos (ib_ok (by omega)), nI_clamp (by omega)]
    · rw [if_neg (nI_pos (by omega)), if_neg (n_lt h)]
theorem c_at (R : Rl cm sm τ μ) {c : Nat} (h : c < cm) : f_X3_courseAt τ (nI c) = some (.inl (4 + c)) := by
  have hc := R.1
  unfold f_X3_courseAt
  rw [r_cm R, if_neg (nI_pos (by omega)), if_pos (nI_lt h (by omega)), if_pos (ib_ok (by omega)), nI_clamp (by omega)]
theorem s_at (R : Rl cm sm τ μ) {c : Nat} (h : c < sm) : f_X3_studentAt τ (nI c) = some (.inl (24 + c)) := by
  have hc := R.1
  unfold f_X3_studentAt
  rw [r_sm R, if_neg (nI_pos (by omega)), if_pos (nI_lt h (by omega)), if_pos (ib_ok (by omega)), nI_clamp (by omega)]
theorem it_bd {S T α : Type} {b : S → Option (S ⊕ T)} {n : Nat} {s : S} {t : T} {f : T → Option α} {r : Option α} (G : gw_it b n s = some t) (h : f t = r) : (gw_it b n s).bind f = r := by rw [G]; exact h
/-- how many are in a course -/
theorem c_enr (R : Rl cm sm τ μ) {c : Nat} (h : c < cm) : f_X3_enrolledIn τ (4 + c) = some (nI (enr μ sm c)) := by
  have hc := R.1
  unfold f_X3_enrolledIn
  have G : gw_it (b_X3_enrolledIn_1 τ (4 + c)) 4096 (nI (fb_ct (fun s => bt (μ 8 s) c) 0), nI 0) = some (nI (enr μ sm c), nI sm) := by
    refine gw_fun (fun k => (nI (fb_ct (fun s => bt (μ 8 s) c) k), nI k)) (nI (enr μ sm c), nI sm) sm (by omega) (fun k hk => ?_) ?_
    · show (if τ 0 3 ≤ nI k then _ else _) = _
      rw [r_sm R, if_neg (n_lt hk), if_pos (ib_ok (by omega)), nI_clamp (by omega), r_tak R hk, r_ci R h, c_isIn (by omega), bd, fb_ct_succ]
      cases bt (μ 8 k) c
      · show some (Sum.inl (nI _, nI k + 1)) = _
        rw [nI_1]; rfl
      · show some (Sum.inl (nI _ + 1, nI k + 1)) = _
        rw [nI_1, nI_1]; rfl
    · show (if τ 0 3 ≤ nI sm then _ else _) = _
      rw [r_sm R, if_pos (n_le (Nat.le_refl _))]; rfl
  exact it_bd G rfl
theorem m_enr (R : Rl cm sm τ μ) {c : Nat} (h : c < cm) : f_X4_inCourse μ (nI c) = some (nI (enr μ sm c)) := by
  have hc := R.1
  unfold f_X4_inCourse
  have G : gw_it (b_X4_inCourse_1 μ (nI c)) 4096 (nI (fb_ct (fun s => bt (μ 8 s) c) 0), nI 0) = some (nI (enr μ sm c), nI sm) := by
    refine gw_fun (fun k => (nI (fb_ct (fun s => bt (μ 8 s) c) k), nI k)) (nI (enr μ sm c), nI sm) sm (by omega) (fun k hk => ?_) ?_
    · show (if μ 0 5 ≤ nI k then _ else _) = _
      rw [r_sm' R, if_neg (n_lt hk), if_pos (ib_ok (by show k < 16; omega) (by decide)), nI_clamp (by omega), m_has (by omega), bd, fb_ct_succ]
      cases bt (μ 8 k) c
      · show some (Sum.inl (nI _ + 0, nI k + 1)) = _
        rw [nI_1, Int32.add_zero]; rfl
      · show some (Sum.inl (nI _ + 1, nI k + 1)) = _
        rw [nI_1, nI_1]; rfl
    · show (if μ 0 5 ≤ nI sm then _ else _) = _
      rw [r_sm' R, if_pos (n_le (Nat.le_refl _))]; rfl
  exact it_bd G rfl
theorem ct_ext {p q : Nat → Bool} {m : Nat} (h : ∀ k, k < m → p k = q k) : ∀ n, m ≤ n → (∀ k, m ≤ k → k < n → p k = false) → fb_ct p n = fb_ct q m := by
  intro n
  induction n with
  | zero => intro hm _; rw [show m = 0 from by omega]; rfl
  | succ n ih =>
    intro hm hz
    by_cases e : m = n + 1
    · subst e; exact fb_ct_cong h
    · rw [fb_ct_succ, hz n (by omega) (by omega), ih (by omega) (fun k a b => hz k a (by omega))]; rfl
theorem c_ofc (R : Rl cm sm τ μ) {c : Nat} (h : c < cm) : f_X0_offers τ (4 + c) = some (nI (ofc μ sm c)) := by
  have hc := R.1
  have e : fb_ct (fun s => decide (¬ τ (112 + c) s = -1)) 16 = ofc μ sm c := ct_ext (fun k hk => by rw [r_off R h hk]) 16 (by omega) (fun k a b => by rw [r_ofn R h a b]; rfl)
  unfold f_X0_offers
  rw [show 4 + c + 108 = 112 + c from by omega, ← e]
  have G : gw_it (b_X0_offers_1 τ (4 + c) (112 + c) 16) 4096 (nI (fb_ct (fun s => decide (¬ τ (112 + c) s = -1)) 0), nI 0) = some (nI (fb_ct (fun s => decide (¬ τ (112 + c) s = -1)) 16), nI 16) := by
    refine gw_fun (fun k => (nI (fb_ct (fun s => decide (¬ τ (112 + c) s = -1)) k), nI k)) (nI (fb_ct (fun s => decide (¬ τ (112 + c) s = -1)) 16), nI 16) 16 (by omega) (fun k hk => ?_) ?_
    · show (if nI 16 ≤ nI k then _ else _) = _
      rw [if_neg (n_lt hk), show gw_len (112 + c) = 16 from by unfold gw_len; rw [if_neg (by omega)], if_pos (ib_ok (by omega)), nI_clamp (by omega), fb_ct_succ]
      by_cases e : τ (112 + c) k = -1
      · rw [if_pos e, if_neg (by simp [e]), nI_1]; rfl
      · rw [if_neg e, if_pos (by simp [e]), nI_1, nI_1]
    · rfl
  exact it_bd G rfl
theorem m_hasOffer {x : Int32} {c s : Nat} (hc : c < 20) (hs : s < 16) (h : x = μ 15 (16 * c + s)) (hx : x = -1 ∨ ∃ n, n < 5000 ∧ x = nI n) : f_X4_hasOffer μ (nI s) (nI c) = some (if decide (¬ x = -1) = true then 1 else 0) := by
  unfold f_X4_hasOffer
  rw [x16, if_pos (ib_ok (by show 16 * c + s < 320; omega) (by decide)), nI_clamp (by omega), ← h]
  rcases hx with rfl | ⟨n, hn, rfl⟩
  · rfl
  · rw [if_neg (nI_pos (by omega)), if_pos (by
      rw [decide_eq_true_eq]
      intro e
      have := congrArg (fun y => decide (y < (0 : Int32))) e
      simp only [decide_eq_decide] at this
      exact nI_pos (n := n) (by omega) (this.mpr (by decide)))]
theorem Iv_off {td : Nat} (I : Iv cm sm td μ) {c s : Nat} (hc : c < cm) (hs : s < sm) : μ 15 (16 * c + s) = -1 ∨ ∃ n, n < 5000 ∧ μ 15 (16 * c + s) = nI n := by
  rcases I.2.2.2.2.2.2.2.1 c s hc hs with h | ⟨h, -⟩
  · exact Or.inl h
  · obtain ⟨k, hk, e, -⟩ := lt_of h
    exact Or.inr ⟨k, by have := I.1.1; omega, e⟩
theorem m_hasOff {td : Nat} (R : Rl cm sm τ μ) (I : Iv cm sm td μ) {c s : Nat} (hc : c < cm) (hs : s < sm) : f_X4_hasOffer μ (nI s) (nI c) = some (if decide (¬ μ 15 (16 * c + s) = -1) = true then 1 else 0) := m_hasOffer (by have := R.1; omega) (by have := R.1; omega) rfl (Iv_off I hc hs)
theorem c_hasOff (R : Rl cm sm τ μ) {c s : Nat} (hc : c < cm) (hs : s < sm) : f_X0_hasOfferFor τ (4 + c) (nI s) = some (if decide (¬ μ 15 (16 * c + s) = -1) = true then 1 else 0) := by
  have h1 := R.1
  unfold f_X0_hasOfferFor
  rw [show 4 + c + 108 = 112 + c from by omega, show gw_len (112 + c) = 16 from by unfold gw_len; rw [if_neg (by omega)], if_pos (ib_ok (by omega)), nI_clamp (by omega), r_off R hc hs]
  by_cases e : μ 15 (16 * c + s) = -1
  · rw [if_pos e, e]; rfl
  · rw [if_neg e, if_pos (by simp [e])]
/-- free seats, as an int -/
def fr (μ : gw_S) (sm c : Nat) : Int32 := μ 1 c - nI (enr μ sm c + ofc μ sm c)
theorem c_fr (R : Rl cm sm τ μ) {c : Nat} (h : c < cm) : f_X3_freeIn τ (4 + c) = some (fr μ sm c) := by
  unfold f_X3_freeIn f_X3_takenSeats
  rw [c_enr R h, bs, c_ofc R h, bs, bs, r_sea R h, nI_add]; rfl
theorem sub_1 (x : Int32) (n : Nat) : x - nI n - 1 = x - nI (n + 1) := by
  rw [nI_succ, Int32.sub_sub]
theorem m_fr {td : Nat} (R : Rl cm sm τ μ) (I : Iv cm sm td μ) {c : Nat} (h : c < cm) : f_X4_free μ (nI c) = some (fr μ sm c) := by
  have hc := R.1
  unfold f_X4_free
  rw [if_pos (ib_ok (by show c < 20; omega) (by decide)), m_enr R h, bs, nI_clamp (by omega)]
  have G : gw_it (b_X4_free_1 μ (nI c)) 4096 (μ 1 c - nI (enr μ sm c + fb_ct (fun s => decide (¬ μ 15 (16 * c + s) = -1)) 0), nI 0) = some (fr μ sm c, nI sm) := by
    refine gw_fun (fun k => (μ 1 c - nI (enr μ sm c + fb_ct (fun s => decide (¬ μ 15 (16 * c + s) = -1)) k), nI k)) (fr μ sm c, nI sm) sm (by omega) (fun k hk => ?_) ?_
    · show (if μ 0 5 ≤ nI k then _ else _) = _
      rw [r_sm' R, if_neg (n_lt hk), m_hasOff R I h hk, bd, fb_ct_succ]
      cases decide (¬ μ 15 (16 * c + k) = -1)
      · show some (Sum.inl (_ - 0, nI k + 1)) = _
        rw [nI_1, Int32.sub_zero]; rfl
      · show some (Sum.inl (_ - 1, nI k + 1)) = _
        rw [nI_1, sub_1]; rfl
    · show (if μ 0 5 ≤ nI sm then _ else _) = _
      rw [r_sm' R, if_pos (n_le (Nat.le_refl _))]; rfl
  exact it_bd G rfl
theorem fr_v {td : Nat} (I : Iv cm sm td μ) (F : Fr cm sm μ) {c : Nat} (h : c < cm) : ∃ n, n + (enr μ sm c + ofc μ sm c) = nn (μ 1 c) ∧ n < 17 ∧ fr μ sm c = nI n := by
  obtain ⟨k, hk, e, e2⟩ := lt_of (I.2.1 c h).1
  have := F c h
  refine ⟨k - (enr μ sm c + ofc μ sm c), by omega, by omega, ?_⟩
  unfold fr
  rw [e, pk_sub (by omega)]
theorem fr_le {td : Nat} (I : Iv cm sm td μ) (F : Fr cm sm μ) {c : Nat} (h : c < cm) : fr μ sm c ≤ 0 ↔ nn (μ 1 c) ≤ enr μ sm c + ofc μ sm c := by
  obtain ⟨n, e, h1, e2⟩ := fr_v I F h
  rw [e2]
  constructor
  · intro h3
    rcases Nat.eq_zero_or_pos n with h0 | h0
    · omega
    · exact absurd h3 (nI_nle h0 (by omega))
  · intro h3
    rw [show n = 0 from by omega]
    decide
end rd
