/-! TO WHOM A STUDENT POINTS: class and book find the same -/
def acc (μ : gw_S) (s c : Nat) : Bool := decide (f_X4_obstacleWith μ (nI s) (nI c) (μ 8 s &&& (((1 : Int32) <<< (μ 11 s &&& 31)) ^^^ (-1 : Int32))) = some 0)
def wsi (μ : gw_S) (s i : Nat) : Nat := nn (μ 10 (6 * s + i))
def tgq (μ : gw_S) (sm : Nat) (x : Int32) (s i : Nat) : Bool := acc μ s (wsi μ s i) && decide (fwp μ x (wsi μ s i) sm < sm)
def tgi (μ : gw_S) (sm : Nat) (x : Int32) (s : Nat) : Nat := fa_first (tgq μ sm x s) (nn (μ 9 s))
def Tg (μ : gw_S) (sm : Nat) (x : Int32) (s : Nat) : Nat := if tgi μ sm x s < nn (μ 9 s) then fwp μ x (wsi μ s (tgi μ sm x s)) sm else s
section bj
variable {j cm sm td tb : Nat} {τ μ β : gw_S} {o : Nat → Int64}
theorem fwp_spec {x : Int32} {c : Nat} (h : fwp μ x c sm < sm) : bt x (fwp μ x c sm) = true ∧ μ 11 (fwp μ x c sm) = nI c := by
  have := fa_first_yes (fun v => bt x v && decide (μ 11 v = nI c)) sm h
  rw [Bool.and_eq_true, decide_eq_true_eq] at this
  exact this
theorem fwp_iff {x : Int32} {c t : Nat} (ht : t < sm) (h1 : bt x t = true) (h2 : μ 11 t = nI c) (h3 : ∀ v, v < t → ¬ (bt x v = true ∧ μ 11 v = nI c)) : fwp μ x c sm = t := by
  unfold fwp
  have a1 := fa_first_le (fun v => bt x v && decide (μ 11 v = nI c)) sm
  have a2 := fa_first_no (fun v => bt x v && decide (μ 11 v = nI c)) sm
  have a3 := fa_first_yes (fun v => bt x v && decide (μ 11 v = nI c)) sm
  rcases Nat.lt_trichotomy (fa_first (fun v => bt x v && decide (μ 11 v = nI c)) sm) t with q | q | q
  · have := a3 (by omega)
    rw [Bool.and_eq_true, decide_eq_true_eq] at this
    exact absurd this (h3 _ q)
  · exact q
  · have := a2 _ q
    rw [h1, h2] at this
    simp at this
theorem fwp_no {x : Int32} {c v : Nat} (h : v < fwp μ x c sm) : ¬ (bt x v = true ∧ μ 11 v = nI c) := fun e => by
  have := fa_first_no (fun v => bt x v && decide (μ 11 v = nI c)) sm v h
  rw [e.1, e.2] at this
  simp at this
theorem Tg_rng {x : Int32} {s : Nat} (hs : s < sm) (hx : bt x s = true) : Tg μ sm x s < sm ∧ bt x (Tg μ sm x s) = true := by
  unfold Tg
  split
  · rename_i h
    have := fa_first_yes (tgq μ sm x s) _ h
    unfold tgq at this
    rw [Bool.and_eq_true, decide_eq_true_eq] at this
    have h2 : fwp μ x (wsi μ s (tgi μ sm x s)) sm < sm := this.2
    exact ⟨h2, (fwp_spec h2).1⟩
  · exact ⟨hs, hx⟩
theorem Tg_pers {x x' : Int32} {s : Nat} (hsub : ∀ i, bt x' i = true → bt x i = true) (ht : bt x' (Tg μ sm x s) = true) : Tg μ sm x' s = Tg μ sm x s := by
  have a1 := fa_first_le (tgq μ sm x s) (nn (μ 9 s))
  have a2 := fa_first_no (tgq μ sm x s) (nn (μ 9 s))
  have a3 := fa_first_yes (tgq μ sm x s) (nn (μ 9 s))
  have c1 := fa_first_le (tgq μ sm x' s) (nn (μ 9 s))
  have c2 := fa_first_no (tgq μ sm x' s) (nn (μ 9 s))
  have c3 := fa_first_yes (tgq μ sm x' s) (nn (μ 9 s))
  have hup : ∀ c, fwp μ x' c sm < sm → fwp μ x c sm < sm := fun c h => by
    have h1 := fwp_spec h
    rcases Nat.lt_or_ge (fwp μ x c sm) sm with q | q
    · exact q
    · exact absurd ⟨hsub _ h1.1, h1.2⟩ (fwp_no (μ := μ) (x := x) (c := c) (sm := sm) (v := fwp μ x' c sm) (by omega))
  have hq : ∀ i, tgq μ sm x' s i = true → tgq μ sm x s i = true := fun i h => by
    unfold tgq at h ⊢
    rw [Bool.and_eq_true, decide_eq_true_eq] at h ⊢
    exact ⟨h.1, hup _ h.2⟩
  unfold Tg tgi at ht ⊢
  generalize fa_first (tgq μ sm x s) (nn (μ 9 s)) = p at *
  by_cases hp : p < nn (μ 9 s)
  · rw [if_pos hp] at ht ⊢
    have h1 := a3 hp
    have h1' : acc μ s (wsi μ s p) = true ∧ fwp μ x (wsi μ s p) sm < sm := by
      unfold tgq at h1
      rw [Bool.and_eq_true, decide_eq_true_eq] at h1
      exact h1
    have h2 : fwp μ x' (wsi μ s p) sm = fwp μ x (wsi μ s p) sm := fwp_iff h1'.2 ht (fwp_spec h1'.2).2 (fun v hv e => fwp_no hv ⟨hsub v e.1, e.2⟩)
    have h3 : tgq μ sm x' s p = true := by
      unfold tgq
      rw [h1'.1, h2, decide_eq_true h1'.2]; rfl
    have h4 : fa_first (tgq μ sm x' s) (nn (μ 9 s)) = p := by
      rcases Nat.lt_trichotomy (fa_first (tgq μ sm x' s) (nn (μ 9 s))) p with q | q | q
      · have := hq _ (c3 (by omega))
        rw [a2 _ q] at this; cases this
      · exact q
      · rw [c2 _ q] at h3; cases h3
    rw [h4, if_pos hp, h2]
  · rw [if_neg hp] at ht ⊢
    have h4 : ¬ fa_first (tgq μ sm x' s) (nn (μ 9 s)) < nn (μ 9 s) := fun q => by
      have := hq _ (c3 q)
      rw [a2 _ (by omega)] at this; cases this
    rw [if_neg h4]
theorem ups (I : Iv cm sm td μ) {s : Nat} (hs : s < sm) (hu : μ 11 s ≠ -1) : ∃ u, u < cm ∧ μ 11 s = nI u ∧ bt (μ 8 s) u = true := by
  rcases I.2.2.2.2.2.2.2.2.1 s hs with e | ⟨e, e2⟩
  · exact absurd e hu
  · exact ⟨_, e.2, e.1, e2⟩
theorem own_lt (I : Iv cm sm td μ) {s : Nat} (hs : s < sm) {y : Int32} : ∀ k, bt (μ 8 s &&& y) k = true → k < cm := fun k hk => by
  rw [b_and, Bool.and_eq_true] at hk
  exact (I.2.2.1 s hs).2.2.2.2 k hk.1
theorem c_tgt (R : Rl cm sm τ μ) (I : Iv cm sm td μ) {s : Nat} (hs : s < sm) (x : Int32) : f_X3_targetOf τ (24 + s) x = some (nI (Tg μ sm x s)) := by
  have h20 := R.1
  obtain ⟨n, hn, en, en2⟩ := lt_of (I.2.2.1 s hs).2.2.1
  have hgl : gw_len (60 + s + 36) = 6 := by unfold gw_len; rw [if_pos (by omega)]
  have hw : τ (60 + s) 1 = nI n := by rw [r_wic R hs, en]
  have a1 := fa_first_le (tgq μ sm x s) (nn (μ 9 s))
  have a2 := fa_first_no (tgq μ sm x s) (nn (μ 9 s))
  have a3 := fa_first_yes (tgq μ sm x s) (nn (μ 9 s))
  have step : ∀ k, k < n → b_X3_targetOf_1 τ (24 + s) x (nI k) = if tgq μ sm x s k = true then some (.inr (.inr (nI (fwp μ x (wsi μ s k) sm)))) else some (.inl (nI (k + 1))) := by
    intro k hk
    have hi := I.2.2.2.1 s k hs (by rw [en2]; exact hk)
    obtain ⟨c, hc, ec, ec2⟩ := lt_of hi.1
    obtain ⟨v, o1, o2, o3⟩ := obst R I hs hc (μ 8 s &&& (((1 : Int32) <<< (μ 11 s &&& 31)) ^^^ (-1 : Int32)))
    have hwk : wsi μ s k = c := ec2
    have hq : tgq μ sm x s k = (decide (v = 0) && decide (fwp μ x c sm < sm)) := by
      unfold tgq acc
      rw [hwk, o2]
      simp
    rw [b_X3_targetOf_1, show 24 + s + 36 = 60 + s from by omega, c_size, bs, hw, if_neg (n_lt hk (by omega)), c_at1 hw (by rw [hgl]; omega) hk, bs, show 60 + s + 36 = 96 + s from by omega, r_wis R (by omega) (by omega), ec, c_at R hc, bs, gx_l, r_ci R hc, c_fwp R, bs, f_X3_isAcceptable, f_X3_bit, bs, r_upp R hs, r_tak R hs, o1, bs, nI_1, hq, hwk]
    by_cases hf : fwp μ x c sm < sm
    · rw [if_pos hf, if_neg (ne_m1 (by omega)), decide_eq_true hf, Bool.and_true]
      by_cases hv : v = 0
      · rw [if_pos hv, bs, if_neg n10, if_pos (decide_eq_true hv)]
      · rw [if_neg hv, bs, if_pos rfl, if_neg (by simpa using hv)]
    · rw [if_neg hf, if_pos rfl, decide_eq_false hf, Bool.and_false, if_neg (by decide)]
  unfold f_X3_targetOf Tg tgi
  rw [en2] at a1 a2 a3 ⊢
  by_cases hp : fa_first (tgq μ sm x s) n < n
  · rw [if_pos hp]
    have G := gw_fun (b := b_X3_targetOf_1 τ (24 + s) x) (fun k => nI k) (.inr (nI (fwp μ x (wsi μ s (fa_first (tgq μ sm x s) n)) sm))) (fa_first (tgq μ sm x s) n) (by omega) (fun k hk => by
      rw [step k (by omega), if_neg (by rw [a2 k hk]; decide)]) (by rw [step _ hp, if_pos (a3 hp)])
    exact it_bd G rfl
  · rw [if_neg hp]
    have G := gw_fun (b := b_X3_targetOf_1 τ (24 + s) x) (fun k => nI k) (.inl (nI n)) n (by omega) (fun k hk => by
      rw [step k hk, if_neg (by rw [a2 k (by omega)]; decide)]) (by
      rw [b_X3_targetOf_1, show 24 + s + 36 = 60 + s from by omega, c_size, bs, hw, if_pos (n_le (Nat.le_refl _) (by omega))])
    exact it_bd G (by rw [gx_l, r_si R hs])
theorem k_pts (R : Rl cm sm τ μ) (I : Iv cm sm td μ) (B : Bk cm sm tb μ β o) {s : Nat} (hs : s < sm) (hu : μ 11 s ≠ -1) {x : Int32} (hx : ∀ i, bt x i = true → i < sm) : f_L_points β o (nI s) x = some (nI (Tg μ sm x s)) := by
  have h20 := R.1
  have hB := B.1
  obtain ⟨n, hn, en, en2⟩ := lt_of (I.2.2.1 s hs).2.2.1
  obtain ⟨u, hu1, eu, hut⟩ := ups I hs hu
  have h15 : ∀ i, i < n → nn (μ 10 (6 * s + i)) < 15 := fun i hi => w_lt B I hs i (by omega)
  have a1 := fa_first_le (tgq μ sm x s) (nn (μ 9 s))
  have a2 := fa_first_no (tgq μ sm x s) (nn (μ 9 s))
  have a3 := fa_first_yes (tgq μ sm x s) (nn (μ 9 s))
  obtain ⟨y, hy⟩ : ∃ y, y = μ 8 s &&& (((1 : Int32) <<< (μ 11 s &&& 31)) ^^^ (-1 : Int32)) := ⟨_, rfl⟩
  have hylt : ∀ k, bt y k = true → k < cm := by rw [hy]; exact own_lt I hs
  have step : ∀ k, k < n → b_L_points_1 β o (nI s) x y (nI (plk (fun i => nn (μ 10 (6 * s + i))) n k)) = if tgq μ sm x s k = true then some (.inr (.inr (nI (fwp μ x (wsi μ s k) sm)))) else some (.inl (nI (plk (fun i => nn (μ 10 (6 * s + i))) n (k + 1)))) := by
    intro k hk
    have hi := I.2.2.2.1 s k hs (by rw [en2]; exact hk)
    obtain ⟨c, hc, ec, ec2⟩ := lt_of hi.1
    rw [ec2] at hi
    obtain ⟨v, o0, o1, o2, o3⟩ := k_ob R I B hs hc y hylt
    have hwk : wsi μ s k = c := ec2
    have hq : tgq μ sm x s k = (decide (v = 0) && decide (fwp μ x c sm < sm)) := by
      unfold tgq acc
      rw [hwk, ← hy, o2]
      simp
    have hne : μ 11 s ≠ nI c := fun e => by
      rw [eu] at e
      have := nI_inj e
      rw [← this, hut] at hi
      cases hi.2
    obtain ⟨p1, p2, p3⟩ := plk_s h15 hk
    have hpk := plk_b6 h15 (by omega) (show k ≤ n by omega)
    generalize plk (fun i => nn (μ 10 (6 * s + i))) n k = r at *
    have ew : (nI r &&& (15 : Int32)) - (1 : Int32) = nI c := by rw [i15, p2, nI_pred, ec2]
    -- the inner loop
    have inner : ∀ v5 : Int32, gw_it (b_L_points_2 β o (nI s) x y v5 (nI c)) 4096 (0 : Int32) = some (if v = 0 then (if fwp μ x c sm < sm then .inr (nI (fwp μ x c sm)) else .inl (nI 8)) else .inl (nI 0)) := fun v5 => by
      by_cases hv : v = 0
      · have hst : ∀ i, i < 8 → b_L_points_2 β o (nI s) x y v5 (nI c) (nI i) = if bt x i = true ∧ μ 11 i = nI c then some (.inr (.inr (nI i))) else some (.inl (nI (i + 1))) := fun i hi => by
          rw [b_L_points_2, if_neg (n8 hi), o0, bs, if_pos hv, k_has (by omega), bd, nI_1, x8, x8_5, rd1 (by omega), cln (by omega)]
          by_cases e1 : i = s
          · subst e1
            rw [if_pos rfl, if_neg (fun h => hne h.2)]
          · rw [if_neg (fun e => e1 (nI_inj e))]
            by_cases e2 : bt x i = true
            · rw [if_pos e2, e_s5 B (hx i e2)]
              by_cases e3 : μ 11 i = nI c
              · rw [if_pos e3, if_pos ⟨e2, e3⟩]
              · rw [if_neg e3, if_neg (fun h => e3 h.2)]
            · rw [if_neg e2, if_neg (fun h => e2 h.1)]
        rw [if_pos hv]
        by_cases hf : fwp μ x c sm < sm
        · rw [if_pos hf]
          exact gw_fun (fun k => nI k) _ (fwp μ x c sm) (by omega) (fun k hk => by
            rw [hst k (by omega), if_neg (fwp_no hk)]) (by rw [hst _ (by omega), if_pos (fwp_spec hf)])
        · rw [if_neg hf]
          refine gw_fun (fun k => nI k) _ 8 (by omega) (fun k hk => ?_) ?_
          · rw [hst k hk, if_neg (fun h => fwp_no (μ := μ) (x := x) (c := c) (sm := sm) (v := k) (by have := hx k h.1; omega) h)]
          · have hen : ∀ w : Int32, (8 : Int32) ≤ w → b_L_points_2 β o (nI s) x y v5 (nI c) w = some (.inr (.inl w)) := fun w hw => by rw [b_L_points_2, if_pos hw]
            exact hen _ (by decide)
      · rw [if_neg hv]
        refine gw_it_en (m := 4095) ?_
        rw [b_L_points_2, if_neg (show ¬ (8 : Int32) ≤ 0 by decide), o0, bs, if_neg hv]; rfl
    rw [b_L_points_1, if_neg (show ¬ nI r = 0 from nI_ne0 (by omega) (by omega)), ew, inner, bs, i4 (by omega), p1, hq, hwk]
    by_cases hv : v = 0
    · rw [if_pos hv, decide_eq_true hv, Bool.true_and]
      by_cases hf : fwp μ x c sm < sm
      · rw [if_pos hf, if_pos (decide_eq_true hf), gx_r]
      · rw [if_neg hf, if_neg (by simpa using hf), gx_l]
    · rw [if_neg hv, decide_eq_false hv, Bool.false_and, if_neg (by decide), gx_l]
  unfold f_L_points
  simp (disch := omega) only [x8, x8_3, x8_4, x8_5, rd1, cln]
  rw [e_s3 B hs, e_s5 B hs, e_s4 B hs, ← hy]
  unfold Tg tgi
  rw [en2] at a1 a2 a3 ⊢
  rw [← plk_0]
  by_cases hp : fa_first (tgq μ sm x s) n < n
  · rw [if_pos hp]
    have G := gw_fun (b := b_L_points_1 β o (nI s) x y) (fun k => nI (plk (fun i => nn (μ 10 (6 * s + i))) n k)) (.inr (nI (fwp μ x (wsi μ s (fa_first (tgq μ sm x s) n)) sm))) (fa_first (tgq μ sm x s) n) (by omega) (fun k hk => by
      rw [step k (by omega), if_neg (by rw [a2 k hk]; decide)]) (by rw [step _ hp, if_pos (a3 hp)])
    exact it_bd G rfl
  · rw [if_neg hp]
    have G := gw_fun (b := b_L_points_1 β o (nI s) x y) (fun k => nI (plk (fun i => nn (μ 10 (6 * s + i))) n k)) (.inl (nI (plk (fun i => nn (μ 10 (6 * s + i))) n n))) n (by omega) (fun k hk => by
      rw [step k hk, if_neg (by rw [a2 k (by omega)]; decide)]) (by
      rw [b_L_points_1, plk_end, if_pos (show nI 0 = (0 : Int32) from rfl)])
    exact it_bd G rfl
end bj
