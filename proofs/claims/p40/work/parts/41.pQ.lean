section ps
variable {cm sm td : Nat} {τ μ : gw_S}
theorem rch_lt {D : Nat → Int32} {cm c k : Nat} (hb : ∀ c, c < cm → ∀ k, bt (D c) k = true → k < cm) (hc : c < cm) (h : rch D c k) : k < cm := by
  obtain ⟨n, h⟩ := h
  revert c
  induction n with
  | zero => intro c hc h; exact hb c hc k h
  | succ n ih =>
    intro c hc ⟨m, h1, h2⟩
    exact ih (hb c hc m h1) h2
theorem clo_bits (R : Rl cm sm τ μ) (I : Iv cm sm td μ) {c : Nat} (hc : c < cm) {k : Nat} (h : bt (τ (4 + c) 7) k = true) : k < cm := rch_lt (fun c hc => (I.2.1 c hc).2.2.2) hc ((r_clo R hc (bt_lt h)).mp h)
theorem op_missing {j : Nat} {τ μ : gw_S} (h : Inv j τ μ) (hj : j < 512) (a1 a2 : Int32) : ∃ r q, f_X3_missing τ a1 a2 = some r ∧ f_X4_missing μ a1 a2 = some q ∧ (∀ e, r = .inr e → e = "java/lang/IndexOutOfBoundsException") ∧ q.2 0 18 = lw_k ["java/lang/IndexOutOfBoundsException"] r ∧ (∀ v, r = .inl v → v = q.1) ∧ Inv (j + 1) τ q.2 := by
  obtain ⟨cm, sm, td, -, -, R, I, -⟩ := id h
  have h20 := R.1
  unfold f_X3_missing f_X4_missing
  rcases a_sc R a1 a2 with ⟨s, c, hs, hc, rfl, rfl, e1, e2, e3⟩ | ⟨e3, e1 | ⟨k, e1, e2⟩⟩
  · obtain ⟨r1, hr1, hr2, hr3⟩ : ∃ r1 : Int32 × gw_S, f_X4_areBoth μ (nI s) (nI c) = some r1 ∧ r1.1 = 1 ∧ r1.2 = gw_up μ 0 18 0 := ⟨_, e3, rfl, rfl⟩
    have hb : ∀ k, bt (τ (4 + c) 7 &&& (μ 7 s ^^^ (-1 : Int32))) k = true → k < 20 := fun k hk => by
      rw [b_and, Bool.and_eq_true] at hk
      have := clo_bits R I hc hk.1
      omega
    refine rd_ok h ?_ ?_ (v := nI (fb_ct (fun i => bt (τ (4 + c) 7 &&& (μ 7 s ^^^ (-1 : Int32))) i) 20))
    · rw [e1, bs, gx_l, e2, bs, gx_l, r_pas R hs, c_bits _ hb, bs]
    · rw [hr1, bs, hr2, if_neg n10, hr3, m_req (Rl_sim R (simT_rf _) (simM_18 _ _)) (Iv_sim I (simM_18 _ _)) hc, bs, if_pos (ib_ok (by show s < 16; omega) (by decide)), nI_clamp (by omega), show gw_up μ 0 18 0 7 s = μ 7 s from rfl, m_size _ hb, bs]
  · refine rd_ex h ?_ ?_ rfl (by decide +kernel) (n := 1) (x := "java/lang/IndexOutOfBoundsException")
    · rw [e1, bs, gx_r]
    · rw [e3, bs, if_pos rfl]
  · refine rd_ex h ?_ ?_ rfl (by decide +kernel) (n := 1) (x := "java/lang/IndexOutOfBoundsException")
    · rw [e1, bs, gx_l, e2, bs, gx_r]
    · rw [e3, bs, if_pos rfl]
theorem op_pass {j : Nat} {τ μ : gw_S} (h : Inv j τ μ) (hj : j < 512) (a1 a2 : Int32) : ∃ r q, f_X3_pass τ a1 a2 = some r ∧ f_X4_pass μ a1 a2 = some q ∧ (∀ e, r.1 = .inr e → e = "java/lang/IndexOutOfBoundsException" ∨ e = "java/lang/IllegalStateException") ∧ q.2 0 18 = lw_k ["java/lang/IndexOutOfBoundsException", "java/lang/IllegalStateException"] r.1 ∧ (∀ v, r.1 = .inl v → v = q.1) ∧ Inv (j + 1) r.2 q.2 := by
  obtain ⟨cm, sm, td, h7, hd, R, I, F, B⟩ := id h
  have h20 := R.1
  unfold f_X3_pass f_X4_pass f_X3_bit
  rcases a_sc R a1 a2 with ⟨s, c, hs, hc, rfl, rfl, e1, e2, e3⟩ | ⟨e3, e1 | ⟨k, e1, e2⟩⟩
  · obtain ⟨r1, hr1, hr2, hr3⟩ : ∃ r1 : Int32 × gw_S, f_X4_areBoth μ (nI s) (nI c) = some r1 ∧ r1.1 = 1 ∧ r1.2 = gw_up μ 0 18 0 := ⟨_, e3, rfl, rfl⟩
    rw [e1, bs, gx_l, e2, bs, gx_l, r_pas R hs, r_tak R hs, c_isIn (by omega), bd, c_isIn (by omega), bd, bs, hr1, bs, hr2, if_neg n10, hr3, if_pos (ib_ok (by show s < 16; omega) (by decide)), nI_clamp (n := s) (by omega), show gw_up μ 0 18 0 7 s = μ 7 s from rfl, m_has (by omega), bd, if_pos (ib_ok (by show s < 16; omega) (by decide)), show gw_up μ 0 18 0 8 s = μ 8 s from rfl, m_has (by omega), bd, up18]
    by_cases hb : bt (μ 7 s) c = true
    · rw [if_pos hb, if_pos hb]
      exact wr_ex h rfl rfl (Or.inr rfl) (by decide +kernel)
    rw [if_neg hb, if_neg hb]
    by_cases hb2 : bt (μ 8 s) c = true
    · rw [if_pos hb2, if_pos hb2]
      exact wr_ex h rfl rfl (Or.inr rfl) (by decide +kernel)
    rw [if_neg hb2, if_neg hb2, if_pos (ib_ok (by show s < 16; omega) (by decide)), if_pos (ib_ok (by show s < 16; omega) (by decide))]
    have R1 : Rl cm sm (gw_up τ (24 + s) 4 (μ 7 s ||| ((1 : Int32) <<< (nI c &&& 31)))) (gw_up (gw_up μ 0 18 0) 7 s (μ 7 s ||| ((1 : Int32) <<< (nI c &&& 31)))) := Rl_us (Rl_sim R (simT_rf τ) (simM_18 μ 0)) _ hs rfl (by omega) (by omega)
    have I1 : Iv cm sm td (gw_up (gw_up μ 0 18 0) 7 s (μ 7 s ||| ((1 : Int32) <<< (nI c &&& 31)))) := by
      obtain ⟨v1, v3, v4, v5, v6, v7, v8, v9, v10, v11⟩ := I
      refine ⟨v1, v3, fun t ht => ⟨(v4 t ht).1, (v4 t ht).2.1, (v4 t ht).2.2.1, fun k hk => ?_, (v4 t ht).2.2.2.2⟩, v5, v6, v7, v8, v9, v10, v11⟩
      by_cases e : t = s
      · subst e
        rw [gw_up_s] at hk
        rw [bt_or_bit (by omega) (bt_lt hk)] at hk
        rcases (Bool.or_eq_true _ _ ▸ hk : bt (μ 7 t) k = true ∨ decide (k = c) = true) with h3 | h3
        · exact (v4 t ht).2.2.2.1 k h3
        · have : k = c := by simpa using h3
          omega
      · rw [gw_up_n (by omega), gw_up_n (by omega)] at hk
        exact (v4 t ht).2.2.2.1 k hk
    obtain ⟨τ2, μ2, w1, w2, R2, W, S2⟩ := wva_pair R1 (c := c) hs (I.2.2.1 s hs).2.2.1 (fun i j hi hj e => I.2.2.2.2.1 s i j hs hi hj e)
    have I2 := Iv_wva I1 hs hc (v := μ 8 s) (fun k hk => Or.inl hk) (fun k hk => hk) (by rw [gw_up_same (by rfl)]; exact W)
    obtain ⟨τ3, μ3, l1, l2, R3, I3, L3, S3⟩ := lva_pair R2 I2 hc hs
    have F2 : Fr cm sm μ2 := Fr_rows (μ := μ) F (by rw [W.1 1 (by omega) (by omega)]; rfl) (by rw [W.1 8 (by omega) (by omega)]; rfl) (by rw [W.1 15 (by omega) (by omega)]; rfl)
    obtain ⟨τ', μ', a1, a2, hI, R', h18, rw'⟩ := fin (j := j) (by omega) (by rw [L3.1 0 (by omega) (by omega) (by omega), W.1 0 (by omega) (by omega)]; exact hd) R3 I3 (Fr_lva F2 hc hs L3) (by rw [L3.1 0 (by omega) (by omega) (by omega), W.1 0 (by omega) (by omega)]; rfl)
    have hb3 : ∀ k, bt (μ' 7 s) k = true → k < 20 := fun k hk => by
      rw [rw' 7 (by omega)] at hk
      have := (I3.2.2.1 s hs).2.2.2.1 k hk
      omega
    rw [show 24 + s + 36 = 60 + s from by omega, w1, bs, l1, bs, a1, bs, r_pas R' hs, c_bits _ hb3, bs, w2, bs, l2, bs, a2, bs, if_pos (ib_ok (by show s < 16; omega) (by decide)), m_size _ hb3, bs]
    exact wr_ok rfl rfl h18 hI
  · refine wr_ex h ?_ ?_ (Or.inl rfl) (by decide +kernel) (n := 1) (x := "java/lang/IndexOutOfBoundsException")
    · rw [e1, bs, gx_r]
    · rw [e3, bs, if_pos rfl]
  · refine wr_ex h ?_ ?_ (Or.inl rfl) (by decide +kernel) (n := 1) (x := "java/lang/IndexOutOfBoundsException")
    · rw [e1, bs, gx_l, e2, bs, gx_r]
    · rw [e3, bs, if_pos rfl]
/-- an edge more -/
theorem rch_edge {D D' : Nat → Int32} {a b : Nat} (h : ∀ c k, bt (D' c) k = true ↔ (bt (D c) k = true ∨ (c = a ∧ k = b))) (c k : Nat) : rch D' c k ↔ (rch D c k ∨ ((c = a ∨ rch D c a) ∧ (k = b ∨ rch D b k))) := by
  have embp : ∀ n c k, pth D n c k → pth D' n c k := by
    intro n
    induction n with
    | zero => intro c k hn; exact (h c k).mpr (Or.inl hn)
    | succ n ih => intro c k ⟨m, h1, h2⟩; exact ⟨m, (h c m).mpr (Or.inl h1), ih m k h2⟩
  have emb : ∀ {c k}, rch D c k → rch D' c k := fun {c k} ⟨n, hn⟩ => ⟨n, embp n c k hn⟩
  have hab : rch D' a b := ⟨0, (h a b).mpr (Or.inr ⟨rfl, rfl⟩)⟩
  constructor
  · rintro ⟨n, hn⟩
    revert c
    induction n with
    | zero =>
      intro c hn
      rcases (h c k).mp hn with h1 | ⟨h1, h2⟩
      · exact Or.inl ⟨0, h1⟩
      · exact Or.inr ⟨Or.inl h1, Or.inl h2⟩
    | succ n ih =>
      intro c ⟨m, h1, h2⟩
      have h3 := ih m h2
      rcases (h c m).mp h1 with h4 | ⟨rfl, rfl⟩
      · have hcm : rch D c m := ⟨0, h4⟩
        rcases h3 with h5 | ⟨h5, h6⟩
        · exact Or.inl (rch_tr hcm h5)
        · refine Or.inr ⟨Or.inr ?_, h6⟩
          rcases h5 with rfl | h5
          · exact hcm
          · exact rch_tr hcm h5
      · rcases h3 with h5 | ⟨h5, h6⟩
        · exact Or.inr ⟨Or.inl rfl, Or.inr h5⟩
        · exact Or.inr ⟨Or.inl rfl, h6⟩
  · rintro (h1 | ⟨h1, h2⟩)
    · exact emb h1
    · have x1 : rch D' c b := by
        rcases h1 with rfl | h1
        · exact hab
        · exact rch_tr (emb h1) hab
      rcases h2 with rfl | h2
      · exact x1
      · exact rch_tr x1 (emb h2)
theorem spread {a : Nat} {q : Int32} (e2 : τ 0 2 = nI cm) (h20 : cm ≤ 20) (ha : a < cm) (ea : τ (4 + a) 0 = nI a) : ∃ τ', f_X3_spreadRequired τ (4 + a) q = some τ' ∧ (∀ k i, ¬ (4 ≤ k ∧ k < 24 ∧ i = 7) → τ' k i = τ k i) ∧ (∀ c, c < cm → τ' (4 + c) 7 = if c = a ∨ bt (τ (4 + c) 7) a = true then τ (4 + c) 7 ||| q else τ (4 + c) 7) ∧ ∀ c, cm ≤ c → c < 20 → τ' (4 + c) 7 = τ (4 + c) 7 := by
  obtain ⟨t, G, h1, h2, h3⟩ : ∃ t, gw_it (b_X3_spreadRequired_1 (4 + a) q) 4096 ((0 : Int32), τ) = some t ∧ (∀ k i, ¬ (4 ≤ k ∧ k < 24 ∧ i = 7) → t.2 k i = τ k i) ∧ (∀ c, c < cm → t.2 (4 + c) 7 = if c < cm ∧ (c = a ∨ bt (τ (4 + c) 7) a = true) then τ (4 + c) 7 ||| q else τ (4 + c) 7) ∧ ∀ c, cm ≤ c → c < 20 → t.2 (4 + c) 7 = τ (4 + c) 7 := by
    refine gw_for (fun n s => s.1 = nI n ∧ (∀ k i, ¬ (4 ≤ k ∧ k < 24 ∧ i = 7) → s.2 k i = τ k i) ∧ (∀ c, c < cm → s.2 (4 + c) 7 = if c < n ∧ (c = a ∨ bt (τ (4 + c) 7) a = true) then τ (4 + c) 7 ||| q else τ (4 + c) 7) ∧ ∀ c, cm ≤ c → c < 20 → s.2 (4 + c) 7 = τ (4 + c) 7) _ cm (by omega) ⟨rfl, fun _ _ _ => rfl, fun c hc => by rw [if_neg (fun h => absurd h.1 (Nat.not_lt_zero c))], fun _ _ _ => rfl⟩ (fun n s hn hI => ?_) (fun s hI => ?_)
    · obtain ⟨v, σ⟩ := s
      obtain ⟨e, h1, h2, h3⟩ := hI
      have e : v = nI n := e
      subst e
      have h1 : ∀ k i, ¬ (4 ≤ k ∧ k < 24 ∧ i = 7) → σ k i = τ k i := h1
      have h2 : ∀ c, c < cm → σ (4 + c) 7 = if c < n ∧ (c = a ∨ bt (τ (4 + c) 7) a = true) then τ (4 + c) 7 ||| q else τ (4 + c) 7 := h2
      have en : σ (4 + n) 7 = τ (4 + n) 7 := by rw [h2 n hn, if_neg (fun h => absurd h.1 (Nat.lt_irrefl n))]
      have hv : b_X3_spreadRequired_1 (4 + a) q (nI n, σ) = if n = a ∨ bt (τ (4 + n) 7) a = true then some (.inl (nI (n + 1), gw_up σ (4 + n) 7 (τ (4 + n) 7 ||| q))) else some (.inl (nI (n + 1), σ)) := by
        rw [b_X3_spreadRequired_1, h1 0 2 (by omega), e2, if_neg (n_lt hn), if_pos (ib_ok (by omega)), nI_clamp (by omega), en, h1 (4 + a) 0 (by omega), ea, c_isIn (by omega), bd, nI_1]
        by_cases e : n = a
        · rw [if_pos (show 4 + n = 4 + a by omega), if_pos (Or.inl e)]
        · rw [if_neg (show ¬ 4 + n = 4 + a by omega)]
          by_cases e3 : bt (τ (4 + n) 7) a = true
          · rw [if_pos e3, if_pos (Or.inr e3)]
          · rw [if_neg e3, if_neg (fun h => h.elim e e3)]
      rw [hv]
      by_cases e : n = a ∨ bt (τ (4 + n) 7) a = true
      · rw [if_pos e]
        refine ⟨_, rfl, rfl, fun k i hk => ?_, fun c hc => ?_, fun c hc hc2 => (gw_up_n (by omega)).trans (h3 c hc hc2)⟩
        · show gw_up σ (4 + n) 7 _ k i = _
          rw [gw_up_n (by omega), h1 k i hk]
        · show gw_up σ (4 + n) 7 _ (4 + c) 7 = _
          by_cases e4 : c = n
          · subst e4; rw [gw_up_s, if_pos ⟨by omega, e⟩]
          · rw [gw_up_n (by omega), h2 c hc]
            by_cases e5 : c < n ∧ (c = a ∨ bt (τ (4 + c) 7) a = true)
            · rw [if_pos e5, if_pos ⟨by omega, e5.2⟩]
            · rw [if_neg e5, if_neg (fun h => e5 ⟨by omega, h.2⟩)]
      · rw [if_neg e]
        refine ⟨_, rfl, rfl, h1, fun c hc => ?_, h3⟩
        show σ (4 + c) 7 = _
        rw [h2 c hc]
        by_cases e4 : c = n
        · subst e4; rw [if_neg (fun h => e h.2), if_neg (fun h => e h.2)]
        · by_cases e5 : c < n ∧ (c = a ∨ bt (τ (4 + c) 7) a = true)
          · rw [if_pos e5, if_pos ⟨by omega, e5.2⟩]
          · rw [if_neg e5, if_neg (fun h => e5 ⟨by omega, h.2⟩)]
    · obtain ⟨v, σ⟩ := s
      obtain ⟨e, h1, h2, h3⟩ := hI
      have e : v = nI cm := e
      subst e
      refine ⟨(nI cm, σ), ?_, h1, h2, h3⟩
      have h1 : ∀ k i, ¬ (4 ≤ k ∧ k < 24 ∧ i = 7) → σ k i = τ k i := h1
      rw [b_X3_spreadRequired_1, h1 0 2 (by omega), e2, if_pos (n_le (Nat.le_refl _))]
  refine ⟨t.2, it_bd G rfl, h1, fun c hc => ?_, h3⟩
  rw [h2 c hc]
  by_cases e : c = a ∨ bt (τ (4 + c) 7) a = true
  · rw [if_pos ⟨hc, e⟩, if_pos e]
  · rw [if_neg (fun h => e h.2), if_neg e]
theorem op_addPrerequisite {j : Nat} {τ μ : gw_S} (h : Inv j τ μ) (hj : j < 512) (a1 a2 : Int32) : ∃ r q, f_X3_addPrerequisite τ a1 a2 = some r ∧ f_X4_addPrerequisite μ a1 a2 = some q ∧ (∀ e, r.1 = .inr e → e = "java/lang/IndexOutOfBoundsException" ∨ e = "java/lang/IllegalStateException") ∧ q.2 0 18 = lw_k ["java/lang/IndexOutOfBoundsException", "java/lang/IllegalStateException"] r.1 ∧ (∀ v, r.1 = .inl v → v = q.1) ∧ Inv (j + 1) r.2 q.2 := by
  obtain ⟨cm, sm, td, h7, hd, R, I, F, B⟩ := id h
  have h20 := R.1
  have R1 := Rl_sim R (simT_rf τ) (simM_18 μ 0)
  have I1 := Iv_sim I (simM_18 μ 0)
  unfold f_X3_addPrerequisite f_X4_addPrerequisite f_X3_bit
  rcases a_c R a1 with ⟨a, ha, rfl, e1, e1'⟩ | ⟨e1, e1'⟩
  rotate_left
  · rw [e1, bs, gx_r, e1', bs, if_pos (show (0 : Int32) = 0 from rfl)]
    exact wr_ex h rfl rfl (Or.inl rfl) (by decide +kernel)
  rw [e1, bs, gx_l, e1', bs, if_neg n10]
  rcases a_c R a2 with ⟨b, hb, rfl, e2, e2'⟩ | ⟨e2, e2'⟩
  rotate_left
  · rw [e2, bs, gx_r, e2', bs, if_pos (show (0 : Int32) = 0 from rfl)]
    exact wr_ex h rfl rfl (Or.inl rfl) (by decide +kernel)
  rw [e2, bs, gx_l, bs, bs, e2', bs, if_neg n10, up18]
  by_cases hab : nI a = nI b
  · rw [if_pos hab, if_pos hab]
    exact wr_ex h rfl rfl (Or.inr rfl) (by decide +kernel)
  rw [if_neg hab, if_neg hab]
  have hab' : a ≠ b := fun e => hab (by rw [e])
  rw [r_dir R ha, c_isIn (by omega), bd, c_isIn (by omega), bd, gw_up_n (k' := 4 + b) (j' := 7) (by omega), if_pos (ib_ok (by show a < 20; omega) (by decide)), nI_clamp (n := a) (by omega), show gw_up μ 0 18 0 4 a = μ 4 a from rfl, m_has (by omega), bd, m_req R1 I1 hb, bs, m_has (by omega), bd]
  by_cases h1 : bt (μ 4 a) b = true
  · rw [if_pos h1, if_pos h1]
    exact wr_ex h rfl rfl (Or.inr rfl) (by decide +kernel)
  rw [if_neg h1, if_neg h1]
  by_cases h2 : bt (τ (4 + b) 7) a = true
  · rw [if_pos h2, if_pos h2]
    exact wr_ex h rfl rfl (Or.inr rfl) (by decide +kernel)
  rw [if_neg h2, if_neg h2, if_pos (ib_ok (by show a < 20; omega) (by decide)), if_pos (ib_ok (by show a < 20; omega) (by decide))]
  obtain ⟨τ2, sp, tn, t7, tout⟩ := spread (τ := gw_up τ (4 + a) 6 (μ 4 a ||| ((1 : Int32) <<< (nI b &&& 31)))) (q := τ (4 + b) 7 ||| ((1 : Int32) <<< (nI b &&& 31))) (cm := cm) (by rw [gw_up_n (by omega), r_cm R]) h20.1 ha (by rw [gw_up_n (by omega), r_ci R ha])
  have t7 : ∀ c, c < cm → τ2 (4 + c) 7 = if c = a ∨ bt (τ (4 + c) 7) a = true then τ (4 + c) 7 ||| (τ (4 + b) 7 ||| ((1 : Int32) <<< (nI b &&& 31))) else τ (4 + c) 7 := fun c hc => by
    rw [t7 c hc, gw_up_n (by omega)]
  have hE : ∀ c k, bt (gw_up (gw_up μ 0 18 0) 4 a (μ 4 a ||| ((1 : Int32) <<< (nI b &&& 31))) 4 c) k = true ↔ (bt (μ 4 c) k = true ∨ (c = a ∧ k = b)) := fun c k => by
    by_cases e : c = a
    · subst e
      rw [gw_up_s]
      rcases Nat.lt_or_ge k 32 with h | h
      · rw [bt_or_bit (by omega) h]; simp
      · rw [b_big h, b_big h]; simp; omega
    · rw [gw_up_n (by omega), gw_up_n (by omega)]; simp [e]
  have rc := rch_edge hE
  have hba : ¬ rch (μ 4) b a := fun h => h2 ((r_clo R hb (by omega)).mpr h)
  have R2 : Rl cm sm τ2 (gw_up (gw_up μ 0 18 0) 4 a (μ 4 a ||| ((1 : Int32) <<< (nI b &&& 31)))) := by
    obtain ⟨⟨h1, h2⟩, ⟨e1, e2, e3, e4, e5⟩, ⟨i1, i2⟩, L, d1, d2, d3, cl⟩ := R
    refine ⟨⟨h1, h2⟩, ⟨?_, ?_, e3, e4, ?_⟩, ⟨fun c hc => ?_, fun s hs => ?_⟩, fun k i hl => ?_, fun c hc hc2 => ⟨?_, ?_, ?_⟩, fun s hs hs2 => ⟨?_, ?_, ?_, ?_, ?_⟩, fun c s hc hs h => ?_, fun c k hc hk => ?_⟩
    · rw [tn _ _ (by omega), gw_up_n (by omega), e1]
    · rw [tn _ _ (by omega), gw_up_n (by omega), e2]
    · rw [tn _ _ (by omega), gw_up_n (by omega), e5]; rfl
    · rw [tn _ _ (by omega), gw_up_n (by omega), i1 c hc]
    · rw [tn _ _ (by omega), gw_up_n (by omega), i2 s hs]
    · by_cases e : k = 4 + a ∧ i = 6
      · obtain ⟨rfl, rfl⟩ := e
        rw [tn _ _ (by omega), gw_up_s, g_c (by omega)]
        exact (gw_up_s _ _ _ _).symm
      · have hl4 : lv cm sm (4 + a) 6 := Or.inl ⟨by omega, by omega, by omega, by omega⟩
        have hne : ¬ ((gm k i).1 = 4 ∧ (gm k i).2 = a) := fun e2 => e (gm_inj h1 h2 hl hl4 (by rw [g_c (by omega)]; exact Prod.ext e2.1 e2.2))
        have hr := gm_rng h1 h2 hl
        rw [tn _ _ (by unfold lv at hl; omega), gw_up_n (by omega), gw_up_n hne, gw_up_n (by omega), L k i hl]
    · rw [tn _ _ (by omega), gw_up_n (by omega)]; exact (d1 c hc hc2).1
    · have : τ2 (4 + c) 7 = τ (4 + c) 7 := (tout c hc hc2).trans (gw_up_n (by omega))
      rw [this]; exact (d1 c hc hc2).2.1
    · rw [tn _ _ (by omega), gw_up_n (by omega)]; exact (d1 c hc hc2).2.2
    · rw [tn _ _ (by omega), gw_up_n (by omega)]; exact (d2 s hs hs2).1
    · rw [tn _ _ (by omega), gw_up_n (by omega)]; exact (d2 s hs hs2).2.1
    · rw [tn _ _ (by omega), gw_up_n (by omega)]; exact (d2 s hs hs2).2.2.1
    · rw [tn _ _ (by omega), gw_up_n (by omega)]; exact (d2 s hs hs2).2.2.2.1
    · rw [tn _ _ (by omega), gw_up_n (by omega)]; exact (d2 s hs hs2).2.2.2.2
    · rw [tn _ _ (by omega), gw_up_n (by omega)]; exact d3 c s hc hs h
    · rw [rc, t7 c hc]
      have ca := cl c a hc (by omega)
      have cb := cl b k hb hk
      have ck := cl c k hc hk
      by_cases e : c = a ∨ bt (τ (4 + c) 7) a = true
      · rw [if_pos e, b_or, bt_or_bit (by omega) hk, Bool.or_eq_true, Bool.or_eq_true, ck, cb, decide_eq_true_eq]
        rw [ca] at e
        constructor
        · rintro (h | h | h)
          · exact Or.inl h
          · exact Or.inr ⟨e, Or.inr h⟩
          · exact Or.inr ⟨e, Or.inl h⟩
        · rintro (h | ⟨-, h | h⟩)
          · exact Or.inl h
          · exact Or.inr (Or.inr h)
          · exact Or.inr (Or.inl h)
      · rw [if_neg e, ck]
        rw [ca] at e
        exact ⟨Or.inl, fun h => h.elim id (fun h => absurd h.1 e)⟩
  have I2 : Iv cm sm td (gw_up (gw_up μ 0 18 0) 4 a (μ 4 a ||| ((1 : Int32) <<< (nI b &&& 31)))) := by
    obtain ⟨v1, v3, v4, v5, v6, v7, v8, v9, v10, v11⟩ := I
    refine ⟨v1, fun c hc => ⟨(v3 c hc).1, (v3 c hc).2.1, (v3 c hc).2.2.1, fun k hk => ?_⟩, v4, v5, v6, v7, v8, v9, v10, fun c hc hr => ?_⟩
    · rcases (hE c k).mp hk with h | h
      · exact (v3 c hc).2.2.2 k h
      · omega
    · rcases (rc c c).mp hr with h | ⟨h, h'⟩
      · exact v11 c hc h
      · rcases h with rfl | h
        · rcases h' with rfl | h'
          · exact hab' rfl
          · exact hba h'
        · rcases h' with rfl | h'
          · exact hba h
          · exact hba (rch_tr h' h)
  have S2 : Sb cm sm (gw_up (gw_up μ 0 18 0) 4 a (μ 4 a ||| ((1 : Int32) <<< (nI b &&& 31)))) := by
    intro c s hc hs g1 g2 g3 g4
    refine B c s hc hs g1 g2 g3 ?_
    obtain ⟨n1, n2, n3, n4, n5⟩ := g4
    refine ⟨n1, n2, fun k hk hr => n3 k hk ((rc c k).mpr (Or.inl hr)), ?_, n5⟩
    rw [wsum_sim (μ := μ) (μ' := gw_up (gw_up μ 0 18 0) 4 a (μ 4 a ||| ((1 : Int32) <<< (nI b &&& 31)))) rfl] at n4
    exact n4
  have F2 : Fr cm sm (gw_up (gw_up μ 0 18 0) 4 a (μ 4 a ||| ((1 : Int32) <<< (nI b &&& 31)))) := Fr_rows (μ := μ) F rfl rfl rfl
  obtain ⟨τ', μ', -, o2, -, -, -, -, -, -, st⟩ := offers_pair (by exact hd) R2 I2 F2
  rw [st S2] at o2
  have hbits : ∀ k, bt (τ2 (4 + a) 7) k = true → k < 20 := fun k hk => by
    have := clo_bits R2 I2 ha hk
    omega
  rw [sp, bs, c_bits _ hbits, bs, o2, bs, m_req R2 I2 ha, bs, m_size _ hbits, bs]
  exact wr_ok rfl rfl rfl ⟨cm, sm, td, by omega, hd, R2, I2, F2, S2⟩
end ps
