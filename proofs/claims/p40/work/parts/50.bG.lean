section bg
variable {j cm sm td : Nat} {τ μ β : gw_S} {o : Nat → Int64} {k a b d : Int32}
theorem k_many20 {x : Int32} {m : Nat} (hm : m ≤ 8) (h : ∀ i, bt x i = true → i < m) : f_L_many x = some (nI (fb_ct (fun i => bt x i) 20)) := by
  rw [k_many (fun i hi => by have := h i hi; omega)]
  refine congrArg some (congrArg nI (ct_ext (p := fun i => bt x i) (q := fun i => bt x i) (fun k _ => rfl) 20 (by omega) (fun k h1 _ => ?_)).symm)
  cases e : bt x k
  · rfl
  · have := h k e; omega
theorem go_pass (hj : j < 500) (h : St j cm sm td τ μ β o) {s c : Nat} (hs : s < sm) (hc : c < cm) : Go j cm sm τ β o 2 (nI s) (nI c) d := by
  obtain ⟨h7, -, hd, R, I, F, S, B⟩ := id h
  have hB := B.1
  have h20 := R.1
  have hX : f_X3_pass τ (nI s) (nI c) = if bt (μ 7 s) c = true then some (.inr "java/lang/IllegalStateException", τ) else if bt (μ 8 s) c = true then some (.inr "java/lang/IllegalStateException", τ) else ((f_X1_remove (gw_up τ (24 + s) 4 (μ 7 s ||| ((1 : Int32) <<< (nI c &&& 31)))) (60 + s) (nI c)).bind fun r8 => (f_X0_takeOff r8 (4 + c) (nI s)).bind fun r9 => (f_X3_makeOffers r9).bind fun r10 => (f_J6_bitCount_0f7a4 r10 (r10 (24 + s) 4)).bind fun r11 => some (.inl r11, r10)) := by
    unfold f_X3_pass f_X3_bit
    rw [s_at R hs, bs, gx_l, c_at R hc, bs, gx_l, r_pas R hs, r_tak R hs, c_isIn (by omega), bd, c_isIn (by omega), bd, bs, show 24 + s + 36 = 60 + s from by omega]
  have hK : f_L_passes β o (nI s) (nI c) = if bt (μ 7 s ||| μ 8 s) c = true then some (-13, β, o) else ((f_L_unwishes (gw_up β 1 (8 * s + 2) (μ 7 s ||| ((1 : Int32) <<< (nI c &&& 31)))) o (nI s) (nI c)).bind fun r6 => (f_L_leaves r6.1 r6.2 (nI s) (nI c)).bind fun r7 => (f_L_many (r7.1 1 (8 * s + 2))).bind fun r9 => some (r9, r7.1, r7.2)) := by
    unfold f_L_passes
    simp (disch := omega) only [x8, x8_2, x8_3, rd1, cln]
    rw [e_s2 B hs, e_s3 B hs, k_has (by omega), bd]
  rw [b_or] at hK
  have hno : bt (μ 7 s) c = true ∨ bt (μ 8 s) c = true → Go j cm sm τ β o 2 (nI s) (nI c) d := fun hq => by
    rw [if_pos (by rcases hq with q | q <;> rw [q] <;> simp)] at hK
    refine go_no hj h (by show (f_L_passes β o (nI s) (nI c)).bind _ = _; rw [hK]; rfl) ?_
    rw [dz2, hX]
    rcases hq with q | q
    · rw [if_pos q, bs, cx_r]
    · rw [if_pos q, ite_self, bs, cx_r]
  by_cases hb : bt (μ 7 s) c = true
  · exact hno (Or.inl hb)
  by_cases hb2 : bt (μ 8 s) c = true
  · exact hno (Or.inr hb2)
  rw [if_neg hb, if_neg hb2] at hX
  rw [if_neg (show ¬ (bt (μ 7 s) c || bt (μ 8 s) c) = true by simp [hb, hb2])] at hK
  have R1 : Rl cm sm (gw_up τ (24 + s) 4 (μ 7 s ||| ((1 : Int32) <<< (nI c &&& 31)))) (gw_up μ 7 s (μ 7 s ||| ((1 : Int32) <<< (nI c &&& 31)))) := Rl_us R _ hs rfl (by omega) (by omega)
  have I1 : Iv cm sm td (gw_up μ 7 s (μ 7 s ||| ((1 : Int32) <<< (nI c &&& 31)))) := by
    obtain ⟨v1, v3, v4, v5, v6, v7, v8, v9, v10, v11⟩ := I
    refine ⟨v1, v3, fun t ht => ⟨(v4 t ht).1, (v4 t ht).2.1, (v4 t ht).2.2.1, fun k hk => ?_, (v4 t ht).2.2.2.2⟩, v5, v6, v7, v8, v9, v10, v11⟩
    by_cases e : t = s
    · subst e
      rw [gw_up_s] at hk
      rw [bt_or_bit (by omega) (bt_lt hk)] at hk
      rcases (Bool.or_eq_true _ _ ▸ hk : bt (μ 7 t) k = true ∨ decide (k = c) = true) with h3 | h3
      · exact (v4 t ht).2.2.2.1 k h3
      · have : k = c := by simpa using h3
        omega
    · rw [gw_up_n (by omega)] at hk
      exact (v4 t ht).2.2.2.1 k hk
  have B1 : Bk cm sm td (gw_up μ 7 s (μ 7 s ||| ((1 : Int32) <<< (nI c &&& 31)))) (gw_up β 1 (8 * s + 2) (μ 7 s ||| ((1 : Int32) <<< (nI c &&& 31)))) o := by
    obtain ⟨b0, b1, b2, b3, b4, b5, b6, b7, b8, b9, b10⟩ := id B
    refine ⟨b0, b1, fun c' j hc' hj => ?_, b3, b4, b5, b6, fun t j ht hj => ?_, fun t ht => ?_, fun t ht => ?_, fun t j h1 h2 hj => ?_⟩
    · rw [gw_up_n (k' := j + 1) (by omega)]; exact b2 c' j hc' hj
    · by_cases e : t = s ∧ j = 2
      · obtain ⟨rfl, rfl⟩ := e; rw [gw_up_s, gw_up_s]
      · rw [gw_up_n (by omega), gw_up_n (by omega)]; exact b7 t j ht hj
    · rw [gw_up_n (by omega)]; exact b8 t ht
    · exact ⟨(gw_up_n (by omega)).trans (b9 t ht).1, (gw_up_n (by omega)).trans (b9 t ht).2⟩
    · rw [gw_up_n (by omega)]; exact b10 t j h1 h2 hj
  obtain ⟨τ2, μ2, β2, w1, w2, R2, W, S2, w3, B2⟩ := k_uw R1 B1 (c := c) hs hc (fun t ht => (I.2.2.1 t ht).2.2.1) (fun i hi => (I.2.2.2.1 s i hs hi).1) (fun i j hi hj e => I.2.2.2.2.1 s i j hs hi hj e)
  have I2 := Iv_wva I1 hs hc (v := μ 8 s) (fun k hk => Or.inl hk) (fun k hk => hk) (by rw [gw_up_same (by rfl)]; exact W)
  obtain ⟨τ3, μ3, β3, o3, l1, l2, R3, I3, L3, S3, l3, B3⟩ := k_le R2 I2 B2 hc hs
  have F2 : Fr cm sm μ2 := Fr_rows (μ := μ) F (by rw [W.1 1 (by omega) (by omega)]; rfl) (by rw [W.1 8 (by omega) (by omega)]; rfl) (by rw [W.1 15 (by omega) (by omega)]; rfl)
  have hb3 := (I3.2.2.1 s hs).2.2.2.1
  refine go_of hj (by omega) (td := td) (by rw [L3.1 0 (by omega) (by omega) (by omega), W.1 0 (by omega) (by omega)]; exact hd) R3 I3 (Fr_lva F2 hc hs L3) B3 (v := nI (fb_ct (fun i => bt (μ3 7 s) i) 20)) ?_ (fun τ' μ' m1 R' rw' => ?_)
  · show (f_L_passes β o (nI s) (nI c)).bind _ = _
    rw [hK, w3, bs, l3, bs]; dsimp only; rw [e_s2 B3 hs, k_many20 hB.1 hb3]; rfl
  · rw [dz2, hX, w1, bs, l1, bs, m1, bs, r_pas R' hs, rw' 7 (by omega), c_bits _ (fun k hk => by have := hb3 k hk; omega)]; rfl
theorem go_addPre (hj : j < 500) (h : St j cm sm td τ μ β o) {a b : Nat} (ha : a < cm) (hb : b < cm) : Go j cm sm τ β o 1 (nI a) (nI b) d := by
  obtain ⟨h7, -, hd, R, I, F, B, K⟩ := id h
  have hB := K.1
  have h20 := R.1
  have hX : f_X3_addPrerequisite τ (nI a) (nI b) = if nI a = nI b then some (.inr "java/lang/IllegalStateException", τ) else if bt (μ 4 a) b = true then some (.inr "java/lang/IllegalStateException", τ) else if bt (τ (4 + b) 7) a = true then some (.inr "java/lang/IllegalStateException", τ) else ((f_X3_spreadRequired (gw_up τ (4 + a) 6 (μ 4 a ||| ((1 : Int32) <<< (nI b &&& 31)))) (4 + a) (τ (4 + b) 7 ||| ((1 : Int32) <<< (nI b &&& 31)))).bind fun r9 => (f_J6_bitCount_0f7a4 r9 (r9 (4 + a) 7)).bind fun r10 => some (.inl r10, r9)) := by
    unfold f_X3_addPrerequisite f_X3_bit
    rw [c_at R ha, bs, gx_l, c_at R hb, bs, gx_l, bs, bs, r_dir R ha, c_isIn (by omega), bd, c_isIn (by omega), bd, gw_up_n (k' := 4 + b) (j' := 7) (by omega)]
  have hst : ∀ (q : Int32) (i : Nat) (β1 : gw_S) (o1 : Nat → Int64), i < cm → β1 2 0 = nI cm → b_L_requires_1 (nI a) q (nI i, β1, o1) = if i = a ∨ bt (β1 0 (8 * i + 4)) a = true then some (.inl (nI (i + 1), gw_up β1 0 (8 * i + 4) (β1 0 (8 * i + 4) ||| q), o1)) else some (.inl (nI (i + 1), β1, o1)) := fun q i β1 o1 hi h2 => by
    rw [b_L_requires_1]
    simp (disch := omega) only [x8, x8_4, rd0, cln, rd20, cl0]
    rw [h2, if_neg (n_lt hi), k_has (by omega), bd, or0, nI_1]
    by_cases e : i = a
    · rw [if_pos (by rw [e]), if_pos (Or.inl e)]
    · rw [if_neg (fun e2 => e (nI_inj e2))]
      by_cases e3 : bt (β1 0 (8 * i + 4)) a = true
      · rw [if_pos e3, if_pos (Or.inr e3)]
      · rw [if_neg e3, if_neg (fun h => h.elim e e3)]
  have hsp : ∀ (q : Int32) (β1 : gw_S), β1 2 0 = nI cm → ∃ t, gw_it (b_L_requires_1 (nI a) q) 4096 ((0 : Int32), β1, o) = some t ∧ t.2.2 = o ∧ (∀ k, k ≠ 0 → t.2.1 k = β1 k) ∧ (∀ i, (∀ c, c < cm → i ≠ 8 * c + 4) → t.2.1 0 i = β1 0 i) ∧ ∀ c, c < cm → t.2.1 0 (8 * c + 4) = if c = a ∨ bt (β1 0 (8 * c + 4)) a = true then β1 0 (8 * c + 4) ||| q else β1 0 (8 * c + 4) := fun q β1 hβ => by
    obtain ⟨t, G, g1, g2, g3, g4⟩ := gw_for (b := b_L_requires_1 (nI a) q) (s := ((0 : Int32), β1, o)) (fun n s => s.1 = nI n ∧ s.2.2 = o ∧ (∀ k, k ≠ 0 → s.2.1 k = β1 k) ∧ (∀ i, (∀ c, c < n → i ≠ 8 * c + 4) → s.2.1 0 i = β1 0 i) ∧ ∀ c, c < n → s.2.1 0 (8 * c + 4) = if c = a ∨ bt (β1 0 (8 * c + 4)) a = true then β1 0 (8 * c + 4) ||| q else β1 0 (8 * c + 4)) (fun t => t.2.2 = o ∧ (∀ k, k ≠ 0 → t.2.1 k = β1 k) ∧ (∀ i, (∀ c, c < cm → i ≠ 8 * c + 4) → t.2.1 0 i = β1 0 i) ∧ ∀ c, c < cm → t.2.1 0 (8 * c + 4) = if c = a ∨ bt (β1 0 (8 * c + 4)) a = true then β1 0 (8 * c + 4) ||| q else β1 0 (8 * c + 4)) cm (by omega) ⟨rfl, rfl, fun _ _ => rfl, fun _ _ => rfl, fun c hc => absurd hc (Nat.not_lt_zero c)⟩ (fun n s hn hI => by
      obtain ⟨v, β2, o2⟩ := s
      obtain ⟨q1, q2, q3, q4, q5⟩ := hI
      have q1 : v = nI n := q1
      subst q1
      have q3 : ∀ k, k ≠ 0 → β2 k = β1 k := q3
      have q4 : ∀ i, (∀ c, c < n → i ≠ 8 * c + 4) → β2 0 i = β1 0 i := q4
      have q5 : ∀ c, c < n → β2 0 (8 * c + 4) = _ := q5
      rw [hst q n β2 o2 hn (by rw [q3 2 (by omega)]; exact hβ), q4 (8 * n + 4) (fun c hc => by omega)]
      by_cases e : n = a ∨ bt (β1 0 (8 * n + 4)) a = true
      · rw [if_pos e]
        refine ⟨_, rfl, rfl, q2, fun k hk => ?_, fun i hi => ?_, fun c hc => ?_⟩
        · show gw_up β2 0 (8 * n + 4) _ k = _
          rw [gw_up_rown hk]; exact q3 k hk
        · show gw_up β2 0 (8 * n + 4) _ 0 i = _
          rw [gw_up_n (fun h => hi n (by omega) h.2)]; exact q4 i (fun c hc => hi c (by omega))
        · show gw_up β2 0 (8 * n + 4) _ 0 (8 * c + 4) = _
          by_cases e2 : c = n
          · subst e2; rw [gw_up_s, if_pos e]
          · rw [gw_up_n (by omega)]; exact q5 c (by omega)
      · rw [if_neg e]
        refine ⟨_, rfl, rfl, q2, q3, fun i hi => q4 i (fun c hc => hi c (by omega)), fun c hc => ?_⟩
        show β2 0 (8 * c + 4) = _
        by_cases e2 : c = n
        · subst e2; rw [if_neg e]; exact q4 _ (fun c hc => by omega)
        · exact q5 c (by omega)) (fun s hI => by
      obtain ⟨v, β2, o2⟩ := s
      obtain ⟨q1, q2, q3, q4, q5⟩ := hI
      have q1 : v = nI cm := q1
      subst q1
      have q3 : ∀ k, k ≠ 0 → β2 k = β1 k := q3
      refine ⟨(nI cm, β2, o2), ?_, q2, q3, q4, q5⟩
      rw [b_L_requires_1, rd20, cl0, q3 2 (by omega), hβ, if_pos (n_le (Nat.le_refl _))])
    exact ⟨t, G, g1, g2, g3, g4⟩
  have hK : f_L_requires β o (nI a) (nI b) = if nI a = nI b then some (-13, β, o) else if bt (μ 4 a) b = true then some (-13, β, o) else if bt (τ (4 + b) 7) a = true then some (-13, β, o) else ((gw_it (b_L_requires_1 (nI a) (τ (4 + b) 7 ||| ((1 : Int32) <<< (nI b &&& 31)))) 4096 ((0 : Int32), gw_up β 0 (8 * a + 3) (μ 4 a ||| ((1 : Int32) <<< (nI b &&& 31))), o)).bind fun t15 => (f_L_many (t15.2.1 0 (8 * a + 4))).bind fun r17 => some (r17, t15.2.1, t15.2.2)) := by
    unfold f_L_requires
    simp (disch := omega) only [x8, x8_3, x8_4, rd0, cln]
    rw [e_c3 K ha, k_has (by omega), bd, gw_up_n (k' := 0) (j' := 8 * b + 4) (by omega), e_cl R K hb, k_has (by omega), bd]
  by_cases hab : nI a = nI b
  · rw [if_pos hab] at hX hK
    exact go_no hj h (by show (f_L_requires β o (nI a) (nI b)).bind _ = _; rw [hK]; rfl) (by rw [dz1, hX, bs, cx_r])
  rw [if_neg hab] at hX hK
  have hab' : a ≠ b := fun e => hab (by rw [e])
  by_cases h1 : bt (μ 4 a) b = true
  · rw [if_pos h1] at hX hK
    exact go_no hj h (by show (f_L_requires β o (nI a) (nI b)).bind _ = _; rw [hK]; rfl) (by rw [dz1, hX, bs, cx_r])
  rw [if_neg h1] at hX hK
  by_cases h2 : bt (τ (4 + b) 7) a = true
  · rw [if_pos h2] at hX hK
    exact go_no hj h (by show (f_L_requires β o (nI a) (nI b)).bind _ = _; rw [hK]; rfl) (by rw [dz1, hX, bs, cx_r])
  rw [if_neg h2] at hX hK
  obtain ⟨τ2, sp, tn, t7, tout⟩ := spread (τ := gw_up τ (4 + a) 6 (μ 4 a ||| ((1 : Int32) <<< (nI b &&& 31)))) (q := τ (4 + b) 7 ||| ((1 : Int32) <<< (nI b &&& 31))) (cm := cm) (by rw [gw_up_n (by omega), r_cm R]) h20.1 ha (by rw [gw_up_n (by omega), r_ci R ha])
  have t7 : ∀ c, c < cm → τ2 (4 + c) 7 = if c = a ∨ bt (τ (4 + c) 7) a = true then τ (4 + c) 7 ||| (τ (4 + b) 7 ||| ((1 : Int32) <<< (nI b &&& 31))) else τ (4 + c) 7 := fun c hc => by
    rw [t7 c hc, gw_up_n (by omega)]
  have hE : ∀ c k, bt (gw_up μ 4 a (μ 4 a ||| ((1 : Int32) <<< (nI b &&& 31))) 4 c) k = true ↔ (bt (μ 4 c) k = true ∨ (c = a ∧ k = b)) := fun c k => by
    by_cases e : c = a
    · subst e
      rw [gw_up_s]
      rcases Nat.lt_or_ge k 32 with h | h
      · rw [bt_or_bit (by omega) h]; simp
      · rw [b_big h, b_big h]; simp; omega
    · rw [gw_up_n (by omega)]; simp [e]
  have rc := rch_edge hE
  have hba : ¬ rch (μ 4) b a := fun h => h2 ((r_clo R hb (by omega)).mpr h)
  have R2 : Rl cm sm τ2 (gw_up μ 4 a (μ 4 a ||| ((1 : Int32) <<< (nI b &&& 31)))) := by
    obtain ⟨⟨h1, h2⟩, ⟨e1, e2, e3, e4, e5⟩, ⟨i1, i2⟩, L, d1, d2, d3, cl⟩ := R
    refine ⟨⟨h1, h2⟩, ⟨?_, ?_, e3, e4, ?_⟩, ⟨fun c hc => ?_, fun s hs => ?_⟩, fun k i hl => ?_, fun c hc hc2 => ⟨?_, ?_, ?_⟩, fun s hs hs2 => ⟨?_, ?_, ?_, ?_, ?_⟩, fun c s hc hs h => ?_, fun c k hc hk => ?_⟩
    · rw [tn _ _ (by omega), gw_up_n (by omega), e1]
    · rw [tn _ _ (by omega), gw_up_n (by omega), e2]
    · rw [tn _ _ (by omega), gw_up_n (by omega), e5]; rfl
    · rw [tn _ _ (by omega), gw_up_n (by omega), i1 c hc]
    · rw [tn _ _ (by omega), gw_up_n (by omega), i2 s hs]
    · by_cases e : k = 4 + a ∧ i = 6
      · obtain ⟨rfl, rfl⟩ := e
        rw [tn _ _ (by omega), gw_up_s, g_c (by omega)]
        exact (gw_up_s _ _ _ _).symm
      · have hl4 : lv cm sm (4 + a) 6 := Or.inl ⟨by omega, by omega, by omega, by omega⟩
        have hne : ¬ ((gm k i).1 = 4 ∧ (gm k i).2 = a) := fun e2 => e (gm_inj h1 h2 hl hl4 (by rw [g_c (by omega)]; exact Prod.ext e2.1 e2.2))
        have hr := gm_rng h1 h2 hl
        rw [tn _ _ (by unfold lv at hl; omega), gw_up_n (by omega), gw_up_n hne, L k i hl]
    · rw [tn _ _ (by omega), gw_up_n (by omega)]; exact (d1 c hc hc2).1
    · have : τ2 (4 + c) 7 = τ (4 + c) 7 := (tout c hc hc2).trans (gw_up_n (by omega))
      rw [this]; exact (d1 c hc hc2).2.1
    · rw [tn _ _ (by omega), gw_up_n (by omega)]; exact (d1 c hc hc2).2.2
    · rw [tn _ _ (by omega), gw_up_n (by omega)]; exact (d2 s hs hs2).1
    · rw [tn _ _ (by omega), gw_up_n (by omega)]; exact (d2 s hs hs2).2.1
    · rw [tn _ _ (by omega), gw_up_n (by omega)]; exact (d2 s hs hs2).2.2.1
    · rw [tn _ _ (by omega), gw_up_n (by omega)]; exact (d2 s hs hs2).2.2.2.1
    · rw [tn _ _ (by omega), gw_up_n (by omega)]; exact (d2 s hs hs2).2.2.2.2
    · rw [tn _ _ (by omega), gw_up_n (by omega)]; exact d3 c s hc hs h
    · rw [rc, t7 c hc]
      have ca := cl c a hc (by omega)
      have cb := cl b k hb hk
      have ck := cl c k hc hk
      by_cases e : c = a ∨ bt (τ (4 + c) 7) a = true
      · rw [if_pos e, b_or, bt_or_bit (by omega) hk, Bool.or_eq_true, Bool.or_eq_true, ck, cb, decide_eq_true_eq]
        rw [ca] at e
        constructor
        · rintro (h | h | h)
          · exact Or.inl h
          · exact Or.inr ⟨e, Or.inr h⟩
          · exact Or.inr ⟨e, Or.inl h⟩
        · rintro (h | ⟨-, h | h⟩)
          · exact Or.inl h
          · exact Or.inr (Or.inr h)
          · exact Or.inr (Or.inl h)
      · rw [if_neg e, ck]
        rw [ca] at e
        exact ⟨Or.inl, fun h => h.elim id (fun h => absurd h.1 e)⟩
  have I2 : Iv cm sm td (gw_up μ 4 a (μ 4 a ||| ((1 : Int32) <<< (nI b &&& 31)))) := by
    obtain ⟨v1, v3, v4, v5, v6, v7, v8, v9, v10, v11⟩ := I
    refine ⟨v1, fun c hc => ⟨(v3 c hc).1, (v3 c hc).2.1, (v3 c hc).2.2.1, fun k hk => ?_⟩, v4, v5, v6, v7, v8, v9, v10, fun c hc hr => ?_⟩
    · rcases (hE c k).mp hk with h | h
      · exact (v3 c hc).2.2.2 k h
      · omega
    · rcases (rc c c).mp hr with h | ⟨h, h'⟩
      · exact v11 c hc h
      · rcases h with rfl | h
        · rcases h' with rfl | h'
          · exact hab' rfl
          · exact hba h'
        · rcases h' with rfl | h'
          · exact hba h
          · exact hba (rch_tr h' h)
  have S2 : Sb cm sm (gw_up μ 4 a (μ 4 a ||| ((1 : Int32) <<< (nI b &&& 31)))) := by
    intro c s hc hs g1 g2 g3 g4
    refine B c s hc hs g1 g2 g3 ?_
    obtain ⟨n1, n2, n3, n4, n5⟩ := g4
    refine ⟨n1, n2, fun k hk hr => n3 k hk ((rc c k).mpr (Or.inl hr)), ?_, n5⟩
    rw [wsum_sim (μ := μ) (μ' := gw_up μ 4 a (μ 4 a ||| ((1 : Int32) <<< (nI b &&& 31)))) rfl] at n4
    exact n4
  have F2 : Fr cm sm (gw_up μ 4 a (μ 4 a ||| ((1 : Int32) <<< (nI b &&& 31)))) := Fr_rows (μ := μ) F rfl rfl rfl
  obtain ⟨t, G, g1, g2, g3, g4⟩ := hsp (τ (4 + b) 7 ||| ((1 : Int32) <<< (nI b &&& 31))) (gw_up β 0 (8 * a + 3) (μ 4 a ||| ((1 : Int32) <<< (nI b &&& 31)))) (show β 2 0 = nI cm from e_n0 K)
  have g4' : ∀ c, c < cm → t.2.1 0 (8 * c + 4) = τ2 (4 + c) 7 := fun c hc => by
    rw [g4 c hc, gw_up_n (by omega), e_cl R K hc, t7 c hc]
  have hclo : ∀ k, bt (τ2 (4 + a) 7) k = true → k < cm := fun k hk => clo_bits R2 I2 ha hk
  refine go_rd hj (by omega) (td := td) (v := nI (fb_ct (fun i => bt (τ2 (4 + a) 7) i) 20)) (μ' := gw_up μ 4 a (μ 4 a ||| ((1 : Int32) <<< (nI b &&& 31)))) hd R2 I2 F2 S2 (β1 := t.2.1) (o1 := o) ?_ ?_ ?_
  · obtain ⟨b0, b1, b2, b3, b4, b5, b6, b7, b8, b9, b10⟩ := K
    have hr : ∀ c' j, c' < 8 → j < 8 → j ≠ 4 → j ≠ 3 → t.2.1 0 (8 * c' + j) = β 0 (8 * c' + j) := fun c' j h1 h2 h3 h4 => by
      rw [g3 _ (fun c hc => by omega), gw_up_n (by omega)]
    refine ⟨b0, ?_, fun c' j hc' hj => ?_, fun c' k hc' hk => ?_, fun c' j k hc' hj => ?_, b5, fun c' h1 h2 => ⟨fun j hj => ?_, (b6 c' h1 h2).2⟩, ?_, ?_, ?_, ?_⟩
    · unfold B_n; rw [g2 2 (by omega)]; exact b1
    · rw [g3 _ (fun c hc => by omega)]
      by_cases e : c' = a ∧ j = 3
      · obtain ⟨rfl, rfl⟩ := e
        rw [gw_up_s]
        exact (gw_up_s _ _ _ _).symm
      · rw [gw_up_n (by omega), gw_up_n (by omega)]; exact b2 c' j hc' hj
    · rw [g4' c' hc']; exact r_clo R2 hc' hk
    · rw [show 8 * c' + 5 + j = 8 * c' + (5 + j) by omega, hr c' (5 + j) (by omega) (by omega) (by omega) (by omega), ← Nat.add_assoc]; exact b4 c' j k hc' hj
    · rw [g3 _ (fun c hc => by omega), gw_up_n (by omega)]; exact (b6 c' h1 h2).1 j hj
    · unfold B_s; rw [g2 1 (by omega)]
      exact fun t j ht hj => (b7 t j ht hj).trans (gw_up_n (by omega)).symm
    · unfold B_w; rw [g2 1 (by omega)]; exact b8
    · unfold B_u; rw [g2 1 (by omega)]; exact b9
    · unfold B_z; rw [g2 1 (by omega)]; exact b10
  · show (f_L_requires β o (nI a) (nI b)).bind _ = _
    rw [hK, it_bd G rfl, g4' a ha, k_many20 hB.1 hclo, bs, bs, g1]
  · rw [dz1, hX, sp, bs, c_bits _ (fun k hk => by have := hclo k hk; omega)]; rfl
end bg
