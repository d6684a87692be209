theorem n10 : ¬ ((1 : Int32) = 0) := by decide
theorem ssx (a b : Int32) : a - (a - b) = b := by
  rw [Int32.sub_eq_add_neg, Int32.sub_eq_add_neg, Int32.neg_add, Int32.sub_eq_add_neg, Int32.neg_neg, ← Int32.add_assoc, ← Int32.sub_eq_add_neg, Int32.sub_self, Int32.zero_add]
section opw
variable {cm sm td j : Nat} {τ μ : gw_S}
theorem fin (hj : td ≤ 7 * (j + 1)) (hd : μ 0 17 = nI td) (R : Rl cm sm τ μ) (I : Iv cm sm td μ) (F : Fr cm sm μ) (h18 : μ 0 18 = 0) : ∃ τ' μ', f_X3_makeOffers τ = some τ' ∧ f_X4_offers μ = some μ' ∧ Inv (j + 1) τ' μ' ∧ Rl cm sm τ' μ' ∧ μ' 0 18 = 0 ∧ ∀ k, k ≠ 15 → μ' k = μ k := by
  obtain ⟨τ', μ', a1, a2, R', I', F', B', -, rw, -⟩ := offers_pair hd R I F
  exact ⟨τ', μ', a1, a2, ⟨cm, sm, td, hj, by rw [rw 0 (by omega)]; exact hd, R', I', F', B'⟩, R', by rw [rw 0 (by omega)]; exact h18, rw⟩
theorem Fr_rows {μ' : gw_S} (F : Fr cm sm μ) (h1 : μ' 1 = μ 1) (h8 : μ' 8 = μ 8) (h15 : μ' 15 = μ 15) : Fr cm sm μ' := by
  unfold Fr enr ofc at *
  rw [h1, h8, h15]; exact F
theorem Sb_rows {μ' : gw_S} (B : Sb cm sm μ) (h1 : μ' 1 = μ 1) (h2 : μ' 2 = μ 2) (h3 : μ' 3 = μ 3) (h4 : μ' 4 = μ 4) (h6 : μ' 6 = μ 6) (h7 : μ' 7 = μ 7) (h8 : μ' 8 = μ 8) (h13 : μ' 13 = μ 13) (h14 : μ' 14 = μ 14) (h15 : μ' 15 = μ 15) : Sb cm sm μ' := by
  intro c s hc hs a1 a2 a3 a4
  rw [noob_row h2 h3 h4 h6 h7, h8] at a4
  unfold enr ofc at a3
  unfold onl at a1
  rw [h1, h8, h15] at a3
  rw [h13, h14] at a1
  rw [h15] at a2
  exact B c s hc hs a1 a2 a3 a4
theorem Iv_up11 (I : Iv cm sm td μ) {s : Nat} {v : Int32} (hv : v = -1 ∨ (lt_ v cm ∧ bt (μ 8 s) (nn v) = true)) : Iv cm sm td (gw_up μ 11 s v) := by
  obtain ⟨v1, v3, v4, v5, v6, v7, v8, v9, v10, v11⟩ := I
  refine ⟨v1, v3, v4, v5, v6, v7, v8, v9, fun t ht => ?_, v11⟩
  show gw_up μ 11 s v 11 t = -1 ∨ (lt_ (gw_up μ 11 s v 11 t) cm ∧ bt (μ 8 t) (nn (gw_up μ 11 s v 11 t)) = true)
  by_cases e : t = s
  · subst e; rw [gw_up_s]; exact hv
  · rw [gw_up_n (by omega)]; exact v10 t ht
theorem op_withdraw {j : Nat} {τ μ : gw_S} (h : Inv j τ μ) (hj : j < 512) (a1 : Int32) : ∃ r q, f_X3_withdraw τ a1 = some r ∧ f_X4_withdraw μ a1 = some q ∧ (∀ e, r.1 = .inr e → e = "java/lang/IndexOutOfBoundsException") ∧ q.2 0 18 = lw_k ["java/lang/IndexOutOfBoundsException"] r.1 ∧ (∀ v, r.1 = .inl v → v = q.1) ∧ Inv (j + 1) r.2 q.2 := by
  obtain ⟨cm, sm, td, h7, hd, R, I, F, B⟩ := id h
  have h20 := R.1
  unfold f_X3_withdraw f_X4_withdraw
  rcases a_s R a1 with ⟨s, hs, rfl, e2, e3⟩ | ⟨e1, e2⟩
  · refine wr_ok (v := μ 11 s) (τ' := gw_up τ (24 + s) 7 (-1)) (μ' := gw_up (gw_up μ 0 18 0) 11 s (-1)) ?_ ?_ rfl ?_
    · rw [e2, bs, gx_l, r_upp R hs]
    · rw [e3, bs, if_neg (by decide), if_pos (ib_ok (by show s < 16; omega) (by decide)), if_pos (ib_ok (by show s < 16; omega) (by decide)), nI_clamp (by omega), gw_up_n (k' := 11) (by omega)]
    · refine ⟨cm, sm, td, by omega, hd, Rl_us (Rl_sim R (simT_rf _) (simM_18 _ _)) _ hs rfl (by omega) (by omega), Iv_up11 (Iv_sim I (simM_18 _ _)) (Or.inl rfl), Fr_rows (μ := μ) F rfl rfl rfl, Sb_rows (μ := μ) B rfl rfl rfl rfl rfl rfl rfl rfl rfl rfl⟩
  · refine wr_ex h ?_ ?_ rfl (by decide +kernel) (n := 1) (x := "java/lang/IndexOutOfBoundsException")
    · rw [e1, bs, gx_r]
    · rw [e2, bs, if_pos rfl]
theorem op_putUp {j : Nat} {τ μ : gw_S} (h : Inv j τ μ) (hj : j < 512) (a1 a2 : Int32) : ∃ r q, f_X3_putUp τ a1 a2 = some r ∧ f_X4_putUp μ a1 a2 = some q ∧ (∀ e, r.1 = .inr e → e = "java/lang/IndexOutOfBoundsException" ∨ e = "java/lang/IllegalStateException") ∧ q.2 0 18 = lw_k ["java/lang/IndexOutOfBoundsException", "java/lang/IllegalStateException"] r.1 ∧ (∀ v, r.1 = .inl v → v = q.1) ∧ Inv (j + 1) r.2 q.2 := by
  obtain ⟨cm, sm, td, h7, hd, R, I, F, B⟩ := id h
  have h20 := R.1
  unfold f_X3_putUp f_X4_putUp
  rcases a_sc R a1 a2 with ⟨s, c, hs, hc, rfl, rfl, e1, e2, e3⟩ | ⟨e3, e1 | ⟨k, e1, e2⟩⟩
  · obtain ⟨r1, hr1, hr2, hr3⟩ : ∃ r1 : Int32 × gw_S, f_X4_areBoth μ (nI s) (nI c) = some r1 ∧ r1.1 = 1 ∧ r1.2 = gw_up μ 0 18 0 := ⟨_, e3, rfl, rfl⟩
    rw [e1, bs, gx_l, e2, bs, gx_l, r_ci R hc, r_tak R hs, c_isIn (by omega), bd, hr1, bs, hr2, if_neg n10, hr3, if_pos (ib_ok (by show s < 16; omega) (by decide)), if_pos (ib_ok (by show s < 16; omega) (by decide)), if_pos (ib_ok (by show s < 16; omega) (by decide)), nI_clamp (n := s) (by omega), m_has (by omega), bd, gw_up_n (k' := 8) (by omega)]
    by_cases hb : bt (μ 8 s) c = true
    · rw [if_pos hb, if_pos hb]
      refine wr_ok (v := μ 11 s) (τ' := gw_up τ (24 + s) 7 (nI c)) (μ' := gw_up (gw_up μ 0 18 0) 11 s (nI c)) ?_ ?_ rfl ?_
      · rw [r_upp R hs]
      · rw [gw_up_n (k' := 11) (by omega)]
      · refine ⟨cm, sm, td, by omega, hd, Rl_us (Rl_sim R (simT_rf _) (simM_18 _ _)) _ hs rfl (by omega) (by omega), Iv_up11 (Iv_sim I (simM_18 _ _)) (Or.inr ⟨lt_mk hc, ?_⟩), Fr_rows (μ := μ) F rfl rfl rfl, Sb_rows (μ := μ) B rfl rfl rfl rfl rfl rfl rfl rfl rfl rfl⟩
        rw [n_cl, gw_up_n (by omega)]; exact hb
    · rw [if_neg hb, if_neg hb, up18]
      exact wr_ex h rfl rfl (Or.inr rfl) (by decide +kernel)
  · refine wr_ex h ?_ ?_ (Or.inl rfl) (by decide +kernel) (n := 1) (x := "java/lang/IndexOutOfBoundsException")
    · rw [e1, bs, gx_r]
    · rw [e3, bs, if_pos rfl]
  · refine wr_ex h ?_ ?_ (Or.inl rfl) (by decide +kernel) (n := 1) (x := "java/lang/IndexOutOfBoundsException")
    · rw [e1, bs, gx_l, e2, bs, gx_r]
    · rw [e3, bs, if_pos rfl]
theorem op_dropWish {j : Nat} {τ μ : gw_S} (h : Inv j τ μ) (hj : j < 512) (a1 a2 : Int32) : ∃ r q, f_X3_dropWish τ a1 a2 = some r ∧ f_X4_dropWish μ a1 a2 = some q ∧ (∀ e, r.1 = .inr e → e = "java/lang/IndexOutOfBoundsException" ∨ e = "java/lang/IllegalStateException") ∧ q.2 0 18 = lw_k ["java/lang/IndexOutOfBoundsException", "java/lang/IllegalStateException"] r.1 ∧ (∀ v, r.1 = .inl v → v = q.1) ∧ Inv (j + 1) r.2 q.2 := by
  obtain ⟨cm, sm, td, h7, hd, R, I, F, B⟩ := id h
  have h20 := R.1
  unfold f_X3_dropWish f_X4_dropWish
  rcases a_sc R a1 a2 with ⟨s, c, hs, hc, rfl, rfl, e1, e2, e3⟩ | ⟨e3, e1 | ⟨k, e1, e2⟩⟩
  · obtain ⟨r1, hr1, hr2, hr3⟩ : ∃ r1 : Int32 × gw_S, f_X4_areBoth μ (nI s) (nI c) = some r1 ∧ r1.1 = 1 ∧ r1.2 = gw_up μ 0 18 0 := ⟨_, e3, rfl, rfl⟩
    obtain ⟨n, hn, en, en2⟩ := lt_of (I.2.2.1 s hs).2.2.1
    have hgl : gw_len (60 + s + 36) = 6 := by unfold gw_len; rw [if_pos (by omega)]
    have I1 := Iv_sim I (simM_18 μ 0)
    have R1 := Rl_sim R (simT_rf τ) (simM_18 μ 0)
    obtain ⟨τ', μ', w1, w2, R', W, S⟩ := wva_pair R1 (c := c) hs (I.2.2.1 s hs).2.2.1 (fun i j hi hj e => I.2.2.2.2.1 s i j hs hi hj e)
    have I' := Iv_wva I1 hs hc (v := μ 8 s) (fun k hk => Or.inl hk) (fun k hk => hk) (by rw [gw_up_same (by rfl)]; exact W)
    rw [e1, bs, gx_l, e2, bs, gx_l, r_ci R hc, show 24 + s + 36 = 60 + s from by omega, c_place (f := fun i => μ 10 (6 * s + i)) (nI c) ((r_wic R hs).trans en) (by rw [hgl]; omega) (fun i hi => by rw [show 60 + s + 36 = 96 + s from by omega, r_wis R (by omega) (by omega)]), bs, hr1, bs, hr2, if_neg n10, hr3, m_wishPlace (μ := gw_up μ 0 18 0) (nI c) (by omega) en (by omega), bs, w1, bs, c_size, bs, w2, bs, if_pos (ib_ok (by show s < 16; omega) (by decide)), nI_clamp (by omega)]
    rcases fnd_c (f := fun i => μ 10 (6 * s + i)) (n := n) (x := nI c) (by omega) with ⟨f1, f2⟩ | ⟨p, hp, f1, f2, f3⟩
    · rw [show fnd (fun i => gw_up μ 0 18 0 10 (6 * s + i)) n (nI c) = fnd (fun i => μ 10 (6 * s + i)) n (nI c) from rfl, f1, if_pos rfl, if_neg (by decide), up18]
      exact wr_ex h rfl rfl (Or.inr rfl) (by decide +kernel)
    · rw [show fnd (fun i => gw_up μ 0 18 0 10 (6 * s + i)) n (nI c) = fnd (fun i => μ 10 (6 * s + i)) n (nI c) from rfl, f1, if_neg (ne_m1 (by omega)), if_pos (nI_pos' (by omega))]
      refine wr_ok (v := μ' 9 s) (τ' := τ') (μ' := μ') (by rw [r_wic R' hs]) rfl ?_ ?_
      · rw [W.1 0 (by omega) (by omega)]; rfl
      · have r := W.1
        exact ⟨cm, sm, td, by omega, by rw [r 0 (by omega) (by omega)]; exact hd, R', I', Fr_rows (μ := μ) F (by rw [r 1 (by omega) (by omega)]; rfl) (by rw [r 8 (by omega) (by omega)]; rfl) (by rw [r 15 (by omega) (by omega)]; rfl), Sb_rows (μ := μ) B (by rw [r 1 (by omega) (by omega)]; rfl) (by rw [r 2 (by omega) (by omega)]; rfl) (by rw [r 3 (by omega) (by omega)]; rfl) (by rw [r 4 (by omega) (by omega)]; rfl) (by rw [r 6 (by omega) (by omega)]; rfl) (by rw [r 7 (by omega) (by omega)]; rfl) (by rw [r 8 (by omega) (by omega)]; rfl) (by rw [r 13 (by omega) (by omega)]; rfl) (by rw [r 14 (by omega) (by omega)]; rfl) (by rw [r 15 (by omega) (by omega)]; rfl)⟩
  · refine wr_ex h ?_ ?_ (Or.inl rfl) (by decide +kernel) (n := 1) (x := "java/lang/IndexOutOfBoundsException")
    · rw [e1, bs, gx_r]
    · rw [e3, bs, if_pos rfl]
  · refine wr_ex h ?_ ?_ (Or.inl rfl) (by decide +kernel) (n := 1) (x := "java/lang/IndexOutOfBoundsException")
    · rw [e1, bs, gx_l, e2, bs, gx_r]
    · rw [e3, bs, if_pos rfl]
theorem op_wish {j : Nat} {τ μ : gw_S} (h : Inv j τ μ) (hj : j < 512) (a1 a2 : Int32) : ∃ r q, f_X3_wish τ a1 a2 = some r ∧ f_X4_wish μ a1 a2 = some q ∧ (∀ e, r.1 = .inr e → e = "java/lang/IndexOutOfBoundsException" ∨ e = "java/lang/IllegalStateException") ∧ q.2 0 18 = lw_k ["java/lang/IndexOutOfBoundsException", "java/lang/IllegalStateException"] r.1 ∧ (∀ v, r.1 = .inl v → v = q.1) ∧ Inv (j + 1) r.2 q.2 := by
  obtain ⟨cm, sm, td, h7, hd, R, I, F, B⟩ := id h
  have h20 := R.1
  unfold f_X3_wish f_X4_wish
  rcases a_sc R a1 a2 with ⟨s, c, hs, hc, rfl, rfl, e1, e2, e3⟩ | ⟨e3, e1 | ⟨k, e1, e2⟩⟩
  · obtain ⟨r1, hr1, hr2, hr3⟩ : ∃ r1 : Int32 × gw_S, f_X4_areBoth μ (nI s) (nI c) = some r1 ∧ r1.1 = 1 ∧ r1.2 = gw_up μ 0 18 0 := ⟨_, e3, rfl, rfl⟩
    obtain ⟨n, hn, en, en2⟩ := lt_of (I.2.2.1 s hs).2.2.1
    have hgl : gw_len (60 + s + 36) = 6 := by unfold gw_len; rw [if_pos (by omega)]
    have I1 := Iv_sim I (simM_18 μ 0)
    have R1 := Rl_sim R (simT_rf τ) (simM_18 μ 0)
    rw [e1, bs, gx_l, e2, bs, gx_l, r_ci R hc, r_pas R hs, r_tak R hs, show 24 + s + 36 = 60 + s from by omega, c_isIn (by omega), bd, c_isIn (by omega), bd, c_place (f := fun i => μ 10 (6 * s + i)) (nI c) ((r_wic R hs).trans en) (by rw [hgl]; omega) (fun i hi => by rw [show 60 + s + 36 = 96 + s from by omega, r_wis R (by omega) (by omega)]), bs, c_size, bs, r_wic R hs, en, hr1, bs, hr2, if_neg n10, hr3, if_pos (ib_ok (by show s < 16; omega) (by decide)), if_pos (ib_ok (by show s < 16; omega) (by decide)), nI_clamp (n := s) (by omega), m_has (by omega), bd, m_wishPlace (μ := gw_up μ 0 18 0) (nI c) (by omega) en (by omega), bs, show gw_up μ 0 18 0 7 s = μ 7 s from rfl, show gw_up μ 0 18 0 8 s = μ 8 s from rfl, b_or, show fnd (fun i => gw_up μ 0 18 0 10 (6 * s + i)) n (nI c) = fnd (fun i => μ 10 (6 * s + i)) n (nI c) from rfl, show gw_up μ 0 18 0 9 s = nI n from en, up18]
    by_cases hb : bt (μ 7 s) c = true
    · rw [if_pos hb, hb, if_pos (show (true || bt (μ 8 s) c) = true from rfl)]
      exact wr_ex h rfl rfl (Or.inr rfl) (by decide +kernel)
    rw [if_neg hb]
    by_cases hb2 : bt (μ 8 s) c = true
    · rw [if_pos hb2, hb2, if_pos (show (bt (μ 7 s) c || true) = true by rw [Bool.or_true])]
      exact wr_ex h rfl rfl (Or.inr rfl) (by decide +kernel)
    rw [if_neg hb2, if_neg (show ¬ (bt (μ 7 s) c || bt (μ 8 s) c) = true by simp [hb, hb2])]
    rcases fnd_c (f := fun i => μ 10 (6 * s + i)) (n := n) (x := nI c) (by omega) with ⟨f1, f2⟩ | ⟨p, hp, f1, f2, f3⟩
    · rw [f1, if_pos rfl, if_neg (show ¬ (0 : Int32) ≤ -1 by decide), if_pos (ib_ok (by show s < 16; omega) (by decide)), if_pos (ib_ok (by show s < 16; omega) (by decide))]
      by_cases h6 : n = 6
      · subst h6
        rw [if_neg (show ¬ nI 6 < (6 : Int32) by decide), if_pos (show nI 6 = (6 : Int32) by decide)]
        exact wr_ex h rfl rfl (Or.inr rfl) (by decide +kernel)
      · rw [if_pos (show nI n < (6 : Int32) from nI_lt (b := 6) (by omega) (by decide)), if_neg (show ¬ nI n = 6 from fun e => h6 (nI_inj (b := 6) e)), x6, if_pos (ib_ok (by show 6 * s + n < 96; omega) (by decide)), if_pos (ib_ok (by show s < 16; omega) (by decide)), if_pos (ib_ok (by show s < 16; omega) (by decide)), if_pos (ib_ok (by show s < 16; omega) (by decide)), nI_clamp (by omega)]
        have hadd : f_X1_add τ (60 + s) (nI c) = some (gw_up (gw_up τ (96 + s) n (nI c)) (60 + s) 1 (nI (n + 1))) := by
          unfold f_X1_add
          rw [hgl, r_wic R hs, en, if_neg (show ¬ Int32.ofNat 6 ≤ nI n from n_lt (n := 6) (by omega) (by decide)), if_pos (ib_ok (by omega)), nI_clamp (by omega), nI_1, show 60 + s + 36 = 96 + s from by omega]
        rw [hadd, bs, c_size, bs, gw_up_s]
        have v9 : gw_up (gw_up μ 0 18 0) 10 (6 * s + n) (nI c) 9 s + 1 = nI (n + 1) := by
          rw [gw_up_n (by omega), gw_up_n (by omega), en, nI_1]
        rw [v9, gw_up_s]
        refine wr_ok rfl rfl rfl ⟨cm, sm, td, by omega, hd, Rl_uwic (Rl_uwis R1 _ (by omega) (by omega)) _ hs, ?_, Fr_rows (μ := μ) F rfl rfl rfl, Sb_rows (μ := μ) B rfl rfl rfl rfl rfl rfl rfl rfl rfl rfl⟩
        obtain ⟨v1, v3, v4, v5, v6, v7, v8, v9, v10, v11⟩ := I
        have e9 : ∀ t, gw_up (gw_up (gw_up μ 0 18 0) 10 (6 * s + n) (nI c)) 9 s (nI (n + 1)) 9 t = if t = s then nI (n + 1) else μ 9 t := fun t => by
          by_cases e : t = s
          · subst e; rw [gw_up_s, if_pos rfl]
          · rw [gw_up_n (by omega), gw_up_n (by omega), gw_up_n (by omega), if_neg e]
        have e10 : ∀ t i, t < sm → i < 6 → gw_up (gw_up (gw_up μ 0 18 0) 10 (6 * s + n) (nI c)) 9 s (nI (n + 1)) 10 (6 * t + i) = if t = s ∧ i = n then nI c else μ 10 (6 * t + i) := fun t i ht hi => by
          by_cases e : t = s ∧ i = n
          · obtain ⟨rfl, rfl⟩ := e; rw [gw_up_n (by omega), gw_up_s, if_pos ⟨rfl, rfl⟩]
          · rw [gw_up_n (by omega), gw_up_n (by omega), gw_up_n (by omega), if_neg e]
        refine ⟨v1, v3, fun t ht => ⟨(v4 t ht).1, (v4 t ht).2.1, ?_, (v4 t ht).2.2.2⟩, fun t i ht hi => ?_, fun t i j ht hi hj e => ?_, v7, v8, v9, v10, v11⟩
        · rw [e9]
          by_cases e : t = s
          · rw [if_pos e]; exact lt_mk (by omega)
          · rw [if_neg e]; exact (v4 t ht).2.2.1
        · rw [e9] at hi
          show lt_ (gw_up (gw_up (gw_up μ 0 18 0) 10 (6 * s + n) (nI c)) 9 s (nI (n + 1)) 10 (6 * t + i)) cm ∧ bt (μ 8 t) (nn (gw_up (gw_up (gw_up μ 0 18 0) 10 (6 * s + n) (nI c)) 9 s (nI (n + 1)) 10 (6 * t + i))) = false
          by_cases e : t = s
          · subst e
            rw [if_pos rfl, n_cl] at hi
            rw [e10 t i ht (by omega)]
            by_cases e2 : i = n
            · rw [if_pos ⟨rfl, e2⟩, n_cl]
              exact ⟨lt_mk hc, by simpa using hb2⟩
            · rw [if_neg (fun h => e2 h.2)]
              exact v5 t i ht (by omega)
          · rw [if_neg e] at hi
            have := (v4 t ht).2.2.1.2
            rw [e10 t i ht (by omega), if_neg (fun h => e h.1)]
            exact v5 t i ht hi
        · rw [e9] at hi hj
          by_cases e0 : t = s
          · subst e0
            rw [if_pos rfl, n_cl] at hi hj
            rw [e10 t i ht (by omega), e10 t j ht (by omega)] at e
            by_cases e1 : i = n
            · by_cases e2 : j = n
              · omega
              · rw [if_pos ⟨rfl, e1⟩, if_neg (fun h => e2 h.2)] at e
                exact absurd e.symm (f2 j (by omega))
            · by_cases e2 : j = n
              · rw [if_neg (fun h => e1 h.2), if_pos ⟨rfl, e2⟩] at e
                exact absurd e (f2 i (by omega))
              · rw [if_neg (fun h => e1 h.2), if_neg (fun h => e2 h.2)] at e
                exact v6 t i j ht (by omega) (by omega) e
          · rw [if_neg e0] at hi hj
            have := (v4 t ht).2.2.1.2
            rw [e10 t i ht (by omega), e10 t j ht (by omega), if_neg (fun h => e0 h.1), if_neg (fun h => e0 h.1)] at e
            exact v6 t i j ht hi hj e
    · rw [f1, if_neg (ne_m1 (by omega)), if_pos (nI_pos' (by omega))]
      exact wr_ex h rfl rfl (Or.inr rfl) (by decide +kernel)
  · refine wr_ex h ?_ ?_ (Or.inl rfl) (by decide +kernel) (n := 1) (x := "java/lang/IndexOutOfBoundsException")
    · rw [e1, bs, gx_r]
    · rw [e3, bs, if_pos rfl]
  · refine wr_ex h ?_ ?_ (Or.inl rfl) (by decide +kernel) (n := 1) (x := "java/lang/IndexOutOfBoundsException")
    · rw [e1, bs, gx_l, e2, bs, gx_r]
    · rw [e3, bs, if_pos rfl]
theorem op_setSeats {j : Nat} {τ μ : gw_S} (h : Inv j τ μ) (hj : j < 512) (a1 a2 : Int32) : ∃ r q, f_X3_setSeats τ a1 a2 = some r ∧ f_X4_setSeats μ a1 a2 = some q ∧ (∀ e, r.1 = .inr e → e = "java/lang/IndexOutOfBoundsException" ∨ e = "java/lang/IllegalArgumentException" ∨ e = "java/lang/IllegalStateException") ∧ q.2 0 18 = lw_k ["java/lang/IndexOutOfBoundsException", "java/lang/IllegalArgumentException", "java/lang/IllegalStateException"] r.1 ∧ (∀ v, r.1 = .inl v → v = q.1) ∧ Inv (j + 1) r.2 q.2 := by
  obtain ⟨cm, sm, td, h7, hd, R, I, F, B⟩ := id h
  have h20 := R.1
  unfold f_X3_setSeats f_X4_setSeats f_X3_isOutside f_X3_takenSeats
  rcases a_c R a1 with ⟨c, hc, rfl, e2, e3⟩ | ⟨e1, e2⟩
  · rw [e2, bs, gx_l, e3, bs, if_neg n10]
    have I1 := Iv_sim I (simM_18 μ 0)
    have R1 := Rl_sim R (simT_rf τ) (simM_18 μ 0)
    by_cases q1 : a2 < 0
    · rw [if_pos q1, bs, if_neg n10, if_pos q1]
      exact wr_ex h rfl rfl (Or.inr (Or.inl rfl)) (by decide +kernel)
    · rw [if_neg q1, if_neg q1]
      by_cases q2 : a2 ≤ 16
      · rw [if_pos q2, bs, if_pos rfl, if_pos q2, c_enr R hc, bs, c_ofc R hc, bs, bs, nI_add, if_pos (ib_ok (by show c < 20; omega) (by decide)), nI_clamp (by omega), m_fr R1 I1 hc, bs, show gw_up μ 0 18 0 1 c = μ 1 c from rfl, show fr (gw_up μ 0 18 0) sm c = μ 1 c - nI (enr μ sm c + ofc μ sm c) from rfl, ssx, up18]
        by_cases q3 : nI (enr μ sm c + ofc μ sm c) ≤ a2
        · rw [if_pos q3, if_pos q3, if_pos (ib_ok (by show c < 20; omega) (by decide)), if_pos (ib_ok (by show c < 20; omega) (by decide)), r_sea R hc]
          obtain ⟨k, hk, rfl⟩ := nI_of2 (M := 16) (n := 16) (by decide) q1 q2
          have hle := fb_ct_le (fun s => bt (μ 8 s) c) sm
          have hle2 := fb_ct_le (fun s => decide (¬ μ 15 (16 * c + s) = -1)) sm
          have q4 : enr μ sm c + ofc μ sm c ≤ k := (nI_leI (by unfold enr ofc; omega) (by omega)).mp q3
          have e1' : ∀ c', gw_up (gw_up μ 0 18 0) 1 c (nI k) 1 c' = if c' = c then nI k else μ 1 c' := fun c' => by
            by_cases e : c' = c
            · subst e; rw [gw_up_s, if_pos rfl]
            · rw [gw_up_n (by omega), gw_up_n (by omega), if_neg e]
          obtain ⟨τ', μ', o1, o2, hI, -, h18, -⟩ := fin (j := j) (by omega) (by exact hd) (Rl_uc R1 (nI k) hc (i := 3) rfl (by omega) (by omega)) (td := td) (by
            obtain ⟨v1, v3, v4, v5, v6, v7, v8, v9, v10, v11⟩ := I
            refine ⟨v1, fun c' h => ⟨?_, (v3 c' h).2⟩, v4, v5, v6, v7, v8, v9, v10, v11⟩
            rw [e1']
            split
            · exact lt_mk (by omega)
            · exact (v3 c' h).1) (fun c' h => by
            show enr μ sm c' + ofc μ sm c' ≤ _
            rw [e1']
            by_cases e : c' = c
            · rw [if_pos e, n_cl, e]; exact q4
            · rw [if_neg e]; exact F c' h) rfl
          rw [o1, bs, o2, bs]
          exact wr_ok rfl rfl h18 hI
        · rw [if_neg q3, if_neg q3]
          exact wr_ex h rfl rfl (Or.inr (Or.inr rfl)) (by decide +kernel)
      · rw [if_neg q2, bs, if_neg n10, if_neg q2]
        exact wr_ex h rfl rfl (Or.inr (Or.inl rfl)) (by decide +kernel)
  · rw [e1, bs, gx_r, e2, bs, if_pos rfl]
    exact wr_ex h rfl rfl (Or.inl rfl) (by decide +kernel)
end opw
