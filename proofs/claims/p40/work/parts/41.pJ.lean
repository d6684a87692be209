section opj
variable {cm sm td j : Nat} {τ μ : gw_S}
theorem Iv_add (hsm : sm ≤ 16) (I : Iv cm sm td μ) {c s n : Nat} (hs : s < sm) (hn : μ 13 c = nI n) (hn16 : n < 16) (hno : ∀ i, i < n → μ 14 (16 * c + i) ≠ nI s) : Iv cm sm td (gw_up (gw_up μ 14 (16 * c + n) (nI s)) 13 c (nI (n + 1))) := by
  obtain ⟨v1, v3, v4, v5, v6, v7, v8, v9, v10, v11⟩ := I
  have e13 : ∀ c', gw_up (gw_up μ 14 (16 * c + n) (nI s)) 13 c (nI (n + 1)) 13 c' = if c' = c then nI (n + 1) else μ 13 c' := fun c' => by
    by_cases e : c' = c
    · subst e; rw [gw_up_s, if_pos rfl]
    · rw [gw_up_n (by omega), gw_up_n (by omega), if_neg e]
  have e14 : ∀ c' i, i < 16 → gw_up (gw_up μ 14 (16 * c + n) (nI s)) 13 c (nI (n + 1)) 14 (16 * c' + i) = if c' = c ∧ i = n then nI s else μ 14 (16 * c' + i) := fun c' i hi => by
    by_cases e : c' = c ∧ i = n
    · obtain ⟨rfl, rfl⟩ := e; rw [gw_up_n (by omega), gw_up_s, if_pos ⟨rfl, rfl⟩]
    · rw [gw_up_n (by omega), gw_up_n (by omega), if_neg e]
  have l16 : ∀ c', c' < cm → nn (μ 13 c') ≤ 16 := fun c' h => by have := (v3 c' h).2.2.1.2; omega
  have hnn : nn (μ 13 c) = n := by rw [hn, n_cl]
  refine ⟨v1, fun c' h => ⟨(v3 c' h).1, (v3 c' h).2.1, ?_, (v3 c' h).2.2.2⟩, v4, v5, v6, fun c' i h hi => ?_, fun c' i j h hi hj e => ?_, fun c' t h ht => ?_, v10, v11⟩
  · rw [e13]
    by_cases e : c' = c
    · rw [if_pos e]; exact lt_mk (by omega)
    · rw [if_neg e]; exact (v3 c' h).2.2.1
  · rw [e13] at hi
    by_cases e : c' = c
    · subst e
      rw [if_pos rfl, n_cl] at hi
      rw [e14 c' i (by omega)]
      by_cases e2 : i = n
      · rw [if_pos ⟨rfl, e2⟩]; exact lt_mk hs
      · rw [if_neg (fun h => e2 h.2)]; exact v7 c' i h (by omega)
    · rw [if_neg e] at hi
      have := l16 c' h
      rw [e14 c' i (by omega), if_neg (fun h => e h.1)]; exact v7 c' i h hi
  · rw [e13] at hi hj
    by_cases e0 : c' = c
    · subst e0
      rw [if_pos rfl, n_cl] at hi hj
      rw [e14 c' i (by omega), e14 c' j (by omega)] at e
      by_cases e1 : i = n
      · by_cases e2 : j = n
        · omega
        · rw [if_pos ⟨rfl, e1⟩, if_neg (fun h => e2 h.2)] at e
          exact absurd e.symm (hno j (by omega))
      · by_cases e2 : j = n
        · rw [if_neg (fun h => e1 h.2), if_pos ⟨rfl, e2⟩] at e
          exact absurd e (hno i (by omega))
        · rw [if_neg (fun h => e1 h.2), if_neg (fun h => e2 h.2)] at e
          exact v8 c' i j h (by omega) (by omega) e
    · rw [if_neg e0] at hi hj
      have := l16 c' h
      rw [e14 c' i (by omega), e14 c' j (by omega), if_neg (fun h => e0 h.1), if_neg (fun h => e0 h.1)] at e
      exact v8 c' i j h hi hj e
  · rcases v9 c' t h ht with h3 | ⟨h3, h4, q, hq, hq2⟩
    · exact Or.inl h3
    · refine Or.inr ⟨h3, h4, q, ?_, ?_⟩
      · rw [e13]
        by_cases e : c' = c
        · subst e; rw [if_pos rfl, n_cl]; omega
        · rw [if_neg e]; exact hq
      · have := l16 c' h
        rw [e14 c' q (by omega)]
        by_cases e : c' = c
        · subst e; rw [if_neg (by omega)]; exact hq2
        · rw [if_neg (fun h => e h.1)]; exact hq2
theorem list_room (I : Iv cm sm td μ) {c s n : Nat} (hc : c < cm) (hs : s < sm) (hnn : nn (μ 13 c) = n) (hno : ∀ i, i < n → μ 14 (16 * c + i) ≠ nI s) : n + 1 ≤ sm := by
  refine fb_holes sm (n + 1) (fun i => if i < n then nn (μ 14 (16 * c + i)) else s) (fun i hi => ?_) (fun i j hij hj e => ?_)
  · show (if i < n then nn (μ 14 (16 * c + i)) else s) < sm
    split
    · rename_i h; exact (I.2.2.2.2.2.1 c i hc (by omega)).2
    · exact hs
  · have e : (if i < n then nn (μ 14 (16 * c + i)) else s) = if j < n then nn (μ 14 (16 * c + j)) else s := e
    rw [if_pos (by omega)] at e
    have hi := I.2.2.2.2.2.1 c i hc (by omega)
    by_cases h : j < n
    · rw [if_pos h] at e
      have h2 := I.2.2.2.2.2.1 c j hc (by omega)
      have := I.2.2.2.2.2.2.1 c i j hc (by omega) (by omega) (by rw [hi.1, h2.1, e])
      omega
    · rw [if_neg h] at e
      exact hno i (by omega) (by rw [hi.1, e])
theorem Fr_lva {μ' : gw_S} {c s : Nat} (F : Fr cm sm μ) (hc : c < cm) (hs : s < sm) (L : Lva cm sm μ μ' c s) : Fr cm sm μ' := by
  intro c' hc'
  have h1 := ofc_off (cm := cm) (μ := μ) hc hs L.2.1 hc'
  rw [enr_same (L.1 8 (by omega) (by omega) (by omega)), L.1 1 (by omega) (by omega) (by omega)]
  have := F c' hc'
  omega
theorem op_request {j : Nat} {τ μ : gw_S} (h : Inv j τ μ) (hj : j < 512) (a1 a2 : Int32) : ∃ r q, f_X3_request τ a1 a2 = some r ∧ f_X4_request μ a1 a2 = some q ∧ (∀ e, r.1 = .inr e → e = "java/lang/IndexOutOfBoundsException" ∨ e = "java/lang/IllegalStateException") ∧ q.2 0 18 = lw_k ["java/lang/IndexOutOfBoundsException", "java/lang/IllegalStateException"] r.1 ∧ (∀ v, r.1 = .inl v → v = q.1) ∧ Inv (j + 1) r.2 q.2 := by
  obtain ⟨cm, sm, td, h7, hd, R, I, F, B⟩ := id h
  have h20 := R.1
  unfold f_X3_request f_X4_request
  rcases a_sc R a1 a2 with ⟨s, c, hs, hc, rfl, rfl, e1, e2, e3⟩ | ⟨e3, e1 | ⟨k, e1, e2⟩⟩
  · obtain ⟨r1, hr1, hr2, hr3⟩ : ∃ r1 : Int32 × gw_S, f_X4_areBoth μ (nI s) (nI c) = some r1 ∧ r1.1 = 1 ∧ r1.2 = gw_up μ 0 18 0 := ⟨_, e3, rfl, rfl⟩
    obtain ⟨n, hn, en, en2⟩ := lt_of (I.2.1 c hc).2.2.1
    have hgl : gw_len (40 + c + 36) = 16 := by unfold gw_len; rw [if_neg (by omega)]
    have I1 := Iv_sim I (simM_18 μ 0)
    have R1 := Rl_sim R (simT_rf τ) (simM_18 μ 0)
    have F1 := Fr_sim F (simM_18 μ 0)
    obtain ⟨v, o1, o2, o3⟩ := obst R1 I1 hs hc (μ 8 s)
    rw [e1, bs, gx_l, e2, bs, gx_l, show 4 + c + 36 = 40 + c from by omega, c_place (f := fun i => μ 14 (16 * c + i)) (nI s) ((r_wct R hc).trans en) (by rw [hgl]; omega) (fun i hi => by rw [show 40 + c + 36 = 76 + c from by omega, r_wai R (by omega) (by omega)]), bs, r_tak R hs, o1, bs, c_fr R1 hc, bs, hr1, bs, hr2, if_neg n10, hr3, if_pos (ib_ok (by show s < 16; omega) (by decide)), nI_clamp (n := s) (by omega), show gw_up μ 0 18 0 8 s = μ 8 s from rfl, o2, bs, m_waitPlace (μ := gw_up μ 0 18 0) (nI s) (by omega) en (by omega), bs, m_fr R1 I1 hc, bs, show fnd (fun i => gw_up μ 0 18 0 14 (16 * c + i)) n (nI s) = fnd (fun i => μ 14 (16 * c + i)) n (nI s) from rfl, up18]
    by_cases hv : v = 0
    · rw [if_pos hv, if_pos hv]
      rcases fnd_c (f := fun i => μ 14 (16 * c + i)) (n := n) (x := nI s) (by omega) with ⟨f1, f2⟩ | ⟨p, hp, f1, f2, f3⟩
      · rw [f1, if_pos (show (-1 : Int32) = -1 from rfl), if_pos (show (-1 : Int32) < 0 by decide)]
        by_cases hf : fr (gw_up μ 0 18 0) sm c ≤ 0
        · rw [if_pos hf, if_pos hf]
          have hn1 := list_room I hc hs en2 f2
          have hadd : f_X1_add τ (40 + c) (nI s) = some (gw_up (gw_up τ (76 + c) n (nI s)) (40 + c) 1 (nI (n + 1))) := by
            unfold f_X1_add
            rw [hgl, r_wct R hc, en, if_neg (show ¬ Int32.ofNat 16 ≤ nI n from n_lt (n := 16) (by omega) (by decide)), if_pos (ib_ok (by omega)), nI_clamp (by omega), nI_1, show 40 + c + 36 = 76 + c from by omega]
          obtain ⟨τ', μ', a1, a2, hI, R', h18, rw'⟩ := fin (j := j) (by omega) (by exact hd) (Rl_uwct (Rl_uwai R1 (nI s) (c := c) (i := n) (by omega) (by omega)) (nI (n + 1)) hc) (Iv_add h20.2 I1 hs en (by omega) f2) (Fr_rows (μ := μ) F rfl rfl rfl) rfl
          rw [hadd, bs, c_size, bs, gw_up_s, a1, bs, show gw_up μ 0 18 0 13 (nI c).toNatClampNeg = nI n from by rw [nI_clamp (by omega)]; exact en, x16, if_pos (ib_ok (by show c < 20; omega) (by decide)), if_pos (ib_ok (by show 16 * c + n < 320; omega) (by decide)), if_pos (ib_ok (by show c < 20; omega) (by decide)), if_pos (ib_ok (by show c < 20; omega) (by decide)), nI_clamp (by omega), nI_clamp (by omega), gw_up_n (k' := 13) (j' := c) (k := 14) (by omega), show gw_up μ 0 18 0 13 c = nI n from en, nI_1, a2, bs, if_pos (ib_ok (by show c < 20; omega) (by decide))]
          exact wr_ok (v := nI (n + 1)) rfl (by rw [rw' 13 (by omega), gw_up_s]) h18 hI
        · rw [if_neg hf, if_neg hf]
          obtain ⟨τ2, μ2, b1, b2, R2, I2, E2, S2⟩ := enrol_pair R1 I1 hc hs
          have hnb := o3.mp hv
          have F2 : Fr cm sm μ2 := by
            intro c' hc'
            rw [ena_enr (by omega) hs E2 hnb.2.1 c' (by omega), E2.1 1 (by omega) (by omega) (by omega) (by omega) (by omega) (by omega)]
            have h1 := ofc_off (cm := cm) (μ := gw_up μ 0 18 0) hc hs E2.2.2.1 hc'
            have h2 := F1 c' hc'
            by_cases e : c' = c
            · subst e
              have := Nat.lt_of_not_le (fun h => hf ((fr_le I1 F1 hc).mpr h))
              rw [if_pos rfl] at h1 ⊢
              omega
            · rw [if_neg e] at h1 ⊢; omega
          obtain ⟨τ', μ', a1, a2, hI, R', h18, rw'⟩ := fin (j := j) (by omega) (by rw [E2.1 0 (by omega) (by omega) (by omega) (by omega) (by omega) (by omega)]; exact hd) R2 I2 F2 (by rw [E2.1 0 (by omega) (by omega) (by omega) (by omega) (by omega) (by omega)]; rfl)
          rw [b1, bs, a1, bs, b2, bs, a2, bs]
          exact wr_ok rfl rfl h18 hI
      · rw [f1, if_neg (ne_m1 (show p < 2 ^ 30 by omega)), if_neg (show ¬ nI p < 0 from nI_pos (by omega))]
        exact wr_ex h rfl rfl (Or.inr rfl) (by decide +kernel)
    · rw [if_neg hv, if_neg hv, ite_self]
      exact wr_ex h rfl rfl (Or.inr rfl) (by decide +kernel)
  · refine wr_ex h ?_ ?_ (Or.inl rfl) (by decide +kernel) (n := 1) (x := "java/lang/IndexOutOfBoundsException")
    · rw [e1, bs, gx_r]
    · rw [e3, bs, if_pos rfl]
  · refine wr_ex h ?_ ?_ (Or.inl rfl) (by decide +kernel) (n := 1) (x := "java/lang/IndexOutOfBoundsException")
    · rw [e1, bs, gx_l, e2, bs, gx_r]
    · rw [e3, bs, if_pos rfl]
theorem op_drop {j : Nat} {τ μ : gw_S} (h : Inv j τ μ) (hj : j < 512) (a1 a2 : Int32) : ∃ r q, f_X3_drop τ a1 a2 = some r ∧ f_X4_drop μ a1 a2 = some q ∧ (∀ e, r.1 = .inr e → e = "java/lang/IndexOutOfBoundsException" ∨ e = "java/lang/IllegalStateException") ∧ q.2 0 18 = lw_k ["java/lang/IndexOutOfBoundsException", "java/lang/IllegalStateException"] r.1 ∧ (∀ v, r.1 = .inl v → v = q.1) ∧ Inv (j + 1) r.2 q.2 := by
  obtain ⟨cm, sm, td, h7, hd, R, I, F, B⟩ := id h
  have h20 := R.1
  unfold f_X3_drop f_X4_drop
  rcases a_sc R a1 a2 with ⟨s, c, hs, hc, rfl, rfl, e1, e2, e3⟩ | ⟨e3, e1 | ⟨k, e1, e2⟩⟩
  · obtain ⟨r1, hr1, hr2, hr3⟩ : ∃ r1 : Int32 × gw_S, f_X4_areBoth μ (nI s) (nI c) = some r1 ∧ r1.1 = 1 ∧ r1.2 = gw_up μ 0 18 0 := ⟨_, e3, rfl, rfl⟩
    have I1 := Iv_sim I (simM_18 μ 0)
    have R1 := Rl_sim R (simT_rf τ) (simM_18 μ 0)
    have F1 := Fr_sim F (simM_18 μ 0)
    rw [e1, bs, gx_l, e2, bs, gx_l, r_tak R hs, c_isIn (by omega), bd, hr1, bs, hr2, if_neg n10, hr3, if_pos (ib_ok (by show s < 16; omega) (by decide)), nI_clamp (n := s) (by omega), show gw_up μ 0 18 0 8 s = μ 8 s from rfl, m_has (by omega), bd, up18]
    by_cases hb : bt (μ 8 s) c = true
    · rw [if_pos hb, if_pos hb]
      obtain ⟨τ2, μ2, b1, b2, R2, I2, E2, S2⟩ := gva_pair R1 I1 hc hs
      have F2 : Fr cm sm μ2 := by
        intro c' hc'
        have h1 := gva_enr (by omega) hs E2 hb c' (by omega)
        have h2 := F1 c' hc'
        rw [ofc_same (μ := gw_up μ 0 18 0) (fun t ht => by rw [E2.1 15 (by omega) (by omega)]), E2.1 1 (by omega) (by omega)]
        omega
      obtain ⟨τ', μ', a1, a2, hI, R', h18, rw'⟩ := fin (j := j) (by omega) (by rw [E2.1 0 (by omega) (by omega)]; exact hd) R2 I2 F2 (by rw [E2.1 0 (by omega) (by omega)]; rfl)
      rw [b1, bs, a1, bs, r_tak R' hs, c_cre R', bs, b2, bs, a2, bs, if_pos (ib_ok (by show s < 16; omega) (by decide)), m_wor R', bs]
      exact wr_ok rfl rfl h18 hI
    · rw [if_neg hb, if_neg hb]
      exact wr_ex h rfl rfl (Or.inr rfl) (by decide +kernel)
  · refine wr_ex h ?_ ?_ (Or.inl rfl) (by decide +kernel) (n := 1) (x := "java/lang/IndexOutOfBoundsException")
    · rw [e1, bs, gx_r]
    · rw [e3, bs, if_pos rfl]
  · refine wr_ex h ?_ ?_ (Or.inl rfl) (by decide +kernel) (n := 1) (x := "java/lang/IndexOutOfBoundsException")
    · rw [e1, bs, gx_l, e2, bs, gx_r]
    · rw [e3, bs, if_pos rfl]
theorem op_accept {j : Nat} {τ μ : gw_S} (h : Inv j τ μ) (hj : j < 512) (a1 a2 : Int32) : ∃ r q, f_X3_accept τ a1 a2 = some r ∧ f_X4_accept μ a1 a2 = some q ∧ (∀ e, r.1 = .inr e → e = "java/lang/IndexOutOfBoundsException" ∨ e = "java/lang/IllegalStateException") ∧ q.2 0 18 = lw_k ["java/lang/IndexOutOfBoundsException", "java/lang/IllegalStateException"] r.1 ∧ (∀ v, r.1 = .inl v → v = q.1) ∧ Inv (j + 1) r.2 q.2 := by
  obtain ⟨cm, sm, td, h7, hd, R, I, F, B⟩ := id h
  have h20 := R.1
  unfold f_X3_accept f_X4_accept
  rcases a_sc R a1 a2 with ⟨s, c, hs, hc, rfl, rfl, e1, e2, e3⟩ | ⟨e3, e1 | ⟨k, e1, e2⟩⟩
  · obtain ⟨r1, hr1, hr2, hr3⟩ : ∃ r1 : Int32 × gw_S, f_X4_areBoth μ (nI s) (nI c) = some r1 ∧ r1.1 = 1 ∧ r1.2 = gw_up μ 0 18 0 := ⟨_, e3, rfl, rfl⟩
    have I1 := Iv_sim I (simM_18 μ 0)
    have R1 := Rl_sim R (simT_rf τ) (simM_18 μ 0)
    have F1 := Fr_sim F (simM_18 μ 0)
    obtain ⟨v, o1, o2, o3⟩ := obst R1 I1 hs hc (μ 8 s)
    rw [e1, bs, gx_l, e2, bs, gx_l, c_hasOff R hc hs, bd, r_tak R hs, o1, bs, hr1, bs, hr2, if_neg n10, hr3, m_hasOff R1 I1 hc hs, bd, if_pos (ib_ok (by show s < 16; omega) (by decide)), nI_clamp (n := s) (by omega), show gw_up μ 0 18 0 8 s = μ 8 s from rfl, show gw_up μ 0 18 0 15 (16 * c + s) = μ 15 (16 * c + s) from rfl, o2, bs, up18]
    by_cases hb : decide (¬ μ 15 (16 * c + s) = -1) = true
    · rw [if_pos hb, if_pos hb]
      by_cases hv : v = 0
      · rw [if_pos hv, if_pos hv]
        obtain ⟨τ2, μ2, b1, b2, R2, I2, E2, S2⟩ := enrol_pair R1 I1 hc hs
        have hnb := o3.mp hv
        have F2 : Fr cm sm μ2 := by
          intro c' hc'
          rw [ena_enr (by omega) hs E2 hnb.2.1 c' (by omega), E2.1 1 (by omega) (by omega) (by omega) (by omega) (by omega) (by omega)]
          have h1 := ofc_off (cm := cm) (μ := gw_up μ 0 18 0) hc hs E2.2.2.1 hc'
          rw [show gw_up μ 0 18 0 15 (16 * c + s) = μ 15 (16 * c + s) from rfl, hb] at h1
          have h2 := F1 c' hc'
          by_cases e : c' = c
          · subst e
            rw [if_pos rfl] at h1 ⊢
            have := b1_t
            omega
          · rw [if_neg e] at h1 ⊢; omega
        obtain ⟨τ', μ', a1, a2, hI, R', h18, rw'⟩ := fin (j := j) (by omega) (by rw [E2.1 0 (by omega) (by omega) (by omega) (by omega) (by omega) (by omega)]; exact hd) R2 I2 F2 (by rw [E2.1 0 (by omega) (by omega) (by omega) (by omega) (by omega) (by omega)]; rfl)
        rw [b1, bs, a1, bs, r_tak R' hs, c_cre R', bs, b2, bs, a2, bs, if_pos (ib_ok (by show s < 16; omega) (by decide)), m_wor R', bs]
        exact wr_ok rfl rfl h18 hI
      · rw [if_neg hv, if_neg hv]
        exact wr_ex h rfl rfl (Or.inr rfl) (by decide +kernel)
    · rw [if_neg hb, if_neg hb]
      exact wr_ex h rfl rfl (Or.inr rfl) (by decide +kernel)
  · refine wr_ex h ?_ ?_ (Or.inl rfl) (by decide +kernel) (n := 1) (x := "java/lang/IndexOutOfBoundsException")
    · rw [e1, bs, gx_r]
    · rw [e3, bs, if_pos rfl]
  · refine wr_ex h ?_ ?_ (Or.inl rfl) (by decide +kernel) (n := 1) (x := "java/lang/IndexOutOfBoundsException")
    · rw [e1, bs, gx_l, e2, bs, gx_r]
    · rw [e3, bs, if_pos rfl]
theorem op_leave {j : Nat} {τ μ : gw_S} (h : Inv j τ μ) (hj : j < 512) (a1 a2 : Int32) : ∃ r q, f_X3_leave τ a1 a2 = some r ∧ f_X4_leave μ a1 a2 = some q ∧ (∀ e, r.1 = .inr e → e = "java/lang/IndexOutOfBoundsException" ∨ e = "java/lang/IllegalStateException") ∧ q.2 0 18 = lw_k ["java/lang/IndexOutOfBoundsException", "java/lang/IllegalStateException"] r.1 ∧ (∀ v, r.1 = .inl v → (v = 0 ↔ q.1 = 0)) ∧ Inv (j + 1) r.2 q.2 := by
  obtain ⟨cm, sm, td, h7, hd, R, I, F, B⟩ := id h
  have h20 := R.1
  unfold f_X3_leave f_X4_leave
  rcases a_sc R a1 a2 with ⟨s, c, hs, hc, rfl, rfl, e1, e2, e3⟩ | ⟨e3, e1 | ⟨k, e1, e2⟩⟩
  · obtain ⟨r1, hr1, hr2, hr3⟩ : ∃ r1 : Int32 × gw_S, f_X4_areBoth μ (nI s) (nI c) = some r1 ∧ r1.1 = 1 ∧ r1.2 = gw_up μ 0 18 0 := ⟨_, e3, rfl, rfl⟩
    obtain ⟨n, hn, en, en2⟩ := lt_of (I.2.1 c hc).2.2.1
    have hgl : gw_len (40 + c + 36) = 16 := by unfold gw_len; rw [if_neg (by omega)]
    have I1 := Iv_sim I (simM_18 μ 0)
    have R1 := Rl_sim R (simT_rf τ) (simM_18 μ 0)
    have F1 := Fr_sim F (simM_18 μ 0)
    obtain ⟨τ2, μ2, b1, b2, R2, I2, L2, S2⟩ := lva_pair R1 I1 hc hs
    obtain ⟨τ', μ', a1, a2, hI, R', h18, rw'⟩ := fin (j := j) (by omega) (by rw [L2.1 0 (by omega) (by omega) (by omega)]; exact hd) R2 I2 (Fr_lva F1 hc hs L2) (by rw [L2.1 0 (by omega) (by omega) (by omega)]; rfl)
    rw [e1, bs, gx_l, e2, bs, gx_l, r_si R hs, show 4 + c + 36 = 40 + c from by omega, c_place (f := fun i => μ 14 (16 * c + i)) (nI s) ((r_wct R hc).trans en) (by rw [hgl]; omega) (fun i hi => by rw [show 40 + c + 36 = 76 + c from by omega, r_wai R (by omega) (by omega)]), bs, c_hasOff R hc hs, bs, b1, bs, a1, bs, hr1, bs, hr2, if_neg n10, hr3, m_waitPlace (μ := gw_up μ 0 18 0) (nI s) (by omega) en (by omega), bs, show fnd (fun i => gw_up μ 0 18 0 14 (16 * c + i)) n (nI s) = fnd (fun i => μ 14 (16 * c + i)) n (nI s) from rfl, m_hasOff R1 I1 hc hs, bs, b2, bs, a2, bs, up18]
    rcases fnd_c (f := fun i => μ 14 (16 * c + i)) (n := n) (x := nI s) (by omega) with ⟨f1, f2⟩ | ⟨p, hp, f1, f2, f3⟩
    · rw [f1, if_pos (show (-1 : Int32) = -1 from rfl), if_neg (show ¬ (0 : Int32) ≤ -1 by decide)]
      exact wr_exb h rfl rfl (Or.inr rfl) (by decide +kernel)
    · rw [f1, if_neg (ne_m1 (show p < 2 ^ 30 by omega)), if_pos (show (0 : Int32) ≤ nI p from nI_pos' (by omega))]
      exact wr_okb rfl rfl Iff.rfl h18 hI
  · refine wr_exb h ?_ ?_ (Or.inl rfl) (by decide +kernel) (n := 1) (x := "java/lang/IndexOutOfBoundsException")
    · rw [e1, bs, gx_r]
    · rw [e3, bs, if_pos rfl]
  · refine wr_exb h ?_ ?_ (Or.inl rfl) (by decide +kernel) (n := 1) (x := "java/lang/IndexOutOfBoundsException")
    · rw [e1, bs, gx_l, e2, bs, gx_r]
    · rw [e3, bs, if_pos rfl]
theorem op_change {j : Nat} {τ μ : gw_S} (h : Inv j τ μ) (hj : j < 512) (a1 a2 a3 : Int32) : ∃ r q, f_X3_change τ a1 a2 a3 = some r ∧ f_X4_change μ a1 a2 a3 = some q ∧ (∀ e, r.1 = .inr e → e = "java/lang/IndexOutOfBoundsException" ∨ e = "java/lang/IllegalStateException") ∧ q.2 0 18 = lw_k ["java/lang/IndexOutOfBoundsException", "java/lang/IllegalStateException"] r.1 ∧ (∀ v, r.1 = .inl v → v = q.1) ∧ Inv (j + 1) r.2 q.2 := by
  obtain ⟨cm, sm, td, h7, hd, R, I, F, B⟩ := id h
  have h20 := R.1
  have I1 := Iv_sim I (simM_18 μ 0)
  have R1 := Rl_sim R (simT_rf τ) (simM_18 μ 0)
  have F1 := Fr_sim F (simM_18 μ 0)
  unfold f_X3_change f_X4_change
  rcases a_s R a1 with ⟨s, hs, rfl, e1, e1'⟩ | ⟨e1, e1'⟩
  · rw [e1, bs, gx_l, e1', bs, if_neg n10]
    rcases a_c R a2 with ⟨c, hc, rfl, e2, e2'⟩ | ⟨e2, e2'⟩
    · rw [e2, bs, gx_l, e2', bs, if_neg n10]
      rcases a_c R a3 with ⟨d, hd3, rfl, e3, e3'⟩ | ⟨e3, e3'⟩
      · rw [e3, bs, gx_l, e3', bs, if_neg n10]
        obtain ⟨v, o1, o2, o3⟩ := obst R1 I1 hs hd3 (μ 8 s &&& (((1 : Int32) <<< (nI c &&& 31)) ^^^ (-1 : Int32)))
        rw [r_tak R hs, c_isIn (by omega), bd, f_X3_bit, bs, o1, bs, c_fr R1 hd3, bs, if_pos (ib_ok (by show s < 16; omega) (by decide)), if_pos (ib_ok (by show s < 16; omega) (by decide)), nI_clamp (n := s) (by omega), show gw_up μ 0 18 0 8 s = μ 8 s from rfl, m_has (by omega), bd, o2, bs, m_fr R1 I1 hd3, bs, up18]
        by_cases hb : bt (μ 8 s) c = true
        · rw [if_pos hb, if_pos hb]
          by_cases hcd : nI c = nI d
          · rw [if_pos hcd, if_pos hcd]
            exact wr_ex h rfl rfl (Or.inr rfl) (by decide +kernel)
          · rw [if_neg hcd, if_neg hcd]
            have hcd' : c ≠ d := fun e => hcd (by rw [e])
            by_cases hv : v = 0
            · rw [if_pos hv, if_pos hv]
              obtain ⟨n, hn1, hn2, hn3⟩ := fr_v I1 F1 hd3
              rw [hn3]
              by_cases h0 : n = 0
              · subst h0
                rw [if_neg (show ¬ (0 : Int32) < nI 0 by decide), if_pos (show nI 0 = (0 : Int32) from rfl)]
                exact wr_ex h rfl rfl (Or.inr rfl) (by decide +kernel)
              · rw [if_pos (show (0 : Int32) < nI n from nI_lt (a := 0) (by omega) (by omega)), if_neg (show ¬ nI n = (0 : Int32) from nI_ne0 (by omega) (by omega))]
                obtain ⟨τ2, μ2, b1, b2, R2, I2, E2, S2⟩ := gva_pair R1 I1 hc hs
                obtain ⟨τ3, μ3, d1, d2, R3, I3, E3, S3⟩ := enrol_pair R2 I2 hd3 hs
                have hnb := o3.mp hv
                have h8 : bt (μ2 8 s) d = false := by rw [E2.2.1 s, if_pos rfl]; exact hnb.2.1
                have F3 : Fr cm sm μ3 := by
                  intro c' hc'
                  have g1 := gva_enr (by omega) hs E2 hb c' (by omega)
                  have g2 := ofc_off (cm := cm) (μ := μ2) hd3 hs E3.2.2.1 hc'
                  have g3 : ofc μ2 sm c' = ofc (gw_up μ 0 18 0) sm c' := ofc_same (fun t ht => by rw [E2.1 15 (by omega) (by omega)])
                  rw [ena_enr (by omega) hs E3 h8 c' (by omega), E3.1 1 (by omega) (by omega) (by omega) (by omega) (by omega) (by omega), E2.1 1 (by omega) (by omega)]
                  have h2 := F1 c' hc'
                  by_cases e : c' = d
                  · subst e
                    rw [if_pos rfl] at g2 ⊢
                    rw [if_neg (Ne.symm hcd')] at g1
                    omega
                  · rw [if_neg e] at g2 ⊢; omega
                obtain ⟨τ', μ', a1, a2, hI, R', h18, rw'⟩ := fin (j := j) (by omega) (by rw [E3.1 0 (by omega) (by omega) (by omega) (by omega) (by omega) (by omega), E2.1 0 (by omega) (by omega)]; exact hd) R3 I3 F3 (by rw [E3.1 0 (by omega) (by omega) (by omega) (by omega) (by omega) (by omega), E2.1 0 (by omega) (by omega)]; rfl)
                rw [b1, bs, d1, bs, a1, bs, r_tak R' hs, c_cre R', bs, b2, bs, d2, bs, a2, bs, if_pos (ib_ok (by show s < 16; omega) (by decide)), m_wor R', bs]
                exact wr_ok rfl rfl h18 hI
            · rw [if_neg hv, if_neg hv]
              exact wr_ex h rfl rfl (Or.inr rfl) (by decide +kernel)
        · rw [if_neg hb, if_neg hb]
          exact wr_ex h rfl rfl (Or.inr rfl) (by decide +kernel)
      · rw [e3, bs, gx_r, e3', bs, if_pos (show (0 : Int32) = 0 from rfl)]
        exact wr_ex h rfl rfl (Or.inl rfl) (by decide +kernel)
    · rw [e2, bs, gx_r, e2', bs, if_pos (show (0 : Int32) = 0 from rfl)]
      exact wr_ex h rfl rfl (Or.inl rfl) (by decide +kernel)
  · rw [e1, bs, gx_r, e1', bs, if_pos (show (0 : Int32) = 0 from rfl)]
    exact wr_ex h rfl rfl (Or.inl rfl) (by decide +kernel)
end opj
