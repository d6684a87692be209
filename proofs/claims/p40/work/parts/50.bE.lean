/-! THE DEEDS: class, reference and book go on together -/
abbrev ISE : String := "java/lang/IllegalStateException"
def cx (r : (Int32 ⊕ String) × gw_S) : Option (Int32 × gw_S) := gw_xb r.1 (fun v => some (v, r.2)) (fun e => if e = "java/lang/IllegalStateException" then some (-13, r.2) else none)
theorem cx_l (v : Int32) (τ : gw_S) : cx (.inl v, τ) = some (v, τ) := rfl
theorem cx_e {e : String} {τ : gw_S} (h : e = "java/lang/IllegalStateException") : cx (.inr e, τ) = some (-13, τ) := by
  show (if e = "java/lang/IllegalStateException" then some (-13, τ) else none) = _
  rw [if_pos h]
theorem cx_r (τ : gw_S) : cx (.inr "java/lang/IllegalStateException", τ) = some (-13, τ) := cx_e rfl
/-- what holds between the deeds -/
def St (j cm sm td : Nat) (τ μ β : gw_S) (o : Nat → Int64) : Prop := td ≤ 7 * j ∧ j ≤ 500 ∧ μ 0 17 = nI td ∧ Rl cm sm τ μ ∧ Iv cm sm td μ ∧ Fr cm sm μ ∧ Sb cm sm μ ∧ Bk cm sm td μ β o
def Go (j cm sm : Nat) (τ β : gw_S) (o : Nat → Int64) (k a b d : Int32) : Prop := ∃ (v : Int32) (β1 : gw_S) (o1 : Nat → Int64) (β2 τ' μ' : gw_S) (td' : Nat), f_L_books β o k a b d = some (v, β1, o1) ∧ f_L_makes β1 o1 = some (β2, o1) ∧ f_L_does τ k a b d = some (v, τ') ∧ St (j + 1) cm sm td' τ' μ' β2 o1
section be
variable {j cm sm td : Nat} {τ μ β : gw_S} {o : Nat → Int64} {k a b d : Int32}
theorem go_rd {τ' μ' β1 : gw_S} {o1 : Nat → Int64} {v : Int32} (hj : j < 500) (h7 : td ≤ 7 * (j + 1)) (hd : μ' 0 17 = nI td) (R : Rl cm sm τ' μ') (I : Iv cm sm td μ') (F : Fr cm sm μ') (S : Sb cm sm μ') (B : Bk cm sm td μ' β1 o1) (h1 : f_L_books β o k a b d = some (v, β1, o1)) (h2 : f_L_does τ k a b d = some (v, τ')) : Go j cm sm τ β o k a b d := by
  obtain ⟨τ2, μ2, β2, -, -, -, -, -, -, -, -, e, m, B2⟩ := k_mk hd R I F B
  rw [e S] at B2
  exact ⟨v, β1, o1, β2, τ', μ', td, h1, m, h2, h7, by omega, hd, R, I, F, S, B2⟩
theorem go_no (hj : j < 500) (h : St j cm sm td τ μ β o) (h1 : f_L_books β o k a b d = some (-13, β, o)) (h2 : f_L_does τ k a b d = some (-13, τ)) : Go j cm sm τ β o k a b d := by
  obtain ⟨h7, -, hd, R, I, F, S, B⟩ := h
  exact go_rd hj (by omega) hd R I F S B h1 h2
theorem go_of {τ1 μ1 β1 : gw_S} {o1 : Nat → Int64} {v : Int32} (hj : j < 500) (h7 : td ≤ 7 * (j + 1)) (hd : μ1 0 17 = nI td) (R : Rl cm sm τ1 μ1) (I : Iv cm sm td μ1) (F : Fr cm sm μ1) (B : Bk cm sm td μ1 β1 o1) (h1 : f_L_books β o k a b d = some (v, β1, o1)) (h2 : ∀ τ' μ', f_X3_makeOffers τ1 = some τ' → Rl cm sm τ' μ' → (∀ k, k ≠ 15 → μ' k = μ1 k) → f_L_does τ k a b d = some (v, τ')) : Go j cm sm τ β o k a b d := by
  obtain ⟨τ2, μ2, β2, m1, -, R2, I2, F2, S2, -, rw2, -, m, B2⟩ := k_mk hd R I F B
  exact ⟨v, β1, o1, β2, τ2, μ2, td, h1, m, h2 τ2 μ2 m1 R2 rw2, h7, by omega, by rw [rw2 0 (by omega)]; exact hd, R2, I2, F2, S2, B2⟩
theorem obs_c {τ : gw_S} {a b : Nat} {x v : Int32} (h : f_X3_obstacleFor τ a b x = some v) : (v = 0 ∧ ¬ 0 < v ∧ v ≤ 0) ∨ (¬ v = 0 ∧ 0 < v ∧ ¬ v ≤ 0) := by
  have key : v = 0 ∨ v = 1 ∨ v = 2 ∨ v = 3 ∨ v = 4 ∨ v = 5 := by
    unfold f_X3_obstacleFor at h
    obtain ⟨r1, -, h⟩ := gw_bnd h
    split at h
    · obtain ⟨r2, -, h⟩ := gw_bnd h
      split at h
      · split at h
        · obtain ⟨r3, -, h⟩ := gw_bnd h
          split at h
          · obtain ⟨r4, -, h⟩ := gw_bnd h
            split at h
            · exact Or.inl (Option.some.inj h).symm
            · exact Or.inr (Or.inr (Or.inr (Or.inr (Or.inr (Option.some.inj h).symm))))
          · exact Or.inr (Or.inr (Or.inr (Or.inr (Or.inl (Option.some.inj h).symm))))
        · exact Or.inr (Or.inr (Or.inr (Or.inl (Option.some.inj h).symm)))
      · exact Or.inr (Or.inr (Or.inl (Option.some.inj h).symm))
    · exact Or.inr (Or.inl (Option.some.inj h).symm)
  rcases key with rfl | rfl | rfl | rfl | rfl | rfl
  · exact Or.inl (by decide)
  all_goals exact Or.inr (by decide)
theorem dz0 : f_L_does τ 0 a b d = (f_X3_setSeats τ a b).bind cx := rfl
theorem dz1 : f_L_does τ 1 a b d = (f_X3_addPrerequisite τ a b).bind cx := rfl
theorem dz2 : f_L_does τ 2 a b d = (f_X3_pass τ a b).bind cx := rfl
theorem dz3 : f_L_does τ 3 a b d = (f_X3_wish τ a b).bind cx := rfl
theorem dz4 : f_L_does τ 4 a b d = (f_X3_dropWish τ a b).bind cx := rfl
theorem dz5 : f_L_does τ 5 a b d = (f_X3_request τ a b).bind cx := rfl
theorem dz6 : f_L_does τ 6 a b d = (f_X3_drop τ a b).bind cx := rfl
theorem dz7 : f_L_does τ 7 a b d = (f_X3_change τ a b d).bind cx := rfl
theorem dz8 : f_L_does τ 8 a b d = (f_X3_accept τ a b).bind cx := rfl
theorem dz9 : f_L_does τ 9 a b d = (f_X3_leave τ a b).bind fun r => gw_xb r.1 (fun v => if v = 0 then some ((0 : Int32), r.2) else some ((1 : Int32), r.2)) (fun e => if e = "java/lang/IllegalStateException" then some (-13, r.2) else none) := rfl
theorem dz10 : f_L_does τ 10 a b d = (f_X3_advance τ a).bind cx := rfl
theorem dz11 : f_L_does τ 11 a b d = (f_X3_runLottery τ a).bind cx := rfl
theorem dz12 : f_L_does τ 12 a b d = (f_X3_putUp τ a b).bind cx := rfl
theorem dz13 : f_L_does τ 13 a b d = (f_X3_withdraw τ a).bind cx := rfl
theorem bz5 : f_L_books β o 5 a b d = (f_L_asks β o a b).bind fun r => some (r.1, r.2.1, r.2.2) := rfl
theorem bz6 : f_L_books β o 6 a b d = (f_L_drops β o a b).bind fun r => some (r.1, r.2.1, r.2.2) := rfl
theorem bz7 : f_L_books β o 7 a b d = (f_L_changes β o a b d).bind fun r => some (r.1, r.2.1, r.2.2) := rfl
theorem bz8 : f_L_books β o 8 a b d = (f_L_accepts β o a b).bind fun r => some (r.1, r.2.1, r.2.2) := rfl
theorem go_withdraw (hj : j < 500) (h : St j cm sm td τ μ β o) {s : Nat} (hs : s < sm) : Go j cm sm τ β o 13 (nI s) b d := by
  obtain ⟨h7, -, hd, R, I, F, S, B⟩ := id h
  have hB := B.1
  refine go_rd (τ' := gw_up τ (24 + s) 7 (-1)) (μ' := gw_up μ 11 s (-1)) (β1 := gw_up β 1 (8 * s + 5) (-1)) (o1 := o) (v := μ 11 s) (td := td) hj (by omega) hd (Rl_us R _ hs rfl (by omega) (by omega)) (Iv_up11 I (Or.inl rfl)) (Fr_rows (μ := μ) F rfl rfl rfl) (Sb_rows (μ := μ) S rfl rfl rfl rfl rfl rfl rfl rfl rfl rfl) ?_ ?_ ?_
  · obtain ⟨b0, b1, b2, b3, b4, b5, b6, b7, b8, b9, b10⟩ := B
    refine ⟨b0, b1, fun c' j hc' hj => (b2 c' j hc' hj).trans (gw_up_n (by omega)).symm, b3, b4, b5, b6, fun t j ht hj => ?_, fun t ht => ?_, fun t ht => ⟨?_, ?_⟩, fun t j h1 h2 hj => ?_⟩
    · rw [gw_up_n (by omega), gw_up_n (by omega)]; exact b7 t j ht hj
    · rw [gw_up_n (by omega)]; exact b8 t ht
    · by_cases e : t = s
      · subst e; rw [gw_up_s, gw_up_s]
      · rw [gw_up_n (by omega), gw_up_n (by omega)]; exact (b9 t ht).1
    · rw [gw_up_n (by omega)]; exact (b9 t ht).2
    · rw [gw_up_n (by omega)]; exact b10 t j h1 h2 hj
  · show (if gw_ib (((8 : Int32) * nI s) + (5 : Int32)) (gw_ml 1) = true then _ else none) = _
    simp (disch := omega) only [x8, x8_5, rd1, cln]
    rw [e_s5 B hs]
  · rw [dz13]
    unfold f_X3_withdraw
    rw [s_at R hs, bs, gx_l, r_upp R hs, bs, cx_l]
theorem go_putUp (hj : j < 500) (h : St j cm sm td τ μ β o) {s c : Nat} (hs : s < sm) (hc : c < cm) : Go j cm sm τ β o 12 (nI s) (nI c) d := by
  obtain ⟨h7, -, hd, R, I, F, S, B⟩ := id h
  have hB := B.1
  have hD : f_L_does τ 12 (nI s) (nI c) d = if bt (μ 8 s) c = true then some (μ 11 s, gw_up τ (24 + s) 7 (nI c)) else some (-13, τ) := by
    rw [dz12]
    unfold f_X3_putUp
    rw [s_at R hs, bs, gx_l, c_at R hc, bs, gx_l, r_ci R hc, r_tak R hs, c_isIn (by omega), bd, r_upp R hs]
    split <;> rfl
  have hK : f_L_books β o 12 (nI s) (nI c) d = if bt (μ 8 s) c = true then some (μ 11 s, gw_up β 1 (8 * s + 5) (nI c), o) else some (-13, β, o) := by
    show (if gw_ib (((8 : Int32) * nI s) + (3 : Int32)) (gw_ml 1) = true then _ else none) = _
    simp (disch := omega) only [x8, x8_3, x8_5, rd1, cln]
    rw [e_s3 B hs, k_has (by omega), bd, e_s5 B hs]
  by_cases hb : bt (μ 8 s) c = true
  · rw [if_pos hb] at hD hK
    refine go_rd (τ' := gw_up τ (24 + s) 7 (nI c)) (μ' := gw_up μ 11 s (nI c)) (td := td) hj (by omega) hd (Rl_us R _ hs rfl (by omega) (by omega)) (Iv_up11 I (Or.inr ⟨lt_mk hc (by omega), by rw [n_cl (by omega)]; exact hb⟩)) (Fr_rows (μ := μ) F rfl rfl rfl) (Sb_rows (μ := μ) S rfl rfl rfl rfl rfl rfl rfl rfl rfl rfl) ?_ hK hD
    obtain ⟨b0, b1, b2, b3, b4, b5, b6, b7, b8, b9, b10⟩ := B
    refine ⟨b0, b1, fun c' j hc' hj => (b2 c' j hc' hj).trans (gw_up_n (by omega)).symm, b3, b4, b5, b6, fun t j ht hj => ?_, fun t ht => ?_, fun t ht => ⟨?_, ?_⟩, fun t j h1 h2 hj => ?_⟩
    · rw [gw_up_n (by omega), gw_up_n (by omega)]; exact b7 t j ht hj
    · rw [gw_up_n (by omega)]; exact b8 t ht
    · by_cases e : t = s
      · subst e; rw [gw_up_s, gw_up_s]
      · rw [gw_up_n (by omega), gw_up_n (by omega)]; exact (b9 t ht).1
    · rw [gw_up_n (by omega)]; exact (b9 t ht).2
    · rw [gw_up_n (by omega)]; exact b10 t j h1 h2 hj
  · rw [if_neg hb] at hD hK
    exact go_no hj h hK hD
theorem go_dropWish (hj : j < 500) (h : St j cm sm td τ μ β o) {s c : Nat} (hs : s < sm) (hc : c < cm) : Go j cm sm τ β o 4 (nI s) (nI c) d := by
  obtain ⟨h7, -, hd, R, I, F, S, B⟩ := id h
  have hB := B.1
  have h20 := R.1
  obtain ⟨n, hn, en, en2⟩ := lt_of (I.2.2.1 s hs).2.2.1
  have hgl : gw_len (60 + s + 36) = 6 := by unfold gw_len; rw [if_pos (by omega)]
  obtain ⟨τ', μ', β', w1, w2, R', W, Sc, w3, B'⟩ := k_uw R B hs hc (fun t ht => (I.2.2.1 t ht).2.2.1) (fun i hi => (I.2.2.2.1 s i hs hi).1) (fun i j hi hj e => I.2.2.2.2.1 s i j hs hi hj e)
  have I' := Iv_wva I hs hc (v := μ 8 s) (fun k hk => Or.inl hk) (fun k hk => hk) (by rw [gw_up_same (by rfl)]; exact W)
  have hD : f_L_does τ 4 (nI s) (nI c) d = if fnd (fun i => μ 10 (6 * s + i)) n (nI c) = -1 then some (-13, τ) else some (μ' 9 s, τ') := by
    rw [dz4]
    unfold f_X3_dropWish
    rw [s_at R hs, bs, gx_l, c_at R hc, bs, gx_l, r_ci R hc, show 24 + s + 36 = 60 + s from by omega, c_place (f := fun i => μ 10 (6 * s + i)) (nI c) ((r_wic R hs).trans en) (by rw [hgl]; omega) (fun i hi => by rw [show 60 + s + 36 = 96 + s from by omega, r_wis R (by omega) (by omega)]), bs, w1, bs, c_size, bs, r_wic R' hs]
    split <;> rfl
  have hK : f_L_books β o 4 (nI s) (nI c) d = if 0 ≤ fnd (fun i => μ 10 (6 * s + i)) n (nI c) then some (μ' 9 s, β', o) else some (-13, β, o) := by
    show (if gw_ib (((8 : Int32) * nI s) + (4 : Int32)) (gw_ml 1) = true then _ else none) = _
    simp (disch := omega) only [x8, x8_4, rd1, cln]
    have hk := (k_wish B I hs hc).1
    rw [en2] at hk
    rw [hk, bs, w3, bs]
    have hl : f_L_length ((β' 1 (8 * s + 4)).toInt64) = some (μ' 9 s) := (k_wish B' I' hs hc).2
    rw [hl, bs]
  rcases fnd_c (f := fun i => μ 10 (6 * s + i)) (n := n) (x := nI c) (by omega) with ⟨f1, f2⟩ | ⟨p, hp, f1, f2, f3⟩
  · rw [f1, if_pos rfl] at hD
    rw [f1, if_neg (by decide)] at hK
    exact go_no hj h hK hD
  · rw [f1, if_neg (ne_m1 (by omega))] at hD
    rw [f1, if_pos (nI_pos' (by omega))] at hK
    have r := W.1
    exact go_rd hj (by omega) (by rw [r 0 (by omega) (by omega)]; exact hd) R' I' (Fr_rows (μ := μ) F (by rw [r 1 (by omega) (by omega)]) (by rw [r 8 (by omega) (by omega)]) (by rw [r 15 (by omega) (by omega)])) (Sb_rows (μ := μ) S (by rw [r 1 (by omega) (by omega)]) (by rw [r 2 (by omega) (by omega)]) (by rw [r 3 (by omega) (by omega)]) (by rw [r 4 (by omega) (by omega)]) (by rw [r 6 (by omega) (by omega)]) (by rw [r 7 (by omega) (by omega)]) (by rw [r 8 (by omega) (by omega)]) (by rw [r 13 (by omega) (by omega)]) (by rw [r 14 (by omega) (by omega)]) (by rw [r 15 (by omega) (by omega)])) B' hK hD
/-- the row that comes behind a wish -/
theorem Iv_wish (I : Iv cm sm td μ) {s c n : Nat} (hs : s < sm) (hs16 : s < 16) (hc : c < cm) (en : μ 9 s = nI n) (en2 : nn (μ 9 s) = n) (hn6 : n < 6) (hcm : cm ≤ 20) (f2 : ∀ i, i < n → μ 10 (6 * s + i) ≠ nI c) (hb2 : bt (μ 8 s) c = false) : Iv cm sm td (gw_up (gw_up μ 10 (6 * s + n) (nI c)) 9 s (nI (n + 1))) := by
  obtain ⟨v1, v3, v4, v5, v6, v7, v8, v9, v10, v11⟩ := I
  have e9 : ∀ t, gw_up (gw_up μ 10 (6 * s + n) (nI c)) 9 s (nI (n + 1)) 9 t = if t = s then nI (n + 1) else μ 9 t := fun t => by
    by_cases e : t = s
    · subst e; rw [gw_up_s, if_pos rfl]
    · rw [gw_up_n (by omega), gw_up_n (by omega), if_neg e]
  have e10 : ∀ t i, t < sm → i < 6 → gw_up (gw_up μ 10 (6 * s + n) (nI c)) 9 s (nI (n + 1)) 10 (6 * t + i) = if t = s ∧ i = n then nI c else μ 10 (6 * t + i) := fun t i ht hi => by
    by_cases e : t = s ∧ i = n
    · obtain ⟨rfl, rfl⟩ := e; rw [gw_up_n (by omega), gw_up_s, if_pos ⟨rfl, rfl⟩]
    · rw [gw_up_n (by omega), gw_up_n (by omega), if_neg e]
  refine ⟨v1, v3, fun t ht => ⟨(v4 t ht).1, (v4 t ht).2.1, ?_, (v4 t ht).2.2.2⟩, fun t i ht hi => ?_, fun t i j ht hi hj e => ?_, v7, v8, v9, v10, v11⟩
  · rw [e9]
    by_cases e : t = s
    · rw [if_pos e]; exact lt_mk (by omega)
    · rw [if_neg e]; exact (v4 t ht).2.2.1
  · rw [e9] at hi
    show lt_ (gw_up (gw_up μ 10 (6 * s + n) (nI c)) 9 s (nI (n + 1)) 10 (6 * t + i)) cm ∧ bt (μ 8 t) (nn (gw_up (gw_up μ 10 (6 * s + n) (nI c)) 9 s (nI (n + 1)) 10 (6 * t + i))) = false
    by_cases e : t = s
    · subst e
      rw [if_pos rfl, n_cl] at hi
      rw [e10 t i ht (by omega)]
      by_cases e2 : i = n
      · rw [if_pos ⟨rfl, e2⟩, n_cl]
        exact ⟨lt_mk hc, by simpa using hb2⟩
      · rw [if_neg (fun h => e2 h.2)]
        exact v5 t i ht (by omega)
    · rw [if_neg e] at hi
      have := (v4 t ht).2.2.1.2
      rw [e10 t i ht (by omega), if_neg (fun h => e h.1)]
      exact v5 t i ht hi
  · rw [e9] at hi hj
    by_cases e0 : t = s
    · subst e0
      rw [if_pos rfl, n_cl] at hi hj
      rw [e10 t i ht (by omega), e10 t j ht (by omega)] at e
      by_cases e1 : i = n
      · by_cases e2 : j = n
        · omega
        · rw [if_pos ⟨rfl, e1⟩, if_neg (fun h => e2 h.2)] at e
          exact absurd e.symm (f2 j (by omega))
      · by_cases e2 : j = n
        · rw [if_neg (fun h => e1 h.2), if_pos ⟨rfl, e2⟩] at e
          exact absurd e (f2 i (by omega))
        · rw [if_neg (fun h => e1 h.2), if_neg (fun h => e2 h.2)] at e
          exact v6 t i j ht (by omega) (by omega) e
    · rw [if_neg e0] at hi hj
      have := (v4 t ht).2.2.1.2
      rw [e10 t i ht (by omega), e10 t j ht (by omega), if_neg (fun h => e0 h.1), if_neg (fun h => e0 h.1)] at e
      exact v6 t i j ht hi hj e
theorem go_wish (hj : j < 500) (h : St j cm sm td τ μ β o) {s c : Nat} (hs : s < sm) (hc : c < cm) : Go j cm sm τ β o 3 (nI s) (nI c) d := by
  obtain ⟨h7, -, hd, R, I, F, S, B⟩ := id h
  have hB := B.1
  have h20 := R.1
  obtain ⟨n, hn, en, en2⟩ := lt_of (I.2.2.1 s hs).2.2.1
  have hgl : gw_len (60 + s + 36) = 6 := by unfold gw_len; rw [if_pos (by omega)]
  have hw := k_wish B I hs hc
  rw [en2, en] at hw
  have hD : f_L_does τ 3 (nI s) (nI c) d = if bt (μ 7 s) c = true then some (-13, τ) else if bt (μ 8 s) c = true then some (-13, τ) else if fnd (fun i => μ 10 (6 * s + i)) n (nI c) = -1 then (if nI n < (6 : Int32) then (f_X1_add τ (60 + s) (nI c)).bind (fun r9 => some (r9 (60 + s) 1 - (1 : Int32), r9)) else some (-13, τ)) else some (-13, τ) := by
    rw [dz3]
    unfold f_X3_wish
    rw [s_at R hs, bs, gx_l, c_at R hc, bs, gx_l, r_ci R hc, r_pas R hs, r_tak R hs, show 24 + s + 36 = 60 + s from by omega, c_isIn (by omega), bd, c_isIn (by omega), bd, c_place (f := fun i => μ 10 (6 * s + i)) (nI c) ((r_wic R hs).trans en) (by rw [hgl]; omega) (fun i hi => by rw [show 60 + s + 36 = 96 + s from by omega, r_wis R (by omega) (by omega)]), bs, c_size, bs, r_wic R hs, en]
    split
    · rfl
    · split
      · rfl
      · split
        · split
          · cases f_X1_add τ (60 + s) (nI c) <;> rfl
          · rfl
        · rfl
  have hK : f_L_books β o 3 (nI s) (nI c) d = if bt (μ 7 s ||| μ 8 s) c = true then some (-13, β, o) else if 0 ≤ fnd (fun i => μ 10 (6 * s + i)) n (nI c) then some (-13, β, o) else if nI n = (6 : Int32) then some (-13, β, o) else some (nI n, gw_up β 1 (8 * s + 4) (β 1 (8 * s + 4) ||| ((nI c + (1 : Int32)) <<< (((4 : Int32) * nI n) &&& 31))), o) := by
    show (f_L_wishes β o (nI s) (nI c)).bind _ = _
    unfold f_L_wishes
    simp (disch := omega) only [x8, x8_2, x8_3, x8_4, rd1, cln]
    rw [hw.2, bs, e_s2 B hs, e_s3 B hs, k_has (by omega), bd, hw.1, bs]
    split
    · rfl
    · split
      · rfl
      · split <;> rfl
  rw [b_or] at hK
  by_cases hb : bt (μ 7 s) c = true
  · rw [if_pos hb] at hD
    rw [hb, if_pos (by rfl)] at hK
    exact go_no hj h hK hD
  rw [if_neg hb] at hD
  by_cases hb2 : bt (μ 8 s) c = true
  · rw [if_pos hb2] at hD
    rw [hb2, if_pos (by rw [Bool.or_true])] at hK
    exact go_no hj h hK hD
  rw [if_neg hb2] at hD
  rw [if_neg (show ¬ (bt (μ 7 s) c || bt (μ 8 s) c) = true by simp [hb, hb2])] at hK
  rcases fnd_c (f := fun i => μ 10 (6 * s + i)) (n := n) (x := nI c) (by omega) with ⟨f1, f2⟩ | ⟨p, hp, f1, f2, f3⟩
  · rw [f1, if_pos rfl] at hD
    rw [f1, if_neg (by decide)] at hK
    by_cases h6 : n = 6
    · subst h6
      rw [if_neg (show ¬ nI 6 < (6 : Int32) by decide)] at hD
      rw [if_pos (show nI 6 = (6 : Int32) by decide)] at hK
      exact go_no hj h hK hD
    · have hadd : f_X1_add τ (60 + s) (nI c) = some (gw_up (gw_up τ (96 + s) n (nI c)) (60 + s) 1 (nI (n + 1))) := by
        unfold f_X1_add
        rw [hgl, r_wic R hs, en, if_neg (show ¬ Int32.ofNat 6 ≤ nI n from n_lt (n := 6) (by omega) (by decide)), if_pos (ib_ok (by omega)), nI_clamp (by omega), nI_1, show 60 + s + 36 = 96 + s from by omega]
      have h15 : ∀ i, i < n → nn (μ 10 (6 * s + i)) < 15 := fun i hi => w_lt B I hs i (by omega)
      rw [if_pos (show nI n < (6 : Int32) from nI_lt (b := 6) (by omega) (by decide)), hadd, bs, gw_up_s, nI_pred] at hD
      rw [if_neg (show ¬ nI n = 6 from fun e => h6 (nI_inj (b := 6) e)), e_s4 B hs, en2, k_addI h15 (by omega) (by omega)] at hK
      refine go_rd hj (by omega) (td := td) (μ' := gw_up (gw_up μ 10 (6 * s + n) (nI c)) 9 s (nI (n + 1))) hd (Rl_uwic (Rl_uwis R _ (by omega) (by omega)) _ hs) (Iv_wish I hs (by omega) hc en en2 (by omega) h20.1 f2 (by simpa using hb2)) (Fr_rows (μ := μ) F rfl rfl rfl) (Sb_rows (μ := μ) S rfl rfl rfl rfl rfl rfl rfl rfl rfl rfl) ?_ hK hD
      obtain ⟨b0, b1, b2, b3, b4, b5, b6, b7, b8, b9, b10⟩ := B
      refine ⟨b0, b1, fun c' j hc' hj => ?_, b3, b4, b5, b6, fun t j ht hj => ?_, fun t ht => ?_, fun t ht => ?_, fun t j h1 h2 hj => ?_⟩
      · rw [gw_up_n (k' := j + 1) (by omega), gw_up_n (k' := j + 1) (by omega)]; exact b2 c' j hc' hj
      · rw [gw_up_n (by omega), gw_up_n (k' := j + 5) (by omega), gw_up_n (k' := j + 5) (by omega)]; exact b7 t j ht hj
      · by_cases e : t = s
        · subst e
          rw [gw_up_s, gw_up_s, n_cl (by omega)]
          refine congrArg nI (pl_cong (fun i hi => ?_))
          by_cases e2 : i = n
          · subst e2; rw [if_pos rfl, gw_up_n (by omega), gw_up_s, n_cl (by omega)]
          · rw [if_neg e2, gw_up_n (by omega), gw_up_n (by omega)]
        · rw [gw_up_n (by omega), gw_up_n (k' := 9) (by omega), gw_up_n (k' := 9) (by omega), b8 t ht]
          refine congrArg nI (pl_cong (fun i hi => ?_))
          have h9 := (I.2.2.1 t ht).2.2.1.2
          rw [gw_up_n (by omega), gw_up_n (by omega)]
      · exact ⟨(gw_up_n (by omega)).trans (b9 t ht).1, (gw_up_n (by omega)).trans (b9 t ht).2⟩
      · rw [gw_up_n (by omega)]; exact b10 t j h1 h2 hj
  · rw [f1, if_neg (ne_m1 (by omega))] at hD
    rw [f1, if_pos (nI_pos' (by omega))] at hK
    exact go_no hj h hK hD
end be
