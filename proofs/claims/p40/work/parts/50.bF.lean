section bf
variable {j cm sm td : Nat} {τ μ β : gw_S} {o : Nat → Int64} {k a b d : Int32}
theorem Fr_ena {μ2 : gw_S} {c s : Nat} (F : Fr cm sm μ) (I : Iv cm sm td μ) (hc : c < cm) (hc20 : cm ≤ 20) (hs : s < sm) (E2 : Ena cm sm μ μ2 c s) (hn : bt (μ 8 s) c = false) (h : ¬ fr μ sm c ≤ 0 ∨ ¬ μ 15 (16 * c + s) = -1) : Fr cm sm μ2 := by
  intro c' hc'
  rw [ena_enr (by omega) hs E2 hn c' (by omega), E2.1 1 (by omega) (by omega) (by omega) (by omega) (by omega) (by omega)]
  have h1 := ofc_off (cm := cm) (μ := μ) hc hs E2.2.2.1 hc'
  have h2 := F c' hc'
  by_cases e : c' = c
  · subst e
    rw [if_pos rfl] at h1 ⊢
    rcases h with h | h
    · have := Nat.lt_of_not_le (fun h' => h ((fr_le I F hc').mpr h'))
      omega
    · have : b1 (decide (¬ μ 15 (16 * c' + s) = -1)) = 1 := by rw [decide_eq_true h]; rfl
      omega
  · rw [if_neg e] at h1 ⊢; omega
theorem Bk_join (B : Bk cm sm td μ β o) (I : Iv cm sm td μ) {c s n : Nat} (hc : c < cm) (hs : s < sm) (en : nn (μ 13 c) = n) (hn : n < 8) : Bk cm sm td (gw_up (gw_up μ 14 (16 * c + n) (nI s)) 13 c (nI (n + 1))) β (vp_updL o c (lN (pl (fun i => if i = n then s else nn (μ 14 (16 * c + i))) (n + 1)))) := by
  have hd := B.1
  obtain ⟨b0, b1, b2, b3, b4, b5, b6, b7, b8, b9, b10⟩ := B
  refine ⟨b0, b1, fun c' j hc' hj => (b2 c' j hc' hj).trans ?_, b3, b4, fun c' hc' => ?_, fun c' h1 h2 => ⟨(b6 c' h1 h2).1, ?_⟩, fun t j ht hj => (b7 t j ht hj).trans ?_, b8, b9, b10⟩
  · rw [gw_up_n (by omega), gw_up_n (by omega)]
  · by_cases e : c' = c
    · subst e
      rw [pk_uLs, gw_up_s, n_cl (by omega)]
      refine congrArg lN (pl_cong (fun i hi => ?_))
      by_cases e2 : i = n
      · subst e2; rw [if_pos rfl, gw_up_n (by omega), gw_up_s, n_cl (by omega)]
      · rw [if_neg e2, gw_up_n (by omega), gw_up_n (by omega)]
    · rw [pk_uLn e, gw_up_n (k' := 13) (by omega), gw_up_n (k' := 13) (by omega), b5 c' hc']
      refine congrArg lN (pl_cong (fun i hi => ?_))
      have h9 := (I.2.1 c' hc').2.2.1.2
      rw [gw_up_n (by omega), gw_up_n (by omega)]
  · rw [pk_uLn (by omega)]; exact (b6 c' h1 h2).2
  · rw [gw_up_n (by omega), gw_up_n (by omega)]
theorem go_request (hj : j < 500) (h : St j cm sm td τ μ β o) {s c : Nat} (hs : s < sm) (hc : c < cm) : Go j cm sm τ β o 5 (nI s) (nI c) d := by
  obtain ⟨h7, -, hd, R, I, F, S, B⟩ := id h
  have hB := B.1
  have h20 := R.1
  obtain ⟨n, hn, en, en2⟩ := lt_of (I.2.1 c hc).2.2.1
  have hgl : gw_len (40 + c + 36) = 16 := by unfold gw_len; rw [if_neg (by omega)]
  have hw := k_wait B I hc hs
  rw [en2, en] at hw
  obtain ⟨v, o0, o1, -, o3⟩ := k_ob R I B hs hc (μ 8 s) (I.2.2.1 s hs).2.2.2.2
  have oc := obs_c o1
  have hX : f_X3_request τ (nI s) (nI c) = if fnd (fun i => μ 14 (16 * c + i)) n (nI s) = -1 then (if v = 0 then (if fr μ sm c ≤ 0 then ((f_X1_add τ (40 + c) (nI s)).bind fun r8 => (f_X1_size r8 (40 + c)).bind fun r9 => (f_X3_makeOffers r8).bind fun r10 => some (.inl r9, r10)) else ((f_X3_enrol τ (24 + s) (4 + c)).bind fun r11 => (f_X3_makeOffers r11).bind fun r12 => some (.inl (0 : Int32), r12))) else some (.inr "java/lang/IllegalStateException", τ)) else some (.inr "java/lang/IllegalStateException", τ) := by
    unfold f_X3_request
    rw [s_at R hs, bs, gx_l, c_at R hc, bs, gx_l, show 4 + c + 36 = 40 + c from by omega, c_place (f := fun i => μ 14 (16 * c + i)) (nI s) ((r_wct R hc).trans en) (by rw [hgl]; omega) (fun i hi => by rw [show 40 + c + 36 = 76 + c from by omega, r_wai R (by omega) (by omega)]), bs, r_tak R hs, o1, bs, c_fr R hc, bs]
  have hK : f_L_asks β o (nI s) (nI c) = if 0 < v then some (-13, β, o) else if fnd (fun i => μ 14 (16 * c + i)) n (nI s) < 0 then (if fr μ sm c ≤ 0 then ((f_L_length ((vp_updL o c ((o c) ||| ((lN s + (1 : Int64)) <<< (((4 : Int32) * nI n).toInt64 &&& 63)))) c)).bind fun r11 => some (r11, β, vp_updL o c ((o c) ||| ((lN s + (1 : Int64)) <<< (((4 : Int32) * nI n).toInt64 &&& 63))))) else ((f_L_enrols β o (nI s) (nI c)).bind fun r12 => some ((0 : Int32), r12.1, r12.2))) else some (-13, β, o) := by
    unfold f_L_asks
    simp (disch := omega) only [x8, x8_3, rd1, cln, rdq]
    rw [e_s3 B hs, o0, bs, hw.1, bs, k_free B hc, bs, hw.2, bs, nI_l (by omega)]
  rcases oc with ⟨v0, v1, -⟩ | ⟨v0, v1, -⟩
  · rw [if_pos v0] at hX
    rw [if_neg v1] at hK
    rcases fnd_c (f := fun i => μ 14 (16 * c + i)) (n := n) (x := nI s) (by omega) with ⟨f1, f2⟩ | ⟨p, hp, f1, f2, f3⟩
    · rw [f1, if_pos (show (-1 : Int32) = -1 from rfl)] at hX
      rw [f1, if_pos (show (-1 : Int32) < 0 by decide)] at hK
      by_cases hf : fr μ sm c ≤ 0
      · rw [if_pos hf] at hX hK
        have hn1 := list_room I hc hs en2 f2
        have h15 : ∀ i, i < n → nn (μ 14 (16 * c + i)) < 15 := fun i hi => q_lt B I hc i (by omega)
        have hadd : f_X1_add τ (40 + c) (nI s) = some (gw_up (gw_up τ (76 + c) n (nI s)) (40 + c) 1 (nI (n + 1))) := by
          unfold f_X1_add
          rw [hgl, r_wct R hc, en, if_neg (show ¬ Int32.ofNat 16 ≤ nI n from n_lt (n := 16) (by omega) (by decide)), if_pos (ib_ok (by omega)), nI_clamp (by omega), nI_1, show 40 + c + 36 = 76 + c from by omega]
        have e1 : (o c) ||| ((lN s + (1 : Int64)) <<< (((4 : Int32) * nI n).toInt64 &&& 63)) = lN (pl (fun i => if i = n then s else nn (μ 14 (16 * c + i))) (n + 1)) := by
          rw [e_q B hc, en2]; exact k_add h15 (by omega) (by omega)
        rw [e1, pk_uLs, k_len (fun i hi => by
          show (if i = n then s else nn (μ 14 (16 * c + i))) < 15
          by_cases e : i = n
          · rw [if_pos e]; omega
          · rw [if_neg e]; exact h15 i (by omega)) (by omega), bs] at hK
        rw [hadd, bs, c_size, bs, gw_up_s] at hX
        refine go_of hj (by omega) (td := td) (μ1 := gw_up (gw_up μ 14 (16 * c + n) (nI s)) 13 c (nI (n + 1))) (τ1 := gw_up (gw_up τ (76 + c) n (nI s)) (40 + c) 1 (nI (n + 1))) hd (Rl_uwct (Rl_uwai R (nI s) (c := c) (i := n) (by omega) (by omega)) (nI (n + 1)) hc) (Iv_add h20.2 I hs en (by omega) f2) (Fr_rows (μ := μ) F rfl rfl rfl) (Bk_join B I hc hs en2 (by omega)) (v := nI (n + 1)) ?_ (fun τ' μ' m1 R' rw' => ?_)
        · rw [bz5, hK]; rfl
        · rw [dz5, hX, m1]; rfl
      · rw [if_neg hf] at hX hK
        obtain ⟨τ2, μ2, β2, o2, b1, b2, R2, I2, E2, S2, b3, B2⟩ := k_en R I B hc hs
        have hnb := o3.mp v0
        have F2 := Fr_ena F I hc h20.1 hs E2 hnb.2.1 (Or.inl hf)
        refine go_of hj (by omega) (td := td) (by rw [E2.1 0 (by omega) (by omega) (by omega) (by omega) (by omega) (by omega)]; exact hd) R2 I2 F2 B2 (v := 0) ?_ (fun τ' μ' m1 R' rw' => ?_)
        · rw [bz5, hK, b3]; rfl
        · rw [dz5, hX, b1, bs, m1]; rfl
    · rw [f1, if_neg (ne_m1 (show p < 2 ^ 30 by omega))] at hX
      rw [f1, if_neg (show ¬ nI p < 0 from nI_pos (by omega))] at hK
      exact go_no hj h (by rw [bz5, hK]; rfl) (by rw [dz5, hX, bs, cx_r])
  · rw [if_neg v0, ite_self] at hX
    rw [if_pos v1] at hK
    exact go_no hj h (by rw [bz5, hK]; rfl) (by rw [dz5, hX, bs, cx_r])
theorem go_drop (hj : j < 500) (h : St j cm sm td τ μ β o) {s c : Nat} (hs : s < sm) (hc : c < cm) : Go j cm sm τ β o 6 (nI s) (nI c) d := by
  obtain ⟨h7, -, hd, R, I, F, S, B⟩ := id h
  have hB := B.1
  have h20 := R.1
  have hX : f_X3_drop τ (nI s) (nI c) = if bt (μ 8 s) c = true then ((f_X3_endEnrolment τ (24 + s) (4 + c)).bind fun r6 => (f_X3_makeOffers r6).bind fun r7 => (f_X3_creditsOf r7 (r7 (24 + s) 5)).bind fun r8 => some (.inl r8, r7)) else some (.inr "java/lang/IllegalStateException", τ) := by
    unfold f_X3_drop
    rw [s_at R hs, bs, gx_l, c_at R hc, bs, gx_l, r_tak R hs, c_isIn (by omega), bd]
  have hK : f_L_drops β o (nI s) (nI c) = if bt (μ 8 s) c = true then ((f_L_gives β o (nI s) (nI c)).bind fun r3 => (f_L_worth r3.1 r3.2 (r3.1 1 (8 * s + 3))).bind fun r5 => some (r5, r3.1, r3.2)) else some (-13, β, o) := by
    unfold f_L_drops
    simp (disch := omega) only [x8, x8_3, rd1, cln]
    rw [e_s3 B hs, k_has (by omega), bd]
  by_cases hb : bt (μ 8 s) c = true
  · rw [if_pos hb] at hX hK
    obtain ⟨τ2, μ2, β2, b1, b2, R2, I2, E2, S2, b3, B2⟩ := k_gi R I B hc hs
    have F2 : Fr cm sm μ2 := by
      intro c' hc'
      have h1 := gva_enr (by omega) hs E2 hb c' (by omega)
      have h2 := F c' hc'
      rw [ofc_same (μ := μ) (fun t ht => by rw [E2.1 15 (by omega) (by omega)]), E2.1 1 (by omega) (by omega)]
      omega
    refine go_of hj (by omega) (td := td) (by rw [E2.1 0 (by omega) (by omega)]; exact hd) R2 I2 F2 B2 (v := wsum μ2 (μ2 8 s) cm) ?_ (fun τ' μ' m1 R' rw' => ?_)
    · rw [bz6, hK, b3, bs]; dsimp only; rw [e_s3 B2 hs, k_worth B2 _ (I2.2.2.1 s hs).2.2.2.2]; rfl
    · rw [dz6, hX, b1, bs, m1, bs, r_tak R' hs, c_cre R', rw' 8 (by omega), wsum_sim (rw' 2 (by omega))]; rfl
  · rw [if_neg hb] at hX hK
    exact go_no hj h (by rw [bz6, hK]; rfl) (by rw [dz6, hX, bs, cx_r])
theorem go_accept (hj : j < 500) (h : St j cm sm td τ μ β o) {s c : Nat} (hs : s < sm) (hc : c < cm) : Go j cm sm τ β o 8 (nI s) (nI c) d := by
  obtain ⟨h7, -, hd, R, I, F, S, B⟩ := id h
  have hB := B.1
  have h20 := R.1
  obtain ⟨v, o0, o1, -, o3⟩ := k_ob R I B hs hc (μ 8 s) (I.2.2.1 s hs).2.2.2.2
  have oc := obs_c o1
  have hX : f_X3_accept τ (nI s) (nI c) = if decide (¬ μ 15 (16 * c + s) = -1) = true then (if v = 0 then ((f_X3_enrol τ (24 + s) (4 + c)).bind fun r7 => (f_X3_makeOffers r7).bind fun r8 => (f_X3_creditsOf r8 (r8 (24 + s) 5)).bind fun r9 => some (.inl r9, r8)) else some (.inr "java/lang/IllegalStateException", τ)) else some (.inr "java/lang/IllegalStateException", τ) := by
    unfold f_X3_accept
    rw [s_at R hs, bs, gx_l, c_at R hc, bs, gx_l, c_hasOff R hc hs, bd, r_tak R hs, o1, bs]
  have hK : f_L_accepts β o (nI s) (nI c) = if decide (¬ μ 15 (16 * c + s) = -1) = true then (if v ≤ 0 then ((f_L_enrols β o (nI s) (nI c)).bind fun r5 => (f_L_worth r5.1 r5.2 (r5.1 1 (8 * s + 3))).bind fun r7 => some (r7, r5.1, r5.2)) else some (-13, β, o)) else some (-13, β, o) := by
    unfold f_L_accepts
    simp (disch := omega) only [x8, x8_3, rd1, cln]
    rw [k_offers (by omega), bs, k_hasOff B hc hs, bd, e_s3 B hs, o0, bs]
  by_cases hb : decide (¬ μ 15 (16 * c + s) = -1) = true
  · rw [if_pos hb] at hX hK
    rcases oc with ⟨v0, -, v1⟩ | ⟨v0, -, v1⟩
    · rw [if_pos v0] at hX
      rw [if_pos v1] at hK
      obtain ⟨τ2, μ2, β2, o2, b1, b2, R2, I2, E2, S2, b3, B2⟩ := k_en R I B hc hs
      have hnb := o3.mp v0
      have F2 := Fr_ena F I hc h20.1 hs E2 hnb.2.1 (Or.inr (by simpa using hb))
      refine go_of hj (by omega) (td := td) (by rw [E2.1 0 (by omega) (by omega) (by omega) (by omega) (by omega) (by omega)]; exact hd) R2 I2 F2 B2 (v := wsum μ2 (μ2 8 s) cm) ?_ (fun τ' μ' m1 R' rw' => ?_)
      · rw [bz8, hK, b3, bs]; dsimp only; rw [e_s3 B2 hs, k_worth B2 _ (I2.2.2.1 s hs).2.2.2.2]; rfl
      · rw [dz8, hX, b1, bs, m1, bs, r_tak R' hs, c_cre R', rw' 8 (by omega), wsum_sim (rw' 2 (by omega))]; rfl
    · rw [if_neg v0] at hX
      rw [if_neg v1] at hK
      exact go_no hj h (by rw [bz8, hK]; rfl) (by rw [dz8, hX, bs, cx_r])
  · rw [if_neg hb] at hX hK
    exact go_no hj h (by rw [bz8, hK]; rfl) (by rw [dz8, hX, bs, cx_r])
theorem go_leave (hj : j < 500) (h : St j cm sm td τ μ β o) {s c : Nat} (hs : s < sm) (hc : c < cm) : Go j cm sm τ β o 9 (nI s) (nI c) d := by
  obtain ⟨h7, -, hd, R, I, F, S, B⟩ := id h
  have hB := B.1
  have h20 := R.1
  obtain ⟨n, hn, en, en2⟩ := lt_of (I.2.1 c hc).2.2.1
  have hgl : gw_len (40 + c + 36) = 16 := by unfold gw_len; rw [if_neg (by omega)]
  have hw := k_wait B I hc hs
  rw [en2] at hw
  obtain ⟨τ2, μ2, β2, o2, b1, b2, R2, I2, L2, S2, b3, B2⟩ := k_le R I B hc hs
  have hX : f_X3_leave τ (nI s) (nI c) = if fnd (fun i => μ 14 (16 * c + i)) n (nI s) = -1 then some (.inr "java/lang/IllegalStateException", τ) else ((f_X3_makeOffers τ2).bind fun r8 => some (.inl (if decide (¬ μ 15 (16 * c + s) = -1) = true then 1 else 0), r8)) := by
    unfold f_X3_leave
    rw [s_at R hs, bs, gx_l, c_at R hc, bs, gx_l, r_si R hs, show 4 + c + 36 = 40 + c from by omega, c_place (f := fun i => μ 14 (16 * c + i)) (nI s) ((r_wct R hc).trans en) (by rw [hgl]; omega) (fun i hi => by rw [show 40 + c + 36 = 76 + c from by omega, r_wai R (by omega) (by omega)]), bs, c_hasOff R hc hs, bs, b1, bs]
  have hK : f_L_books β o 9 (nI s) (nI c) d = if 0 ≤ fnd (fun i => μ 14 (16 * c + i)) n (nI s) then (if decide (¬ μ 15 (16 * c + s) = -1) = true then some ((1 : Int32), β2, o2) else some ((0 : Int32), β2, o2)) else some (-13, β, o) := by
    show (if gw_ib (nI c) 8 = true then _ else none) = _
    simp (disch := omega) only [rdq, cln]
    rw [hw.1, bs, k_offers (by omega), bs, k_hasOff B hc hs, bd, b3, bs, bs]
  rcases fnd_c (f := fun i => μ 14 (16 * c + i)) (n := n) (x := nI s) (by omega) with ⟨f1, f2⟩ | ⟨p, hp, f1, f2, f3⟩
  · rw [f1, if_pos rfl] at hX
    rw [f1, if_neg (by decide)] at hK
    exact go_no hj h hK (by rw [dz9, hX]; exact cx_r τ)
  · rw [f1, if_neg (ne_m1 (show p < 2 ^ 30 by omega))] at hX
    rw [f1, if_pos (show (0 : Int32) ≤ nI p from nI_pos' (by omega))] at hK
    refine go_of hj (by omega) (td := td) (by rw [L2.1 0 (by omega) (by omega) (by omega)]; exact hd) R2 I2 (Fr_lva F hc hs L2) B2 (v := if decide (¬ μ 15 (16 * c + s) = -1) = true then 1 else 0) ?_ (fun τ' μ' m1 R' rw' => ?_)
    · rw [hK]
      cases decide (¬ μ 15 (16 * c + s) = -1) <;> rfl
    · rw [dz9, hX, m1, bs, bs]
      cases decide (¬ μ 15 (16 * c + s) = -1) <;> rfl
theorem go_change (hj : j < 500) (h : St j cm sm td τ μ β o) {s c e : Nat} (hs : s < sm) (hc : c < cm) (he : e < cm) : Go j cm sm τ β o 7 (nI s) (nI c) (nI e) := by
  obtain ⟨h7, -, hd, R, I, F, S, B⟩ := id h
  have hB := B.1
  have h20 := R.1
  obtain ⟨v, o0, o1, -, o3⟩ := k_ob R I B hs he (μ 8 s &&& (((1 : Int32) <<< (nI c &&& 31)) ^^^ (-1 : Int32))) (fun k hk => (I.2.2.1 s hs).2.2.2.2 k (by
    rw [bt_nbit (by omega) (bt_lt hk), Bool.and_eq_true] at hk
    exact hk.1))
  have oc := obs_c o1
  have hX : f_X3_change τ (nI s) (nI c) (nI e) = if bt (μ 8 s) c = true then (if nI c = nI e then some (.inr "java/lang/IllegalStateException", τ) else if v = 0 then (if 0 < fr μ sm e then ((f_X3_endEnrolment τ (24 + s) (4 + c)).bind fun r11 => (f_X3_enrol r11 (24 + s) (4 + e)).bind fun r12 => (f_X3_makeOffers r12).bind fun r13 => (f_X3_creditsOf r13 (r13 (24 + s) 5)).bind fun r14 => some (.inl r14, r13)) else some (.inr "java/lang/IllegalStateException", τ)) else some (.inr "java/lang/IllegalStateException", τ)) else some (.inr "java/lang/IllegalStateException", τ) := by
    unfold f_X3_change
    rw [s_at R hs, bs, gx_l, c_at R hc, bs, gx_l, c_at R he, bs, gx_l, r_tak R hs, c_isIn (by omega), bd, f_X3_bit, bs, o1, bs, c_fr R he, bs]
  have hK : f_L_changes β o (nI s) (nI c) (nI e) = if bt (μ 8 s) c = true then (if nI c = nI e then some (-13, β, o) else if 0 < v then some (-13, β, o) else if fr μ sm e = 0 then some (-13, β, o) else ((f_L_gives β o (nI s) (nI c)).bind fun r6 => (f_L_enrols r6.1 r6.2 (nI s) (nI e)).bind fun r7 => (f_L_worth r7.1 r7.2 (r7.1 1 (8 * s + 3))).bind fun r9 => some (r9, r7.1, r7.2))) else some (-13, β, o) := by
    unfold f_L_changes
    simp (disch := omega) only [x8, x8_3, rd1, cln]
    rw [e_s3 B hs, k_has (by omega), bd, o0, bs, k_free B he, bs]
  by_cases hb : bt (μ 8 s) c = true
  · rw [if_pos hb] at hX hK
    by_cases hce : nI c = nI e
    · rw [if_pos hce] at hX hK
      exact go_no hj h (by rw [bz7, hK]; rfl) (by rw [dz7, hX, bs, cx_r])
    · rw [if_neg hce] at hX hK
      have hce' : c ≠ e := fun e => hce (by rw [e])
      rcases oc with ⟨v0, v1, -⟩ | ⟨v0, v1, -⟩
      · rw [if_pos v0] at hX
        rw [if_neg v1] at hK
        obtain ⟨n, hn1, hn2, hn3⟩ := fr_v I F he
        by_cases h0 : n = 0
        · subst h0
          rw [hn3, if_neg (show ¬ (0 : Int32) < nI 0 by decide)] at hX
          rw [hn3, if_pos (show nI 0 = (0 : Int32) from rfl)] at hK
          exact go_no hj h (by rw [bz7, hK]; rfl) (by rw [dz7, hX, bs, cx_r])
        · rw [hn3, if_pos (show (0 : Int32) < nI n from nI_lt (a := 0) (by omega) (by omega))] at hX
          rw [hn3, if_neg (show ¬ nI n = (0 : Int32) from nI_ne0 (by omega) (by omega))] at hK
          obtain ⟨τ2, μ2, β2, b1, b2, R2, I2, E2, S2, b3, B2⟩ := k_gi R I B hc hs
          obtain ⟨τ3, μ3, β3, o3', d1, d2, R3, I3, E3, S3, d3, B3⟩ := k_en R2 I2 B2 he hs
          have hnb := o3.mp v0
          have h8 : bt (μ2 8 s) e = false := by rw [E2.2.1 s, if_pos rfl]; exact hnb.2.1
          have F3 : Fr cm sm μ3 := by
            intro c' hc'
            have g1 := gva_enr (by omega) hs E2 hb c' (by omega)
            have g2 := ofc_off (cm := cm) (μ := μ2) he hs E3.2.2.1 hc'
            have g3 : ofc μ2 sm c' = ofc μ sm c' := ofc_same (fun t ht => by rw [E2.1 15 (by omega) (by omega)])
            rw [ena_enr (by omega) hs E3 h8 c' (by omega), E3.1 1 (by omega) (by omega) (by omega) (by omega) (by omega) (by omega), E2.1 1 (by omega) (by omega)]
            have h2 := F c' hc'
            by_cases e' : c' = e
            · subst e'
              rw [if_pos rfl] at g2 ⊢
              rw [if_neg (Ne.symm hce')] at g1
              omega
            · rw [if_neg e'] at g2 ⊢; omega
          refine go_of hj (by omega) (td := td) (by rw [E3.1 0 (by omega) (by omega) (by omega) (by omega) (by omega) (by omega), E2.1 0 (by omega) (by omega)]; exact hd) R3 I3 F3 B3 (v := wsum μ3 (μ3 8 s) cm) ?_ (fun τ' μ' m1 R' rw' => ?_)
          · rw [bz7, hK, b3, bs, d3, bs]; dsimp only; rw [e_s3 B3 hs, k_worth B3 _ (I3.2.2.1 s hs).2.2.2.2]; rfl
          · rw [dz7, hX, b1, bs, d1, bs, m1, bs, r_tak R' hs, c_cre R', rw' 8 (by omega), wsum_sim (rw' 2 (by omega))]; rfl
      · rw [if_neg v0] at hX
        rw [if_pos v1] at hK
        exact go_no hj h (by rw [bz7, hK]; rfl) (by rw [dz7, hX, bs, cx_r])
  · rw [if_neg hb] at hX hK
    exact go_no hj h (by rw [bz7, hK]; rfl) (by rw [dz7, hX, bs, cx_r])
theorem go_setSeats (hj : j < 500) (h : St j cm sm td τ μ β o) {c k : Nat} (hc : c < cm) (hk : k ≤ 16) : Go j cm sm τ β o 0 (nI c) (nI k) d := by
  obtain ⟨h7, -, hd, R, I, F, S, B⟩ := id h
  have hB := B.1
  have h20 := R.1
  have hle := fb_ct_le (fun s => bt (μ 8 s) c) sm
  have hle2 := fb_ct_le (fun s => decide (¬ μ 15 (16 * c + s) = -1)) sm
  have hX : f_X3_setSeats τ (nI c) (nI k) = if nI (enr μ sm c + ofc μ sm c) ≤ nI k then ((f_X3_makeOffers (gw_up τ (4 + c) 3 (nI k))).bind fun r5 => some (.inl (μ 1 c), r5)) else some (.inr "java/lang/IllegalStateException", τ) := by
    unfold f_X3_setSeats f_X3_isOutside f_X3_takenSeats
    rw [c_at R hc, bs, gx_l, if_neg (nI_pos (by omega)), if_pos (show nI k ≤ (16 : Int32) from nI_le (b := 16) hk (by decide)), bs, if_pos rfl, c_enr R hc, bs, c_ofc R hc, bs, bs, nI_add, r_sea R hc]
  have hK : f_L_books β o 0 (nI c) (nI k) d = if nI (enr μ sm c + ofc μ sm c) ≤ nI k then some (μ 1 c, gw_up β 0 (8 * c) (nI k), o) else some (-13, β, o) := by
    show (if gw_ib ((8 : Int32) * nI c) (gw_ml 0) = true then _ else none) = _
    simp (disch := omega) only [x8, rd0, cln]
    rw [k_free B hc, bs, e_c0 B hc]
    unfold fr
    rw [ssx]
  by_cases q3 : nI (enr μ sm c + ofc μ sm c) ≤ nI k
  · rw [if_pos q3] at hX hK
    have q4 : enr μ sm c + ofc μ sm c ≤ k := (nI_leI (by unfold enr ofc; omega) (by omega)).mp q3
    have e1' : ∀ c', gw_up μ 1 c (nI k) 1 c' = if c' = c then nI k else μ 1 c' := fun c' => by
      by_cases e : c' = c
      · subst e; rw [gw_up_s, if_pos rfl]
      · rw [gw_up_n (by omega), if_neg e]
    refine go_of hj (by omega) (td := td) (τ1 := gw_up τ (4 + c) 3 (nI k)) (μ1 := gw_up μ 1 c (nI k)) hd (Rl_uc R (nI k) hc (i := 3) rfl (by omega) (by omega)) ?_ (fun c' h => ?_) ?_ hK (fun τ' μ' m1 R' rw' => by rw [dz0, hX, m1]; rfl)
    · obtain ⟨v1, v3, v4, v5, v6, v7, v8, v9, v10, v11⟩ := I
      refine ⟨v1, fun c' h => ⟨?_, (v3 c' h).2⟩, v4, v5, v6, v7, v8, v9, v10, v11⟩
      rw [e1']
      split
      · exact lt_mk (by omega)
      · exact (v3 c' h).1
    · show enr μ sm c' + ofc μ sm c' ≤ _
      rw [e1']
      by_cases e : c' = c
      · rw [if_pos e, n_cl, e]; exact q4
      · rw [if_neg e]; exact F c' h
    · obtain ⟨b0, b1, b2, b3, b4, b5, b6, b7, b8, b9, b10⟩ := B
      refine ⟨b0, b1, fun c' j hc' hj => ?_, fun c' k hc' hk => ?_, fun c' j k hc' hj => ?_, b5, fun c' h1 h2 => ⟨fun j hj => ?_, (b6 c' h1 h2).2⟩, fun t j ht hj => (b7 t j ht hj).trans (gw_up_n (by omega)).symm, b8, b9, b10⟩
      · by_cases e : c' = c ∧ j = 0
        · obtain ⟨rfl, rfl⟩ := e
          rw [Nat.add_zero, gw_up_s, Nat.zero_add, gw_up_s]
        · rw [gw_up_n (by omega), gw_up_n (by omega)]; exact b2 c' j hc' hj
      · rw [gw_up_n (by omega)]; exact b3 c' k hc' hk
      · rw [gw_up_n (by omega)]; exact b4 c' j k hc' hj
      · rw [gw_up_n (by omega)]; exact (b6 c' h1 h2).1 j hj
  · rw [if_neg q3] at hX hK
    exact go_no hj h hK (by rw [dz0, hX, bs, cx_r])
end bf
