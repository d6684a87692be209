/-! THE BOOK'S WRITERS, side by side with the class's and the reference's -/
section bw
variable {cm sm td tb : Nat} {τ μ β : gw_S} {o : Nat → Int64}
theorem pl_rw {μ μ' : gw_S} {t n : Nat} (h : ∀ i, i < 6 → μ' 10 (6 * t + i) = μ 10 (6 * t + i)) (hn : n ≤ 6) : pl (fun i => nn (μ' 10 (6 * t + i))) n = pl (fun i => nn (μ 10 (6 * t + i))) n := pl_cong (fun i hi => by rw [h i (by omega)])
theorem pl_rq {μ μ' : gw_S} {t n : Nat} (h : ∀ i, i < 16 → μ' 14 (16 * t + i) = μ 14 (16 * t + i)) (hn : n ≤ 16) : pl (fun i => nn (μ' 14 (16 * t + i))) n = pl (fun i => nn (μ 14 (16 * t + i))) n := pl_cong (fun i hi => by rw [h i (by omega)])
theorem pfd_iff {f : Nat → Nat} {n x p : Nat} (hp : p < n) (e : f p = x) (hf : ∀ i, i < p → f i ≠ x) : pfd f n x = p := by
  unfold pfd
  have a1 := fa_first_le (fun i => decide (f i = x)) n
  have a2 := fa_first_no (fun i => decide (f i = x)) n
  have a3 := fa_first_yes (fun i => decide (f i = x)) n
  rcases Nat.lt_trichotomy (fa_first (fun i => decide (f i = x)) n) p with c | c | c
  · have := a3 (by omega)
    exact absurd (by simpa using this) (hf _ c)
  · exact c
  · have := a2 _ c
    exact absurd e (by simpa using this)
theorem pfd_no {f : Nat → Nat} {n x : Nat} (h : ∀ i, i < n → f i ≠ x) : ¬ pfd f n x < n := fun h2 => by
  have a3 := fa_first_yes (fun i => decide (f i = x)) n h2
  exact h _ h2 (by simpa [pfd] using a3)
/-- a wish taken out -/
theorem k_uw (R : Rl cm sm τ μ) (B : Bk cm sm tb μ β o) {c s : Nat} (hs : s < sm) (hc : c < cm) (h7 : ∀ t, t < sm → lt_ (μ 9 t) 7) (hlt : ∀ i, i < nn (μ 9 s) → lt_ (μ 10 (6 * s + i)) cm) (hnd : ∀ i j, i < nn (μ 9 s) → j < nn (μ 9 s) → μ 10 (6 * s + i) = μ 10 (6 * s + j) → i = j) :
    ∃ τ' μ' β', f_X1_remove τ (60 + s) (nI c) = some τ' ∧ f_X4_dropsWish μ (nI s) (nI c) = some μ' ∧ Rl cm sm τ' μ' ∧ Wva sm μ μ' c s ∧ scr τ τ' ∧ f_L_unwishes β o (nI s) (nI c) = some (β', o) ∧ Bk cm sm tb μ' β' o := by
  have hd := B.1
  obtain ⟨τ', μ', a1, a2, R', W, S⟩ := wva_pair R (c := c) hs (h7 s hs) hnd
  obtain ⟨n, hn, en, en2⟩ := lt_of (h7 s hs)
  have h15 : ∀ i, i < n → nn (μ 10 (6 * s + i)) < 15 := fun i hi => by
    have := (hlt i (by omega)).2
    omega
  have hfe : ∀ i, i < n → (nn (μ 10 (6 * s + i)) = c ↔ μ 10 (6 * s + i) = nI c) := fun i hi => by
    have h1 := (hlt i (by omega)).1
    exact ⟨fun e => by rw [h1, e], fun e => by rw [e, n_cl]⟩
  have hb := pl_b6 h15 (show n ≤ 6 by omega)
  have key : f_L_without ((β 1 (8 * s + 4)).toInt64) (nI c) = some (lN (pl (fun i => nn (μ' 10 (6 * s + i))) (nn (μ' 9 s)))) := by
    rw [e_s4 B hs, en2, nI_l (by omega)]
    by_cases hp : pfd (fun i => nn (μ 10 (6 * s + i))) n c < n
    · rw [k_wo_yes h15 (by omega) (by omega) hp]
      have a3 := fa_first_yes (fun i => decide (nn (μ 10 (6 * s + i)) = c)) n hp
      have a4 := fa_first_no (fun i => decide (nn (μ 10 (6 * s + i)) = c)) n
      have h1 := m_dro_yes (μ := μ) (s := s) (n := n) (p := pfd (fun i => nn (μ 10 (6 * s + i))) n c) (x := nI c) (by omega) en (by omega) hp ((hfe _ hp).mp (by simpa [pfd] using a3)) (fun i hi e => by
        have := a4 i hi
        simp only [decide_eq_false_iff_not] at this
        exact this ((hfe i (by unfold pfd at hp; unfold pfd at hi; omega)).mpr e))
      rw [a2] at h1
      have h2 := Option.some.inj h1
      generalize pfd (fun i => nn (μ 10 (6 * s + i))) n c = p at *
      have e9 : nn (μ' 9 s) = n - 1 := by rw [h2, gw_up_s, n_cl]
      rw [e9]
      refine congrArg some (congrArg lN (pl_cong (fun i hi => ?_)))
      rw [h2, gw_up_n (by omega)]
      unfold wo
      by_cases hip : i < p
      · rw [if_pos hip, shf_o _ (by omega)]
      · rw [if_neg hip, shf_i _ (by omega) (by omega)]
        rfl
    · rw [k_wo_no h15 (by omega) (by omega) hp]
      have h1 := m_dro_no (μ := μ) (s := s) (n := n) (x := nI c) (by omega) en (by omega) (fun i hi e => hp (by
        have e2 := (hfe i hi).mpr e
        have a1 := fa_first_le (fun i => decide (nn (μ 10 (6 * s + i)) = c)) n
        have a2 := fa_first_no (fun i => decide (nn (μ 10 (6 * s + i)) = c)) n
        unfold pfd
        rcases Nat.lt_or_ge (fa_first (fun i => decide (nn (μ 10 (6 * s + i)) = c)) n) n with q | q
        · exact q
        · have := a2 i (by omega)
          simp [e2] at this))
      rw [a2] at h1
      rw [Option.some.inj h1, en2]
  have hb' : pl (fun i => nn (μ' 10 (6 * s + i))) (nn (μ' 9 s)) < 2 ^ 24 := by
    refine pl_b6 (fun i hi => ?_) (by have := W.2.2.1.2; omega)
    obtain ⟨⟨j, hj, e⟩, -⟩ := W.2.2.2.1 i hi
    rw [e]
    exact h15 j (by omega)
  refine ⟨τ', μ', gw_up β 1 (8 * s + 4) (nI (pl (fun i => nn (μ' 10 (6 * s + i))) (nn (μ' 9 s)))), a1, a2, R', W, S, ?_, ?_⟩
  · unfold f_L_unwishes
    simp (disch := omega) only [x8, x8_4, rd1, cln]
    rw [key, bs, lN_i]
  · obtain ⟨b0, b1, b2, b3, b4, b5, b6, b7, b8, b9, b10⟩ := B
    refine ⟨b0, b1, fun c' j hc' hj => ?_, fun c' k hc' hk => ?_, fun c' j k hc' hj => ?_, fun c' hc' => ?_, b6, fun t j ht hj => ?_, fun t ht => ?_, fun t ht => ?_, fun t j h1 h2 hj => ?_⟩
    · rw [W.1 (j + 1) (by omega) (by omega)]; exact b2 c' j hc' hj
    · rw [W.1 4 (by omega) (by omega)]; exact b3 c' k hc' hk
    · rw [W.1 15 (by omega) (by omega)]; exact b4 c' j k hc' hj
    · rw [W.1 14 (by omega) (by omega), W.1 13 (by omega) (by omega)]; exact b5 c' hc'
    · rw [W.1 (j + 5) (by omega) (by omega), gw_up_n (by omega)]; exact b7 t j ht hj
    · by_cases e : t = s
      · subst e; rw [gw_up_s]
      · rw [gw_up_n (by omega), (W.2.1 t ht e).1, pl_rw (W.2.1 t ht e).2 (by have := (h7 t ht).2; omega)]
        exact b8 t ht
    · rw [W.1 11 (by omega) (by omega), W.1 12 (by omega) (by omega), gw_up_n (by omega), gw_up_n (by omega)]; exact b9 t ht
    · rw [gw_up_n (by omega)]; exact b10 t j h1 h2 hj
/-- off a waiting list -/
theorem k_le (R : Rl cm sm τ μ) (I : Iv cm sm td μ) (B : Bk cm sm tb μ β o) {c s : Nat} (hc : c < cm) (hs : s < sm) :
    ∃ τ' μ' β' o', f_X0_takeOff τ (4 + c) (nI s) = some τ' ∧ f_X4_leavesList μ (nI s) (nI c) = some μ' ∧ Rl cm sm τ' μ' ∧ Iv cm sm td μ' ∧ Lva cm sm μ μ' c s ∧ scr τ τ' ∧ f_L_leaves β o (nI s) (nI c) = some (β', o') ∧ Bk cm sm tb μ' β' o' := by
  have hd := B.1
  obtain ⟨τ', μ', a1, a2, R', I', L, S⟩ := lva_pair R I hc hs
  obtain ⟨n, hn, en, en2⟩ := lt_of (I.2.1 c hc).2.2.1
  have hln := q_len I hc
  have h15 : ∀ i, i < n → nn (μ 14 (16 * c + i)) < 15 := fun i hi => q_lt B I hc i (by omega)
  have hfe : ∀ i, i < n → (nn (μ 14 (16 * c + i)) = s ↔ μ 14 (16 * c + i) = nI s) := fun i hi => by
    have h1 := (I.2.2.2.2.2.1 c i hc (by omega)).1
    exact ⟨fun e => by rw [h1, e], fun e => by rw [e, n_cl]⟩
  have key : f_L_without (o c) (nI s) = some (lN (pl (fun i => nn (μ' 14 (16 * c + i))) (nn (μ' 13 c)))) := by
    rw [e_q B hc, en2]
    by_cases hp : pfd (fun i => nn (μ 14 (16 * c + i))) n s < n
    · rw [k_wo_yes h15 (by omega) (by omega) hp]
      have a3 := fa_first_yes (fun i => decide (nn (μ 14 (16 * c + i)) = s)) n hp
      have a4 := fa_first_no (fun i => decide (nn (μ 14 (16 * c + i)) = s)) n
      have h1 := m_lea_yes (μ := μ) (c := c) (n := n) (p := pfd (fun i => nn (μ 14 (16 * c + i))) n s) (s := s) (by omega) (by omega) en (by omega) hp ((hfe _ hp).mp (by simpa [pfd] using a3)) (fun i hi e => by
        have := a4 i hi
        simp only [decide_eq_false_iff_not] at this
        exact this ((hfe i (by unfold pfd at hp; unfold pfd at hi; omega)).mpr e))
      rw [a2] at h1
      have h2 := Option.some.inj h1
      generalize pfd (fun i => nn (μ 14 (16 * c + i))) n s = p at *
      have e9 : nn (μ' 13 c) = n - 1 := by rw [h2, gw_up_n (by omega), gw_up_s, n_cl]
      rw [e9]
      refine congrArg some (congrArg lN (pl_cong (fun i hi => ?_)))
      rw [h2, gw_up_n (by omega), gw_up_n (by omega)]
      unfold wo
      by_cases hip : i < p
      · rw [if_pos hip, shf_o _ (by omega)]
      · rw [if_neg hip, shf_i _ (by omega) (by omega)]
        rfl
    · rw [k_wo_no h15 (by omega) (by omega) hp]
      have h1 := m_lea_no (μ := μ) (c := c) (n := n) (x := nI s) (by omega) en (by omega) (fun i hi e => hp (by
        have e2 := (hfe i hi).mpr e
        have a2 := fa_first_no (fun i => decide (nn (μ 14 (16 * c + i)) = s)) n
        unfold pfd
        rcases Nat.lt_or_ge (fa_first (fun i => decide (nn (μ 14 (16 * c + i)) = s)) n) n with q | q
        · exact q
        · have := a2 i (by omega)
          simp [e2] at this))
      rw [a2] at h1
      rw [Option.some.inj h1, en2]
  have hst : ∀ j, j < 3 → ∀ (β1 : gw_S) (o1 : Nat → Int64), b_L_leaves_1 (nI s) (nI c) (nI (5 + j), β1, o1) = some (.inl (nI (5 + (j + 1)), gw_up β1 0 (8 * c + 5 + j) (β1 0 (8 * c + 5 + j) &&& (((1 : Int32) <<< (nI s &&& 31)) ^^^ (-1 : Int32))), o1)) := fun j hj β1 o1 => by
    show (if (8 : Int32) ≤ nI (5 + j) then _ else _) = _
    rw [if_neg (n8 (by omega)), x8, nI_add, rd0 (by omega), rd0 (by omega), cln (by omega), nI_1, ← Nat.add_assoc (8 * c) 5 j, Nat.add_assoc 5 j 1]
  have hen : ∀ (w : Int32) (β1 : gw_S) (o1 : Nat → Int64), (8 : Int32) ≤ w → b_L_leaves_1 (nI s) (nI c) (w, β1, o1) = some (.inr (w, β1, o1)) := fun w β1 o1 hw => by
    show (if (8 : Int32) ≤ w then _ else _) = _
    rw [if_pos hw]
  obtain ⟨t, G, t1, t2, t3, t4⟩ : ∃ t, gw_it (b_L_leaves_1 (nI s) (nI c)) 4096 ((5 : Int32), β, vp_updL o c (lN (pl (fun i => nn (μ' 14 (16 * c + i))) (nn (μ' 13 c))))) = some t ∧ t.2.2 = vp_updL o c (lN (pl (fun i => nn (μ' 14 (16 * c + i))) (nn (μ' 13 c)))) ∧ (∀ k, k ≠ 0 → t.2.1 k = β k) ∧ (∀ i, ¬ (8 * c + 5 ≤ i ∧ i < 8 * c + 8) → t.2.1 0 i = β 0 i) ∧ ∀ j, j < 3 → t.2.1 0 (8 * c + 5 + j) = β 0 (8 * c + 5 + j) &&& (((1 : Int32) <<< (nI s &&& 31)) ^^^ (-1 : Int32)) := by
    refine gw_for (fun k q => q.1 = nI (5 + k) ∧ q.2.2 = vp_updL o c (lN (pl (fun i => nn (μ' 14 (16 * c + i))) (nn (μ' 13 c)))) ∧ (∀ z, z ≠ 0 → q.2.1 z = β z) ∧ (∀ i, ¬ (8 * c + 5 ≤ i ∧ i < 8 * c + 5 + k) → q.2.1 0 i = β 0 i) ∧ ∀ j, j < k → q.2.1 0 (8 * c + 5 + j) = β 0 (8 * c + 5 + j) &&& (((1 : Int32) <<< (nI s &&& 31)) ^^^ (-1 : Int32))) _ 3 (by omega) ⟨rfl, rfl, fun _ _ => rfl, fun _ _ => rfl, fun j hj => absurd hj (Nat.not_lt_zero j)⟩ (fun k q hk hI => ?_) (fun q hI => ?_)
    · obtain ⟨v, β1, o1⟩ := q
      obtain ⟨h1, h2, h3, h4, h5⟩ := hI
      have h1 : v = nI (5 + k) := h1
      subst h1
      refine ⟨_, hst k hk β1 o1, rfl, h2, fun z hz => ?_, fun i hi => ?_, fun j hj => ?_⟩
      · show gw_up β1 0 (8 * c + 5 + k) _ z = β z
        rw [gw_up_rown hz]; exact h3 z hz
      · show gw_up β1 0 (8 * c + 5 + k) _ 0 i = β 0 i
        rw [gw_up_n (by omega)]; exact h4 i (by omega)
      · show gw_up β1 0 (8 * c + 5 + k) _ 0 (8 * c + 5 + j) = _
        by_cases e : j = k
        · subst e; rw [gw_up_s]
          have h4' : β1 0 (8 * c + 5 + j) = β 0 (8 * c + 5 + j) := h4 _ (by omega)
          rw [h4']
        · rw [gw_up_n (by omega)]; exact h5 j (by omega)
    · obtain ⟨v, β1, o1⟩ := q
      obtain ⟨h1, h2, h3, h4, h5⟩ := hI
      have h1 : v = nI (5 + 3) := h1
      subst h1
      exact ⟨_, hen _ β1 o1 (by decide), h2, h3, fun i hi => h4 i (by omega), h5⟩
  refine ⟨τ', μ', t.2.1, t.2.2, a1, a2, R', I', L, S, ?_, ?_⟩
  · unfold f_L_leaves
    simp (disch := omega) only [rdq, cln]
    rw [key, bs]
    exact it_bd G rfl
  · obtain ⟨b0, b1, b2, b3, b4, b5, b6, b7, b8, b9, b10⟩ := B
    unfold B_n B_c B_l B_o B_q B_y B_s B_w B_u B_z at *
    rw [t1]
    refine ⟨b0, ?_, fun c' j hc' hj => ?_, fun c' k hc' hk => ?_, fun c' j k hc' hj => ?_, fun c' hc' => ?_, fun c' h1 h2 => ⟨fun j hj => ?_, ?_⟩, ?_, ?_, ?_, ?_⟩
    · unfold B_n; rw [t2 2 (by omega)]; exact b1
    · rw [t3 _ (by omega), L.1 (j + 1) (by omega) (by omega) (by omega)]; exact b2 c' j hc' hj
    · rw [t3 _ (by omega), L.1 4 (by omega) (by omega) (by omega)]; exact b3 c' k hc' hk
    · by_cases e : c' = c
      · subst e
        rw [t4 j hj]
        by_cases hk : k < 32
        · rw [bt_nbit (by omega) hk, Bool.and_eq_true, b4 c' j k hc' hj]
          by_cases e : k = s
          · subst e
            simp only [decide_true, Bool.not_true, Bool.false_eq_true, and_false, false_iff]
            rintro ⟨h1, h2, -⟩
            exact h2 (by rw [L.2.1 c' k hc' h1, if_pos ⟨rfl, rfl⟩])
          · simp only [e, decide_false, Bool.not_false, and_true]
            constructor
            · rintro ⟨h1, h2, h3⟩
              rw [L.2.1 c' k hc' h1, if_neg (fun q => e q.2)]; exact ⟨h1, h2, h3⟩
            · rintro ⟨h1, h2, h3⟩
              rw [L.2.1 c' k hc' h1, if_neg (fun q => e q.2)] at h2 h3; exact ⟨h1, h2, h3⟩
        · rw [b_big (by omega)]
          constructor
          · intro h; cases h
          · rintro ⟨h1, -⟩; omega
      · rw [t3 _ (by omega), b4 c' j k hc' hj]
        constructor
        · rintro ⟨h1, h2, h3⟩
          rw [L.2.1 c' k hc' h1, if_neg (fun q => e q.1)]; exact ⟨h1, h2, h3⟩
        · rintro ⟨h1, h2, h3⟩
          rw [L.2.1 c' k hc' h1, if_neg (fun q => e q.1)] at h2 h3; exact ⟨h1, h2, h3⟩
    · by_cases e : c' = c
      · subst e; rw [pk_uLs]
      · rw [pk_uLn e, (L.2.2.1 c' hc' e).1, pl_rq (L.2.2.1 c' hc' e).2 (by have := (I.2.1 c' hc').2.2.1.2; omega)]
        exact b5 c' hc'
    · rw [t3 _ (by omega)]; exact (b6 c' h1 h2).1 j hj
    · rw [pk_uLn (by omega)]; exact (b6 c' h1 h2).2
    · unfold B_s; rw [t2 1 (by omega)]
      intro s' j h1 h2
      rw [L.1 (j + 5) (by omega) (by omega) (by omega)]; exact b7 s' j h1 h2
    · unfold B_w; rw [t2 1 (by omega), L.1 9 (by omega) (by omega) (by omega), L.1 10 (by omega) (by omega) (by omega)]; exact b8
    · unfold B_u; rw [t2 1 (by omega), L.1 11 (by omega) (by omega) (by omega), L.1 12 (by omega) (by omega) (by omega)]; exact b9
    · unfold B_z; rw [t2 1 (by omega)]; exact b10
/-- a student into a course -/
theorem k_en (R : Rl cm sm τ μ) (I : Iv cm sm td μ) (B : Bk cm sm tb μ β o) {c s : Nat} (hc : c < cm) (hs : s < sm) :
    ∃ τ' μ' β' o', f_X3_enrol τ (24 + s) (4 + c) = some τ' ∧ f_X4_enrols μ (nI s) (nI c) = some μ' ∧ Rl cm sm τ' μ' ∧ Iv cm sm td μ' ∧ Ena cm sm μ μ' c s ∧ scr τ τ' ∧ f_L_enrols β o (nI s) (nI c) = some (β', o') ∧ Bk cm sm tb μ' β' o' := by
  have h20 := R.1
  have hd := B.1
  have R1 : Rl cm sm (gw_up τ (24 + s) 5 (μ 8 s ||| ((1 : Int32) <<< (nI c &&& 31)))) (gw_up μ 8 s (μ 8 s ||| ((1 : Int32) <<< (nI c &&& 31)))) := Rl_us R _ hs rfl (by omega) (by omega)
  have B1 : Bk cm sm tb (gw_up μ 8 s (μ 8 s ||| ((1 : Int32) <<< (nI c &&& 31)))) (gw_up β 1 (8 * s + 3) (μ 8 s ||| ((1 : Int32) <<< (nI c &&& 31)))) o := by
    obtain ⟨b0, b1, b2, b3, b4, b5, b6, b7, b8, b9, b10⟩ := id B
    refine ⟨b0, b1, fun c' j hc' hj => ?_, b3, b4, b5, b6, fun t j ht hj => ?_, fun t ht => ?_, fun t ht => ?_, fun t j h1 h2 hj => ?_⟩
    · rw [gw_up_n (k' := j + 1) (by omega)]; exact b2 c' j hc' hj
    · by_cases e : t = s ∧ j = 3
      · obtain ⟨rfl, rfl⟩ := e; rw [gw_up_s, gw_up_s]
      · rw [gw_up_n (by omega), gw_up_n (by omega)]; exact b7 t j ht hj
    · rw [gw_up_n (by omega)]; exact b8 t ht
    · exact ⟨(gw_up_n (by omega)).trans (b9 t ht).1, (gw_up_n (by omega)).trans (b9 t ht).2⟩
    · rw [gw_up_n (by omega)]; exact b10 t j h1 h2 hj
  obtain ⟨τ2, μ2, β2, a1, a2, R2, W, S2, a3, B2⟩ := k_uw R1 B1 (c := c) hs hc (fun t ht => (I.2.2.1 t ht).2.2.1) (fun i hi => (I.2.2.2.1 s i hs hi).1) (fun i j hi hj e => I.2.2.2.2.1 s i j hs hi hj e)
  have I2 := Iv_wva I hs hc (fun k hk => by
    have hk2 := bt_lt hk
    rw [bt_or_bit (by omega) hk2] at hk
    simpa using hk) (fun k hk => by rw [bt_or_bit (by omega) (bt_lt hk), hk]; rfl) W
  obtain ⟨τ3, μ3, β3, o3, b1, b2, R3, I3, L, S3, b3, B3⟩ := k_le R2 I2 B2 hc hs
  refine ⟨τ3, μ3, β3, o3, ?_, ?_, R3, I3, ⟨fun k h8 h9 h10 h13 h14 h15 => ?_, fun t => ?_, fun c' s' hc' hs' => ?_, fun t ht hne => ⟨?_, fun i hi => ?_⟩⟩, ?_, ?_, B3⟩
  · unfold f_X3_enrol f_X3_bit
    rw [r_ci R hc, bs, r_tak R hs, gw_up_n (by omega), r_ci R hc, show 24 + s + 36 = 60 + s from by omega, a1, bs, r_si R2 hs, b1, bs]
  · unfold f_X4_enrols
    rw [if_pos (ib_ok (by show s < 16; omega) (by decide)), if_pos (ib_ok (by show s < 16; omega) (by decide)), nI_clamp (n := s) (by omega), a2, bs, b2, bs]
  · rw [L.1 k h13 h14 h15, W.1 k h9 h10, gw_up_rown h8]
  · rw [L.1 8 (by omega) (by omega) (by omega), W.1 8 (by omega) (by omega)]
    by_cases e : t = s
    · subst e; rw [gw_up_s, if_pos rfl]
    · rw [gw_up_n (by omega), if_neg e]
  · rw [L.2.1 c' s' hc' hs', W.1 15 (by omega) (by omega), gw_up_n (by omega)]
  · rw [L.1 9 (by omega) (by omega) (by omega), (W.2.1 t ht hne).1, gw_up_n (by omega)]
  · rw [L.1 10 (by omega) (by omega) (by omega), (W.2.1 t ht hne).2 i hi, gw_up_n (by omega)]
  · refine scr_tr (scr_tr (fun k i h => ?_) S2) S3
    rw [gw_up_n (by omega)]
  · unfold f_L_enrols
    simp (disch := omega) only [x8, x8_3, rd1, cln]
    rw [e_s3 B hs, a3, bs, b3, bs]
/-- a student out of a course -/
theorem k_gi (R : Rl cm sm τ μ) (I : Iv cm sm td μ) (B : Bk cm sm tb μ β o) {c s : Nat} (hc : c < cm) (hs : s < sm) :
    ∃ τ' μ' β', f_X3_endEnrolment τ (24 + s) (4 + c) = some τ' ∧ f_X4_gives μ (nI s) (nI c) = some μ' ∧ Rl cm sm τ' μ' ∧ Iv cm sm td μ' ∧ Gva μ μ' c s ∧ scr τ τ' ∧ f_L_gives β o (nI s) (nI c) = some (β', o) ∧ Bk cm sm tb μ' β' o := by
  have hd := B.1
  obtain ⟨τ', μ', a1, a2, R', I', G, S⟩ := gva_pair R I hc hs
  refine ⟨τ', μ', gw_up (gw_up β 1 (8 * s + 3) (μ 8 s &&& (((1 : Int32) <<< (nI c &&& 31)) ^^^ (-1 : Int32)))) 1 (8 * s + 5) (if μ 11 s = nI c then -1 else μ 11 s), a1, a2, R', I', G, S, ?_, ?_⟩
  · unfold f_L_gives
    simp (disch := omega) only [x8, x8_3, x8_5, rd1, cln]
    rw [e_s3 B hs, gw_up_n (by omega), e_s5 B hs]
    by_cases e : μ 11 s = nI c
    · rw [if_pos e, if_pos e]
    · rw [if_neg e, if_neg e]
  · obtain ⟨b0, b1, b2, b3, b4, b5, b6, b7, b8, b9, b10⟩ := B
    refine ⟨b0, b1, fun c' j hc' hj => ?_, fun c' k hc' hk => ?_, fun c' j k hc' hj => ?_, fun c' hc' => ?_, b6, fun t j ht hj => ?_, fun t ht => ?_, fun t ht => ?_, fun t j h1 h2 hj => ?_⟩
    · rw [G.1 (j + 1) (by omega) (by omega)]; exact b2 c' j hc' hj
    · rw [G.1 4 (by omega) (by omega)]; exact b3 c' k hc' hk
    · rw [G.1 15 (by omega) (by omega)]; exact b4 c' j k hc' hj
    · rw [G.1 14 (by omega) (by omega), G.1 13 (by omega) (by omega)]; exact b5 c' hc'
    · rw [gw_up_n (by omega)]
      by_cases e : j = 3
      · subst e
        rw [show 3 + 5 = 8 from rfl, G.2.1 t]
        by_cases e2 : t = s
        · subst e2; rw [gw_up_s, if_pos rfl]
        · rw [gw_up_n (by omega), if_neg e2]; exact b7 t 3 ht (by omega)
      · rw [gw_up_n (by omega), G.1 (j + 5) (by omega) (by omega)]; exact b7 t j ht hj
    · rw [gw_up_n (by omega), gw_up_n (by omega), G.1 9 (by omega) (by omega), G.1 10 (by omega) (by omega)]; exact b8 t ht
    · refine ⟨?_, ?_⟩
      · rw [G.2.2 t]
        by_cases e2 : t = s
        · subst e2; rw [gw_up_s]
          by_cases e : μ 11 t = nI c
          · rw [if_pos e, if_pos ⟨rfl, e⟩]
          · rw [if_neg e, if_neg (fun q => e q.2)]
        · rw [gw_up_n (by omega), gw_up_n (by omega), if_neg (fun q => e2 q.1)]; exact (b9 t ht).1
      · rw [gw_up_n (by omega), gw_up_n (by omega), G.1 12 (by omega) (by omega)]; exact (b9 t ht).2
    · rw [gw_up_n (by omega), gw_up_n (by omega)]; exact b10 t j h1 h2 hj
end bw
