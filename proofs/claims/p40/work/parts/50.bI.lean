/-! THE LOTTERY -/
section bi
variable {j cm sm td tb : Nat} {τ μ β : gw_S} {o : Nat → Int64} {k a b d : Int32}
theorem sd_eq2 {x : Nat} (hx : x < 2 ^ 31) : ((lN x * (1103515245 : Int64)) + (12345 : Int64)) &&& (2147483647 : Int64) = lN (sd1 x) := by
  rw [show (1103515245 : Int64) = lN 1103515245 from rfl, show (12345 : Int64) = lN 12345 from rfl, show (2147483647 : Int64) = lN (2 ^ 31 - 1) from rfl, lN_mul, lN_add, wb_mask (by omega) (by decide)]
  unfold sd1
  rw [Nat.mul_comm x]
theorem sd_lot2 {x : Nat} (hx : x < 2 ^ 31) : (lN x >>> ((16 : Int32).toInt64 &&& 63)).toInt32 = nI (x / 65536) := by
  have e : lN x >>> ((16 : Int32).toInt64 &&& 63) = lN (x / 65536) := by
    apply wb_inj
    rw [Int64.toBitVec_shiftRight, wb_tb, wb_tb]
    show (BitVec.ofNat 64 x).sshiftRight ((((16 : Int32).toInt64 &&& 63).toBitVec.smod 64).toNat) = _
    rw [show (((16 : Int32).toInt64 &&& 63).toBitVec.smod 64).toNat = 16 from by decide +kernel]
    apply BitVec.eq_of_toNat_eq
    rw [BitVec.toNat_sshiftRight]
    simp only [BitVec.msb_eq_decide, BitVec.toNat_ofNat]
    rw [Nat.mod_eq_of_lt (show x < 2 ^ 64 by omega)]
    simp only [show ¬ 2 ^ (64 - 1) ≤ x by omega, decide_false, Bool.false_eq_true, if_false]
    rw [Nat.shiftRight_eq_div_pow, Nat.mod_eq_of_lt (by omega)]
  rw [e, lN_i]
theorem k_draw (R : Rl cm sm τ μ) (I : Iv cm sm td μ) (F : Fr cm sm μ) (B : Bk cm sm tb μ β o) {x : Nat} (hx : x < 2 ^ 31) (y : Int32) : ∃ τ' μ' β' t1 t2 t3, gw_it (b_X3_drawNumbers_1 y) 4096 (lN x, (0 : Int32), τ) = some (t1, t2, τ') ∧ gw_it b_L_draws_1 4096 (lN x, (0 : Int32), β, o) = some (t1, t3, β', o) ∧ Rl cm sm τ' μ' ∧ Iv cm sm td μ' ∧ Fr cm sm μ' ∧ (∀ k, k ≠ 12 → μ' k = μ k) ∧ Lt sm μ' ∧ Bk cm sm tb μ' β' o := by
  have h20 := R.1
  have hB := B.1
  have key : ∀ k, k ≤ sm → ∃ τ' μ' β' z, z < 2 ^ 31 ∧ gw_it (b_X3_drawNumbers_1 y) 4096 (lN x, (0 : Int32), τ) = gw_it (b_X3_drawNumbers_1 y) (4096 - k) (lN z, nI k, τ') ∧ gw_it b_L_draws_1 4096 (lN x, (0 : Int32), β, o) = gw_it b_L_draws_1 (4096 - k) (lN z, nI k, β', o) ∧ Rl cm sm τ' μ' ∧ Iv cm sm td μ' ∧ Fr cm sm μ' ∧ (∀ q, q ≠ 12 → μ' q = μ q) ∧ (∀ s, s < k → lt_ (μ' 12 s) 32768) ∧ Bk cm sm tb μ' β' o := by
    intro k
    induction k with
    | zero =>
      intro _
      exact ⟨τ, μ, β, x, hx, rfl, rfl, R, I, F, fun _ _ => rfl, fun s hs => absurd hs (Nat.not_lt_zero s), B⟩
    | succ k ih =>
      intro hk
      obtain ⟨σ, μ', β', z, hz, g1, g2, R', I', F', rw', lt', B'⟩ := ih (by omega)
      have hz1 : sd1 z < 2 ^ 31 := Nat.mod_lt _ (by decide)
      have I2 : Iv cm sm td (gw_up μ' 12 k (nI (sd1 z / 65536))) := by
        obtain ⟨v1, v3, v4, v5, v6, v7, v8, v9, v10, v11⟩ := I'
        exact ⟨v1, v3, v4, v5, v6, v7, v8, v9, v10, v11⟩
      refine ⟨gw_up σ (24 + k) 6 (nI (sd1 z / 65536)), gw_up μ' 12 k (nI (sd1 z / 65536)), gw_up β' 1 (8 * k + 6) (nI (sd1 z / 65536)), sd1 z, hz1, ?_, ?_, Rl_us R' _ (by omega) rfl (by omega) (by omega), I2, Fr_rows (μ := μ') F' rfl rfl rfl, fun q hq => by rw [gw_up_rown hq, rw' q hq], fun s hs => ?_, ?_⟩
      · rw [g1, show 4096 - k = 4096 - (k + 1) + 1 from by omega, gw_it_st]
        rw [b_X3_drawNumbers_1, r_sm R', if_neg (n_lt (by omega)), if_pos (ib_ok (by omega)), nI_clamp (by omega), sd_eq hz, sd_lot hz1, nI_1]
      · rw [g2, show 4096 - k = 4096 - (k + 1) + 1 from by omega, gw_it_st]
        rw [b_L_draws_1, rd21, cl1, e_n1 B', if_neg (n_lt (by omega)), x8, x8_6, rd1 (by omega), cln (by omega), sd_eq2 hz, sd_lot2 hz1, nI_1]
      · by_cases e : s = k
        · subst e; rw [gw_up_s]; exact lt_mk (by omega)
        · rw [gw_up_n (by omega)]; exact lt' s (by omega)
      · obtain ⟨b0, b1, b2, b3, b4, b5, b6, b7, b8, b9, b10⟩ := B'
        refine ⟨b0, b1, fun c' j hc' hj => (b2 c' j hc' hj).trans (gw_up_n (by omega)).symm, b3, b4, b5, b6, fun t j ht hj => ?_, fun t ht => ?_, fun t ht => ⟨?_, ?_⟩, fun t j h1 h2 hj => ?_⟩
        · rw [gw_up_n (by omega), gw_up_n (by omega)]; exact b7 t j ht hj
        · rw [gw_up_n (by omega)]; exact b8 t ht
        · rw [gw_up_n (by omega)]; exact (b9 t ht).1
        · by_cases e : t = k
          · subst e; rw [gw_up_s, gw_up_s]
          · rw [gw_up_n (by omega), gw_up_n (by omega)]; exact (b9 t ht).2
        · rw [gw_up_n (by omega)]; exact b10 t j h1 h2 hj
  obtain ⟨σ, μ', β', z, hz, g1, g2, R', I', F', rw', lt', B'⟩ := key sm (Nat.le_refl sm)
  refine ⟨σ, μ', β', lN z, nI sm, nI sm, ?_, ?_, R', I', F', rw', ⟨h20.2, fun s hs => ⟨(I'.2.2.1 s hs).1, lt' s hs⟩⟩, B'⟩
  · rw [g1, show 4096 - sm = 4096 - sm - 1 + 1 from by omega, gw_it_en]
    rw [b_X3_drawNumbers_1, r_sm R', if_pos (n_le (Nat.le_refl _))]
  · rw [g2, show 4096 - sm = 4096 - sm - 1 + 1 from by omega, gw_it_en]
    rw [b_L_draws_1, rd21, cl1, e_n1 B', if_pos (n_le (Nat.le_refl _))]
/-- the book's key of a student -/
def bky (μ : gw_S) (s : Nat) : Nat := (nn (μ 5 s) * 32768 + nn (μ 12 s)) * 8 + s
theorem bky_lt (h : Lt sm μ) (h8 : sm ≤ 8) {s : Nat} (hs : s < sm) : bky μ s < 2 ^ 21 ∧ bky μ s % 8 = s := by
  have := h.2 s hs
  have h1 := this.1.2
  have h2 := this.2.2
  unfold bky
  constructor <;> omega
theorem bk8 (A C : Nat) {s t : Nat} (hs : s < 8) (ht : t < 8) : A * 8 + s < C * 8 + t ↔ A * 16 + s < C * 16 + t := by omega
theorem bky_iff (h : Lt sm μ) (h8 : sm ≤ 8) {s t : Nat} (hs : s < sm) (ht : t < sm) : bky μ s < bky μ t ↔ lky μ s < lky μ t := by
  unfold bky lky
  exact bk8 _ _ (by omega) (by omega)
theorem k_min (B : Bk cm sm tb μ β o) (h : Lt sm μ) {t : Nat} (ht : t < sm) {v8 : Int32} (h1 : ¬ nI (bky μ t) ≤ v8) (h2 : ∀ w, w < sm → ¬ nI (bky μ w) ≤ v8 → bky μ t ≤ bky μ w) (v7 v9 : Int32) : ∃ w, gw_it (b_L_draws_3 β o v7 v8 v9) 4096 ((2147483647 : Int32), (0 : Int32)) = some (nI (bky μ t), w) := by
  have hB := B.1
  have hst : ∀ k, k < sm → ∀ v10 : Int32, b_L_draws_3 β o v7 v8 v9 (v10, nI k) = if nI (bky μ k) ≤ v8 then some (.inl (v10, nI (k + 1))) else if v10 ≤ nI (bky μ k) then some (.inl (v10, nI (k + 1))) else some (.inl (nI (bky μ k), nI (k + 1))) := fun k hk v10 => by
    obtain ⟨a, ha, ea, na⟩ := lt_of (h.2 k hk).1
    obtain ⟨l, hl, el, nl⟩ := lt_of (h.2 k hk).2
    have e1 : nI a <<< ((15 : Int32) &&& 31) = nI (2 ^ 15 * a) := by rw [pk_shlN _ 15 (by decide) (by omega), Nat.mul_comm]
    have e2 : nI (2 ^ 15 * a + l) <<< ((3 : Int32) &&& 31) = nI (2 ^ 3 * (2 ^ 15 * a + l)) := by rw [pk_shlN _ 3 (by decide) (by omega), Nat.mul_comm]
    have e3 : bky μ k = 2 ^ 3 * (2 ^ 15 * a + l) + k := by unfold bky; rw [na, nl]; omega
    rw [b_L_draws_3]
    simp (disch := omega) only [rd21, cl1, x8, x8_6, rd1, cln]
    rw [e_n1 B, if_neg (n_lt hk), e_s0 B hk, e_s6 B hk, ea, el, e1, fa_or_sum a (by omega), e2, fa_or_sum (2 ^ 15 * a + l) (by omega), ← e3, nI_1]
  obtain ⟨⟨v, w⟩, G, g1⟩ := gw_for (b := b_L_draws_3 β o v7 v8 v9) (s := ((2147483647 : Int32), (0 : Int32))) (fun k q => q.2 = nI k ∧ ∃ M, q.1 = nI M ∧ M ≤ 2147483647 ∧ (∀ w, w < k → ¬ nI (bky μ w) ≤ v8 → M ≤ bky μ w) ∧ (M = 2147483647 ∨ ∃ w, w < k ∧ ¬ nI (bky μ w) ≤ v8 ∧ M = bky μ w)) (fun q => q.1 = nI (bky μ t)) sm (by omega) ⟨rfl, 2147483647, rfl, Nat.le_refl _, fun w hw => absurd hw (Nat.not_lt_zero w), Or.inl rfl⟩ (fun k q hk hI => by
    obtain ⟨v, w⟩ := q
    obtain ⟨e1, M, e2, hM, m1, m2⟩ := hI
    have e1 : w = nI k := e1
    have e2 : v = nI M := e2
    subst e1 e2
    have hbk := (bky_lt h hB.2 hk).1
    rw [hst k hk]
    by_cases q1 : nI (bky μ k) ≤ v8
    · rw [if_pos q1]
      refine ⟨_, rfl, rfl, M, rfl, hM, fun w hw hp => ?_, ?_⟩
      · rcases Nat.lt_or_ge w k with h | h
        · exact m1 w h hp
        · rw [show w = k by omega] at hp; exact absurd q1 hp
      · rcases m2 with h | ⟨w, hw, hp, e⟩
        · exact Or.inl h
        · exact Or.inr ⟨w, by omega, hp, e⟩
    · rw [if_neg q1]
      by_cases q2 : M ≤ bky μ k
      · rw [if_pos (show nI M ≤ nI (bky μ k) from nI_le q2 (by omega))]
        refine ⟨_, rfl, rfl, M, rfl, hM, fun w hw hp => ?_, ?_⟩
        · rcases Nat.lt_or_ge w k with h | h
          · exact m1 w h hp
          · rw [show w = k by omega]; exact q2
        · rcases m2 with h | ⟨w, hw, hp, e⟩
          · exact Or.inl h
          · exact Or.inr ⟨w, by omega, hp, e⟩
      · rw [if_neg (show ¬ nI M ≤ nI (bky μ k) from nI_ge (by omega) (by omega))]
        refine ⟨_, rfl, rfl, bky μ k, rfl, by omega, fun w hw hp => ?_, Or.inr ⟨k, by omega, q1, rfl⟩⟩
        rcases Nat.lt_or_ge w k with h | h
        · have := m1 w h hp; omega
        · rw [show w = k by omega]; exact Nat.le_refl _) (fun q hI => by
    obtain ⟨v, w⟩ := q
    obtain ⟨e1, M, e2, hM, m1, m2⟩ := hI
    have e1 : w = nI sm := e1
    have e2 : v = nI M := e2
    subst e1 e2
    refine ⟨(nI M, nI sm), ?_, ?_⟩
    · rw [b_L_draws_3, rd21, cl1, e_n1 B, if_pos (n_le (Nat.le_refl _))]
    · have hbt := (bky_lt h hB.2 ht).1
      have a1 := m1 t ht h1
      rcases m2 with h3 | ⟨w, hw, hp, e⟩
      · omega
      · have a2 := h2 w hw hp
        show nI M = nI (bky μ t)
        rw [show M = bky μ t by omega])
  have g1 : v = nI (bky μ t) := g1
  subst g1
  exact ⟨w, G⟩
/-- a student's turn -/
theorem k_turn (R : Rl cm sm τ μ) (I : Iv cm sm td μ) (F : Fr cm sm μ) (B : Bk cm sm tb μ β o) {s : Nat} (hs : s < sm) (v7 v8 v9 : Int32) : ∃ τ' μ' β' o' g w, gw_it (b_L_draws_4 β o v7 v8 v9 (nI s)) 4096 ((-1 : Int32), β 1 (8 * s + 4)) = some (g, w) ∧ ((f_X3_takeTurn τ (24 + s) = some (0, τ') ∧ g < 0 ∧ β' = β ∧ o' = o) ∨ (f_X3_takeTurn τ (24 + s) = some (1, τ') ∧ ¬ g < 0 ∧ f_L_enrols β o (nI s) g = some (β', o'))) ∧ Rl cm sm τ' μ' ∧ Iv cm sm td μ' ∧ Fr cm sm μ' ∧ scr τ τ' ∧ (∀ k, k ≠ 8 → k ≠ 9 → k ≠ 10 → k ≠ 13 → k ≠ 14 → k ≠ 15 → μ' k = μ k) ∧ Bk cm sm tb μ' β' o' := by
  have h20 := R.1
  have hB := B.1
  obtain ⟨n, hn, en, en2⟩ := lt_of (I.2.2.1 s hs).2.2.1
  have hgl : gw_len (60 + s + 36) = 6 := by unfold gw_len; rw [if_pos (by omega)]
  have hw : τ (60 + s) 1 = nI n := by rw [r_wic R hs, en]
  have h15 : ∀ i, i < n → nn (μ 10 (6 * s + i)) < 15 := fun i hi => w_lt B I hs i (by omega)
  have hpb : ∀ k, k ≤ n → plk (fun i => nn (μ 10 (6 * s + i))) n k < 2 ^ 24 := fun k hk => plk_b6 h15 (by omega) hk
  have step : ∀ k, k < n → (b_X3_takeTurn_1 (24 + s) (nI k, τ) = some (.inl (nI (k + 1), τ)) ∧ b_L_draws_4 β o v7 v8 v9 (nI s) ((-1 : Int32), nI (plk (fun i => nn (μ 10 (6 * s + i))) n k)) = some (.inl ((-1 : Int32), nI (plk (fun i => nn (μ 10 (6 * s + i))) n (k + 1))))) ∨ ∃ c τ' μ' β' o', c < cm ∧ b_X3_takeTurn_1 (24 + s) (nI k, τ) = some (.inr (.inr (1, τ'))) ∧ b_L_draws_4 β o v7 v8 v9 (nI s) ((-1 : Int32), nI (plk (fun i => nn (μ 10 (6 * s + i))) n k)) = some (.inl (nI c, nI (plk (fun i => nn (μ 10 (6 * s + i))) n (k + 1)))) ∧ f_L_enrols β o (nI s) (nI c) = some (β', o') ∧ Rl cm sm τ' μ' ∧ Iv cm sm td μ' ∧ Fr cm sm μ' ∧ scr τ τ' ∧ (∀ k, k ≠ 8 → k ≠ 9 → k ≠ 10 → k ≠ 13 → k ≠ 14 → k ≠ 15 → μ' k = μ k) ∧ Bk cm sm tb μ' β' o' := by
    intro k hk
    have hi := I.2.2.2.1 s k hs (by rw [en2]; exact hk)
    obtain ⟨c, hc, ec, ec2⟩ := lt_of hi.1
    obtain ⟨v, o0, o1, -, o3⟩ := k_ob R I B hs hc (μ 8 s) (I.2.2.1 s hs).2.2.2.2
    obtain ⟨τ2, μ2, β2, o2, d1, d2, R2, I2, E2, S2, d3, B2⟩ := k_en R I B hc hs
    obtain ⟨p1, p2, p3⟩ := plk_s h15 hk
    have hpk := hpb k (by omega)
    have hC : b_X3_takeTurn_1 (24 + s) (nI k, τ) = if fr μ sm c ≤ 0 then some (.inl (nI (k + 1), τ)) else if v = 0 then some (.inr (.inr (1, τ2))) else some (.inl (nI (k + 1), τ)) := by
      rw [b_X3_takeTurn_1, show 24 + s + 36 = 60 + s from by omega, c_size, bs, hw, if_neg (n_lt hk (by omega)), c_at1 hw (by rw [hgl]; omega) hk, bs, show 60 + s + 36 = 96 + s from by omega, r_wis R (by omega) (by omega), ec, c_at R hc, bs, gx_l, c_fr R hc, bs, r_tak R hs, o1, bs, d1, bs, nI_1]
    have hL : b_L_draws_4 β o v7 v8 v9 (nI s) ((-1 : Int32), nI (plk (fun i => nn (μ 10 (6 * s + i))) n k)) = if v = 0 then (if fr μ sm c ≤ 0 then some (.inl ((-1 : Int32), nI (plk (fun i => nn (μ 10 (6 * s + i))) n (k + 1)))) else some (.inl (nI c, nI (plk (fun i => nn (μ 10 (6 * s + i))) n (k + 1))))) else some (.inl ((-1 : Int32), nI (plk (fun i => nn (μ 10 (6 * s + i))) n (k + 1)))) := by
      have ew : (nI (plk (fun i => nn (μ 10 (6 * s + i))) n k) &&& (15 : Int32)) - (1 : Int32) = nI c := by rw [i15, p2, nI_pred, ec, n_cl (by omega)]
      rw [b_L_draws_4, if_neg (show ¬ nI (plk (fun i => nn (μ 10 (6 * s + i))) n k) = 0 from nI_ne0 (by omega) (by omega)), if_neg (show ¬ (0 : Int32) ≤ -1 by decide), ew, i4 (by omega), p1, x8, x8_3, rd1 (by omega), cln (by omega), e_s3 B hs, o0, bs, k_free B hc, bs]
    rw [hC, hL]
    by_cases hf : fr μ sm c ≤ 0
    · rw [if_pos hf, if_pos hf, ite_self]; exact Or.inl ⟨rfl, rfl⟩
    · rw [if_neg hf, if_neg hf]
      by_cases hv : v = 0
      · rw [if_pos hv, if_pos hv]
        exact Or.inr ⟨c, τ2, μ2, β2, o2, hc, rfl, rfl, d3, R2, I2, Fr_ena F I hc h20.1 hs E2 (o3.mp hv).2.1 (Or.inl hf), S2, E2.1, B2⟩
      · rw [if_neg hv, if_neg hv]; exact Or.inl ⟨rfl, rfl⟩
  have hendC : b_X3_takeTurn_1 (24 + s) (nI n, τ) = some (.inr (.inl (nI n, τ))) := by
    rw [b_X3_takeTurn_1, show 24 + s + 36 = 60 + s from by omega, c_size, bs, hw, if_pos (n_le (Nat.le_refl _) (by omega))]
  have hendL : b_L_draws_4 β o v7 v8 v9 (nI s) ((-1 : Int32), nI (plk (fun i => nn (μ 10 (6 * s + i))) n n)) = some (.inr ((-1 : Int32), nI (plk (fun i => nn (μ 10 (6 * s + i))) n n))) := by
    rw [b_L_draws_4, plk_end, if_pos (show nI 0 = (0 : Int32) from rfl)]
  have hgot : ∀ (c : Nat) (r : Int32), c < cm → b_L_draws_4 β o v7 v8 v9 (nI s) (nI c, r) = some (.inr (nI c, r)) := fun c r hc => by
    rw [b_L_draws_4, if_pos (show (0 : Int32) ≤ nI c from nI_pos' (by omega)), ite_self]
  have e0 : β 1 (8 * s + 4) = nI (plk (fun i => nn (μ 10 (6 * s + i))) n 0) := by rw [e_s4 B hs, en2, plk_0]
  rw [e0]
  obtain ⟨t, G, g, w, hM, hP⟩ := gw_run0 (b := b_X3_takeTurn_1 (24 + s)) (s := ((0 : Int32), τ)) (fun k z => z = (nI k, τ) ∧ gw_it (b_L_draws_4 β o v7 v8 v9 (nI s)) 4096 ((-1 : Int32), nI (plk (fun i => nn (μ 10 (6 * s + i))) n 0)) = gw_it (b_L_draws_4 β o v7 v8 v9 (nI s)) (4096 - k) ((-1 : Int32), nI (plk (fun i => nn (μ 10 (6 * s + i))) n k))) (fun t => ∃ g w, gw_it (b_L_draws_4 β o v7 v8 v9 (nI s)) 4096 ((-1 : Int32), nI (plk (fun i => nn (μ 10 (6 * s + i))) n 0)) = some (g, w) ∧ ((t = .inl (nI n, τ) ∧ g = -1) ∨ ∃ c τ' μ' β' o', t = .inr (1, τ') ∧ g = nI c ∧ c < cm ∧ f_L_enrols β o (nI s) (nI c) = some (β', o') ∧ Rl cm sm τ' μ' ∧ Iv cm sm td μ' ∧ Fr cm sm μ' ∧ scr τ τ' ∧ (∀ k, k ≠ 8 → k ≠ 9 → k ≠ 10 → k ≠ 13 → k ≠ 14 → k ≠ 15 → μ' k = μ k) ∧ Bk cm sm tb μ' β' o')) n (by omega) ⟨rfl, rfl⟩ (fun k z hk hI => by
    obtain ⟨rfl, hm⟩ := hI
    rcases Nat.lt_or_ge k n with h | h
    · rcases step k h with ⟨hC, hM⟩ | ⟨c, τ', μ', β', o', hc, hC, hM, hE, hh⟩
      · refine Or.inr ⟨h, _, hC, rfl, ?_⟩
        rw [hm, show 4096 - k = 4096 - (k + 1) + 1 from by omega, gw_it_st hM]
      · refine Or.inl ⟨_, hC, nI c, nI (plk (fun i => nn (μ 10 (6 * s + i))) n (k + 1)), ?_, Or.inr ⟨c, τ', μ', β', o', rfl, rfl, hc, hE, hh⟩⟩
        rw [hm, show 4096 - k = 4096 - (k + 1) - 1 + 1 + 1 from by omega, gw_it_st hM, gw_it_en (hgot c _ hc)]
    · have : k = n := by omega
      subst this
      refine Or.inl ⟨_, hendC, (-1 : Int32), nI (plk (fun i => nn (μ 10 (6 * s + i))) k k), ?_, Or.inl ⟨rfl, rfl⟩⟩
      rw [hm, show 4096 - k = 4096 - k - 1 + 1 from by omega, gw_it_en hendL])
  rcases hP with ⟨rfl, rfl⟩ | ⟨c, τ', μ', β', o', rfl, rfl, hc, hE, hh⟩
  · exact ⟨τ, μ, β, o, -1, w, hM, Or.inl ⟨it_bd G rfl, by decide, rfl, rfl⟩, R, I, F, scr_rf τ, fun _ _ _ _ _ _ _ => rfl, B⟩
  · exact ⟨τ', μ', β', o', nI c, w, hM, Or.inr ⟨it_bd G rfl, nI_pos (by omega), hE⟩, hh⟩
theorem go_lottery (hj : j < 500) (h : St j cm sm td τ μ β o) {x : Nat} (hx : x < 2 ^ 31) : Go j cm sm τ β o 11 (nI x) b d := by
  obtain ⟨h7, -, hd, R, I, F, S, B⟩ := id h
  have hB := B.1
  have h20 := R.1
  obtain ⟨τ1, μ1, β1, t1, t2, t3, G1, K1, R1, I1, F1, rw1, L1, B1⟩ := k_draw R I F B hx (nI x)
  obtain ⟨τ2, T, o1, o2, oS, oT⟩ := order L1 R1
  have R2 : Rl cm sm τ2 μ1 := Rl_sim R1 (fun k i a b => o2 k i a) (simM_rf _)
  have hσ : ∀ i, i < sm → T i % 16 < sm ∧ T i = lky μ1 (T i % 16) := fun i hi => by
    obtain ⟨s, hs, es⟩ := oS.2.1 i hi
    have := lky_lt L1 hs
    rw [es, this.2]; exact ⟨hs, rfl⟩
  have hord : ∀ i j, i < j → j < sm → bky μ1 (T i % 16) < bky μ1 (T j % 16) := fun i j hij hj => by
    rw [bky_iff L1 hB.2 (hσ i (by omega)).1 (hσ j hj).1, ← (hσ i (by omega)).2, ← (hσ j hj).2]
    exact oS.1 i j hij hj
  have hall : ∀ s, s < sm → ∃ i, i < sm ∧ T i % 16 = s := fun s hs => by
    obtain ⟨i, hi, e⟩ := oS.2.2 s hs
    exact ⟨i, hi, by rw [e]; exact (lky_lt L1 hs).2⟩
  have hb21 : ∀ i, i < sm → bky μ1 (T i % 16) < 2 ^ 21 := fun i hi => (bky_lt L1 hB.2 (hσ i hi).1).1
  have key : ∀ k, k ≤ sm → ∃ c0 σ ν β' o', gw_it (b_X3_runLottery_1 (nI x)) 4096 ((0 : Int32), (0 : Int32), τ2) = gw_it (b_X3_runLottery_1 (nI x)) (4096 - k) (c0, nI k, σ) ∧ gw_it b_L_draws_2 4096 ((0 : Int32), (-1 : Int32), (0 : Int32), β1, o) = gw_it b_L_draws_2 (4096 - k) (c0, (if k = 0 then (-1 : Int32) else nI (bky μ1 (T (k - 1) % 16))), nI k, β', o') ∧ Rl cm sm σ ν ∧ Iv cm sm td ν ∧ Fr cm sm ν ∧ (∀ q, q ≠ 8 → q ≠ 9 → q ≠ 10 → q ≠ 13 → q ≠ 14 → q ≠ 15 → ν q = μ1 q) ∧ (∀ i, σ 3 i = τ2 3 i) ∧ Bk cm sm td ν β' o' := by
    intro k
    induction k with
    | zero =>
      intro _
      exact ⟨0, τ2, μ1, β1, o, rfl, rfl, R2, I1, F1, fun _ _ _ _ _ _ _ => rfl, fun _ => rfl, B1⟩
    | succ k ih =>
      intro hk
      obtain ⟨c0, σ, ν, β', o', g1, g2, R', I', F', rw', tr, B'⟩ := ih (by omega)
      have r5 : ν 5 = μ1 5 := rw' 5 (by omega) (by omega) (by omega) (by omega) (by omega) (by omega)
      have r12 : ν 12 = μ1 12 := rw' 12 (by omega) (by omega) (by omega) (by omega) (by omega) (by omega)
      have hbk : ∀ s, bky ν s = bky μ1 s := fun s => by unfold bky; rw [r5, r12]
      have L' := Lt_row L1 r5 r12
      obtain ⟨hs, -⟩ := hσ k (by omega)
      have hbt := hb21 k (by omega)
      obtain ⟨w, hmin⟩ := k_min B' L' hs (v8 := if k = 0 then (-1 : Int32) else nI (bky μ1 (T (k - 1) % 16))) (by
        rw [hbk]
        by_cases e : k = 0
        · rw [if_pos e]
          exact fun h => absurd (fa_of_lt (show (-1 : Int32) < nI (bky μ1 (T k % 16)) from by
            rw [fa_lt, nI_toInt (by omega), show (-1 : Int32).toInt = -1 from rfl]; omega)).2.1 (fun q => q h)
        · rw [if_neg e]
          exact nI_ge (hord (k - 1) k (by omega) (by omega)) (by omega)) (fun w hw hp => by
        rw [hbk, hbk]
        rw [hbk] at hp
        obtain ⟨i, hi, ei⟩ := hall w hw
        rw [← ei]
        rcases Nat.lt_trichotomy i k with q | q | q
        · refine absurd ?_ hp
          rw [if_neg (by omega), ← ei]
          refine nI_le ?_ (by have := hb21 (k - 1) (by omega); omega)
          rcases Nat.lt_or_ge i (k - 1) with q2 | q2
          · exact Nat.le_of_lt (hord i (k - 1) q2 (by omega))
          · rw [show i = k - 1 by omega]; exact Nat.le_refl _
        · rw [q]; exact Nat.le_refl _
        · exact Nat.le_of_lt (hord k i q hi)) c0 (nI k)
      rw [hbk] at hmin
      obtain ⟨τ4, μ4, β4, o4, g, w4, q1, q2, R4, I4, F4, S4, rw4, B4⟩ := k_turn R' I' F' B' hs c0 (nI (bky μ1 (T k % 16))) (nI k)
      have hTk : T k < 2 ^ 22 := by rw [(hσ k (by omega)).2]; exact (lky_lt L1 hs).1
      have e7 : nI (bky μ1 (T k % 16)) &&& (7 : Int32) = nI (T k % 16) := by
        rw [show (7 : Int32) = nI (2 ^ 3 - 1) from rfl, fa_mask, show (2 : Nat) ^ 3 = 8 from rfl, (bky_lt L1 hB.2 hs).2]
      have hX : b_X3_runLottery_1 (nI x) (c0, nI k, σ) = (f_X3_takeTurn σ (24 + T k % 16)).bind fun r6 => if r6.1 = 0 then some (.inl (c0, nI (k + 1), r6.2)) else some (.inl (c0 + 1, nI (k + 1), r6.2)) := by
        rw [b_X3_runLottery_1, r_sm R', if_neg (n_lt (by omega)), if_pos (ib_ok (by show k < 16; omega) (by decide)), nI_clamp (n := k) (by omega), tr, oT k (by omega), show (16 : Int32) = nI 16 from rfl, pk_rem (by omega) (by omega) (by omega), s_at R' hs, bs, gx_l, nI_1]
      have hL : b_L_draws_2 (c0, (if k = 0 then (-1 : Int32) else nI (bky μ1 (T (k - 1) % 16))), nI k, β', o') = if g < 0 then some (.inl (c0, nI (bky μ1 (T k % 16)), nI (k + 1), β', o')) else ((f_L_enrols β' o' (nI (T k % 16)) g).bind fun r14 => some (.inl (c0 + 1, nI (bky μ1 (T k % 16)), nI (k + 1), r14.1, r14.2))) := by
        rw [b_L_draws_2, rd21, cl1, e_n1 B', if_neg (n_lt (by omega)), hmin, bs]
        dsimp only
        rw [e7, x8, x8_4, rd1 (by omega), cln (by omega), q1, bs, nI_1]
      refine ⟨if g < 0 then c0 else c0 + 1, τ4, μ4, β4, o4, ?_, ?_, R4, I4, F4, fun q a1 a2 a3 a4 a5 a6 => by rw [rw4 q a1 a2 a3 a4 a5 a6, rw' q a1 a2 a3 a4 a5 a6], fun i => (S4 3 i (Or.inl rfl)).trans (tr i), B4⟩
      · rw [g1, show 4096 - k = 4096 - (k + 1) + 1 from by omega, gw_it_st]
        rw [hX]
        rcases q2 with ⟨y1, y2, -, -⟩ | ⟨y1, y2, -⟩
        · rw [y1, bs, if_pos rfl, if_pos y2]
        · rw [y1, bs, if_neg n10, if_neg y2]
      · rw [g2, show 4096 - k = 4096 - (k + 1) + 1 from by omega, gw_it_st]
        rw [hL, if_neg (show ¬ k + 1 = 0 by omega), Nat.add_sub_cancel]
        rcases q2 with ⟨-, y2, rfl, rfl⟩ | ⟨-, y2, y3⟩
        · rw [if_pos y2, if_pos y2]
        · rw [if_neg y2, if_neg y2, y3]; rfl
  obtain ⟨c0, σ, ν, β3, o3, g1, g2, R3, I3, F3, rw3, tr, B3⟩ := key sm (Nat.le_refl sm)
  have r0 : ν 0 = μ 0 := by rw [rw3 0 (by omega) (by omega) (by omega) (by omega) (by omega) (by omega), rw1 0 (by omega)]
  refine go_of hj (by omega) (td := td) (by rw [r0]; exact hd) R3 I3 F3 B3 (v := c0) ?_ (fun τ' μ' m1 R' rw' => ?_)
  · show (f_L_draws β o (nI x)).bind _ = _
    have e : f_L_draws β o (nI x) = some (c0, β3, o3) := by
      unfold f_L_draws
      rw [nI_l (by omega), K1, bs]
      refine it_bd (t := (c0, (if sm = 0 then (-1 : Int32) else nI (bky μ1 (T (sm - 1) % 16))), nI sm, β3, o3)) ?_ rfl
      dsimp only
      rw [g2, show 4096 - sm = 4096 - sm - 1 + 1 from by omega, gw_it_en]
      rw [b_L_draws_2, rd21, cl1, e_n1 B3, if_pos (n_le (Nat.le_refl _))]
    rw [e]; rfl
  · rw [dz11]
    unfold f_X3_runLottery f_X3_drawNumbers
    have e : gw_it (b_X3_runLottery_1 (nI x)) 4096 ((0 : Int32), (0 : Int32), τ2) = some (c0, nI sm, σ) := by
      rw [g1, show 4096 - sm = 4096 - sm - 1 + 1 from by omega, gw_it_en]
      rw [b_X3_runLottery_1, r_sm R3, if_pos (n_le (Nat.le_refl _))]
    rw [if_pos (show (0 : Int32) ≤ nI x from nI_pos' hx), nI_l (by omega), G1, bs, bs, o1, bs, e, bs]
    dsimp only
    rw [m1]; rfl
end bi
