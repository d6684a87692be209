section lot2
variable {cm sm td : Nat} {τ μ : gw_S}
def sd1 (x : Nat) : Nat := (1103515245 * x + 12345) % 2 ^ 31
theorem sd_eq {x : Nat} (hx : x < 2 ^ 31) : (((1103515245 : Int64) * lN x) + (12345 : Int64)) - (((1103515245 : Int64) * lN x) + (12345 : Int64)) / (2147483648 : Int64) * (2147483648 : Int64) = lN (sd1 x) := by
  rw [show (1103515245 : Int64) = lN 1103515245 from rfl, show (12345 : Int64) = lN 12345 from rfl, show (2147483648 : Int64) = lN 2147483648 from rfl, lN_mul, lN_add, pk_lRem (by omega) (by omega) (by omega)]
  rfl
theorem sd_lot {x : Nat} (hx : x < 2 ^ 31) : (lN x / (65536 : Int64)).toInt32 = nI (x / 65536) := by
  rw [show (65536 : Int64) = lN 65536 from rfl, pk_lDiv (by omega) (by omega) (by omega), lN_i]
theorem draw (R : Rl cm sm τ μ) (I : Iv cm sm td μ) (F : Fr cm sm μ) {x : Nat} (hx : x < 2 ^ 31) (y : Int32) : ∃ τ' t, gw_it (b_X3_drawNumbers_1 y) 4096 (lN x, (0 : Int32), τ) = some (t.1, t.2.1, τ') ∧ gw_it (b_X4_runLottery_1 y) 4096 (lN x, (0 : Int32), μ) = some t ∧ Rl cm sm τ' t.2.2 ∧ Iv cm sm td t.2.2 ∧ Fr cm sm t.2.2 ∧ (∀ k, k ≠ 12 → t.2.2 k = μ k) ∧ Lt sm t.2.2 := by
  have h20 := R.1
  obtain ⟨⟨s1, s2, τ'⟩, G, z, hm, rest⟩ := gw_for (b := b_X3_drawNumbers_1 y) (s := (lN x, (0 : Int32), τ)) (fun k s => s.2.1 = nI k ∧ ∃ z μ', z < 2 ^ 31 ∧ s.1 = lN z ∧ Rl cm sm s.2.2 μ' ∧ Iv cm sm td μ' ∧ Fr cm sm μ' ∧ (∀ q, q ≠ 12 → μ' q = μ q) ∧ (∀ s, s < k → lt_ (μ' 12 s) 32768) ∧ gw_it (b_X4_runLottery_1 y) 4096 (lN x, (0 : Int32), μ) = gw_it (b_X4_runLottery_1 y) (4096 - k) (lN z, nI k, μ')) (fun t => ∃ z : gw_S, gw_it (b_X4_runLottery_1 y) 4096 (lN x, (0 : Int32), μ) = some (t.1, t.2.1, z) ∧ Rl cm sm t.2.2 z ∧ Iv cm sm td z ∧ Fr cm sm z ∧ (∀ q, q ≠ 12 → z q = μ q) ∧ ∀ s, s < sm → lt_ (z 12 s) 32768) sm (by omega) ⟨rfl, x, μ, hx, rfl, R, I, F, fun _ _ => rfl, fun s hs => absurd hs (Nat.not_lt_zero s), rfl⟩ (fun k s hk hI => by
    obtain ⟨w, v, σ⟩ := s
    obtain ⟨e, z, μ', hz, ez, R', I', F', rw', lt', hm⟩ := hI
    have e : v = nI k := e
    have ez : w = lN z := ez
    subst e ez
    have R' : Rl cm sm σ μ' := R'
    have hz1 : sd1 z < 2 ^ 31 := Nat.mod_lt _ (by decide)
    have I2 : Iv cm sm td (gw_up μ' 12 k (nI (sd1 z / 65536))) := by
      obtain ⟨v1, v3, v4, v5, v6, v7, v8, v9, v10, v11⟩ := I'
      exact ⟨v1, v3, v4, v5, v6, v7, v8, v9, v10, v11⟩
    refine ⟨(lN (sd1 z), nI (k + 1), gw_up σ (24 + k) 6 (nI (sd1 z / 65536))), ?_, rfl, sd1 z, gw_up μ' 12 k (nI (sd1 z / 65536)), hz1, rfl, Rl_us R' _ hk rfl (by omega) (by omega), I2, Fr_rows (μ := μ') F' rfl rfl rfl, fun q hq => by rw [gw_up_rown hq, rw' q hq], fun s hs => ?_, ?_⟩
    · rw [b_X3_drawNumbers_1, r_sm R', if_neg (n_lt hk), if_pos (ib_ok (by omega)), nI_clamp (by omega), sd_eq hz, sd_lot hz1, nI_1]
    · by_cases e : s = k
      · subst e; rw [gw_up_s]; exact lt_mk (by omega)
      · rw [gw_up_n (by omega)]; exact lt' s (by omega)
    · rw [hm, show 4096 - k = 4096 - (k + 1) + 1 from by omega, gw_it_st]
      rw [b_X4_runLottery_1, r_sm' R', if_neg (n_lt hk), if_pos (ib_ok (by show k < 16; omega) (by decide)), nI_clamp (by omega), sd_eq hz, sd_lot hz1, nI_1]) (fun s hI => by
    obtain ⟨w, v, σ⟩ := s
    obtain ⟨e, z, μ', hz, ez, R', I', F', rw', lt', hm⟩ := hI
    have e : v = nI sm := e
    have ez : w = lN z := ez
    subst e ez
    have R' : Rl cm sm σ μ' := R'
    refine ⟨(lN z, nI sm, σ), ?_, μ', ?_, R', I', F', rw', lt'⟩
    · rw [b_X3_drawNumbers_1, r_sm R', if_pos (n_le (Nat.le_refl _))]
    · rw [hm, show 4096 - sm = 4096 - sm - 1 + 1 from by omega, gw_it_en]
      show b_X4_runLottery_1 y (lN z, nI sm, μ') = _
      rw [b_X4_runLottery_1, r_sm' R', if_pos (n_le (Nat.le_refl _))])
  exact ⟨τ', (s1, s2, z), G, hm, rest.1, rest.2.1, rest.2.2.1, rest.2.2.2.1, h20.2, fun s hs => ⟨(rest.2.1.2.2.1 s hs).1, rest.2.2.2.2 s hs⟩⟩
theorem lky_row {μ' : gw_S} (h5 : μ' 5 = μ 5) (h12 : μ' 12 = μ 12) (s : Nat) : lky μ' s = lky μ s := by unfold lky; rw [h5, h12]
theorem Lt_row {μ' : gw_S} (h : Lt sm μ) (h5 : μ' 5 = μ 5) (h12 : μ' 12 = μ 12) : Lt sm μ' := by unfold Lt; rw [h5, h12]; exact h
/-- the turn at rank v: the reference looks for who has it -/
theorem look (h : Lt sm μ) {μ1 : gw_S} (e0 : μ 0 5 = nI sm) {v t : Nat} (ht : t < sm) (hr : ∀ s, s < sm → (fb_ct (fun w => decide (lky μ w < lky μ s)) sm = v ↔ s = t)) {b : Int32} (hg : f_X4_getsOne μ (nI t) = some (b, μ1)) (hb : b = 0 ∨ b = 1) (r0 : μ1 0 = μ 0) (r5 : μ1 5 = μ 5) (r12 : μ1 12 = μ 12) (x1 : Int32) (x2 : Int64) (c0 : Int32) : ∃ w, gw_it (b_X4_runLottery_3 x1 x2 (nI v)) 4096 (c0, (0 : Int32), μ) = some (c0 + b, w, μ1) := by
  have h16 := h.1
  have hv : v < 2 ^ 31 := by
    have := (hr t ht).mpr rfl
    have := fb_ct_le (fun w => decide (lky μ w < lky μ t)) sm
    omega
  have h1 := Lt_row (μ' := μ1) h r5 r12
  have e1 : μ1 0 5 = nI sm := by rw [r0]; exact e0
  refine ⟨nI sm, ?_⟩
  have key : ∀ k, k < sm → ∀ (ν : gw_S) (c : Int32), Lt sm ν → ν 0 5 = nI sm → (∀ s, lky ν s = lky μ s) → b_X4_runLottery_3 x1 x2 (nI v) (c, nI k, ν) = if k = t then (f_X4_getsOne ν (nI k)).bind (fun r5 => if r5.1 = 0 then some (.inl (c + (0 : Int32), nI k + 1, r5.2)) else some (.inl (c + (1 : Int32), nI k + 1, r5.2))) else some (.inl (c + 0, nI k + 1, ν)) := by
    intro k hk ν c hν eν lν
    obtain ⟨w, G⟩ := m_rank hν eν hk x1 x2 c (nI v)
    rw [b_X4_runLottery_3, eν, if_neg (n_lt hk)]
    refine it_bd G ?_
    have hc : fb_ct (fun s => decide (lky ν s < lky ν k)) sm = fb_ct (fun s => decide (lky μ s < lky μ k)) sm := fb_ct_cong (fun q _ => by rw [lν, lν])
    have hle := fb_ct_le (fun s => decide (lky ν s < lky ν k)) sm
    by_cases e : k = t
    · rw [if_pos e, if_pos (show nI _ = nI v from by rw [hc, (hr k hk).mpr e])]
    · rw [if_neg e, if_neg (fun e2 => e ((hr k hk).mp (by rw [← hc]; exact nI_inj e2 (by omega) hv)))]
  have G := gw_fun (b := b_X4_runLottery_3 x1 x2 (nI v)) (fun k => if k ≤ t then (c0, nI k, μ) else (c0 + b, nI k, μ1)) (c0 + b, nI sm, μ1) sm (by omega) (fun k hk => by
    by_cases e : k ≤ t
    · rw [if_pos e, key k hk μ c0 h e0 (fun _ => rfl)]
      by_cases e2 : k = t
      · subst e2
        rw [if_pos rfl, hg, bs, if_neg (show ¬ k + 1 ≤ k by omega), nI_1]
        rcases hb with rfl | rfl
        · rfl
        · rfl
      · rw [if_neg e2, if_pos (by omega), Int32.add_zero, nI_1]
    · rw [if_neg e, key k hk μ1 (c0 + b) h1 e1 (fun s => lky_row r5 r12 s), if_neg (by omega), if_neg (by omega), Int32.add_zero, nI_1]) (by
    rw [if_neg (by omega), b_X4_runLottery_3, e1, if_pos (n_le (Nat.le_refl _))])
  rw [if_pos (Nat.zero_le _)] at G
  exact G
theorem op_runLottery {j : Nat} {τ μ : gw_S} (h : Inv j τ μ) (hj : j < 512) (a1 : Int32) : ∃ r q, f_X3_runLottery τ a1 = some r ∧ f_X4_runLottery μ a1 = some q ∧ (∀ e, r.1 = .inr e → e = "java/lang/IllegalArgumentException") ∧ q.2 0 18 = lw_k ["java/lang/IllegalArgumentException"] r.1 ∧ (∀ v, r.1 = .inl v → v = q.1) ∧ Inv (j + 1) r.2 q.2 := by
  obtain ⟨cm, sm, td, h7, hd, R, I, F, B⟩ := id h
  have h20 := R.1
  unfold f_X3_runLottery f_X4_runLottery
  by_cases q1 : 0 ≤ a1
  rotate_left
  · rw [if_neg q1, if_neg q1]
    exact wr_ex h rfl rfl rfl (by decide +kernel)
  · rw [if_pos q1, if_pos q1]
    obtain ⟨x, hx, rfl⟩ := nI_of (x := a1) (fun h5 => (fa_of_lt h5).2.1 q1)
    obtain ⟨τ1, t, G1, M1, R1, I1, F1, rw1, L1⟩ := draw (Rl_sim R (simT_rf τ) (simM_18 μ 0)) (Iv_sim I (simM_18 μ 0)) (Fr_sim F (simM_18 μ 0)) hx (nI x)
    obtain ⟨t1, t2, μ1⟩ := t
    have R1 : Rl cm sm τ1 μ1 := R1
    have I1 : Iv cm sm td μ1 := I1
    have F1 : Fr cm sm μ1 := F1
    have L1 : Lt sm μ1 := L1
    have rw1 : ∀ k, k ≠ 12 → μ1 k = gw_up μ 0 18 0 k := rw1
    obtain ⟨τ2, T, o1, o2, oS, oT⟩ := order L1 R1
    have R2 : Rl cm sm τ2 μ1 := Rl_sim R1 (fun k i a b => o2 k i a) (simM_rf _)
    -- ranks
    have hσ : ∀ i, i < sm → T i % 16 < sm ∧ T i = lky μ1 (T i % 16) := fun i hi => by
      obtain ⟨s, hs, es⟩ := oS.2.1 i hi
      have := lky_lt L1 hs
      rw [es, this.2]; exact ⟨hs, rfl⟩
    have hinj : ∀ i j, i < sm → j < sm → T i % 16 = T j % 16 → i = j := fun i j hi hj e => by
      have a := (hσ i hi).2
      have b := (hσ j hj).2
      rw [e, ← b] at a
      rcases Nat.lt_or_ge i j with h | h
      · have := oS.1 i j h hj; omega
      · rcases Nat.lt_or_ge j i with h' | h'
        · have := oS.1 j i h' hi; omega
        · omega
    have hrank : ∀ i, i < sm → fb_ct (fun w => decide (lky μ1 w < lky μ1 (T i % 16))) sm = i := fun i hi => by
      have a := (ct_perm (f := fun i => T i % 16) (fun i hi => (hσ i hi).1) hinj (fun w => decide (lky μ1 w < lky μ1 (T i % 16)))).symm
      have b : fb_ct (fun w => decide (lky μ1 (T w % 16) < lky μ1 (T i % 16))) sm = fb_ct (fun w => decide (w < i)) sm := fb_ct_cong (fun w hw => by
        rw [← (hσ w hw).2, ← (hσ i hi).2]
        refine decide_eq_decide.mpr ⟨fun hlt => ?_, fun hlt => oS.1 w i hlt hi⟩
        rcases Nat.lt_or_ge w i with h | h
        · exact h
        · rcases Nat.eq_or_lt_of_le h with h' | h'
          · rw [h'] at hlt; omega
          · have := oS.1 i w h' hw; omega)
      exact a.trans (b.trans (ct_lt (by omega)))
    have hrk : ∀ i, i < sm → ∀ s, s < sm → (fb_ct (fun w => decide (lky μ1 w < lky μ1 s)) sm = i ↔ s = T i % 16) := fun i hi s hs => by
      constructor
      · intro e
        obtain ⟨k, hk, ek⟩ := oS.2.2 s hs
        have hs2 : T k % 16 = s := by rw [ek]; exact (lky_lt L1 hs).2
        have := hrank k hk
        rw [hs2] at this
        rw [← hs2, show k = i from by omega]
      · intro e; rw [e]; exact hrank i hi
    obtain ⟨⟨s1, s2, τ3⟩, G3, ⟨w, μ3, hm3, R3, I3, F3, rw3⟩⟩ := gw_for (b := b_X3_runLottery_1 (nI x)) (s := ((0 : Int32), (0 : Int32), τ2)) (fun k s => s.2.1 = nI k ∧ ∃ ν, Rl cm sm s.2.2 ν ∧ Iv cm sm td ν ∧ Fr cm sm ν ∧ (∀ q, q ≠ 8 → q ≠ 9 → q ≠ 10 → q ≠ 13 → q ≠ 14 → q ≠ 15 → ν q = μ1 q) ∧ (∀ i, s.2.2 3 i = τ2 3 i) ∧ gw_it (b_X4_runLottery_2 (nI x) t1) 4096 ((0 : Int32), (0 : Int32), μ1) = gw_it (b_X4_runLottery_2 (nI x) t1) (4096 - k) (s.1, nI k, ν)) (fun t => ∃ w ν, gw_it (b_X4_runLottery_2 (nI x) t1) 4096 ((0 : Int32), (0 : Int32), μ1) = some (t.1, w, ν) ∧ Rl cm sm t.2.2 ν ∧ Iv cm sm td ν ∧ Fr cm sm ν ∧ ∀ q, q ≠ 8 → q ≠ 9 → q ≠ 10 → q ≠ 13 → q ≠ 14 → q ≠ 15 → ν q = μ1 q) sm (by omega) ⟨rfl, μ1, R2, I1, F1, fun _ _ _ _ _ _ _ => rfl, fun _ => rfl, rfl⟩ (fun k s hk hI => by
      obtain ⟨c0, v, σ⟩ := s
      obtain ⟨e, ν, R', I', F', rw', tr, hm⟩ := hI
      have e : v = nI k := e
      subst e
      have R' : Rl cm sm σ ν := R'
      have tr : ∀ i, σ 3 i = τ2 3 i := tr
      have hm : gw_it (b_X4_runLottery_2 (nI x) t1) 4096 ((0 : Int32), (0 : Int32), μ1) = gw_it (b_X4_runLottery_2 (nI x) t1) (4096 - k) (c0, nI k, ν) := hm
      obtain ⟨b, σ', ν', p1, p2, R4, I4, F4, S4, rw4, hb⟩ := turn_pair R' I' F' (hσ k hk).1
      have r0 : ν 0 = μ1 0 := rw' 0 (by omega) (by omega) (by omega) (by omega) (by omega) (by omega)
      have r5 : ν 5 = μ1 5 := rw' 5 (by omega) (by omega) (by omega) (by omega) (by omega) (by omega)
      have r12 : ν 12 = μ1 12 := rw' 12 (by omega) (by omega) (by omega) (by omega) (by omega) (by omega)
      obtain ⟨w, hl⟩ := look (v := k) (Lt_row L1 r5 r12) (r_sm' R') (hσ k hk).1 (fun s hs => by
        rw [← hrk k hk s hs]
        have : fb_ct (fun w => decide (lky ν w < lky ν s)) sm = fb_ct (fun w => decide (lky μ1 w < lky μ1 s)) sm := fb_ct_cong (fun q _ => by rw [lky_row r5 r12, lky_row r5 r12])
        rw [this]) p2 hb (rw4 0 (by omega) (by omega) (by omega) (by omega) (by omega) (by omega)) (rw4 5 (by omega) (by omega) (by omega) (by omega) (by omega) (by omega)) (rw4 12 (by omega) (by omega) (by omega) (by omega) (by omega) (by omega)) (nI x) t1 c0
      have hTk : T k < 2 ^ 22 := by rw [(hσ k hk).2]; exact (lky_lt L1 (hσ k hk).1).1
      refine ⟨(c0 + b, nI (k + 1), σ'), ?_, rfl, ν', R4, I4, F4, fun q a1 a2 a3 a4 a5 a6 => by rw [rw4 q a1 a2 a3 a4 a5 a6, rw' q a1 a2 a3 a4 a5 a6], fun i => (S4 3 i (Or.inl rfl)).trans (tr i), ?_⟩
      · rw [b_X3_runLottery_1, r_sm R', if_neg (n_lt hk), if_pos (ib_ok (by show k < 16; omega) (by decide)), nI_clamp (n := k) (by omega), tr, oT k hk, show (16 : Int32) = nI 16 from rfl, pk_rem (by omega) (by omega) (by omega), s_at R' (hσ k hk).1, bs, gx_l, p1, bs, nI_1]
        rcases hb with rfl | rfl
        · rw [Int32.add_zero]; rfl
        · rfl
      · rw [hm, show 4096 - k = 4096 - (k + 1) + 1 from by omega, gw_it_st]
        rw [b_X4_runLottery_2, r_sm' R', if_neg (n_lt hk), nI_1]
        exact it_bd hl rfl) (fun s hI => by
      obtain ⟨c0, v, σ⟩ := s
      obtain ⟨e, ν, R', I', F', rw', tr, hm⟩ := hI
      have e : v = nI sm := e
      subst e
      have R' : Rl cm sm σ ν := R'
      refine ⟨(c0, nI sm, σ), ?_, nI sm, ν, ?_, R', I', F', rw'⟩
      · rw [b_X3_runLottery_1, r_sm R', if_pos (n_le (Nat.le_refl _))]
      · rw [hm, show 4096 - sm = 4096 - sm - 1 + 1 from by omega, gw_it_en]
        show b_X4_runLottery_2 (nI x) t1 (c0, nI sm, ν) = _
        rw [b_X4_runLottery_2, r_sm' R', if_pos (n_le (Nat.le_refl _))])
    have r0 : μ3 0 = gw_up μ 0 18 0 0 := by rw [rw3 0 (by omega) (by omega) (by omega) (by omega) (by omega) (by omega), rw1 0 (by omega)]
    obtain ⟨τ', μ', y1, y2, hI, R', h18, rw'⟩ := fin (j := j) (by omega) (by rw [r0]; exact hd) R3 I3 F3 (by rw [r0]; rfl)
    rw [nI_l (by omega), f_X3_drawNumbers, nI_l (by omega), it_bd G1 rfl, bs, o1, bs, it_bd G3 rfl, M1, bs, it_bd hm3 rfl]
    rw [y1, bs, y2, bs]
    exact wr_ok rfl rfl h18 hI
end lot2
