theorem ct_sum {p g q r : Nat → Bool} : ∀ n, (∀ s, s < n → b1 (p s) + b1 (g s) = b1 (q s) + b1 (r s)) → fb_ct p n + fb_ct g n = fb_ct q n + fb_ct r n
  | 0, _ => rfl
  | n + 1, h => by
    have ih := ct_sum n (fun s hs => h s (by omega))
    have h1 := h n (by omega)
    unfold b1 at h1
    rw [fb_ct_succ, fb_ct_succ, fb_ct_succ, fb_ct_succ]
    omega
theorem pset_row {μ ν : gw_S} (h : ν 11 = μ 11) : ∀ n, pset ν n = pset μ n
  | 0 => rfl
  | n + 1 => by rw [pset, pset, pset_row h n, h]
theorem op_runExchange {j : Nat} {τ μ : gw_S} (h : Inv j τ μ) (hj : j < 512) : ∃ r q, f_X3_runExchange τ = some r ∧ f_X4_runExchange μ = some q ∧ r.1 = q.1 ∧ Inv (j + 1) r.2 q.2 := by
  obtain ⟨cm, sm, td, h7, hd, R, I, F, B⟩ := id h
  have h20 := R.1
  obtain ⟨μ1, hμ1⟩ : ∃ z, z = gw_up μ 0 18 0 := ⟨_, rfl⟩
  have R1 : Rl cm sm τ μ1 := by rw [hμ1]; exact Rl_sim R (simT_rf τ) (simM_18 μ 0)
  have I1 : Iv cm sm td μ1 := by rw [hμ1]; exact Iv_sim I (simM_18 μ 0)
  have F1 : Fr cm sm μ1 := by rw [hμ1]; exact Fr_sim F (simM_18 μ 0)
  have hd1 : μ1 0 17 = nI td := by rw [hμ1]; exact hd
  have h181 : μ1 0 18 = 0 := by rw [hμ1]; rfl
  have hp11 : μ1 11 = μ 11 := by rw [hμ1]; rfl
  obtain ⟨⟨w0, ν0⟩, G0, z1, z2⟩ := x_init h20.2 (r_sm' R1)
  have z1 : ∀ k, k ≠ 18 → ν0 k = μ1 k := z1
  have z2 : ∀ s, s < sm → ν0 18 s = nI s := z2
  have hM0 : kM μ1 ν0 := fun k _ b => z1 k b
  have R0 : Rl cm sm τ ν0 := Rl_sim R1 (simT_rf _) (kM_sim hM0)
  have hps := fun i => pset_bt μ1 sm h20.2 i
  have hR0 : Rnd cm sm μ1 (pset μ1 sm) τ ν0 := by
    refine ⟨fun i hi => (hps i).mp hi, fun s hs hu hb => ?_, fun s hs _ => z2 s hs, fun s t hs ht hu _ hb _ _ => ?_⟩
    · rw [(hps s).mpr ⟨hs, hu⟩] at hb; cases hb
    · rw [(hps s).mpr ⟨hs, hu⟩] at hb; cases hb
  obtain ⟨σ', ν', ⟨x1, x2, g1⟩, ⟨y1, y2, g2⟩, k1, k2, ⟨-, rb, rc, rd⟩⟩ := rounds R1 I1 hM0 hR0 (pset μ1 sm)
  have rb : ∀ s, s < sm → μ1 11 s ≠ -1 → ∃ t, t < sm ∧ σ' (24 + s) 8 = nI t ∧ ν' 18 s = nI t ∧ μ1 11 t ≠ -1 ∧ (t = s ∨ Wsh cm μ1 s t) := fun s hs hu => by
    obtain ⟨t, a1, a2, a3, a4, -, a6⟩ := rb s hs hu (b_0 s)
    exact ⟨t, a1, a2, a3, a4, a6⟩
  have rc : ∀ s, s < sm → μ1 11 s = -1 → ν' 18 s = nI s := fun s hs hu => rc s hs (Or.inl hu)
  obtain ⟨⟨w1, σ2⟩, G1, s1, s2⟩ := mv1 (σ := σ') (ν := ν') (μ := μ1) (x := pset μ1 sm) h20.2 (by rw [k1 0 3 (by omega)]; exact r_sm R) (fun s hs => by rw [k1 _ _ (by omega)]; exact r_upp R1 hs) (fun s hs => ⟨fun hb => ((hps s).mp hb).2, fun hu => (hps s).mpr ⟨hs, hu⟩⟩) (fun s hs hu => by obtain ⟨t, a1, a2, a3, -⟩ := rb s hs hu; exact ⟨t, a1, a2, a3⟩) rc
  have s1 : ∀ k i, ¬ (24 ≤ k ∧ k < 40 ∧ i = 9) → σ2 k i = σ' k i := s1
  have s2 : ∀ s, s < sm → σ2 (24 + s) 9 = Dst μ1 ν' s := s2
  have h18a : ∀ s, s < sm → ∃ t, t < sm ∧ ν' 18 s = nI t := fun s hs => by
    by_cases hu : μ1 11 s = -1
    · exact ⟨s, hs, rc s hs hu⟩
    · obtain ⟨t, a1, a2, a3, -⟩ := rb s hs hu
      exact ⟨t, a1, a3⟩
  obtain ⟨⟨w3, ν2⟩, G3, t1, t2⟩ := mv3 (ν := ν') (μ := μ1) h20.2 (by rw [k2 0 (by omega) (by omega)]; exact r_sm' R1) (k2 11 (by omega) (by omega)) h18a y1 0
  have t1 : ∀ k, k ≠ 17 → ν2 k = ν' k := t1
  have t2 : ∀ s, s < sm → ν2 17 s = Dst μ1 ν' s := t2
  have hM2 : kM μ1 ν2 := fun k a b => by rw [t1 k a, k2 k a b]
  have hT2 : kT τ σ2 := fun k i hh => by rw [s1 k i (by omega), k1 k i hh]
  have R2 : Rl cm sm σ2 ν2 := Rl_sim R1 (kT_sim hT2) (kM_sim hM2)
  have I2 : Iv cm sm td ν2 := Iv_sim I1 (kM_sim hM2)
  have ups : ∀ s, s < sm → μ1 11 s ≠ -1 → ∃ u, u < cm ∧ μ1 11 s = nI u ∧ bt (μ1 8 s) u = true := fun s hs hu => by
    rcases I1.2.2.2.2.2.2.2.2.1 s hs with e | ⟨e, e2⟩
    · exact absurd e hu
    · exact ⟨_, e.2, e.1, e2⟩
  have mv : ∀ s, s < sm → ν' 18 s = nI s ∧ Dst μ1 ν' s = -1 ∨ ∃ t u d, t < sm ∧ t ≠ s ∧ ν' 18 s = nI t ∧ u < cm ∧ μ1 11 s = nI u ∧ bt (μ1 8 s) u = true ∧ d < cm ∧ μ1 11 t = nI d ∧ Dst μ1 ν' s = nI d ∧ bt (μ1 8 s) d = false := fun s hs => by
    unfold Dst
    by_cases e : ν' 18 s = nI s
    · rw [if_pos e]; exact Or.inl ⟨e, rfl⟩
    · rw [if_neg e]
      have hu : μ1 11 s ≠ -1 := fun hu => e (rc s hs hu)
      obtain ⟨t, a1, a2, a3, a4, a5⟩ := rb s hs hu
      obtain ⟨u, u1, u2, u3⟩ := ups s hs hu
      rcases a5 with rfl | ⟨d, d1, d2, d3⟩
      · exact absurd a3 e
      · refine Or.inr ⟨t, u, d, a1, fun e2 => e (by rw [a3, e2]), a3, u1, u2, u3, d1, d2, ?_, d3⟩
        rw [a3, n_cl]; exact d2
  have r8 : ν2 8 = μ1 8 := hM2 8 (by omega) (by omega)
  have r11 : ν2 11 = μ1 11 := hM2 11 (by omega) (by omega)
  obtain ⟨v, σ3, ν3, ⟨x3, G4⟩, ⟨x4, G5⟩, R3, I3, m1, -, m3, m4⟩ := mv2 R2 I2 (D := Dst μ1 ν') s2 t2 (fun s hs => by
    rcases mv s hs with ⟨-, e⟩ | ⟨t, u, d, a1, a2, a3, a4, a5, a6, a7, a8, a9, a10⟩
    · exact Or.inl e
    · exact Or.inr ⟨⟨u, a4, by rw [r11]; exact a5⟩, d, a7, a9, by rw [r8]; exact a10⟩) (pset μ1 sm) y1
  have row0 : ν3 0 = μ1 0 := by rw [m1 0 (by omega) (by omega) (by omega) (by omega) (by omega) (by omega) (by omega), hM2 0 (by omega) (by omega)]
  -- the counts
  have hπ : ∀ s, s < sm → nn (ν' 18 s) < sm := fun s hs => by
    obtain ⟨t, a1, a2⟩ := h18a s hs
    rw [a2, n_cl]; exact a1
  have hinj : ∀ s t, s < sm → t < sm → nn (ν' 18 s) = nn (ν' 18 t) → s = t := fun s t hs ht e => by
    have e' : ν' 18 s = ν' 18 t := by
      obtain ⟨a, a1, a2⟩ := h18a s hs
      obtain ⟨b, b1, b2⟩ := h18a t ht
      rw [a2, b2] at e ⊢
      rw [n_cl, n_cl] at e
      rw [e]
    by_cases hs1 : μ1 11 s = -1
    · by_cases ht1 : μ1 11 t = -1
      · rw [rc s hs hs1, rc t ht ht1] at e'
        exact nI_inj e'
      · obtain ⟨q, a1, -, a3, a4, -⟩ := rb t ht ht1
        rw [rc s hs hs1, a3] at e'
        rw [← nI_inj e'] at a4
        exact absurd hs1 a4
    · by_cases ht1 : μ1 11 t = -1
      · obtain ⟨q, a1, -, a3, a4, -⟩ := rb s hs hs1
        rw [rc t ht ht1, a3] at e'
        rw [nI_inj e'] at a4
        exact absurd ht1 a4
      · exact rd s t hs ht hs1 ht1 (b_0 s) (b_0 t) e'
  have henr : ∀ c, c < cm → enr ν3 sm c = enr μ1 sm c := fun c hc => by
    have key := ct_sum (p := fun s => bt (ν3 8 s) c) (g := fun s => decide (nn (ν' 18 s) ≠ s) && decide (μ1 11 s = nI c)) (q := fun s => bt (μ1 8 s) c) (r := fun s => decide (nn (ν' 18 s) ≠ s) && decide (μ1 11 (nn (ν' 18 s)) = nI c)) sm (fun s hs => by
      have hm := m3 s c hs hc
      rw [r8, r11] at hm
      rcases mv s hs with ⟨e1, e2⟩ | ⟨t, u, d, a1, a2, a3, a4, a5, a6, a7, a8, a9, a10⟩
      · have : nn (ν' 18 s) = s := by rw [e1, n_cl]
        show b1 (bt (ν3 8 s) c) + b1 (decide (nn (ν' 18 s) ≠ s) && _) = b1 (bt (μ1 8 s) c) + b1 (decide (nn (ν' 18 s) ≠ s) && _)
        rw [hm.1 e2, this]
      · have ht : nn (ν' 18 s) = t := by rw [a3, n_cl]
        have hb := hm.2 u d a4 a7 a5 a9
        show b1 (bt (ν3 8 s) c) + b1 (decide (nn (ν' 18 s) ≠ s) && decide (μ1 11 s = nI c)) = b1 (bt (μ1 8 s) c) + b1 (decide (nn (ν' 18 s) ≠ s) && decide (μ1 11 (nn (ν' 18 s)) = nI c))
        rw [hb, ht, a5, a8]
        have n1 : (nI u = nI c) = (c = u) := propext ⟨fun e => (nI_inj e).symm, fun e => by rw [e]⟩
        have n2 : (nI d = nI c) = (c = d) := propext ⟨fun e => (nI_inj e).symm, fun e => by rw [e]⟩
        have hud : u ≠ d := fun e => by rw [e, a10] at a6; cases a6
        simp only [n1, n2]
        by_cases c1 : c = u
        · subst c1
          simp [hud, a2, a6, b1]
        · by_cases c2 : c = d
          · subst c2
            simp [c1, a2, a10, b1]
          · simp [c1, c2])
    have perm := ct_perm (n := sm) (f := fun s => nn (ν' 18 s)) hπ hinj (fun s => decide (nn (ν' 18 s) ≠ s) && decide (μ1 11 s = nI c))
    have same : fb_ct (fun s => decide (nn (ν' 18 s) ≠ s) && decide (μ1 11 (nn (ν' 18 s)) = nI c)) sm = fb_ct (fun s => decide (nn (ν' 18 (nn (ν' 18 s))) ≠ nn (ν' 18 s)) && decide (μ1 11 (nn (ν' 18 s)) = nI c)) sm := fb_ct_cong (fun s hs => by
      have : (nn (ν' 18 s) ≠ s) = (nn (ν' 18 (nn (ν' 18 s))) ≠ nn (ν' 18 s)) := propext ⟨fun a b => a (hinj _ _ (hπ s hs) hs b), fun a b => a (by rw [b, b])⟩
      simp only [this])
    unfold enr
    rw [same] at key
    have perm : fb_ct (fun s => decide (nn (ν' 18 (nn (ν' 18 s))) ≠ nn (ν' 18 s)) && decide (μ1 11 (nn (ν' 18 s)) = nI c)) sm = fb_ct (fun s => decide (nn (ν' 18 s) ≠ s) && decide (μ1 11 s = nI c)) sm := perm
    omega
  have F3 : Fr cm sm ν3 := fun c hc => by
    have a := m4 c hc
    have b : ofc ν2 sm c = ofc μ1 sm c := ofc_same (fun t ht => by rw [hM2 15 (by omega) (by omega)])
    have d := F1 c hc
    rw [henr c hc, m1 1 (by omega) (by omega) (by omega) (by omega) (by omega) (by omega) (by omega), hM2 1 (by omega) (by omega)]
    omega
  obtain ⟨τ', μ', o1, o2, hI, R', h18, rw'⟩ := fin (j := j) (by omega) (by rw [row0]; exact hd1) R3 I3 F3 (by rw [row0]; exact h181)
  refine ⟨(v, τ'), (v, μ'), ?_, ?_, rfl, hI⟩
  · unfold f_X3_runExchange f_X3_movePlaces
    rw [c_par R, bs, ← pset_row hp11, it_bd g1 rfl, it_bd G1 rfl, it_bd G4 rfl, bs, o1, bs]
  · unfold f_X4_runExchange
    rw [← hμ1, it_bd G0 rfl, m_par R0, bs, pset_row (z1 11 (by omega)), it_bd g2 rfl, it_bd G3 rfl, it_bd G5 rfl, o2, bs]
