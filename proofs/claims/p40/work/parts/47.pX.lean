section exi
variable {cm sm td : Nat} {τ μ : gw_S}
/-- between the rounds: x stays, the others have their places -/
def Rnd (cm sm : Nat) (μ : gw_S) (x : Int32) (σ ν : gw_S) : Prop :=
  (∀ i, bt x i = true → i < sm ∧ μ 11 i ≠ -1) ∧
  (∀ s, s < sm → μ 11 s ≠ -1 → bt x s = false → ∃ t, t < sm ∧ σ (24 + s) 8 = nI t ∧ ν 18 s = nI t ∧ μ 11 t ≠ -1 ∧ bt x t = false ∧ (t = s ∨ Wsh cm μ s t)) ∧
  (∀ s, s < sm → (μ 11 s = -1 ∨ bt x s = true) → ν 18 s = nI s) ∧
  (∀ s t, s < sm → t < sm → μ 11 s ≠ -1 → μ 11 t ≠ -1 → bt x s = false → bt x t = false → ν 18 s = ν 18 t → s = t)
theorem round_pair (R : Rl cm sm τ μ) (I : Iv cm sm td μ) {x : Int32} {σ ν : gw_S} (hT : kT τ σ) (hM : kM μ ν) (hR : Rnd cm sm μ x σ ν) (hx0 : x ≠ 0) : ∃ y σ' ν' x', f_X3_pointAll σ x = some σ' ∧ f_X3_onCircles σ' x = some y ∧ x' = x &&& (y ^^^ (-1 : Int32)) ∧ f_X4_circles ν x = some (x', ν') ∧ kT τ σ' ∧ kM μ ν' ∧ Rnd cm sm μ x' σ' ν' ∧ fb_ct (fun i => bt x' i) sm < fb_ct (fun i => bt x i) sm := by
  have h20 := R.1
  obtain ⟨r1, r2, r3, r4⟩ := hR
  obtain ⟨σ1, ν1, g1, ⟨w, g2⟩, k1, k2, pt, k4⟩ := point_pair R I r1 hT hM
  have hT1 : kT τ σ1 := kT_tr hT k1
  have hM1 : kM μ ν1 := kM_tr hM (fun q b _ => k2 q b)
  have hN : Nx sm x σ1 ν1 (fun s => nn (ν1 17 s)) := fun s hs hb => by
    obtain ⟨t, t1, t2, t3, t4⟩ := pt s hs hb
    show σ1 (24 + s) 8 = nI (nn (ν1 17 s)) ∧ ν1 17 s = nI (nn (ν1 17 s)) ∧ nn (ν1 17 s) < sm ∧ bt x (nn (ν1 17 s)) = true
    rw [t3, n_cl]
    refine ⟨t2, rfl, t1, ?_⟩
    rcases t4 with rfl | ⟨t4, -⟩
    · exact hb
    · exact t4
  generalize hf : (fun s => nn (ν1 17 s)) = f at hN
  have e3 : σ1 0 3 = nI sm := by rw [hT1 0 3 (by omega)]; exact r_sm R
  have e5 : ν1 0 5 = nI sm := by rw [hM1 0 (by omega) (by omega)]; exact r_sm' R
  obtain ⟨y, c1, c2⟩ := c_onc h20.2 e3 hN
  obtain ⟨⟨x', w', ν2⟩, m1, m2, m3, m4⟩ := m_onc h20.2 e5 hN
  have m2 : ∀ i, i < 32 → (bt x' i = true ↔ (bt x i = true ∧ ¬ (i < sm ∧ cyc f i))) := m2
  have m3 : ∀ k, k ≠ 18 → ν2 k = ν1 k := m3
  have m4 : ∀ s, s < sm → ((bt x s = true ∧ cyc f s) → ν2 18 s = nI (f s)) ∧ (¬ (bt x s = true ∧ cyc f s) → ν2 18 s = ν1 18 s) := m4
  have hxx : ∀ i, bt x' i = true ↔ (bt x i = true ∧ ¬ cyc f i) := fun i => by
    rcases Nat.lt_or_ge i 32 with h | h
    · rw [m2 i h]
      constructor
      · rintro ⟨a, b⟩; exact ⟨a, fun hc => b ⟨(r1 i a).1, hc⟩⟩
      · rintro ⟨a, b⟩; exact ⟨a, fun hc => b hc.2⟩
    · rw [b_big h, b_big h]; simp
  have hxf : ∀ i, bt x' i = false ↔ (bt x i = false ∨ cyc f i) := fun i => by
    have := hxx i
    cases h1 : bt x' i
    · rw [h1] at this
      cases h2 : bt x i
      · simp
      · rw [h2] at this
        simp at this ⊢
        exact this
    · rw [h1] at this
      have := this.mp rfl
      simp [this.1, this.2]
  have n18 : ν1 18 = ν 18 := k2 18 (by omega)
  have hM2 : kM μ ν2 := kM_tr hM1 (fun q a b => m3 q b)
  have hwsh : ∀ s, s < sm → bt x s = true → f s < sm ∧ σ1 (24 + s) 8 = nI (f s) ∧ (f s = s ∨ Wsh cm μ s (f s)) := fun s hs hb => by
    obtain ⟨t, t1, t2, t3, t4⟩ := pt s hs hb
    obtain ⟨n1, n2, n3, n4⟩ := hN s hs hb
    have e : t = f s := nI_inj (t3.symm.trans n2)
    subst e
    exact ⟨n3, n1, t4.imp id (fun h => h.2)⟩
  refine ⟨y, σ1, ν2, x', g1, c1, ?_, ?_, hT1, hM2, ⟨fun i hi => r1 i ((hxx i).mp hi).1, fun s hs hup hb => ?_, fun s hs hb => ?_, fun s t hs ht hsu htu hsb htb e => ?_⟩, ?_⟩
  · refine b_ext (fun i hi => ?_)
    rw [b_and, b_xor, b_m1 i hi, Bool.eq_iff_iff, m2 i hi, Bool.and_eq_true]
    constructor
    · rintro ⟨a, b⟩
      refine ⟨a, ?_⟩
      cases hy : bt y i
      · rfl
      · have := (c2 i hi).mp hy
        exact absurd ⟨this.1, this.2.2⟩ b
    · rintro ⟨a, b⟩
      refine ⟨a, fun h => ?_⟩
      rw [(c2 i hi).mpr ⟨h.1, a, h.2⟩] at b
      cases b
  · unfold f_X4_circles
    rw [it_bd g2 rfl]
    exact it_bd m1 rfl
  · rcases (hxf s).mp hb with h | h
    · obtain ⟨t, t1, t2, t3, t4, t5, t6⟩ := r2 s hs hup h
      refine ⟨t, t1, (k4 s 8 hs (Or.inl h)).trans t2, ?_, t4, ?_, t6⟩
      · rw [(m4 s hs).2 (fun hh => by rw [h] at hh; cases hh.1), n18]; exact t3
      · exact (hxf t).mpr (Or.inl t5)
    · by_cases hbx : bt x s = true
      · obtain ⟨w1, w2, w3⟩ := hwsh s hs hbx
        have hfx := (hN s hs hbx).2.2.2
        exact ⟨f s, w1, w2, (m4 s hs).1 ⟨hbx, h⟩, (r1 _ hfx).2, (hxf _).mpr (Or.inr (cyc_nx h)), w3⟩
      · have h : bt x s = false := by simpa using hbx
        obtain ⟨t, t1, t2, t3, t4, t5, t6⟩ := r2 s hs hup h
        refine ⟨t, t1, (k4 s 8 hs (Or.inl h)).trans t2, ?_, t4, ?_, t6⟩
        · rw [(m4 s hs).2 (fun hh => hbx hh.1), n18]; exact t3
        · exact (hxf t).mpr (Or.inl t5)
  · rcases hb with h | h
    · rw [(m4 s hs).2 (fun hh => (r1 s hh.1).2 h), n18]; exact r3 s hs (Or.inl h)
    · have := (hxx s).mp h
      rw [(m4 s hs).2 (fun hh => this.2 hh.2), n18]; exact r3 s hs (Or.inr this.1)
  · -- row 18 stays one to one
    have val : ∀ s, s < sm → μ 11 s ≠ -1 → bt x' s = false → (bt x s = true ∧ cyc f s ∧ ν2 18 s = nI (f s) ∧ f s < sm ∧ bt x (f s) = true) ∨ (bt x s = false ∧ ν2 18 s = ν 18 s ∧ ∃ t, t < sm ∧ ν 18 s = nI t ∧ bt x t = false) := fun s hs hsu hsb => by
      by_cases hbx : bt x s = true
      · have hc : cyc f s := by
          rcases (hxf s).mp hsb with h | h
          · rw [hbx] at h; cases h
          · exact h
        exact Or.inl ⟨hbx, hc, (m4 s hs).1 ⟨hbx, hc⟩, (hN s hs hbx).2.2.1, (hN s hs hbx).2.2.2⟩
      · have h : bt x s = false := by simpa using hbx
        obtain ⟨t, t1, t2, t3, t4, t5, t6⟩ := r2 s hs hsu h
        exact Or.inr ⟨h, by rw [(m4 s hs).2 (fun hh => hbx hh.1), n18], t, t1, t3, t5⟩
    rcases val s hs hsu hsb with ⟨a1, a2, a3, a4, a5⟩ | ⟨a1, a2, q, a3, a4, a5⟩
    · rcases val t ht htu htb with ⟨b1, b2, b3, b4, b5⟩ | ⟨b1, b2, q, b3, b4, b5⟩
      · rw [a3, b3] at e
        exact cyc_inj a2 b2 (nI_inj e)
      · rw [a3, b2, b4] at e
        have := nI_inj e
        rw [this, b5] at a5; cases a5
    · rcases val t ht htu htb with ⟨b1, b2, b3, b4, b5⟩ | ⟨b1, b2, q', b3, b4, b5⟩
      · rw [a2, b3, a4] at e
        have := nI_inj e
        rw [← this, a5] at b5; cases b5
      · rw [a2, b2] at e
        exact r4 s t hs ht hsu htu a1 b1 e
  · -- fewer
    obtain ⟨s, hs⟩ : ∃ s, bt x s = true := by
      by_cases h : ∃ s, bt x s = true
      · exact h
      · exact absurd (bt_nz.mpr (fun i _ => by
          cases hb : bt x i
          · rfl
          · exact absurd ⟨i, hb⟩ h)) hx0
    have hsm := (r1 s hs).1
    have hin := nx_in hN hsm hs
    obtain ⟨i, hc⟩ := cyc_ex (fun i => (hin i).1)
    have ha := hin i
    generalize itr f i s = a at ha hc
    have h1 := fb_ct_upd (fun i => bt x i) false ha.1
    have h2 : fb_ct (fun i => bt x' i) sm ≤ fb_ct (fun k => if k = a then false else bt x k) sm := fb_ct_sub (fun k hk hb => by
      have := (hxx k).mp hb
      show (if k = a then false else bt x k) = true
      rw [if_neg (fun e => this.2 (by rw [e]; exact hc))]; exact this.1)
    have h3 : (if bt x a = true then 1 else 0) = 1 := if_pos ha.2
    rw [h3] at h1
    simp only [Bool.false_eq_true, ↓reduceIte] at h1
    omega
/-- all the rounds -/
theorem rounds (R : Rl cm sm τ μ) (I : Iv cm sm td μ) {x : Int32} {ν : gw_S} (hM : kM μ ν) (hR : Rnd cm sm μ x τ ν) (v : Int32) : ∃ σ' ν', (∃ a b, gw_it (b_X3_runExchange_1 v) 4096 (x, (0 : Int32), τ) = some (a, b, σ')) ∧ (∃ a b, gw_it b_X4_runExchange_2 4096 (x, (0 : Int32), ν) = some (a, b, ν')) ∧ kT τ σ' ∧ kM μ ν' ∧ Rnd cm sm μ 0 σ' ν' := by
  have h20 := R.1
  obtain ⟨⟨a, b, σ'⟩, G, a', b', ν', hm, q1, q2, q3⟩ := gw_run0 (b := b_X3_runExchange_1 v) (s := (x, (0 : Int32), τ)) (fun k s => s.2.1 = nI k ∧ ∃ ν', kT τ s.2.2 ∧ kM μ ν' ∧ Rnd cm sm μ s.1 s.2.2 ν' ∧ fb_ct (fun i => bt s.1 i) sm + k ≤ sm ∧ gw_it b_X4_runExchange_2 4096 (x, (0 : Int32), ν) = gw_it b_X4_runExchange_2 (4096 - k) (s.1, nI k, ν')) (fun t => ∃ a b ν', gw_it b_X4_runExchange_2 4096 (x, (0 : Int32), ν) = some (a, b, ν') ∧ kT τ t.2.2 ∧ kM μ ν' ∧ Rnd cm sm μ 0 t.2.2 ν') sm (by omega) ⟨rfl, ν, fun _ _ _ => rfl, hM, hR, by have := fb_ct_le (fun i => bt x i) sm; omega, rfl⟩ (fun k s hk hI => by
    obtain ⟨x1, w, σ⟩ := s
    obtain ⟨e, ν1, a1, a2, a3, a4, hm⟩ := hI
    have e : w = nI k := e
    subst e
    have a1 : kT τ σ := a1
    have a3 : Rnd cm sm μ x1 σ ν1 := a3
    have a4 : fb_ct (fun i => bt x1 i) sm + k ≤ sm := a4
    have hm : gw_it b_X4_runExchange_2 4096 (x, (0 : Int32), ν) = gw_it b_X4_runExchange_2 (4096 - k) (x1, nI k, ν1) := hm
    have e3 : σ 0 3 = nI sm := by rw [a1 0 3 (by omega)]; exact r_sm R
    by_cases hx : x1 = 0
    · subst hx
      refine Or.inl ⟨(0, nI k, σ), ?_, 0, nI k, ν1, ?_, a1, a2, a3⟩
      · rw [b_X3_runExchange_1]
        by_cases h : σ 0 3 ≤ nI k
        · rw [if_pos h]
        · rw [if_neg h, if_pos rfl]
      · rw [hm, show 4096 - k = 4096 - k - 1 + 1 from by omega, gw_it_en]
        rw [b_X4_runExchange_2]
        by_cases h : (16 : Int32) ≤ nI k
        · rw [if_pos h]
        · rw [if_neg h, if_pos rfl]
    · obtain ⟨y, σ2, ν2, x2, g1, g2, g3, g4, g5, g6, g7, g8⟩ := round_pair R I a1 a2 a3 hx
      have hkn : k < sm := by omega
      refine Or.inr ⟨hkn, (x2, nI (k + 1), σ2), ?_, rfl, ν2, g5, g6, g7, ?_, ?_⟩
      · rw [b_X3_runExchange_1, e3, if_neg (n_lt hkn (by omega)), if_neg hx, g1, bs, g2, bs, ← g3, nI_1]
      · show fb_ct (fun i => bt x2 i) sm + (k + 1) ≤ sm
        omega
      · rw [hm, show 4096 - k = 4096 - (k + 1) + 1 from by omega, gw_it_st]
        rw [b_X4_runExchange_2, if_neg (show ¬ (16 : Int32) ≤ nI k from n_lt (n := 16) (by omega) (by decide)), if_neg hx, g4, bs, nI_1])
  exact ⟨σ', ν', ⟨a, b, G⟩, ⟨a', b', hm⟩, q1, q2, q3⟩
end exi
