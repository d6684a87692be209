section ptr
variable {cm sm td : Nat} {τ μ : gw_S}
/-- those who have a place up, among the first n -/
def pset (μ : gw_S) : Nat → Int32
  | 0 => 0
  | n + 1 => if μ 11 n = -1 then pset μ n else pset μ n ||| ((1 : Int32) <<< (nI n &&& 31))
theorem pset_bt (μ : gw_S) : ∀ n, n ≤ 16 → ∀ i, bt (pset μ n) i = true ↔ (i < n ∧ μ 11 i ≠ -1)
  | 0, _, i => by rw [pset, b_0]; simp
  | n + 1, hn, i => by
    have ih := pset_bt μ n (by omega) i
    rw [pset]
    by_cases e : μ 11 n = -1
    · rw [if_pos e, ih]
      constructor
      · rintro ⟨a, b⟩; exact ⟨by omega, b⟩
      · rintro ⟨a, b⟩
        refine ⟨?_, b⟩
        rcases Nat.lt_or_ge i n with h | h
        · exact h
        · rw [show i = n from by omega] at b; exact absurd e b
    · rw [if_neg e]
      rcases Nat.lt_or_ge i 32 with h | h
      · rw [bt_or_bit (by omega) h, Bool.or_eq_true, ih, decide_eq_true_eq]
        constructor
        · rintro (⟨a, b⟩ | rfl)
          · exact ⟨by omega, b⟩
          · exact ⟨by omega, e⟩
        · rintro ⟨a, b⟩
          by_cases e2 : i = n
          · exact Or.inr e2
          · exact Or.inl ⟨by omega, b⟩
      · rw [b_big h]
        constructor
        · intro h; cases h
        · rintro ⟨a, -⟩; omega
theorem c_par (R : Rl cm sm τ μ) : f_X3_participants τ = some (pset μ sm) := by
  have hc := R.1
  unfold f_X3_participants
  have G : gw_it (b_X3_participants_1 τ) 4096 (pset μ 0, nI 0) = some (pset μ sm, nI sm) := by
    refine gw_fun (fun k => (pset μ k, nI k)) _ sm (by omega) (fun k hk => ?_) ?_
    · show b_X3_participants_1 τ (pset μ k, nI k) = some (.inl (pset μ (k + 1), nI (k + 1)))
      rw [b_X3_participants_1, r_sm R, if_neg (n_lt hk), if_pos (ib_ok (by omega)), nI_clamp (by omega), r_upp R hk, f_X3_bit, bs, nI_1, pset]
      split <;> rfl
    · show b_X3_participants_1 τ (pset μ sm, nI sm) = _
      rw [b_X3_participants_1, r_sm R, if_pos (n_le (Nat.le_refl _))]
  exact it_bd G rfl
theorem m_par (R : Rl cm sm τ μ) : f_X4_participants μ = some (pset μ sm) := by
  have hc := R.1
  unfold f_X4_participants
  have G : gw_it (b_X4_participants_1 μ) 4096 (pset μ 0, nI 0) = some (pset μ sm, nI sm) := by
    refine gw_fun (fun k => (pset μ k, nI k)) _ sm (by omega) (fun k hk => ?_) ?_
    · show b_X4_participants_1 μ (pset μ k, nI k) = some (.inl (pset μ (k + 1), nI (k + 1)))
      rw [b_X4_participants_1, r_sm' R, if_neg (n_lt hk), if_pos (ib_ok (by show k < 16; omega) (by decide)), nI_clamp (by omega), nI_1, pset, Int32.or_zero]
      split <;> rfl
    · show b_X4_participants_1 μ (pset μ sm, nI sm) = _
      rw [b_X4_participants_1, r_sm' R, if_pos (n_le (Nat.le_refl _))]
  exact it_bd G rfl
def fwp (μ : gw_S) (x : Int32) (c sm : Nat) : Nat := fa_first (fun v => bt x v && decide (μ 11 v = nI c)) sm
theorem c_fwp (R : Rl cm sm τ μ) (x : Int32) (c : Nat) : f_X3_firstWhoPutUp τ (nI c) x = some (if fwp μ x c sm < sm then nI (fwp μ x c sm) else -1) := by
  have hc := R.1
  have hl := fa_first_le (fun v => bt x v && decide (μ 11 v = nI c)) sm
  unfold f_X3_firstWhoPutUp fwp
  have G : gw_it (b_X3_firstWhoPutUp_1 τ (nI c) x) 4096 (nI 0) = some (if fa_first (fun v => bt x v && decide (μ 11 v = nI c)) sm < sm then .inr (nI (fa_first (fun v => bt x v && decide (μ 11 v = nI c)) sm)) else .inl (nI sm)) := by
    refine gw_fun (fun k => nI k) _ (fa_first (fun v => bt x v && decide (μ 11 v = nI c)) sm) (by omega) (fun k hk => ?_) ?_
    · have := fa_first_no (fun v => bt x v && decide (μ 11 v = nI c)) sm k hk
      show b_X3_firstWhoPutUp_1 τ (nI c) x (nI k) = some (.inl (nI (k + 1)))
      rw [b_X3_firstWhoPutUp_1, r_sm R, if_neg (n_lt (by omega) (by omega)), c_isIn (by omega), bd, if_pos (ib_ok (by omega) (by omega)), nI_clamp (by omega), r_upp R (by omega), nI_1]
      cases hb : bt x k
      · rfl
      · rw [if_pos rfl, if_neg (fun e => by rw [hb, e] at this; simp at this)]
    · show b_X3_firstWhoPutUp_1 τ (nI c) x (nI _) = _
      by_cases h : fa_first (fun v => bt x v && decide (μ 11 v = nI c)) sm < sm
      · have := fa_first_yes (fun v => bt x v && decide (μ 11 v = nI c)) sm h
        rw [Bool.and_eq_true, decide_eq_true_eq] at this
        rw [b_X3_firstWhoPutUp_1, r_sm R, if_neg (n_lt h (by omega)), c_isIn (by omega), bd, if_pos (ib_ok (by omega) (by omega)), nI_clamp (by omega), r_upp R h, if_pos this.1, if_pos this.2, if_pos h]
      · rw [b_X3_firstWhoPutUp_1, r_sm R, if_pos (n_le (by omega) (by omega)), if_neg h, show fa_first (fun v => bt x v && decide (μ 11 v = nI c)) sm = sm from by omega]
  refine it_bd G ?_
  split <;> rfl
theorem m_fwp (R : Rl cm sm τ μ) (x y : Int32) {c s : Nat} (hs : s < sm) (hne : μ 11 s ≠ nI c) : gw_it (b_X4_pointer_2 μ (nI s) x y (nI c) 1) 4096 (0 : Int32) = some (if fwp μ x c sm < sm then .inr (nI (fwp μ x c sm)) else .inl (nI sm)) := by
  have hc := R.1
  have hl := fa_first_le (fun v => bt x v && decide (μ 11 v = nI c)) sm
  unfold fwp
  refine gw_fun (b := b_X4_pointer_2 μ (nI s) x y (nI c) 1) (fun k => nI k) _ (fa_first (fun v => bt x v && decide (μ 11 v = nI c)) sm) (by omega) (fun k hk => ?_) ?_
  · have := fa_first_no (fun v => bt x v && decide (μ 11 v = nI c)) sm k hk
    show b_X4_pointer_2 μ (nI s) x y (nI c) 1 (nI k) = some (.inl (nI (k + 1)))
    rw [b_X4_pointer_2, r_sm' R, if_neg (n_lt (by omega) (by omega)), if_neg n10, m_has (by omega), bd, if_pos (ib_ok (by show k < 16; omega) (by decide)), nI_clamp (by omega), nI_1]
    by_cases e : nI k = nI s
    · rw [if_pos e]
    · rw [if_neg e]
      cases hb : bt x k
      · rfl
      · rw [if_pos rfl, if_neg (fun e => by rw [hb, e] at this; simp at this)]
  · show b_X4_pointer_2 μ (nI s) x y (nI c) 1 (nI _) = _
    by_cases h : fa_first (fun v => bt x v && decide (μ 11 v = nI c)) sm < sm
    · have := fa_first_yes (fun v => bt x v && decide (μ 11 v = nI c)) sm h
      rw [Bool.and_eq_true, decide_eq_true_eq] at this
      rw [b_X4_pointer_2, r_sm' R, if_neg (n_lt h (by omega)), if_neg n10, m_has (by omega), bd, if_pos (ib_ok (by show _ < 16; omega) (by decide)), nI_clamp (by omega), if_neg (fun e => hne (by rw [← nI_inj e]; exact this.2)), if_pos this.1, if_pos this.2, if_pos h]
    · rw [b_X4_pointer_2, r_sm' R, if_pos (n_le (by omega) (by omega)), if_neg h, show fa_first (fun v => bt x v && decide (μ 11 v = nI c)) sm = sm from by omega]
/-- where student s points -/
theorem tgt (R : Rl cm sm τ μ) (I : Iv cm sm td μ) {s : Nat} (hs : s < sm) (hup : μ 11 s ≠ -1) (x : Int32) : ∃ t, t < sm ∧ f_X3_targetOf τ (24 + s) x = some (nI t) ∧ f_X4_pointer μ (nI s) x = some (nI t) ∧ (t = s ∨ (bt x t = true ∧ ∃ c, c < cm ∧ μ 11 t = nI c ∧ bt (μ 8 s) c = false)) := by
  have h20 := R.1
  obtain ⟨n, hn, en, en2⟩ := lt_of (I.2.2.1 s hs).2.2.1
  obtain ⟨u, hu, eu, hut⟩ : ∃ u, u < cm ∧ μ 11 s = nI u ∧ bt (μ 8 s) u = true := by
    rcases I.2.2.2.2.2.2.2.2.1 s hs with h | ⟨h, h2⟩
    · exact absurd h hup
    · exact ⟨_, h.2, h.1, h2⟩
  have hgl : gw_len (60 + s + 36) = 6 := by unfold gw_len; rw [if_pos (by omega)]
  have hw : τ (60 + s) 1 = nI n := by rw [r_wic R hs, en]
  -- one wish
  have step : ∀ k, k < n → ∃ c v, c < cm ∧ bt (μ 8 s) c = false ∧ (b_X3_targetOf_1 τ (24 + s) x (nI k) = if fwp μ x c sm < sm then (if v = (0 : Int32) then some (.inr (.inr (nI (fwp μ x c sm)))) else some (.inl (nI (k + 1)))) else some (.inl (nI (k + 1)))) ∧ (b_X4_pointer_1 μ (nI s) x (nI k) = if v = (0 : Int32) then (if fwp μ x c sm < sm then some (.inr (.inr (nI (fwp μ x c sm)))) else some (.inl (nI (k + 1)))) else some (.inl (nI (k + 1)))) := by
    intro k hk
    have hi := I.2.2.2.1 s k hs (by rw [en2]; exact hk)
    obtain ⟨c, hc, ec, ec2⟩ := lt_of hi.1
    rw [ec2] at hi
    obtain ⟨v, o1, o2, o3⟩ := obst R I hs hc (μ 8 s &&& (((1 : Int32) <<< (μ 11 s &&& 31)) ^^^ (-1 : Int32)))
    have hne : μ 11 s ≠ nI c := fun e => by
      rw [eu] at e
      have := nI_inj e
      rw [← this, hut] at hi
      cases hi.2
    have hflag0 : ∀ z : Int32, gw_it (b_X4_pointer_2 μ (nI s) x z (nI c) 0) 4096 (0 : Int32) = some (.inl 0) := fun z => by
      refine gw_it_en (m := 4095) ?_
      rw [b_X4_pointer_2]
      by_cases e : μ 0 5 ≤ 0
      · rw [if_pos e]
      · rw [if_neg e, if_pos rfl]
    refine ⟨c, v, hc, hi.2, ?_, ?_⟩
    · rw [b_X3_targetOf_1, show 24 + s + 36 = 60 + s from by omega, c_size, bs, hw, if_neg (n_lt hk (by omega)), c_at1 hw (by rw [hgl]; omega) hk, bs, show 60 + s + 36 = 96 + s from by omega, r_wis R (by omega) (by omega), ec, c_at R hc, bs, gx_l, r_ci R hc, c_fwp R, bs, f_X3_isAcceptable, f_X3_bit, bs, r_upp R hs, r_tak R hs, o1, bs, nI_1]
      by_cases hf : fwp μ x c sm < sm
      · rw [if_pos hf, if_pos hf, if_neg (ne_m1 (by omega))]
        by_cases hv : v = 0
        · rw [if_pos hv, if_pos hv, bs, if_neg n10]
        · rw [if_neg hv, if_neg hv, bs, if_pos rfl]
      · rw [if_neg hf, if_neg hf, if_pos rfl]
    · have i1 : gw_ib (nI s) (gr_ml 9) = true := ib_ok (by show s < 16; omega) (by decide)
      have i2 : gw_ib (nI s) (gr_ml 8) = true := ib_ok (by show s < 16; omega) (by decide)
      have i3 : gw_ib (nI s) (gr_ml 11) = true := ib_ok (by show s < 16; omega) (by decide)
      rw [b_X4_pointer_1, if_pos i1, nI_clamp (n := s) (by omega), en, if_neg (n_lt hk (by omega)), x6, if_pos (ib_ok (by show 6 * s + k < 96; omega) (by decide)), if_pos i2, if_pos i3, nI_clamp (n := 6 * s + k) (by omega), ec, o2, bs, nI_1]
      by_cases hv : v = 0
      · rw [if_pos hv, if_pos hv, m_fwp R x _ hs hne, bs]
        split <;> rfl
      · rw [if_neg hv, if_neg hv, hflag0, bs, gx_l]
  have hendC : b_X3_targetOf_1 τ (24 + s) x (nI n) = some (.inr (.inl (nI n))) := by
    rw [b_X3_targetOf_1, show 24 + s + 36 = 60 + s from by omega, c_size, bs, hw, if_pos (n_le (Nat.le_refl _) (by omega))]
  have hendM : b_X4_pointer_1 μ (nI s) x (nI n) = some (.inr (.inl (nI n))) := by
    rw [b_X4_pointer_1, if_pos (ib_ok (by show s < 16; omega) (by decide)), nI_clamp (n := s) (by omega), en, if_pos (n_le (Nat.le_refl _) (by omega))]
  obtain ⟨t, G, hM, hP⟩ := gw_run0 (b := b_X3_targetOf_1 τ (24 + s) x) (s := (0 : Int32)) (fun k z => z = nI k ∧ gw_it (b_X4_pointer_1 μ (nI s) x) 4096 (0 : Int32) = gw_it (b_X4_pointer_1 μ (nI s) x) (4096 - k) (nI k)) (fun t => gw_it (b_X4_pointer_1 μ (nI s) x) 4096 (0 : Int32) = some t ∧ (t = .inl (nI n) ∨ ∃ w, w < sm ∧ t = .inr (nI w) ∧ bt x w = true ∧ ∃ c, c < cm ∧ μ 11 w = nI c ∧ bt (μ 8 s) c = false)) n (by omega) ⟨rfl, rfl⟩ (fun k z hk hI => by
    obtain ⟨rfl, hm⟩ := hI
    rcases Nat.lt_or_ge k n with h | h
    · obtain ⟨c, v, hc, hct, hC, hM⟩ := step k h
      by_cases hf : fwp μ x c sm < sm
      · rw [if_pos hf] at hC
        rw [if_pos hf] at hM
        by_cases hv : v = 0
        · rw [if_pos hv] at hC hM
          refine Or.inl ⟨_, hC, ?_, Or.inr ⟨fwp μ x c sm, hf, rfl, ?_⟩⟩
          · rw [hm, show 4096 - k = 4096 - k - 1 + 1 from by omega, gw_it_en hM]
          · have := fa_first_yes (fun v => bt x v && decide (μ 11 v = nI c)) sm hf
            rw [Bool.and_eq_true, decide_eq_true_eq] at this
            exact ⟨this.1, c, hc, this.2, hct⟩
        · rw [if_neg hv] at hC hM
          refine Or.inr ⟨h, _, hC, rfl, ?_⟩
          rw [hm, show 4096 - k = 4096 - (k + 1) + 1 from by omega, gw_it_st hM]
      · rw [if_neg hf] at hC
        rw [if_neg hf, ite_self] at hM
        refine Or.inr ⟨h, _, hC, rfl, ?_⟩
        rw [hm, show 4096 - k = 4096 - (k + 1) + 1 from by omega, gw_it_st hM]
    · have : k = n := by omega
      subst this
      refine Or.inl ⟨_, hendC, ?_, Or.inl rfl⟩
      rw [hm, show 4096 - k = 4096 - k - 1 + 1 from by omega, gw_it_en hendM])
  rcases hP with rfl | ⟨w, hw1, rfl, hw2⟩
  · exact ⟨s, hs, (it_bd G (by rw [gx_l])).trans (by rw [r_si R hs]), it_bd hM rfl, Or.inl rfl⟩
  · exact ⟨w, hw1, it_bd G rfl, it_bd hM rfl, Or.inr hw2⟩
theorem op_pointsTo {j : Nat} {τ μ : gw_S} (h : Inv j τ μ) (hj : j < 512) (a1 : Int32) : ∃ r q, f_X3_pointsTo τ a1 = some r ∧ f_X4_pointsTo μ a1 = some q ∧ (∀ e, r = .inr e → e = "java/lang/IndexOutOfBoundsException" ∨ e = "java/lang/IllegalStateException") ∧ q.2 0 18 = lw_k ["java/lang/IndexOutOfBoundsException", "java/lang/IllegalStateException"] r ∧ (∀ v, r = .inl v → v = q.1) ∧ Inv (j + 1) τ q.2 := by
  obtain ⟨cm, sm, td, -, -, R, I, -⟩ := id h
  have h20 := R.1
  unfold f_X3_pointsTo f_X4_pointsTo
  rcases a_s R a1 with ⟨s, hs, rfl, e2, e3⟩ | ⟨e1, e2⟩
  · rw [e2, bs, gx_l, r_upp R hs, e3, bs, if_neg n10, if_pos (ib_ok (by show s < 16; omega) (by decide)), nI_clamp (n := s) (by omega)]
    have R1 := Rl_sim R (simT_rf τ) (simM_18 μ 0)
    by_cases hu : μ 11 s = -1
    · rw [if_pos hu, if_pos hu]
      exact rd_ex h rfl rfl (Or.inr rfl) (by decide +kernel)
    · rw [if_neg hu, if_neg hu, c_par R1, m_par R1]
      obtain ⟨t, ht, t1, t2, -⟩ := tgt R1 (Iv_sim I (simM_18 μ 0)) hs hu (pset (gw_up μ 0 18 0) sm)
      rw [bs, bs, t1, bs, t2, bs]
      exact rd_ok h rfl rfl
  · refine rd_ex h ?_ ?_ (Or.inl rfl) (by decide +kernel) (n := 1) (x := "java/lang/IndexOutOfBoundsException")
    · rw [e1, bs, gx_r]
    · rw [e2, bs, if_pos rfl]
end ptr
