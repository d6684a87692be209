/-! THE OPS' ENDS -/
theorem gx_l {ρ ε β : Type} (v : ρ) (a : ρ → β) (b : ε → β) : gw_xb (.inl v) a b = a v := rfl
theorem gx_r {ρ ε β : Type} (v : ε) (a : ρ → β) (b : ε → β) : gw_xb (.inr v) a b = b v := rfl
section op
variable {j : Nat} {τ μ : gw_S}
theorem Inv_18 (h : Inv j τ μ) (v : Int32) : Inv (j + 1) τ (gw_up μ 0 18 v) := Inv_mono (Inv_sim h (simT_rf _) (simM_18 _ _))
theorem rd_ok {f3 : Option (Int32 ⊕ String)} {f4 : Option (Int32 × gw_S)} {P : String → Prop} {es : List String} {v : Int32} (h : Inv j τ μ) (e1 : f3 = some (.inl v)) (e2 : f4 = some (v, gw_up μ 0 18 0)) : ∃ r q, f3 = some r ∧ f4 = some q ∧ (∀ e, r = .inr e → P e) ∧ q.2 0 18 = lw_k es r ∧ (∀ v, r = .inl v → v = q.1) ∧ Inv (j + 1) τ q.2 :=
  ⟨_, _, e1, e2, fun e h => (by cases h), rfl, fun v h => (by cases h; rfl), Inv_18 h _⟩
theorem rd_okb {f3 : Option (Int32 ⊕ String)} {f4 : Option (Int32 × gw_S)} {P : String → Prop} {es : List String} {v w : Int32} (h : Inv j τ μ) (e1 : f3 = some (.inl v)) (e2 : f4 = some (w, gw_up μ 0 18 0)) (hvw : v = 0 ↔ w = 0) : ∃ r q, f3 = some r ∧ f4 = some q ∧ (∀ e, r = .inr e → P e) ∧ q.2 0 18 = lw_k es r ∧ (∀ v, r = .inl v → (v = 0 ↔ q.1 = 0)) ∧ Inv (j + 1) τ q.2 :=
  ⟨_, _, e1, e2, fun e h => (by cases h), rfl, fun v h => (by cases h; exact hvw), Inv_18 h _⟩
theorem rd_ex {f3 : Option (Int32 ⊕ String)} {f4 : Option (Int32 × gw_S)} {P : String → Prop} {es : List String} {x : String} {n : Int32} (h : Inv j τ μ) (e1 : f3 = some (.inr x)) (e2 : f4 = some (0, gw_up μ 0 18 n)) (hp : P x) (hk : n = lw_k es (.inr x)) : ∃ r q, f3 = some r ∧ f4 = some q ∧ (∀ e, r = .inr e → P e) ∧ q.2 0 18 = lw_k es r ∧ (∀ v, r = .inl v → v = q.1) ∧ Inv (j + 1) τ q.2 :=
  ⟨_, _, e1, e2, fun e h => (by cases h; exact hp), hk, fun v h => (by cases h), Inv_18 h _⟩
theorem rd_exb {f3 : Option (Int32 ⊕ String)} {f4 : Option (Int32 × gw_S)} {P : String → Prop} {es : List String} {x : String} {n : Int32} (h : Inv j τ μ) (e1 : f3 = some (.inr x)) (e2 : f4 = some (0, gw_up μ 0 18 n)) (hp : P x) (hk : n = lw_k es (.inr x)) : ∃ r q, f3 = some r ∧ f4 = some q ∧ (∀ e, r = .inr e → P e) ∧ q.2 0 18 = lw_k es r ∧ (∀ v, r = .inl v → (v = 0 ↔ q.1 = 0)) ∧ Inv (j + 1) τ q.2 :=
  ⟨_, _, e1, e2, fun e h => (by cases h; exact hp), hk, fun v h => (by cases h), Inv_18 h _⟩
theorem wr_ok {f3 : Option ((Int32 ⊕ String) × gw_S)} {f4 : Option (Int32 × gw_S)} {P : String → Prop} {es : List String} {v : Int32} {τ' μ' : gw_S} (e1 : f3 = some (.inl v, τ')) (e2 : f4 = some (v, μ')) (h18 : μ' 0 18 = 0) (h : Inv (j + 1) τ' μ') : ∃ r q, f3 = some r ∧ f4 = some q ∧ (∀ e, r.1 = .inr e → P e) ∧ q.2 0 18 = lw_k es r.1 ∧ (∀ v, r.1 = .inl v → v = q.1) ∧ Inv (j + 1) r.2 q.2 :=
  ⟨_, _, e1, e2, fun e h => (by cases h), h18, fun v h => (by cases h; rfl), h⟩
theorem wr_ex {f3 : Option ((Int32 ⊕ String) × gw_S)} {f4 : Option (Int32 × gw_S)} {P : String → Prop} {es : List String} {x : String} {n : Int32} (h : Inv j τ μ) (e1 : f3 = some (.inr x, τ)) (e2 : f4 = some (0, gw_up μ 0 18 n)) (hp : P x) (hk : n = lw_k es (.inr x)) : ∃ r q, f3 = some r ∧ f4 = some q ∧ (∀ e, r.1 = .inr e → P e) ∧ q.2 0 18 = lw_k es r.1 ∧ (∀ v, r.1 = .inl v → v = q.1) ∧ Inv (j + 1) r.2 q.2 :=
  ⟨_, _, e1, e2, fun e h => (by cases h; exact hp), hk, fun v h => (by cases h), Inv_18 h _⟩
theorem wr_okb {f3 : Option ((Int32 ⊕ String) × gw_S)} {f4 : Option (Int32 × gw_S)} {P : String → Prop} {es : List String} {v w : Int32} {τ' μ' : gw_S} (e1 : f3 = some (.inl v, τ')) (e2 : f4 = some (w, μ')) (hvw : v = 0 ↔ w = 0) (h18 : μ' 0 18 = 0) (h : Inv (j + 1) τ' μ') : ∃ r q, f3 = some r ∧ f4 = some q ∧ (∀ e, r.1 = .inr e → P e) ∧ q.2 0 18 = lw_k es r.1 ∧ (∀ v, r.1 = .inl v → (v = 0 ↔ q.1 = 0)) ∧ Inv (j + 1) r.2 q.2 :=
  ⟨_, _, e1, e2, fun e h => (by cases h), h18, fun v h => (by cases h; exact hvw), h⟩
theorem wr_exb {f3 : Option ((Int32 ⊕ String) × gw_S)} {f4 : Option (Int32 × gw_S)} {P : String → Prop} {es : List String} {x : String} {n : Int32} (h : Inv j τ μ) (e1 : f3 = some (.inr x, τ)) (e2 : f4 = some (0, gw_up μ 0 18 n)) (hp : P x) (hk : n = lw_k es (.inr x)) : ∃ r q, f3 = some r ∧ f4 = some q ∧ (∀ e, r.1 = .inr e → P e) ∧ q.2 0 18 = lw_k es r.1 ∧ (∀ v, r.1 = .inl v → (v = 0 ↔ q.1 = 0)) ∧ Inv (j + 1) r.2 q.2 :=
  ⟨_, _, e1, e2, fun e h => (by cases h; exact hp), hk, fun v h => (by cases h), Inv_18 h _⟩
theorem up18 (μ : gw_S) (v w : Int32) : gw_up (gw_up μ 0 18 v) 0 18 w = gw_up μ 0 18 w := by
  funext k i
  by_cases e : k = 0 ∧ i = 18
  · obtain ⟨rfl, rfl⟩ := e; rw [gw_up_s, gw_up_s]
  · rw [gw_up_n e, gw_up_n e, gw_up_n e]
theorem a_sc {cm sm : Nat} (R : Rl cm sm τ μ) (a1 a2 : Int32) : (∃ s c, s < sm ∧ c < cm ∧ a1 = nI s ∧ a2 = nI c ∧ f_X3_studentAt τ a1 = some (.inl (24 + s)) ∧ f_X3_courseAt τ a2 = some (.inl (4 + c)) ∧ f_X4_areBoth μ a1 a2 = some (1, gw_up μ 0 18 0)) ∨ (f_X4_areBoth μ a1 a2 = some (0, gw_up μ 0 18 1) ∧ (f_X3_studentAt τ a1 = some (.inr "java/lang/IndexOutOfBoundsException") ∨ ∃ k, f_X3_studentAt τ a1 = some (.inl k) ∧ f_X3_courseAt τ a2 = some (.inr "java/lang/IndexOutOfBoundsException"))) := by
  unfold f_X4_areBoth
  rcases a_s R a1 with ⟨s, hs, e1, e2, e3⟩ | ⟨e1, e2⟩
  · rw [e3, bs, if_neg (by decide)]
    rcases a_c R a2 with ⟨c, hc, d1, d2, d3⟩ | ⟨d1, d2⟩
    · rw [d3, bs, if_neg (by decide)]
      exact Or.inl ⟨s, c, hs, hc, e1, d1, e2, d2, rfl⟩
    · rw [d2, bs, if_pos rfl]
      exact Or.inr ⟨rfl, Or.inr ⟨_, e2, d1⟩⟩
  · rw [e2, bs, if_pos rfl]
    exact Or.inr ⟨rfl, Or.inl e1⟩
theorem bz (b : Bool) : ((if b = true then (1 : Int32) else 0) = 0) ↔ b = false := by cases b <;> decide
/-! READING OPS -/
theorem op_courses {j : Nat} {τ μ : gw_S} (h : Inv j τ μ) (hj : j < 512) : ∃ r q, f_X3_courses τ = some r ∧ f_X4_courses μ = some q ∧ r = q.1 ∧ Inv (j + 1) τ q.2 := by
  obtain ⟨cm, sm, td, -, -, R, -⟩ := id h
  exact ⟨_, _, rfl, rfl, (r_cm R).trans (r_cm' R).symm, Inv_18 h _⟩
theorem op_students {j : Nat} {τ μ : gw_S} (h : Inv j τ μ) (hj : j < 512) : ∃ r q, f_X3_students τ = some r ∧ f_X4_students μ = some q ∧ r = q.1 ∧ Inv (j + 1) τ q.2 := by
  obtain ⟨cm, sm, td, -, -, R, -⟩ := id h
  exact ⟨_, _, rfl, rfl, (r_sm R).trans (r_sm' R).symm, Inv_18 h _⟩
theorem op_day {j : Nat} {τ μ : gw_S} (h : Inv j τ μ) (hj : j < 512) : ∃ r q, f_X3_day τ = some r ∧ f_X4_day μ = some q ∧ r = q.1 ∧ Inv (j + 1) τ q.2 := by
  obtain ⟨cm, sm, td, -, -, R, -⟩ := id h
  exact ⟨_, _, rfl, rfl, r_day R, Inv_18 h _⟩
theorem op_requires {j : Nat} {τ μ : gw_S} (h : Inv j τ μ) (hj : j < 512) (a1 a2 : Int32) : ∃ r q, f_X3_requires τ a1 a2 = some r ∧ f_X4_requires μ a1 a2 = some q ∧ (∀ e, r = .inr e → e = "java/lang/IndexOutOfBoundsException") ∧ q.2 0 18 = lw_k ["java/lang/IndexOutOfBoundsException"] r ∧ (∀ v, r = .inl v → (v = 0 ↔ q.1 = 0)) ∧ Inv (j + 1) τ q.2 := by
  obtain ⟨cm, sm, td, -, -, R, I, -⟩ := id h
  have h20 := R.1
  rcases a_c R a1 with ⟨c, hc, rfl, e2, e3⟩ | ⟨e1, e2⟩
  · rcases a_c R a2 with ⟨k, hk, rfl, d2, d3⟩ | ⟨d1, d2⟩
    · refine rd_okb h (v := if bt (τ (4 + c) 7) k = true then 1 else 0) (w := if bt (τ (4 + c) 7) k = true then 1 else 0) ?_ ?_ Iff.rfl
      · unfold f_X3_requires
        rw [e2, bs, gx_l, d2, bs, gx_l, r_ci R hk, c_isIn (by omega), bs]
      · unfold f_X4_requires
        rw [e3, bs, if_neg (by decide), d3, bs, if_neg (by decide), m_req (Rl_sim R (simT_rf _) (simM_18 _ _)) (Iv_sim I (simM_18 _ _)) hc, bs, m_has (by omega), bd]
        cases bt (τ (4 + c) 7) k <;> rfl
    · refine rd_exb h ?_ ?_ rfl (by decide +kernel) (n := 1) (x := "java/lang/IndexOutOfBoundsException")
      · unfold f_X3_requires; rw [e2, bs, gx_l, d1, bs, gx_r]
      · unfold f_X4_requires; rw [e3, bs, if_neg (by decide), d2, bs, if_pos rfl]
  · refine rd_exb h ?_ ?_ rfl (by decide +kernel) (n := 1) (x := "java/lang/IndexOutOfBoundsException")
    · unfold f_X3_requires; rw [e1, bs, gx_r]
    · unfold f_X4_requires; rw [e2, bs, if_pos rfl]
theorem op_enrolled {j : Nat} {τ μ : gw_S} (h : Inv j τ μ) (hj : j < 512) (a1 : Int32) : ∃ r q, f_X3_enrolled τ a1 = some r ∧ f_X4_enrolled μ a1 = some q ∧ (∀ e, r = .inr e → e = "java/lang/IndexOutOfBoundsException") ∧ q.2 0 18 = lw_k ["java/lang/IndexOutOfBoundsException"] r ∧ (∀ v, r = .inl v → v = q.1) ∧ Inv (j + 1) τ q.2 := by
  obtain ⟨cm, sm, td, -, -, R, I, -⟩ := id h
  rcases a_c R a1 with ⟨c, hc, rfl, e2, e3⟩ | ⟨e1, e2⟩
  · refine rd_ok h ?_ ?_ (v := nI (enr μ sm c))
    · unfold f_X3_enrolled; rw [e2, bs, gx_l, c_enr R hc, bs]
    · unfold f_X4_enrolled; rw [e3, bs, if_neg (by decide), m_enr (Rl_sim R (simT_rf _) (simM_18 _ _)) hc, bs]; rfl
  · refine rd_ex h ?_ ?_ rfl (by decide +kernel) (n := 1) (x := "java/lang/IndexOutOfBoundsException")
    · unfold f_X3_enrolled; rw [e1, bs, gx_r]
    · unfold f_X4_enrolled; rw [e2, bs, if_pos rfl]
theorem op_freeSeats {j : Nat} {τ μ : gw_S} (h : Inv j τ μ) (hj : j < 512) (a1 : Int32) : ∃ r q, f_X3_freeSeats τ a1 = some r ∧ f_X4_freeSeats μ a1 = some q ∧ (∀ e, r = .inr e → e = "java/lang/IndexOutOfBoundsException") ∧ q.2 0 18 = lw_k ["java/lang/IndexOutOfBoundsException"] r ∧ (∀ v, r = .inl v → v = q.1) ∧ Inv (j + 1) τ q.2 := by
  obtain ⟨cm, sm, td, -, -, R, I, -⟩ := id h
  rcases a_c R a1 with ⟨c, hc, rfl, e2, e3⟩ | ⟨e1, e2⟩
  · refine rd_ok h ?_ ?_ (v := fr μ sm c)
    · unfold f_X3_freeSeats; rw [e2, bs, gx_l, c_fr R hc, bs]
    · unfold f_X4_freeSeats; rw [e3, bs, if_neg (by decide), m_fr (Rl_sim R (simT_rf _) (simM_18 _ _)) (Iv_sim I (simM_18 _ _)) hc, bs]; rfl
  · refine rd_ex h ?_ ?_ rfl (by decide +kernel) (n := 1) (x := "java/lang/IndexOutOfBoundsException")
    · unfold f_X3_freeSeats; rw [e1, bs, gx_r]
    · unfold f_X4_freeSeats; rw [e2, bs, if_pos rfl]
theorem op_credits {j : Nat} {τ μ : gw_S} (h : Inv j τ μ) (hj : j < 512) (a1 : Int32) : ∃ r q, f_X3_credits τ a1 = some r ∧ f_X4_credits μ a1 = some q ∧ (∀ e, r = .inr e → e = "java/lang/IndexOutOfBoundsException") ∧ q.2 0 18 = lw_k ["java/lang/IndexOutOfBoundsException"] r ∧ (∀ v, r = .inl v → v = q.1) ∧ Inv (j + 1) τ q.2 := by
  obtain ⟨cm, sm, td, -, -, R, I, -⟩ := id h
  have h20 := R.1
  have R1 := Rl_sim R (simT_rf _) (simM_18 μ 0)
  rcases a_s R a1 with ⟨s, hs, rfl, e2, e3⟩ | ⟨e1, e2⟩
  · refine rd_ok h ?_ ?_ (v := wsum (gw_up μ 0 18 0) (μ 8 s) cm)
    · unfold f_X3_credits; rw [e2, bs, gx_l, r_tak R hs, c_cre R1, bs]
    · unfold f_X4_credits; rw [e3, bs, if_neg (by decide), if_pos (ib_ok (by show s < 16; omega) (by decide)), nI_clamp (by omega), m_wor R1, bs, gw_up_n (k' := 8) (by omega)]
  · refine rd_ex h ?_ ?_ rfl (by decide +kernel) (n := 1) (x := "java/lang/IndexOutOfBoundsException")
    · unfold f_X3_credits; rw [e1, bs, gx_r]
    · unfold f_X4_credits; rw [e2, bs, if_pos rfl]
theorem op_hasPassed {j : Nat} {τ μ : gw_S} (h : Inv j τ μ) (hj : j < 512) (a1 a2 : Int32) : ∃ r q, f_X3_hasPassed τ a1 a2 = some r ∧ f_X4_hasPassed μ a1 a2 = some q ∧ (∀ e, r = .inr e → e = "java/lang/IndexOutOfBoundsException") ∧ q.2 0 18 = lw_k ["java/lang/IndexOutOfBoundsException"] r ∧ (∀ v, r = .inl v → (v = 0 ↔ q.1 = 0)) ∧ Inv (j + 1) τ q.2 := by
  obtain ⟨cm, sm, td, -, -, R, I, -⟩ := id h
  have h20 := R.1
  unfold f_X3_hasPassed f_X4_hasPassed
  rcases a_sc R a1 a2 with ⟨s, c, hs, hc, rfl, rfl, e1, e2, e3⟩ | ⟨e3, e1 | ⟨k, e1, e2⟩⟩
  · refine rd_okb h (v := if bt (μ 7 s) c = true then 1 else 0) (w := if bt (μ 7 s) c = true then 1 else 0) ?_ ?_ Iff.rfl
    · rw [e1, bs, gx_l, e2, bs, gx_l, r_ci R hc, r_pas R hs, c_isIn (by omega), bs]
    · rw [e3, bs]
      dsimp only
      rw [if_neg (by decide), if_pos (ib_ok (by show s < 16; omega) (by decide)), nI_clamp (by omega), m_has (by omega), bd, gw_up_n (k' := 7) (by omega)]
      cases bt (μ 7 s) c <;> rfl
  · refine rd_exb h ?_ ?_ rfl (by decide +kernel) (n := 1) (x := "java/lang/IndexOutOfBoundsException")
    · rw [e1, bs, gx_r]
    · rw [e3, bs, if_pos rfl]
  · refine rd_exb h ?_ ?_ rfl (by decide +kernel) (n := 1) (x := "java/lang/IndexOutOfBoundsException")
    · rw [e1, bs, gx_l, e2, bs, gx_r]
    · rw [e3, bs, if_pos rfl]
theorem op_isEnrolled {j : Nat} {τ μ : gw_S} (h : Inv j τ μ) (hj : j < 512) (a1 a2 : Int32) : ∃ r q, f_X3_isEnrolled τ a1 a2 = some r ∧ f_X4_isEnrolled μ a1 a2 = some q ∧ (∀ e, r = .inr e → e = "java/lang/IndexOutOfBoundsException") ∧ q.2 0 18 = lw_k ["java/lang/IndexOutOfBoundsException"] r ∧ (∀ v, r = .inl v → (v = 0 ↔ q.1 = 0)) ∧ Inv (j + 1) τ q.2 := by
  obtain ⟨cm, sm, td, -, -, R, I, -⟩ := id h
  have h20 := R.1
  unfold f_X3_isEnrolled f_X4_isEnrolled
  rcases a_sc R a1 a2 with ⟨s, c, hs, hc, rfl, rfl, e1, e2, e3⟩ | ⟨e3, e1 | ⟨k, e1, e2⟩⟩
  · refine rd_okb h (v := if bt (μ 8 s) c = true then 1 else 0) (w := if bt (μ 8 s) c = true then 1 else 0) ?_ ?_ Iff.rfl
    · rw [e1, bs, gx_l, e2, bs, gx_l, r_ci R hc, r_tak R hs, c_isIn (by omega), bs]
    · rw [e3, bs]
      dsimp only
      rw [if_neg (by decide), if_pos (ib_ok (by show s < 16; omega) (by decide)), nI_clamp (by omega), m_has (by omega), bd, gw_up_n (k' := 8) (by omega)]
      cases bt (μ 8 s) c <;> rfl
  · refine rd_exb h ?_ ?_ rfl (by decide +kernel) (n := 1) (x := "java/lang/IndexOutOfBoundsException")
    · rw [e1, bs, gx_r]
    · rw [e3, bs, if_pos rfl]
  · refine rd_exb h ?_ ?_ rfl (by decide +kernel) (n := 1) (x := "java/lang/IndexOutOfBoundsException")
    · rw [e1, bs, gx_l, e2, bs, gx_r]
    · rw [e3, bs, if_pos rfl]
theorem op_obstacle {j : Nat} {τ μ : gw_S} (h : Inv j τ μ) (hj : j < 512) (a1 a2 : Int32) : ∃ r q, f_X3_obstacle τ a1 a2 = some r ∧ f_X4_obstacle μ a1 a2 = some q ∧ (∀ e, r = .inr e → e = "java/lang/IndexOutOfBoundsException") ∧ q.2 0 18 = lw_k ["java/lang/IndexOutOfBoundsException"] r ∧ (∀ v, r = .inl v → v = q.1) ∧ Inv (j + 1) τ q.2 := by
  obtain ⟨cm, sm, td, -, -, R, I, -⟩ := id h
  have h20 := R.1
  unfold f_X3_obstacle f_X4_obstacle
  rcases a_sc R a1 a2 with ⟨s, c, hs, hc, rfl, rfl, e1, e2, e3⟩ | ⟨e3, e1 | ⟨k, e1, e2⟩⟩
  · obtain ⟨v, o1, o2, -⟩ := obst (Rl_sim R (simT_rf _) (simM_18 μ 0)) (Iv_sim I (simM_18 μ 0)) hs hc (μ 8 s)
    refine rd_ok h ?_ ?_ (v := v)
    · rw [e1, bs, gx_l, e2, bs, gx_l, r_tak R hs, o1, bs]
    · rw [e3, bs]
      dsimp only
      rw [if_neg (by decide), if_pos (ib_ok (by show s < 16; omega) (by decide)), nI_clamp (by omega)]
      show (f_X4_obstacleWith (gw_up μ 0 18 0) (nI s) (nI c) (μ 8 s)).bind _ = _
      rw [o2, bs]
  · refine rd_ex h ?_ ?_ rfl (by decide +kernel) (n := 1) (x := "java/lang/IndexOutOfBoundsException")
    · rw [e1, bs, gx_r]
    · rw [e3, bs, if_pos rfl]
  · refine rd_ex h ?_ ?_ rfl (by decide +kernel) (n := 1) (x := "java/lang/IndexOutOfBoundsException")
    · rw [e1, bs, gx_l, e2, bs, gx_r]
    · rw [e3, bs, if_pos rfl]
theorem op_wishes {j : Nat} {τ μ : gw_S} (h : Inv j τ μ) (hj : j < 512) (a1 : Int32) : ∃ r q, f_X3_wishes τ a1 = some r ∧ f_X4_wishes μ a1 = some q ∧ (∀ e, r = .inr e → e = "java/lang/IndexOutOfBoundsException") ∧ q.2 0 18 = lw_k ["java/lang/IndexOutOfBoundsException"] r ∧ (∀ v, r = .inl v → v = q.1) ∧ Inv (j + 1) τ q.2 := by
  obtain ⟨cm, sm, td, -, -, R, I, -⟩ := id h
  have h20 := R.1
  unfold f_X3_wishes f_X4_wishes
  rcases a_s R a1 with ⟨s, hs, rfl, e2, e3⟩ | ⟨e1, e2⟩
  · refine rd_ok h ?_ ?_ (v := μ 9 s)
    · rw [e2, bs, gx_l, show 24 + s + 36 = 60 + s from by omega, c_size, bs, r_wic R hs]
    · rw [e3, bs, if_neg (by decide), if_pos (ib_ok (by show s < 16; omega) (by decide)), nI_clamp (by omega), gw_up_n (k' := 9) (by omega)]
  · refine rd_ex h ?_ ?_ rfl (by decide +kernel) (n := 1) (x := "java/lang/IndexOutOfBoundsException")
    · rw [e1, bs, gx_r]
    · rw [e2, bs, if_pos rfl]
theorem op_waiting {j : Nat} {τ μ : gw_S} (h : Inv j τ μ) (hj : j < 512) (a1 : Int32) : ∃ r q, f_X3_waiting τ a1 = some r ∧ f_X4_waiting μ a1 = some q ∧ (∀ e, r = .inr e → e = "java/lang/IndexOutOfBoundsException") ∧ q.2 0 18 = lw_k ["java/lang/IndexOutOfBoundsException"] r ∧ (∀ v, r = .inl v → v = q.1) ∧ Inv (j + 1) τ q.2 := by
  obtain ⟨cm, sm, td, -, -, R, I, -⟩ := id h
  have h20 := R.1
  unfold f_X3_waiting f_X4_waiting
  rcases a_c R a1 with ⟨s, hs, rfl, e2, e3⟩ | ⟨e1, e2⟩
  · refine rd_ok h ?_ ?_ (v := μ 13 s)
    · rw [e2, bs, gx_l, show 4 + s + 36 = 40 + s from by omega, c_size, bs, r_wct R hs]
    · rw [e3, bs, if_neg (by decide), if_pos (ib_ok (by show s < 20; omega) (by decide)), nI_clamp (by omega), gw_up_n (k' := 13) (by omega)]
  · refine rd_ex h ?_ ?_ rfl (by decide +kernel) (n := 1) (x := "java/lang/IndexOutOfBoundsException")
    · rw [e1, bs, gx_r]
    · rw [e2, bs, if_pos rfl]
theorem op_lotteryNumber {j : Nat} {τ μ : gw_S} (h : Inv j τ μ) (hj : j < 512) (a1 : Int32) : ∃ r q, f_X3_lotteryNumber τ a1 = some r ∧ f_X4_lotteryNumber μ a1 = some q ∧ (∀ e, r = .inr e → e = "java/lang/IndexOutOfBoundsException") ∧ q.2 0 18 = lw_k ["java/lang/IndexOutOfBoundsException"] r ∧ (∀ v, r = .inl v → v = q.1) ∧ Inv (j + 1) τ q.2 := by
  obtain ⟨cm, sm, td, -, -, R, I, -⟩ := id h
  have h20 := R.1
  unfold f_X3_lotteryNumber f_X4_lotteryNumber
  rcases a_s R a1 with ⟨s, hs, rfl, e2, e3⟩ | ⟨e1, e2⟩
  · refine rd_ok h ?_ ?_ (v := μ 12 s)
    · rw [e2, bs, gx_l, r_lot R hs]
    · rw [e3, bs, if_neg (by decide), if_pos (ib_ok (by show s < 16; omega) (by decide)), nI_clamp (by omega), gw_up_n (k' := 12) (by omega)]
  · refine rd_ex h ?_ ?_ rfl (by decide +kernel) (n := 1) (x := "java/lang/IndexOutOfBoundsException")
    · rw [e1, bs, gx_r]
    · rw [e2, bs, if_pos rfl]
theorem op_placeUp {j : Nat} {τ μ : gw_S} (h : Inv j τ μ) (hj : j < 512) (a1 : Int32) : ∃ r q, f_X3_placeUp τ a1 = some r ∧ f_X4_placeUp μ a1 = some q ∧ (∀ e, r = .inr e → e = "java/lang/IndexOutOfBoundsException") ∧ q.2 0 18 = lw_k ["java/lang/IndexOutOfBoundsException"] r ∧ (∀ v, r = .inl v → v = q.1) ∧ Inv (j + 1) τ q.2 := by
  obtain ⟨cm, sm, td, -, -, R, I, -⟩ := id h
  have h20 := R.1
  unfold f_X3_placeUp f_X4_placeUp
  rcases a_s R a1 with ⟨s, hs, rfl, e2, e3⟩ | ⟨e1, e2⟩
  · refine rd_ok h ?_ ?_ (v := μ 11 s)
    · rw [e2, bs, gx_l, r_upp R hs]
    · rw [e3, bs, if_neg (by decide), if_pos (ib_ok (by show s < 16; omega) (by decide)), nI_clamp (by omega), gw_up_n (k' := 11) (by omega)]
  · refine rd_ex h ?_ ?_ rfl (by decide +kernel) (n := 1) (x := "java/lang/IndexOutOfBoundsException")
    · rw [e1, bs, gx_r]
    · rw [e2, bs, if_pos rfl]
theorem c_atx {a n : Nat} {x : Int32} (h1 : τ a 1 = nI n) (h2 : n ≤ gw_len (a + 36)) : (∃ k, k < n ∧ x = nI k ∧ f_X1_at τ a x = some (τ (a + 36) k)) ∨ ((x < 0 ∨ nI n ≤ x) ∧ f_X1_at τ a x = some (-1)) := by
  have hg : gw_len (a + 36) ≤ 16 := by unfold gw_len; split <;> omega
  rcases pk_ix x (n := n) (by omega) with h | h | ⟨k, hk, rfl⟩
  · refine Or.inr ⟨Or.inl h, ?_⟩
    unfold f_X1_at; rw [if_pos h]
  · refine Or.inr ⟨Or.inr h, ?_⟩
    unfold f_X1_at
    rw [h1]
    by_cases h0 : x < 0
    · rw [if_pos h0]
    · rw [if_neg h0, if_neg (fun h5 => (fa_of_lt h5).2.1 h)]
  · exact Or.inl ⟨k, hk, rfl, c_at1 h1 h2 hk⟩
theorem op_wishAt {j : Nat} {τ μ : gw_S} (h : Inv j τ μ) (hj : j < 512) (a1 a2 : Int32) : ∃ r q, f_X3_wishAt τ a1 a2 = some r ∧ f_X4_wishAt μ a1 a2 = some q ∧ (∀ e, r = .inr e → e = "java/lang/IndexOutOfBoundsException") ∧ q.2 0 18 = lw_k ["java/lang/IndexOutOfBoundsException"] r ∧ (∀ v, r = .inl v → v = q.1) ∧ Inv (j + 1) τ q.2 := by
  obtain ⟨cm, sm, td, -, -, R, I, -⟩ := id h
  have h20 := R.1
  unfold f_X3_wishAt f_X4_wishAt f_X3_foundAt
  rcases a_s R a1 with ⟨s, hs, rfl, e2, e3⟩ | ⟨e1, e2⟩
  · obtain ⟨n, hn, en, en2⟩ := lt_of (I.2.2.1 s hs).2.2.1
    have hgl : gw_len (60 + s + 36) = 6 := by unfold gw_len; rw [if_pos (by omega)]
    rcases c_atx (x := a2) ((r_wic R hs).trans en) (by rw [hgl]; omega) with ⟨k, hk, rfl, d1⟩ | ⟨d0, d1⟩
    · obtain ⟨c, hc, ec, -⟩ := lt_of (I.2.2.2.1 s k hs (by rw [en2]; exact hk)).1
      refine rd_ok h ?_ ?_ (v := nI c)
      · rw [e2, bs, gx_l, show 24 + s + 36 = 60 + s from by omega, d1, bs, show 60 + s + 36 = 96 + s from by omega, r_wis R (by omega) (by omega), ec, if_neg (ne_m1 (by omega)), bs, gx_l]
      · rw [e3, bs, if_neg (by decide), if_neg (nI_pos (by omega)), if_pos (ib_ok (by show s < 16; omega) (by decide)), nI_clamp (n := s) (by omega), en, if_neg (n_lt hk (by omega)), x6, if_pos (ib_ok (by show 6 * s + k < 96; omega) (by decide)), nI_clamp (by omega), gw_up_n (k' := 10) (by omega), ec]
    · refine rd_ex h ?_ ?_ rfl (by decide +kernel) (n := 1) (x := "java/lang/IndexOutOfBoundsException")
      · rw [e2, bs, gx_l, show 24 + s + 36 = 60 + s from by omega, d1, bs, if_pos rfl, bs, gx_r]
      · rw [e3, bs, if_neg (by decide)]
        by_cases d2 : a2 < 0
        · rw [if_pos d2]
        · rw [if_neg d2, if_pos (ib_ok (by show s < 16; omega) (by decide)), nI_clamp (n := s) (by omega), en, if_pos (by rcases d0 with d | d; exact absurd d d2; exact d)]
  · refine rd_ex h ?_ ?_ rfl (by decide +kernel) (n := 1) (x := "java/lang/IndexOutOfBoundsException")
    · rw [e1, bs, gx_r]
    · rw [e2, bs, if_pos rfl]
theorem op_waitingAt {j : Nat} {τ μ : gw_S} (h : Inv j τ μ) (hj : j < 512) (a1 a2 : Int32) : ∃ r q, f_X3_waitingAt τ a1 a2 = some r ∧ f_X4_waitingAt μ a1 a2 = some q ∧ (∀ e, r = .inr e → e = "java/lang/IndexOutOfBoundsException") ∧ q.2 0 18 = lw_k ["java/lang/IndexOutOfBoundsException"] r ∧ (∀ v, r = .inl v → v = q.1) ∧ Inv (j + 1) τ q.2 := by
  obtain ⟨cm, sm, td, -, -, R, I, -⟩ := id h
  have h20 := R.1
  unfold f_X3_waitingAt f_X4_waitingAt f_X3_foundAt
  rcases a_c R a1 with ⟨s, hs, rfl, e2, e3⟩ | ⟨e1, e2⟩
  · obtain ⟨n, hn, en, en2⟩ := lt_of (I.2.1 s hs).2.2.1
    have hgl : gw_len (40 + s + 36) = 16 := by unfold gw_len; rw [if_neg (by omega)]
    rcases c_atx (x := a2) ((r_wct R hs).trans en) (by rw [hgl]; omega) with ⟨k, hk, rfl, d1⟩ | ⟨d0, d1⟩
    · obtain ⟨c, hc, ec, -⟩ := lt_of (I.2.2.2.2.2.1 s k hs (by rw [en2]; exact hk))
      refine rd_ok h ?_ ?_ (v := nI c)
      · rw [e2, bs, gx_l, show 4 + s + 36 = 40 + s from by omega, d1, bs, show 40 + s + 36 = 76 + s from by omega, r_wai R (by omega) (by omega), ec, if_neg (ne_m1 (by omega)), bs, gx_l]
      · rw [e3, bs, if_neg (by decide), if_neg (nI_pos (by omega)), if_pos (ib_ok (by show s < 20; omega) (by decide)), nI_clamp (n := s) (by omega), en, if_neg (n_lt hk (by omega)), x16, if_pos (ib_ok (by show 16 * s + k < 320; omega) (by decide)), nI_clamp (by omega), gw_up_n (k' := 14) (by omega), ec]
    · refine rd_ex h ?_ ?_ rfl (by decide +kernel) (n := 1) (x := "java/lang/IndexOutOfBoundsException")
      · rw [e2, bs, gx_l, show 4 + s + 36 = 40 + s from by omega, d1, bs, if_pos rfl, bs, gx_r]
      · rw [e3, bs, if_neg (by decide)]
        by_cases d2 : a2 < 0
        · rw [if_pos d2]
        · rw [if_neg d2, if_pos (ib_ok (by show s < 20; omega) (by decide)), nI_clamp (n := s) (by omega), en, if_pos (by rcases d0 with d | d; exact absurd d d2; exact d)]
  · refine rd_ex h ?_ ?_ rfl (by decide +kernel) (n := 1) (x := "java/lang/IndexOutOfBoundsException")
    · rw [e1, bs, gx_r]
    · rw [e2, bs, if_pos rfl]
theorem days_eq (a b : Int32) : (3 : Int32) - (a - b) = b + 3 - a := by
  rw [Int32.sub_eq_add_neg, Int32.sub_eq_add_neg, Int32.sub_eq_add_neg, Int32.neg_add, Int32.sub_eq_add_neg, Int32.neg_neg, Int32.add_comm (-a) b, ← Int32.add_assoc, Int32.add_comm 3 b]
theorem op_offerDays {j : Nat} {τ μ : gw_S} (h : Inv j τ μ) (hj : j < 512) (a1 a2 : Int32) : ∃ r q, f_X3_offerDays τ a1 a2 = some r ∧ f_X4_offerDays μ a1 a2 = some q ∧ (∀ e, r = .inr e → e = "java/lang/IndexOutOfBoundsException") ∧ q.2 0 18 = lw_k ["java/lang/IndexOutOfBoundsException"] r ∧ (∀ v, r = .inl v → v = q.1) ∧ Inv (j + 1) τ q.2 := by
  obtain ⟨cm, sm, td, -, -, R, I, -⟩ := id h
  have h20 := R.1
  unfold f_X3_offerDays f_X4_offerDays f_X3_daysLeft
  rcases a_sc R a1 a2 with ⟨s, c, hs, hc, rfl, rfl, e1, e2, e3⟩ | ⟨e3, e1 | ⟨k, e1, e2⟩⟩
  · refine rd_ok h ?_ ?_ (v := if decide (¬ μ 15 (16 * c + s) = -1) = true then μ 15 (16 * c + s) + 3 - μ 0 17 else 0)
    · rw [e1, bs, gx_l, e2, bs, gx_l, r_si R hs, c_hasOff R hc hs, bd, show 4 + c + 108 = 112 + c from by omega, show gw_len (112 + c) = 16 from by unfold gw_len; rw [if_neg (by omega)], if_pos (ib_ok (by omega)), nI_clamp (by omega), bs, r_off R hc hs, r_day R, days_eq]
      split <;> rfl
    · rw [e3, bs]
      dsimp only
      rw [if_neg (by decide), m_hasOff (Rl_sim R (simT_rf _) (simM_18 μ 0)) (Iv_sim I (simM_18 μ 0)) hc hs, bd, x16, if_pos (ib_ok (by show 16 * c + s < 320; omega) (by decide)), nI_clamp (by omega), gw_up_n (k' := 15) (by omega), gw_up_n (k' := 0) (j' := 17) (by omega)]
      split <;> rfl
  · refine rd_ex h ?_ ?_ rfl (by decide +kernel) (n := 1) (x := "java/lang/IndexOutOfBoundsException")
    · rw [e1, bs, gx_r]
    · rw [e3, bs, if_pos rfl]
  · refine rd_ex h ?_ ?_ rfl (by decide +kernel) (n := 1) (x := "java/lang/IndexOutOfBoundsException")
    · rw [e1, bs, gx_l, e2, bs, gx_r]
    · rw [e3, bs, if_pos rfl]
end op
