/-! THE CONSTRUCTOR of the office: cells in the order of their making: 0 it, 1 its row of courses, 2 + 4z .. the z-th course with its list, items, offers; 82 the row of students, 83 + 3z .. the z-th student with list, items; 131 turns -/
abbrev cn_R : Room := { frames := 3, cells := 131, slots := 1180, locals := 55 }
def cn_fc (Γ : gw_G) (A : Nat → Nat) (e : Nat → va_E) (z : Nat) : Prop := e (2 + 4 * z) = .inr (0, [.int (nI z), .ref (A (3 + 4 * z)), .ref (A (5 + 4 * z)), .int 0, .int 0, .int 0, .int 0, .int 0]) ∧ e (3 + 4 * z) = .inr (1, [.ref (A (4 + 4 * z)), .int 0]) ∧ e (4 + 4 * z) = .inl (gw_y Γ 0, 16, .inl (fun _ => 0)) ∧ e (5 + 4 * z) = .inl (gw_y Γ 0, 16, .inl (cn_fill 16))
def cn_fs (Γ : gw_G) (A : Nat → Nat) (e : Nat → va_E) (z : Nat) : Prop := e (83 + 3 * z) = .inr (2, [.int (nI z), .ref (A (84 + 3 * z)), .int 0, .int 0, .int 0, .int 0, .int (-1), .int (-1), .int (-1), .int (-1)]) ∧ e (84 + 3 * z) = .inr (1, [.ref (A (85 + 3 * z)), .int 0]) ∧ e (85 + 3 * z) = .inl (gw_y Γ 0, 6, .inl (fun _ => 0))
theorem cn_fc_k {Γ : gw_G} {A A' : Nat → Nat} {e e' : Nat → va_E} {z n : Nat} (h : cn_fc Γ A e z) (hn : 5 + 4 * z < n) (hA : ∀ i, i < n → A' i = A i) (he : ∀ i, i < n → 1 < i → e' i = e i) : cn_fc Γ A' e' z := by
  obtain ⟨h1, h2, h3, h4⟩ := h
  refine ⟨?_, ?_, ?_, ?_⟩
  · rw [he _ (by omega) (by omega), hA _ (by omega), hA _ (by omega)]; exact h1
  · rw [he _ (by omega) (by omega), hA _ (by omega)]; exact h2
  · rw [he _ (by omega) (by omega)]; exact h3
  · rw [he _ (by omega) (by omega)]; exact h4
theorem cn_fs_k {Γ : gw_G} {A A' : Nat → Nat} {e e' : Nat → va_E} {z n : Nat} (h : cn_fs Γ A e z) (hn : 85 + 3 * z < n) (hA : ∀ i, i < n → A' i = A i) (he : ∀ i, i < n → 82 < i → e' i = e i) : cn_fs Γ A' e' z := by
  obtain ⟨h1, h2, h3⟩ := h
  refine ⟨?_, ?_, ?_⟩
  · rw [he _ (by omega) (by omega), hA _ (by omega)]; exact h1
  · rw [he _ (by omega) (by omega), hA _ (by omega)]; exact h2
  · rw [he _ (by omega) (by omega)]; exact h3
def cn_rq (Γ : gw_G) (t N : Nat) (f : Nat → Option Nat) : va_E := .inl (gw_y Γ t, N, .inr (.inr (.inr (.inr f))))
set_option maxRecDepth 100000 in
set_option maxHeartbeats 4000000 in
/-- the loop over courses -/
theorem cn_loopC {K : gw_K} {Γ : gw_G} (C : gw_C K Γ cX3_init 2 RX3) (hX : cn_X (gw_s K)) (a0 : Nat)
    (kk : ∀ (A : Nat → Nat) (e : Nat → va_E) (f : Nat → Option Nat), va_D (gw_A Γ) (cn_w 82 A e) → A 0 = a0 → e 0 = .inr (3, [.ref (A 1), .null, .int 0, .int 0, .int 0, .null]) → e 1 = cn_rq Γ 1 20 f → (∀ z, z < 20 → f z = some (A (2 + 4 * z))) → (∀ z, z < 20 → cn_fc Γ A e z) → gw_J K Γ cn_R 81 860 (cn_w 82 A e) 44 [(0, .ref a0)] []) :
    ∀ (d i : Nat) (A : Nat → Nat) (e : Nat → va_E) (f : Nat → Option Nat), i + d = 20 → va_D (gw_A Γ) (cn_w (2 + 4 * i) A e) → A 0 = a0 → e 0 = .inr (3, [.ref (A 1), .null, .int 0, .int 0, .int 0, .null]) → e 1 = cn_rq Γ 1 20 f → (∀ z, z < i → f z = some (A (2 + 4 * z))) → (∀ z, z < i → cn_fc Γ A e z) → gw_J K Γ cn_R (1 + 4 * i) (20 + 42 * i) (cn_w (2 + 4 * i) A e) 15 [(0, .ref a0), (1, .int (nI i))] [] := by
  intro d
  induction d with
  | zero =>
    intro i A e f hi hD hA he0 he1 hf hc
    have e20 : i = 20 := by omega
    subst e20
    refine gj_iload_n C 1 dX3_init_15 rfl ?_
    refine gj_aload_n C 0 dX3_init_16 rfl ?_
    refine cn_get C 0 hA inX3 rfl (by omega) he0 0 (by decide) fc_X3_11 rfl dX3_init_17 ?_
    refine cn_alen C 1 1 rfl (by omega) he1 rfl (v := 20) rfl dX3_init_20 ?_
    refine gj_ic_ge C 44 dX3_init_21 (by decide) (fun _ => ?_) (fun c => absurd (by decide) c)
    exact gj_pick [0] _ rfl (kk A e f hD hA he0 he1 hf hc)
  | succ d ih =>
    intro i A e f hi hD hA he0 he1 hf hc
    refine gj_iload_n C 1 dX3_init_15 rfl ?_
    refine gj_aload_n C 0 dX3_init_16 rfl ?_
    refine cn_get C 0 hA inX3 rfl (by omega) he0 0 (by decide) fc_X3_11 rfl dX3_init_17 ?_
    refine cn_alen C 1 1 rfl (by omega) he1 rfl (v := nI 20) rfl dX3_init_20 ?_
    refine gj_ic_ge C 44 dX3_init_21 (by decide) (fun c => absurd c (nI_ge (by omega) (by decide))) (fun _ => ?_)
    refine gj_aload_n C 0 dX3_init_24 rfl ?_
    refine cn_get C 0 hA inX3 rfl (by omega) he0 0 (by decide) fc_X3_11 rfl dX3_init_25 ?_
    refine gj_iload_n C 1 dX3_init_28 rfl ?_
    refine cn_new (ci := 0) C hD [.int 0, .null, .null, .int 0, .int 0, .int 0, .int 0, .int 0] inX0 tyX0 tyX0_ok rfl (fun j hj => by rcases (show j = 0 ∨ j = 1 ∨ j = 2 ∨ j = 3 ∨ j = 4 ∨ j = 5 ∨ j = 6 ∨ j = 7 by omega) with rfl | rfl | rfl | rfl | rfl | rfl | rfl | rfl <;> rfl) cl_X3_9 is_X0 ii_X0 (by show _ ≤ 131; omega) (by show _ ≤ 1180; omega) dX3_init_29 (fun q hD => ?_)
    refine gj_dup C dX3_init_32 rfl ?_
    refine gj_iload_n C 1 dX3_init_33 rfl ?_
    have hM := cn_Course (gw_l K) Γ (2 + 4 * i + 1) _ _ (2 + 4 * i) (nI i) (by omega) (va_up_self _ _ _) hD
    rw [va_up_self] at hM
    refine cn_cI (As := [.int (nI i)]) (rest := [.ref q, .int (nI i), .ref (A 1)]) C hX cb_X3_15i rfl im_X0_init hM rfl (Nat.le_of_ble_eq_true rfl) dX3_init_34 (gw_rmo rfl (by show _ ≤ 131; omega) (by show _ ≤ 1180; omega)) rfl (fun A' e' hp hD => ?_)
    obtain ⟨p1, p2, p3, p4, p5, p6⟩ := hp
    have pA : ∀ z, z < 2 + 4 * i → A' z = A z := fun z hz => (p1 z (by omega)).trans (va_up_ne _ _ (by omega))
    have pE : ∀ z, z < 2 + 4 * i → e' z = e z := fun z hz => (p2 z (by omega) (by omega)).trans (va_up_ne _ _ (by omega))
    have pq : A' (2 + 4 * i) = q := (p1 _ (by omega)).trans (va_up_self _ _ _)
    refine cn_aast (r := (RX0, TX0, 8)) (f := f) C hD 1 1 (2 + 4 * i) 0 (pA 1 (by omega)) pq (by omega) ((pE 1 (by omega)).trans he1) rfl (by omega) p3 rfl (vp_in_nI (n := i) (by omega) (by decide)) dX3_init_37 (fun hD => ?_)
    refine gj_iinc C 1 1 (nI (i + 1)) [(1, .int (nI (i + 1))), (0, .ref a0)] dX3_init_38 rfl (nI_1 i) (by decide) rfl ?_
    refine gj_goto C 15 dX3_init_41 (by decide) ?_
    refine gj_widen (c2 := 1 + 4 * (i + 1)) (s2 := 20 + 42 * (i + 1)) (by omega) (by omega) ?_
    rw [nI_clamp (by omega)] at hD ⊢
    have hn : 2 + 4 * i + 1 + 3 = 2 + 4 * (i + 1) := by omega
    rw [hn] at hD ⊢
    refine gj_pick [1, 0] _ rfl (ih (i + 1) A' _ (va_up f i (some (A' (2 + 4 * i)))) (by omega) hD ((pA 0 (by omega)).trans hA) ?_ (va_up_self _ _ _) ?_ ?_)
    · rw [va_up_ne _ _ (by omega), pE 0 (by omega), pA 1 (by omega)]; exact he0
    · intro z hz
      by_cases hzi : z = i
      · subst hzi; exact va_up_self _ _ _
      · rw [va_up_ne _ _ hzi, pA _ (by omega)]; exact hf z (by omega)
    · intro z hz
      by_cases hzi : z = i
      · subst hzi
        refine ⟨?_, ?_, ?_, ?_⟩
        · rw [va_up_ne _ _ (by omega), p3, show 2 + 4 * z + 1 = 3 + 4 * z by omega, show 3 + 4 * z + 2 = 5 + 4 * z by omega]
        · rw [va_up_ne _ _ (by omega), show 3 + 4 * z = 2 + 4 * z + 1 by omega, p4, show 2 + 4 * z + 1 + 1 = 4 + 4 * z by omega]
        · rw [va_up_ne _ _ (by omega), show 4 + 4 * z = 2 + 4 * z + 1 + 1 by omega, p5]
        · rw [va_up_ne _ _ (by omega), show 5 + 4 * z = 2 + 4 * z + 1 + 2 by omega, p6]
      · exact cn_fc_k (hc z (by omega)) (n := 2 + 4 * i) (by omega) pA (fun y hy hy1 => (va_up_ne _ _ (by omega)).trans (pE y hy))
set_option maxRecDepth 100000 in
set_option maxHeartbeats 4000000 in
/-- the loop over students -/
theorem cn_loopS {K : gw_K} {Γ : gw_G} (C : gw_C K Γ cX3_init 2 RX3) (hX : cn_X (gw_s K)) (a0 : Nat) (A0 : Nat → Nat) (e0 : Nat → va_E)
    (kk : ∀ (A : Nat → Nat) (e : Nat → va_E) (f : Nat → Option Nat), va_D (gw_A Γ) (cn_w 131 A e) → A 0 = a0 → e 0 = .inr (3, [.ref (A 1), .ref (A 82), .int 0, .int 0, .int 0, .null]) → e 82 = cn_rq Γ 2 16 f → (∀ z, z < 16 → f z = some (A (83 + 3 * z))) → (∀ z, z < 16 → cn_fs Γ A e z) → (∀ z, z < 83 → A z = A0 z) → (∀ z, z < 82 → 0 < z → e z = e0 z) → gw_J K Γ cn_R 130 1164 (cn_w 131 A e) 84 [(0, .ref a0)] []) :
    ∀ (d i : Nat) (A : Nat → Nat) (e : Nat → va_E) (f : Nat → Option Nat), i + d = 16 → va_D (gw_A Γ) (cn_w (83 + 3 * i) A e) → A 0 = a0 → e 0 = .inr (3, [.ref (A 1), .ref (A 82), .int 0, .int 0, .int 0, .null]) → e 82 = cn_rq Γ 2 16 f → (∀ z, z < i → f z = some (A (83 + 3 * z))) → (∀ z, z < i → cn_fs Γ A e z) → (∀ z, z < 83 → A z = A0 z) → (∀ z, z < 82 → 0 < z → e z = e0 z) → gw_J K Γ cn_R (82 + 3 * i) (876 + 18 * i) (cn_w (83 + 3 * i) A e) 55 [(0, .ref a0), (1, .int (nI i))] [] := by
  intro d
  induction d with
  | zero =>
    intro i A e f hi hD hA he0 he1 hf hc hA0 hE0
    have e20 : i = 16 := by omega
    subst e20
    refine gj_iload_n C 1 dX3_init_55 rfl ?_
    refine gj_aload_n C 0 dX3_init_56 rfl ?_
    refine cn_get C 0 hA inX3 rfl (by omega) he0 1 (by decide) fc_X3_20 rfl dX3_init_57 ?_
    refine cn_alen C 82 2 rfl (by omega) he1 rfl (v := 16) rfl dX3_init_60 ?_
    refine gj_ic_ge C 84 dX3_init_61 (by decide) (fun _ => ?_) (fun c => absurd (by decide) c)
    exact gj_pick [0] _ rfl (kk A e f hD hA he0 he1 hf hc hA0 hE0)
  | succ d ih =>
    intro i A e f hi hD hA he0 he1 hf hc hA0 hE0
    refine gj_iload_n C 1 dX3_init_55 rfl ?_
    refine gj_aload_n C 0 dX3_init_56 rfl ?_
    refine cn_get C 0 hA inX3 rfl (by omega) he0 1 (by decide) fc_X3_20 rfl dX3_init_57 ?_
    refine cn_alen C 82 2 rfl (by omega) he1 rfl (v := nI 16) rfl dX3_init_60 ?_
    refine gj_ic_ge C 84 dX3_init_61 (by decide) (fun c => absurd c (nI_ge (by omega) (by decide))) (fun _ => ?_)
    refine gj_aload_n C 0 dX3_init_64 rfl ?_
    refine cn_get C 0 hA inX3 rfl (by omega) he0 1 (by decide) fc_X3_20 rfl dX3_init_65 ?_
    refine gj_iload_n C 1 dX3_init_68 rfl ?_
    refine cn_new (ci := 2) C hD [.int 0, .null, .int 0, .int 0, .int 0, .int 0, .int 0, .int 0, .int 0, .int 0] inX2 tyX2 tyX2_ok rfl (fun j hj => by rcases (show j = 0 ∨ j = 1 ∨ j = 2 ∨ j = 3 ∨ j = 4 ∨ j = 5 ∨ j = 6 ∨ j = 7 ∨ j = 8 ∨ j = 9 by omega) with rfl | rfl | rfl | rfl | rfl | rfl | rfl | rfl | rfl | rfl <;> rfl) cl_X3_18 is_X2 ii_X2 (by show _ ≤ 131; omega) (by show _ ≤ 1180; omega) dX3_init_69 (fun q hD => ?_)
    refine gj_dup C dX3_init_72 rfl ?_
    refine gj_iload_n C 1 dX3_init_73 rfl ?_
    have hM := cn_Student (gw_l K) Γ (83 + 3 * i + 1) _ _ (83 + 3 * i) (nI i) (by omega) (va_up_self _ _ _) hD
    rw [va_up_self] at hM
    refine cn_cI (As := [.int (nI i)]) (rest := [.ref q, .int (nI i), .ref (A 82)]) C hX cb_X3_24i rfl im_X2_init hM rfl (Nat.le_of_ble_eq_true rfl) dX3_init_74 (gw_rmo rfl (by show _ ≤ 131; omega) (by show _ ≤ 1180; omega)) rfl (fun A' e' hp hD => ?_)
    obtain ⟨p1, p2, p3, p4, p5⟩ := hp
    have pA : ∀ z, z < 83 + 3 * i → A' z = A z := fun z hz => (p1 z (by omega)).trans (va_up_ne _ _ (by omega))
    have pE : ∀ z, z < 83 + 3 * i → e' z = e z := fun z hz => (p2 z (by omega) (by omega)).trans (va_up_ne _ _ (by omega))
    have pq : A' (83 + 3 * i) = q := (p1 _ (by omega)).trans (va_up_self _ _ _)
    refine cn_aast (r := (RX2, TX2, 10)) (f := f) C hD 82 2 (83 + 3 * i) 2 (pA 82 (by omega)) pq (by omega) ((pE 82 (by omega)).trans he1) rfl (by omega) p3 rfl (vp_in_nI (n := i) (by omega) (by decide)) dX3_init_77 (fun hD => ?_)
    refine gj_iinc C 1 1 (nI (i + 1)) [(1, .int (nI (i + 1))), (0, .ref a0)] dX3_init_78 rfl (nI_1 i) (by decide) rfl ?_
    refine gj_goto C 55 dX3_init_81 (by decide) ?_
    refine gj_widen (c2 := 82 + 3 * (i + 1)) (s2 := 876 + 18 * (i + 1)) (by omega) (by omega) ?_
    rw [nI_clamp (by omega)] at hD ⊢
    have hn : 83 + 3 * i + 1 + 2 = 83 + 3 * (i + 1) := by omega
    rw [hn] at hD ⊢
    refine gj_pick [1, 0] _ rfl (ih (i + 1) A' _ (va_up f i (some (A' (83 + 3 * i)))) (by omega) hD ((pA 0 (by omega)).trans hA) ?_ (va_up_self _ _ _) ?_ ?_ ?_ ?_)
    · rw [va_up_ne _ _ (by omega), pE 0 (by omega), pA 1 (by omega), pA 82 (by omega)]; exact he0
    · intro z hz
      by_cases hzi : z = i
      · subst hzi; exact va_up_self _ _ _
      · rw [va_up_ne _ _ hzi, pA _ (by omega)]; exact hf z (by omega)
    · intro z hz
      by_cases hzi : z = i
      · subst hzi
        refine ⟨?_, ?_, ?_⟩
        · rw [va_up_ne _ _ (by omega), p3, show 83 + 3 * z + 1 = 84 + 3 * z by omega]
        · rw [va_up_ne _ _ (by omega), show 84 + 3 * z = 83 + 3 * z + 1 by omega, p4, show 83 + 3 * z + 1 + 1 = 85 + 3 * z by omega]
        · rw [va_up_ne _ _ (by omega), show 85 + 3 * z = 83 + 3 * z + 1 + 1 by omega, p5]
      · exact cn_fs_k (hc z (by omega)) (n := 83 + 3 * i) (by omega) pA (fun y hy hy1 => (va_up_ne _ _ (by omega)).trans (pE y hy))
    · intro z hz
      exact (pA z (by omega)).trans (hA0 z hz)
    · intro z hz h0
      rw [va_up_ne _ _ (by omega), pE z (by omega)]
      exact hE0 z hz h0
/-- what stands behind the constructor -/
def cn_post (Γ : gw_G) (a0 : Nat) (A : Nat → Nat) (e : Nat → va_E) : Prop := A 0 = a0 ∧ e 0 = .inr (3, [.ref (A 1), .ref (A 82), .int 0, .int 0, .int 0, .ref (A 131)]) ∧ (∃ f, e 1 = cn_rq Γ 1 20 f ∧ ∀ z, z < 20 → f z = some (A (2 + 4 * z))) ∧ (∃ f, e 82 = cn_rq Γ 2 16 f ∧ ∀ z, z < 16 → f z = some (A (83 + 3 * z))) ∧ (∀ z, z < 20 → cn_fc Γ A e z) ∧ (∀ z, z < 16 → cn_fs Γ A e z) ∧ e 131 = .inl (gw_y Γ 0, 16, .inl (fun _ => 0))
set_option maxRecDepth 100000 in
set_option maxHeartbeats 4000000 in
theorem cn_Main (l : Launch) (Γ : gw_G) (A : Nat → Nat) (e : Nat → va_E) (he : e 0 = .inr (3, [.null, .null, .int 0, .int 0, .int 0, .null])) (hD : va_D (gw_A Γ) (cn_w 1 A e)) : cn_M l yX3_init [.code yX3_init cX3_init 2 none] cn_R 131 1180 Γ [.ref (A 0)] (cn_w 1 A e) (cn_q Γ 132 (cn_post Γ (A 0))) := by
  refine cn_enter (by decide) (Nat.le_of_ble_eq_true rfl) (fun K C E hX hin => ?_)
  refine gj_aload_n C 0 dX3_init_0 rfl ?_
  refine cn_obj C mo_X3 im_obj cw_obj dX3_init_1 (Nat.le_of_ble_eq_true rfl) (Nat.le_of_ble_eq_true rfl) ?_
  refine gj_aload_n C 0 dX3_init_4 rfl ?_
  refine gj_bipush (v := 20) C dX3_init_5 (by decide) ?_
  refine cn_newq C hD 1 (by decide) rfl cl_X3_9 hX.2.1 20 (by decide) rfl (Nat.le_of_ble_eq_true rfl) (Nat.le_of_ble_eq_true rfl) (Nat.le_of_ble_eq_true rfl) dX3_init_7 (fun q hD => ?_)
  refine cn_put C hD hin 0 (va_up_ne _ _ (by omega)) tyX3 (.array (.object "CourseEnrolment$Course")) inX3 tyX3_ok nmX3 rfl (by omega) ((va_up_ne _ _ (by omega)).trans he) 0 (by decide) fc_X3_11 rfl rfl rfl rfl (Nat.le_of_ble_eq_true rfl) dX3_init_10 (fun hD => ?_)
  refine gj_iconst (v := 0) C dX3_init_13 (by decide) ?_
  refine gj_istore_n C 1 [(1, .int 0), (0, .ref (A 0))] dX3_init_14 rfl (by decide) rfl ?_
  refine gj_pick [1, 0] _ rfl (cn_loopC C hX (A 0) ?_ 20 0 _ _ (fun _ => none) rfl hD (va_up_ne _ _ (by omega)) (by rw [va_up_self, va_up_self]; rfl) ((va_up_ne _ _ (by omega)).trans (va_up_self _ _ _)) (fun z hz => absurd hz (Nat.not_lt_zero z)) (fun z hz => absurd hz (Nat.not_lt_zero z)))
  intro A1 e1 f1 hD hA1 h10 h11 hf1 hc1
  refine gj_aload_n C 0 dX3_init_44 rfl ?_
  refine gj_bipush (v := 16) C dX3_init_45 (by decide) ?_
  refine cn_newq C hD 2 (by decide) rfl cl_X3_18 hX.2.2 16 (by decide) rfl (Nat.le_of_ble_eq_true rfl) (Nat.le_of_ble_eq_true rfl) (Nat.le_of_ble_eq_true rfl) dX3_init_47 (fun q2 hD => ?_)
  refine cn_put C hD hin 0 ((va_up_ne _ _ (by omega)).trans hA1) tyX3 (.array (.object "CourseEnrolment$Student")) inX3 tyX3_ok nmX3 rfl (by omega) ((va_up_ne _ _ (by omega)).trans h10) 1 (by decide) fc_X3_20 rfl rfl rfl rfl (Nat.le_of_ble_eq_true rfl) dX3_init_50 (fun hD => ?_)
  refine gj_iconst (v := 0) C dX3_init_53 (by decide) ?_
  refine gj_istore_n C 1 [(1, .int 0), (0, .ref (A 0))] dX3_init_54 rfl (by decide) rfl ?_
  refine gj_pick [1, 0] _ rfl (cn_loopS C hX (A 0) (va_up A1 82 q2) e1 ?_ 16 0 _ _ (fun _ => none) rfl hD ((va_up_ne _ _ (by omega)).trans hA1) (by rw [va_up_self, va_up_ne _ _ (by omega), va_up_self]; rfl) ((va_up_ne _ _ (by omega)).trans (va_up_self _ _ _)) (fun z hz => absurd hz (Nat.not_lt_zero z)) (fun z hz => absurd hz (Nat.not_lt_zero z)) (fun z hz => rfl) (fun z hz h0 => (va_up_ne _ _ (by omega)).trans (va_up_ne _ _ (by omega))))
  intro A2 e2 f2 hD hA2 h20 h282 hf2 hs2 hA21 hE21
  have hA22 : ∀ z, z < 82 → A2 z = A1 z := fun z hz => (hA21 z (by omega)).trans (va_up_ne _ _ (by omega))
  refine gj_aload_n C 0 dX3_init_84 rfl ?_
  refine gj_iconst (v := 0) C dX3_init_85 (by decide) ?_
  refine cn_put C hD hin 0 hA2 tyX3 .int inX3 tyX3_ok nmX3 rfl (by omega) h20 2 (by decide) fc_X3_25 rfl rfl rfl rfl (Nat.le_of_ble_eq_true rfl) dX3_init_86 (fun hD => ?_)
  refine gj_aload_n C 0 dX3_init_89 rfl ?_
  refine gj_iconst (v := 0) C dX3_init_90 (by decide) ?_
  refine cn_put C hD hin 0 hA2 tyX3 .int inX3 tyX3_ok nmX3 rfl (by omega) (va_up_self _ _ _) 3 (by decide) fc_X3_29 rfl rfl rfl rfl (Nat.le_of_ble_eq_true rfl) dX3_init_91 (fun hD => ?_)
  refine gj_aload_n C 0 dX3_init_94 rfl ?_
  refine gj_iconst (v := 0) C dX3_init_95 (by decide) ?_
  refine cn_put C hD hin 0 hA2 tyX3 .int inX3 tyX3_ok nmX3 rfl (by omega) (va_up_self _ _ _) 4 (by decide) fc_X3_32 rfl rfl rfl rfl (Nat.le_of_ble_eq_true rfl) dX3_init_96 (fun hD => ?_)
  refine gj_aload_n C 0 dX3_init_99 rfl ?_
  refine gj_bipush (v := 16) C dX3_init_100 (by decide) ?_
  refine cn_newa C hX hD 16 (by decide) rfl (Nat.le_of_ble_eq_true rfl) (Nat.le_of_ble_eq_true rfl) (Nat.le_of_ble_eq_true rfl) dX3_init_102 (fun q3 hD => ?_)
  refine cn_put C hD hin 0 ((va_up_ne _ _ (by omega)).trans hA2) tyX3 (.array .int) inX3 tyX3_ok nmX3 rfl (by omega) ((va_up_ne _ _ (by omega)).trans (va_up_self _ _ _)) 5 (by decide) fc_X3_35 rfl rfl rfl rfl (Nat.le_of_ble_eq_true rfl) dX3_init_104 (fun hD => ?_)
  have kA : ∀ z, z < 131 → va_up A2 131 q3 z = A2 z := fun z hz => va_up_ne _ _ (by omega)
  refine cn_vret C E hD ⟨(kA 0 (by omega)).trans hA2, ?_, ⟨f1, ?_, fun z hz => ?_⟩, ⟨f2, ?_, fun z hz => ?_⟩, fun z hz => ?_, fun z hz => ?_, (va_up_ne _ _ (by omega)).trans (va_up_self _ _ _)⟩ dX3_init_107 (Nat.le_refl _) (Nat.le_refl _)
  · rw [va_up_self, va_up_self, kA 1 (by omega), kA 82 (by omega)]; rfl
  · simp (disch := omega) only [va_up_ne]
    exact (hE21 1 (by omega) (by omega)).trans h11
  · rw [kA _ (by omega), hA22 _ (by omega)]; exact hf1 z hz
  · simp (disch := omega) only [va_up_ne]
    exact h282
  · rw [kA _ (by omega)]; exact hf2 z hz
  · exact cn_fc_k (hc1 z hz) (n := 82) (by omega) (fun y hy => (kA y (by omega)).trans (hA22 y hy)) (fun y hy h1 => by
      simp (disch := omega) only [va_up_ne]
      exact hE21 y hy (by omega))
  · exact cn_fs_k (hs2 z hz) (n := 131) (by omega) (fun y hy => kA y (by omega)) (fun y hy h1 => by
      simp (disch := omega) only [va_up_ne])
