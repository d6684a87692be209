/-! THE WALKS of the reference's methods, written by program (wip/whole/gen.py) -/
set_option maxRecDepth 100000 in
set_option maxHeartbeats 4000000 in
theorem s_X4_thrown (l : Launch) (Γ : gw_G) (τ μ : gw_S) (o : Nat → Int64) (r : Int32) (hf : f_X4_thrown μ = some r) : gw_M l yX4_thrown [.code yX4_thrown cX4_thrown 1 (some .int)] gr_X4_thrown 0 0 Γ [.ref (gw_a Γ 132)] (gw_W Γ τ μ o) (gw_qi Γ r (gw_W Γ τ μ o)) := by
  refine gw_enter (by decide) (Nat.le_of_ble_eq_true rfl) (fun K C E => ?_)
  unfold f_X4_thrown at hf
  refine gj_aload_n C 0 dX4_thrown_0 rfl ?_
  refine g_X4_68 C  rfl dX4_thrown_1 ?_
  cases hf
  exact gj_iret C E dX4_thrown_4 (Nat.le_of_ble_eq_true rfl) (Nat.le_of_ble_eq_true rfl)
set_option maxRecDepth 100000 in
set_option maxHeartbeats 4000000 in
theorem s_X4_has (l : Launch) (Γ : gw_G) (τ μ : gw_S) (o : Nat → Int64) (a0 : Int32) (a1 : Int32) (r : Int32) (hf : f_X4_has μ a0 a1 = some r) : gw_M l yX4_has [.code yX4_has cX4_has 2 (some .boolean)] gr_X4_has 0 0 Γ [.int a0, .int a1] (gw_W Γ τ μ o) (gw_qi Γ r (gw_W Γ τ μ o)) := by
  refine gw_enter (by decide) (Nat.le_of_ble_eq_true rfl) (fun K C E => ?_)
  unfold f_X4_has at hf
  refine gj_iload_n C 0 dX4_has_0 rfl ?_
  refine gj_iload_n C 1 dX4_has_1 rfl ?_
  refine gj_ishr C dX4_has_2 ?_
  refine gj_iconst (v := 1) C dX4_has_3 (by decide) ?_
  refine gj_iand C dX4_has_4 ?_
  refine gj_iconst (v := 1) C dX4_has_5 (by decide) ?_
  refine gj_ic_ne C 13 dX4_has_6 (by decide) (fun c => ?_) (fun c => ?_)
  · replace hf := gw_iff hf c
    refine gj_iconst (v := 0) C dX4_has_13 (by decide) ?_
    cases hf
    exact gj_zret C E (by decide) dX4_has_14 (Nat.le_of_ble_eq_true rfl) (Nat.le_of_ble_eq_true rfl)
  · replace hf := gw_ift hf c
    refine gj_iconst (v := 1) C dX4_has_9 (by decide) ?_
    refine gj_goto C 14 dX4_has_10 (by decide) ?_
    cases hf
    exact gj_zret C E (by decide) dX4_has_14 (Nat.le_of_ble_eq_true rfl) (Nat.le_of_ble_eq_true rfl)
set_option maxRecDepth 100000 in
set_option maxHeartbeats 4000000 in
theorem l_X4_size_1 {K : gw_K} {Γ : gw_G} (C : gw_C K Γ cX4_size 3 RX4) (μ : gw_S) (τ : gw_S) (o : Nat → Int64) (v0 : Int32) : ∀ (n : Nat) (v1 : Int32) (v2 : Int32) (T : Int32 × Int32), gw_it (b_X4_size_1 μ v0) n (v1, v2) = some T → (gw_J K Γ gr_X4_size 0 0 (gw_W Γ τ μ o) 24 [(0, .int v0), (1, .int T.1), (2, .int T.2)] []) → gw_J K Γ gr_X4_size 0 0 (gw_W Γ τ μ o) 4 [(0, .int v0), (1, .int v1), (2, .int v2)] [] := by
  intro n
  induction n with
  | zero => intro v1 v2 T  h; cases h
  | succ n ih =>
    intro v1 v2 T  h k
    obtain ⟨q, hf, hr⟩ := gw_it_s h
    rw [b_X4_size_1] at hf
    refine gj_iload_n C 2 dX4_size_4 rfl ?_
    refine gj_bipush (v := 30) C dX4_size_5 (by decide) ?_
    refine gj_ic_ge C 24 dX4_size_7 (by decide) (fun c => ?_) (fun c => ?_)
    · replace hf := gw_ift hf c
      cases hf
      cases gw_ir hr
      exact gj_pick [0, 1, 2] _ rfl (k )
    · replace hf := gw_iff hf c
      refine gj_iload_n C 1 dX4_size_10 rfl ?_
      refine gj_iload_n C 0 dX4_size_11 rfl ?_
      refine gj_iload_n C 2 dX4_size_12 rfl ?_
      refine gj_ishr C dX4_size_13 ?_
      refine gj_iconst (v := 1) C dX4_size_14 (by decide) ?_
      refine gj_iand C dX4_size_15 ?_
      refine gj_iadd C dX4_size_16 ?_
      refine gj_istore_n C 1 [(1, .int (v1 + ((v0 >>> (v2 &&& 31)) &&& (1 : Int32)))), (0, .int v0), (2, .int v2)] dX4_size_17 rfl (by decide) rfl ?_
      refine gj_iinc C 2 2 (v2 + 1) [(2, .int (v2 + 1)), (1, .int (v1 + ((v0 >>> (v2 &&& 31)) &&& (1 : Int32)))), (0, .int v0)] dX4_size_18 rfl rfl (by decide) rfl ?_
      refine gj_goto C 4 dX4_size_21 (by decide) ?_
      cases hf
      replace hr := gw_il hr
      exact gj_pick [2, 1, 0] _ rfl (ih _ _ _  hr k)
set_option maxRecDepth 100000 in
set_option maxHeartbeats 4000000 in
theorem s_X4_size (l : Launch) (Γ : gw_G) (τ μ : gw_S) (o : Nat → Int64) (a0 : Int32) (r : Int32) (hf : f_X4_size μ a0 = some r) : gw_M l yX4_size [.code yX4_size cX4_size 3 (some .int)] gr_X4_size 0 0 Γ [.int a0] (gw_W Γ τ μ o) (gw_qi Γ r (gw_W Γ τ μ o)) := by
  refine gw_enter (by decide) (Nat.le_of_ble_eq_true rfl) (fun K C E => ?_)
  unfold f_X4_size at hf
  refine gj_iconst (v := 0) C dX4_size_0 (by decide) ?_
  refine gj_istore_n C 1 [(1, .int (0 : Int32)), (0, .int a0)] dX4_size_1 rfl (by decide) rfl ?_
  refine gj_iconst (v := 0) C dX4_size_2 (by decide) ?_
  refine gj_istore_n C 2 [(2, .int (0 : Int32)), (1, .int (0 : Int32)), (0, .int a0)] dX4_size_3 rfl (by decide) rfl ?_
  replace hf := gw_bnd hf
  obtain ⟨t1, ht1, hf⟩ := hf
  refine gj_pick [2, 1, 0] _ rfl (l_X4_size_1 C μ τ o a0 _ _ _ t1  ht1 (?_))
  refine gj_iload_n C 1 dX4_size_24 rfl ?_
  cases hf
  exact gj_iret C E dX4_size_25 (Nat.le_of_ble_eq_true rfl) (Nat.le_of_ble_eq_true rfl)
set_option maxRecDepth 100000 in
set_option maxHeartbeats 4000000 in
theorem s_X4_isCourse (l : Launch) (Γ : gw_G) (τ μ : gw_S) (o : Nat → Int64) (a1 : Int32) (r : Int32) (hf : f_X4_isCourse μ a1 = some r) : gw_M l yX4_isCourse [.code yX4_isCourse cX4_isCourse 2 (some .boolean)] gr_X4_isCourse 0 0 Γ [.ref (gw_a Γ 132), .int a1] (gw_W Γ τ μ o) (gw_qi Γ r (gw_W Γ τ μ o)) := by
  refine gw_enter (by decide) (Nat.le_of_ble_eq_true rfl) (fun K C E => ?_)
  unfold f_X4_isCourse at hf
  refine gj_iload_n C 1 dX4_isCourse_0 rfl ?_
  refine gj_if_lt C 16 dX4_isCourse_1 (by decide) (fun c => ?_) (fun c => ?_)
  · replace hf := gw_ift hf c
    refine gj_iconst (v := 0) C dX4_isCourse_16 (by decide) ?_
    cases hf
    exact gj_zret C E (by decide) dX4_isCourse_17 (Nat.le_of_ble_eq_true rfl) (Nat.le_of_ble_eq_true rfl)
  · replace hf := gw_iff hf c
    refine gj_iload_n C 1 dX4_isCourse_4 rfl ?_
    refine gj_aload_n C 0 dX4_isCourse_5 rfl ?_
    refine g_X4_71 C  rfl dX4_isCourse_6 ?_
    refine gj_ic_ge C 16 dX4_isCourse_9 (by decide) (fun c => ?_) (fun c => ?_)
    · replace hf := gw_ift hf c
      refine gj_iconst (v := 0) C dX4_isCourse_16 (by decide) ?_
      cases hf
      exact gj_zret C E (by decide) dX4_isCourse_17 (Nat.le_of_ble_eq_true rfl) (Nat.le_of_ble_eq_true rfl)
    · replace hf := gw_iff hf c
      refine gj_iconst (v := 1) C dX4_isCourse_12 (by decide) ?_
      refine gj_goto C 17 dX4_isCourse_13 (by decide) ?_
      cases hf
      exact gj_zret C E (by decide) dX4_isCourse_17 (Nat.le_of_ble_eq_true rfl) (Nat.le_of_ble_eq_true rfl)
set_option maxRecDepth 100000 in
set_option maxHeartbeats 4000000 in
theorem s_X4_isStudent (l : Launch) (Γ : gw_G) (τ μ : gw_S) (o : Nat → Int64) (a1 : Int32) (r : Int32) (hf : f_X4_isStudent μ a1 = some r) : gw_M l yX4_isStudent [.code yX4_isStudent cX4_isStudent 2 (some .boolean)] gr_X4_isStudent 0 0 Γ [.ref (gw_a Γ 132), .int a1] (gw_W Γ τ μ o) (gw_qi Γ r (gw_W Γ τ μ o)) := by
  refine gw_enter (by decide) (Nat.le_of_ble_eq_true rfl) (fun K C E => ?_)
  unfold f_X4_isStudent at hf
  refine gj_iload_n C 1 dX4_isStudent_0 rfl ?_
  refine gj_if_lt C 16 dX4_isStudent_1 (by decide) (fun c => ?_) (fun c => ?_)
  · replace hf := gw_ift hf c
    refine gj_iconst (v := 0) C dX4_isStudent_16 (by decide) ?_
    cases hf
    exact gj_zret C E (by decide) dX4_isStudent_17 (Nat.le_of_ble_eq_true rfl) (Nat.le_of_ble_eq_true rfl)
  · replace hf := gw_iff hf c
    refine gj_iload_n C 1 dX4_isStudent_4 rfl ?_
    refine gj_aload_n C 0 dX4_isStudent_5 rfl ?_
    refine g_X4_74 C  rfl dX4_isStudent_6 ?_
    refine gj_ic_ge C 16 dX4_isStudent_9 (by decide) (fun c => ?_) (fun c => ?_)
    · replace hf := gw_ift hf c
      refine gj_iconst (v := 0) C dX4_isStudent_16 (by decide) ?_
      cases hf
      exact gj_zret C E (by decide) dX4_isStudent_17 (Nat.le_of_ble_eq_true rfl) (Nat.le_of_ble_eq_true rfl)
    · replace hf := gw_iff hf c
      refine gj_iconst (v := 1) C dX4_isStudent_12 (by decide) ?_
      refine gj_goto C 17 dX4_isStudent_13 (by decide) ?_
      cases hf
      exact gj_zret C E (by decide) dX4_isStudent_17 (Nat.le_of_ble_eq_true rfl) (Nat.le_of_ble_eq_true rfl)
set_option maxRecDepth 100000 in
set_option maxHeartbeats 4000000 in
theorem s_X4_areBoth (l : Launch) (Γ : gw_G) (τ μ : gw_S) (o : Nat → Int64) (a1 : Int32) (a2 : Int32) (r : Int32 × gw_S) (hf : f_X4_areBoth μ a1 a2 = some r) : gw_M l yX4_areBoth [.code yX4_areBoth cX4_areBoth 3 (some .boolean)] gr_X4_areBoth 0 0 Γ [.ref (gw_a Γ 132), .int a1, .int a2] (gw_W Γ τ μ o) (gw_qi Γ r.1 (gw_W Γ τ r.2 o)) := by
  refine gw_enter (by decide) (Nat.le_of_ble_eq_true rfl) (fun K C E => ?_)
  unfold f_X4_areBoth at hf
  refine gj_aload_n C 0 dX4_areBoth_0 rfl ?_
  refine gj_aload_n C 0 dX4_areBoth_1 rfl ?_
  refine gj_iload_n C 1 dX4_areBoth_2 rfl ?_
  replace hf := gw_bnd hf
  obtain ⟨r1, hr1, hf⟩ := hf
  refine gj_cVi (As := [.int a1]) (rest := [.ref (gw_a Γ 132)]) C cb_X4_77 (s_X4_isStudent (gw_l K) Γ τ μ o a1 r1 hr1) rfl (Nat.le_of_ble_eq_true rfl) gw_atD rfl rfl dX4_areBoth_3 (gw_rmk rfl) rfl ?_
  refine gj_if_eq C 21 dX4_areBoth_6 (by decide) (fun c => ?_) (fun c => ?_)
  · replace hf := gw_ift hf c
    refine gj_iconst (v := 1) C dX4_areBoth_21 (by decide) ?_
    refine p_X4_68 C  dX4_areBoth_22 ?_
    refine gj_aload_n C 0 dX4_areBoth_25 rfl ?_
    refine g_X4_68 C  (gw_up_s _ _ _ _) dX4_areBoth_26 ?_
    refine gj_if_ne C 36 dX4_areBoth_29 (by decide) (fun _ => ?_) (fun c => absurd c (by decide))
    refine gj_iconst (v := 0) C dX4_areBoth_36 (by decide) ?_
    cases hf
    exact gj_zret C E (by decide) dX4_areBoth_37 (Nat.le_of_ble_eq_true rfl) (Nat.le_of_ble_eq_true rfl)
  · replace hf := gw_iff hf c
    refine gj_aload_n C 0 dX4_areBoth_9 rfl ?_
    refine gj_iload_n C 2 dX4_areBoth_10 rfl ?_
    replace hf := gw_bnd hf
    obtain ⟨r2, hr2, hf⟩ := hf
    refine gj_cVi (As := [.int a2]) (rest := [.ref (gw_a Γ 132)]) C cb_X4_81 (s_X4_isCourse (gw_l K) Γ τ μ o a2 r2 hr2) rfl (Nat.le_of_ble_eq_true rfl) gw_atD rfl rfl dX4_areBoth_11 (gw_rmk rfl) rfl ?_
    refine gj_if_eq C 21 dX4_areBoth_14 (by decide) (fun c => ?_) (fun c => ?_)
    · replace hf := gw_ift hf c
      refine gj_iconst (v := 1) C dX4_areBoth_21 (by decide) ?_
      refine p_X4_68 C  dX4_areBoth_22 ?_
      refine gj_aload_n C 0 dX4_areBoth_25 rfl ?_
      refine g_X4_68 C  (gw_up_s _ _ _ _) dX4_areBoth_26 ?_
      refine gj_if_ne C 36 dX4_areBoth_29 (by decide) (fun _ => ?_) (fun c => absurd c (by decide))
      refine gj_iconst (v := 0) C dX4_areBoth_36 (by decide) ?_
      cases hf
      exact gj_zret C E (by decide) dX4_areBoth_37 (Nat.le_of_ble_eq_true rfl) (Nat.le_of_ble_eq_true rfl)
    · replace hf := gw_iff hf c
      refine gj_iconst (v := 0) C dX4_areBoth_17 (by decide) ?_
      refine gj_goto C 22 dX4_areBoth_18 (by decide) ?_
      refine p_X4_68 C  dX4_areBoth_22 ?_
      refine gj_aload_n C 0 dX4_areBoth_25 rfl ?_
      refine g_X4_68 C  (gw_up_s _ _ _ _) dX4_areBoth_26 ?_
      refine gj_if_ne C 36 dX4_areBoth_29 (by decide) (fun c => absurd (by decide) c) (fun _ => ?_)
      refine gj_iconst (v := 1) C dX4_areBoth_32 (by decide) ?_
      refine gj_goto C 37 dX4_areBoth_33 (by decide) ?_
      cases hf
      exact gj_zret C E (by decide) dX4_areBoth_37 (Nat.le_of_ble_eq_true rfl) (Nat.le_of_ble_eq_true rfl)
set_option maxRecDepth 100000 in
set_option maxHeartbeats 4000000 in
theorem l_X4_requiredBy_2 {K : gw_K} {Γ : gw_G} (C : gw_C K Γ cX4_requiredBy 5 RX4) (μ : gw_S) (τ : gw_S) (o : Nat → Int64) (v1 : Int32) (v3 : Int32) : ∀ (n : Nat) (v2 : Int32) (v4 : Int32) (T : Int32 × Int32), gw_it (b_X4_requiredBy_2 μ v1 v3) n (v2, v4) = some T → (gw_J K Γ gr_X4_requiredBy 0 0 (gw_W Γ τ μ o) 56 [(0, .ref (gw_a Γ 132)), (1, .int v1), (2, .int T.1), (3, .int v3), (4, .int T.2)] []) → gw_J K Γ gr_X4_requiredBy 0 0 (gw_W Γ τ μ o) 18 [(0, .ref (gw_a Γ 132)), (1, .int v1), (2, .int v2), (3, .int v3), (4, .int v4)] [] := by
  intro n
  induction n with
  | zero => intro v2 v4 T  h; cases h
  | succ n ih =>
    intro v2 v4 T  h k
    obtain ⟨q, hf, hr⟩ := gw_it_s h
    rw [b_X4_requiredBy_2] at hf
    refine gj_iload C 4 dX4_requiredBy_18 rfl ?_
    refine gj_aload_n C 0 dX4_requiredBy_20 rfl ?_
    refine g_X4_71 C  rfl dX4_requiredBy_21 ?_
    refine gj_ic_ge C 56 dX4_requiredBy_24 (by decide) (fun c => ?_) (fun c => ?_)
    · replace hf := gw_ift hf c
      cases hf
      cases gw_ir hr
      exact gj_pick [0, 1, 2, 3, 4] _ rfl (k )
    · replace hf := gw_iff hf c
      refine gj_iload_n C 2 dX4_requiredBy_27 rfl ?_
      refine gj_iload_n C 2 dX4_requiredBy_28 rfl ?_
      refine gj_iload C 4 dX4_requiredBy_29 rfl ?_
      replace hf := gw_bnd hf
      obtain ⟨r2, hr2, hf⟩ := hf
      refine gj_cSi (As := [.int v2, .int v4]) (rest := [.int v2]) C cb_X4_84 (s_X4_has (gw_l K) Γ τ μ o v2 v4 r2 hr2) rfl (Nat.le_of_ble_eq_true rfl) dX4_requiredBy_31 (gw_rmk rfl) rfl ?_
      refine gj_if_eq C 47 dX4_requiredBy_34 (by decide) (fun c => ?_) (fun c => ?_)
      · replace hf := gw_ift hf c
        refine gj_iconst (v := 0) C dX4_requiredBy_47 (by decide) ?_
        refine gj_ior C dX4_requiredBy_48 ?_
        refine gj_istore_n C 2 [(2, .int (v2 ||| (0 : Int32))), (0, .ref (gw_a Γ 132)), (1, .int v1), (3, .int v3), (4, .int v4)] dX4_requiredBy_49 rfl (by decide) rfl ?_
        refine gj_iinc C 4 4 (v4 + 1) [(4, .int (v4 + 1)), (2, .int (v2 ||| (0 : Int32))), (0, .ref (gw_a Γ 132)), (1, .int v1), (3, .int v3)] dX4_requiredBy_50 rfl rfl (by decide) rfl ?_
        refine gj_goto C 18 dX4_requiredBy_53 (by decide) ?_
        cases hf
        replace hr := gw_il hr
        exact gj_pick [2, 3, 1, 4, 0] _ rfl (ih _ _ _  hr k)
      · replace hf := gw_iff hf c
        refine gj_aload_n C 0 dX4_requiredBy_37 rfl ?_
        refine g_X4_19 C  dX4_requiredBy_38 ?_
        refine gj_iload C 4 dX4_requiredBy_41 rfl ?_
        obtain ⟨g3, hf⟩ := gw_ifs hf
        refine gj_bld (j := 4) C (by decide) (gw_ibv g3) dX4_requiredBy_43 ?_
        refine gj_goto C 48 dX4_requiredBy_44 (by decide) ?_
        refine gj_ior C dX4_requiredBy_48 ?_
        refine gj_istore_n C 2 [(2, .int (v2 ||| (μ 4 v4.toNatClampNeg))), (0, .ref (gw_a Γ 132)), (1, .int v1), (3, .int v3), (4, .int v4)] dX4_requiredBy_49 rfl (by decide) rfl ?_
        refine gj_iinc C 4 4 (v4 + 1) [(4, .int (v4 + 1)), (2, .int (v2 ||| (μ 4 v4.toNatClampNeg))), (0, .ref (gw_a Γ 132)), (1, .int v1), (3, .int v3)] dX4_requiredBy_50 rfl rfl (by decide) rfl ?_
        refine gj_goto C 18 dX4_requiredBy_53 (by decide) ?_
        cases hf
        replace hr := gw_il hr
        exact gj_pick [2, 3, 1, 4, 0] _ rfl (ih _ _ _  hr k)
set_option maxRecDepth 100000 in
set_option maxHeartbeats 4000000 in
theorem l_X4_requiredBy_1 {K : gw_K} {Γ : gw_G} (C : gw_C K Γ cX4_requiredBy 5 RX4) (μ : gw_S) (τ : gw_S) (o : Nat → Int64) (v1 : Int32) : ∀ (n : Nat) (v2 : Int32) (v3 : Int32) (T : Int32 × Int32), gw_it (b_X4_requiredBy_1 μ v1) n (v2, v3) = some T → (gw_J K Γ gr_X4_requiredBy 0 0 (gw_W Γ τ μ o) 62 [(0, .ref (gw_a Γ 132)), (1, .int v1), (2, .int T.1), (3, .int T.2)] []) → gw_J K Γ gr_X4_requiredBy 0 0 (gw_W Γ τ μ o) 9 [(0, .ref (gw_a Γ 132)), (1, .int v1), (2, .int v2), (3, .int v3)] [] := by
  intro n
  induction n with
  | zero => intro v2 v3 T  h; cases h
  | succ n ih =>
    intro v2 v3 T  h k
    obtain ⟨q, hf, hr⟩ := gw_it_s h
    rw [b_X4_requiredBy_1] at hf
    refine gj_iload_n C 3 dX4_requiredBy_9 rfl ?_
    refine gj_bipush (v := 20) C dX4_requiredBy_10 (by decide) ?_
    refine gj_ic_ge C 62 dX4_requiredBy_12 (by decide) (fun c => ?_) (fun c => ?_)
    · replace hf := gw_ift hf c
      cases hf
      cases gw_ir hr
      exact gj_pick [0, 1, 2, 3] _ rfl (k )
    · replace hf := gw_iff hf c
      refine gj_iconst (v := 0) C dX4_requiredBy_15 (by decide) ?_
      refine gj_istore C 4 [(4, .int (0 : Int32)), (0, .ref (gw_a Γ 132)), (1, .int v1), (2, .int v2), (3, .int v3)] dX4_requiredBy_16 (by decide) rfl ?_
      replace hf := gw_bnd hf
      obtain ⟨t4, ht4, hf⟩ := hf
      refine gj_pick [1, 2, 3, 4, 0] _ rfl (l_X4_requiredBy_2 C μ τ o v1 v3 _ _ _ t4  ht4 (?_))
      refine gj_iinc C 3 3 (v3 + 1) [(3, .int (v3 + 1)), (0, .ref (gw_a Γ 132)), (1, .int v1), (2, .int t4.1), (4, .int t4.2)] dX4_requiredBy_56 rfl rfl (by decide) rfl ?_
      refine gj_goto C 9 dX4_requiredBy_59 (by decide) ?_
      cases hf
      replace hr := gw_il hr
      exact gj_pick [1, 2, 3, 0] _ rfl (ih _ _ _  hr k)
set_option maxRecDepth 100000 in
set_option maxHeartbeats 4000000 in
theorem s_X4_requiredBy (l : Launch) (Γ : gw_G) (τ μ : gw_S) (o : Nat → Int64) (a1 : Int32) (r : Int32) (hf : f_X4_requiredBy μ a1 = some r) : gw_M l yX4_requiredBy [.code yX4_requiredBy cX4_requiredBy 5 (some .int)] gr_X4_requiredBy 0 0 Γ [.ref (gw_a Γ 132), .int a1] (gw_W Γ τ μ o) (gw_qi Γ r (gw_W Γ τ μ o)) := by
  refine gw_enter (by decide) (Nat.le_of_ble_eq_true rfl) (fun K C E => ?_)
  unfold f_X4_requiredBy at hf
  refine gj_aload_n C 0 dX4_requiredBy_0 rfl ?_
  refine g_X4_19 C  dX4_requiredBy_1 ?_
  refine gj_iload_n C 1 dX4_requiredBy_4 rfl ?_
  obtain ⟨g1, hf⟩ := gw_ifs hf
  refine gj_bld (j := 4) C (by decide) (gw_ibv g1) dX4_requiredBy_5 ?_
  refine gj_istore_n C 2 [(2, .int (μ 4 a1.toNatClampNeg)), (0, .ref (gw_a Γ 132)), (1, .int a1)] dX4_requiredBy_6 rfl (by decide) rfl ?_
  refine gj_iconst (v := 0) C dX4_requiredBy_7 (by decide) ?_
  refine gj_istore_n C 3 [(3, .int (0 : Int32)), (2, .int (μ 4 a1.toNatClampNeg)), (0, .ref (gw_a Γ 132)), (1, .int a1)] dX4_requiredBy_8 rfl (by decide) rfl ?_
  replace hf := gw_bnd hf
  obtain ⟨t5, ht5, hf⟩ := hf
  refine gj_pick [2, 3, 1, 0] _ rfl (l_X4_requiredBy_1 C μ τ o a1 _ _ _ t5  ht5 (?_))
  refine gj_iload_n C 2 dX4_requiredBy_62 rfl ?_
  cases hf
  exact gj_iret C E dX4_requiredBy_63 (Nat.le_of_ble_eq_true rfl) (Nat.le_of_ble_eq_true rfl)
set_option maxRecDepth 100000 in
set_option maxHeartbeats 4000000 in
theorem l_X4_worthOf_1 {K : gw_K} {Γ : gw_G} (C : gw_C K Γ cX4_worthOf 4 RX4) (μ : gw_S) (τ : gw_S) (o : Nat → Int64) (v1 : Int32) : ∀ (n : Nat) (v2 : Int32) (v3 : Int32) (T : Int32 × Int32), gw_it (b_X4_worthOf_1 μ v1) n (v2, v3) = some T → (gw_J K Γ gr_X4_worthOf 0 0 (gw_W Γ τ μ o) 39 [(0, .ref (gw_a Γ 132)), (1, .int v1), (2, .int T.1), (3, .int T.2)] []) → gw_J K Γ gr_X4_worthOf 0 0 (gw_W Γ τ μ o) 4 [(0, .ref (gw_a Γ 132)), (1, .int v1), (2, .int v2), (3, .int v3)] [] := by
  intro n
  induction n with
  | zero => intro v2 v3 T  h; cases h
  | succ n ih =>
    intro v2 v3 T  h k
    obtain ⟨q, hf, hr⟩ := gw_it_s h
    rw [b_X4_worthOf_1] at hf
    refine gj_iload_n C 3 dX4_worthOf_4 rfl ?_
    refine gj_aload_n C 0 dX4_worthOf_5 rfl ?_
    refine g_X4_71 C  rfl dX4_worthOf_6 ?_
    refine gj_ic_ge C 39 dX4_worthOf_9 (by decide) (fun c => ?_) (fun c => ?_)
    · replace hf := gw_ift hf c
      cases hf
      cases gw_ir hr
      exact gj_pick [0, 1, 2, 3] _ rfl (k )
    · replace hf := gw_iff hf c
      refine gj_iload_n C 2 dX4_worthOf_12 rfl ?_
      refine gj_iload_n C 1 dX4_worthOf_13 rfl ?_
      refine gj_iload_n C 3 dX4_worthOf_14 rfl ?_
      replace hf := gw_bnd hf
      obtain ⟨r1, hr1, hf⟩ := hf
      refine gj_cSi (As := [.int v1, .int v3]) (rest := [.int v2]) C cb_X4_84 (s_X4_has (gw_l K) Γ τ μ o v1 v3 r1 hr1) rfl (Nat.le_of_ble_eq_true rfl) dX4_worthOf_15 (gw_rmk rfl) rfl ?_
      refine gj_if_eq C 30 dX4_worthOf_18 (by decide) (fun c => ?_) (fun c => ?_)
      · replace hf := gw_ift hf c
        refine gj_iconst (v := 0) C dX4_worthOf_30 (by decide) ?_
        refine gj_iadd C dX4_worthOf_31 ?_
        refine gj_istore_n C 2 [(2, .int (v2 + (0 : Int32))), (0, .ref (gw_a Γ 132)), (1, .int v1), (3, .int v3)] dX4_worthOf_32 rfl (by decide) rfl ?_
        refine gj_iinc C 3 3 (v3 + 1) [(3, .int (v3 + 1)), (2, .int (v2 + (0 : Int32))), (0, .ref (gw_a Γ 132)), (1, .int v1)] dX4_worthOf_33 rfl rfl (by decide) rfl ?_
        refine gj_goto C 4 dX4_worthOf_36 (by decide) ?_
        cases hf
        replace hr := gw_il hr
        exact gj_pick [2, 3, 1, 0] _ rfl (ih _ _ _  hr k)
      · replace hf := gw_iff hf c
        refine gj_aload_n C 0 dX4_worthOf_21 rfl ?_
        refine g_X4_13 C  dX4_worthOf_22 ?_
        refine gj_iload_n C 3 dX4_worthOf_25 rfl ?_
        obtain ⟨g2, hf⟩ := gw_ifs hf
        refine gj_bld (j := 2) C (by decide) (gw_ibv g2) dX4_worthOf_26 ?_
        refine gj_goto C 31 dX4_worthOf_27 (by decide) ?_
        refine gj_iadd C dX4_worthOf_31 ?_
        refine gj_istore_n C 2 [(2, .int (v2 + (μ 2 v3.toNatClampNeg))), (0, .ref (gw_a Γ 132)), (1, .int v1), (3, .int v3)] dX4_worthOf_32 rfl (by decide) rfl ?_
        refine gj_iinc C 3 3 (v3 + 1) [(3, .int (v3 + 1)), (2, .int (v2 + (μ 2 v3.toNatClampNeg))), (0, .ref (gw_a Γ 132)), (1, .int v1)] dX4_worthOf_33 rfl rfl (by decide) rfl ?_
        refine gj_goto C 4 dX4_worthOf_36 (by decide) ?_
        cases hf
        replace hr := gw_il hr
        exact gj_pick [2, 3, 1, 0] _ rfl (ih _ _ _  hr k)
set_option maxRecDepth 100000 in
set_option maxHeartbeats 4000000 in
theorem s_X4_worthOf (l : Launch) (Γ : gw_G) (τ μ : gw_S) (o : Nat → Int64) (a1 : Int32) (r : Int32) (hf : f_X4_worthOf μ a1 = some r) : gw_M l yX4_worthOf [.code yX4_worthOf cX4_worthOf 4 (some .int)] gr_X4_worthOf 0 0 Γ [.ref (gw_a Γ 132), .int a1] (gw_W Γ τ μ o) (gw_qi Γ r (gw_W Γ τ μ o)) := by
  refine gw_enter (by decide) (Nat.le_of_ble_eq_true rfl) (fun K C E => ?_)
  unfold f_X4_worthOf at hf
  refine gj_iconst (v := 0) C dX4_worthOf_0 (by decide) ?_
  refine gj_istore_n C 2 [(2, .int (0 : Int32)), (0, .ref (gw_a Γ 132)), (1, .int a1)] dX4_worthOf_1 rfl (by decide) rfl ?_
  refine gj_iconst (v := 0) C dX4_worthOf_2 (by decide) ?_
  refine gj_istore_n C 3 [(3, .int (0 : Int32)), (2, .int (0 : Int32)), (0, .ref (gw_a Γ 132)), (1, .int a1)] dX4_worthOf_3 rfl (by decide) rfl ?_
  replace hf := gw_bnd hf
  obtain ⟨t3, ht3, hf⟩ := hf
  refine gj_pick [2, 3, 1, 0] _ rfl (l_X4_worthOf_1 C μ τ o a1 _ _ _ t3  ht3 (?_))
  refine gj_iload_n C 2 dX4_worthOf_39 rfl ?_
  cases hf
  exact gj_iret C E dX4_worthOf_40 (Nat.le_of_ble_eq_true rfl) (Nat.le_of_ble_eq_true rfl)
set_option maxRecDepth 100000 in
set_option maxHeartbeats 4000000 in
theorem l_X4_obstacleWith_1 {K : gw_K} {Γ : gw_G} (C : gw_C K Γ cX4_obstacleWith 5 RX4) (μ : gw_S) (τ : gw_S) (o : Nat → Int64) (v1 : Int32) (v2 : Int32) (v3 : Int32) : ∀ (n : Nat) (v4 : Int32) (T : Int32 ⊕ (Int32)), gw_it (b_X4_obstacleWith_1 μ v1 v2 v3) n v4 = some T → (∀ x : Int32, T = .inl x → gw_J K Γ gr_X4_obstacleWith 0 0 (gw_W Γ τ μ o) 113 [(0, .ref (gw_a Γ 132)), (1, .int v1), (2, .int v2), (3, .int v3), (4, .int x)] []) → (∀ r : Int32, T = .inr r → gw_E K Γ (gw_qi Γ r (gw_W Γ τ μ o)) 0 0 (some .int)) → gw_J K Γ gr_X4_obstacleWith 0 0 (gw_W Γ τ μ o) 70 [(0, .ref (gw_a Γ 132)), (1, .int v1), (2, .int v2), (3, .int v3), (4, .int v4)] [] := by
  intro n
  induction n with
  | zero => intro v4 T  h; cases h
  | succ n ih =>
    intro v4 T  h k ke
    obtain ⟨q, hf, hr⟩ := gw_it_s h
    rw [b_X4_obstacleWith_1] at hf
    refine gj_iload C 4 dX4_obstacleWith_70 rfl ?_
    refine gj_aload_n C 0 dX4_obstacleWith_72 rfl ?_
    refine g_X4_71 C  rfl dX4_obstacleWith_73 ?_
    refine gj_ic_ge C 113 dX4_obstacleWith_76 (by decide) (fun c => ?_) (fun c => ?_)
    · replace hf := gw_ift hf c
      cases hf
      exact gj_pick [0, 1, 2, 3, 4] _ rfl (k _ (gw_ir hr).symm )
    · replace hf := gw_iff hf c
      refine gj_iload_n C 3 dX4_obstacleWith_79 rfl ?_
      refine gj_iload C 4 dX4_obstacleWith_80 rfl ?_
      replace hf := gw_bnd hf
      obtain ⟨r9, hr9, hf⟩ := hf
      refine gj_cSi (As := [.int v3, .int v4]) (rest := []) C cb_X4_84 (s_X4_has (gw_l K) Γ τ μ o v3 v4 r9 hr9) rfl (Nat.le_of_ble_eq_true rfl) dX4_obstacleWith_82 (gw_rmk rfl) rfl ?_
      refine gj_if_eq C 107 dX4_obstacleWith_85 (by decide) (fun c => ?_) (fun c => ?_)
      · replace hf := gw_ift hf c
        refine gj_iinc C 4 4 (v4 + 1) [(4, .int (v4 + 1)), (0, .ref (gw_a Γ 132)), (1, .int v1), (2, .int v2), (3, .int v3)] dX4_obstacleWith_107 rfl rfl (by decide) rfl ?_
        refine gj_goto C 70 dX4_obstacleWith_110 (by decide) ?_
        cases hf
        replace hr := gw_il hr
        exact gj_pick [1, 2, 3, 4, 0] _ rfl (ih _ _  hr k ke)
      · replace hf := gw_iff hf c
        refine gj_aload_n C 0 dX4_obstacleWith_88 rfl ?_
        refine g_X4_16 C  dX4_obstacleWith_89 ?_
        refine gj_iload C 4 dX4_obstacleWith_92 rfl ?_
        obtain ⟨g10, hf⟩ := gw_ifs hf
        refine gj_bld (j := 3) C (by decide) (gw_ibv g10) dX4_obstacleWith_94 ?_
        refine gj_aload_n C 0 dX4_obstacleWith_95 rfl ?_
        refine g_X4_16 C  dX4_obstacleWith_96 ?_
        refine gj_iload_n C 2 dX4_obstacleWith_99 rfl ?_
        obtain ⟨g11, hf⟩ := gw_ifs hf
        refine gj_bld (j := 3) C (by decide) (gw_ibv g11) dX4_obstacleWith_100 ?_
        refine gj_iand C dX4_obstacleWith_101 ?_
        refine gj_if_eq C 107 dX4_obstacleWith_102 (by decide) (fun c => ?_) (fun c => ?_)
        · replace hf := gw_ift hf c
          refine gj_iinc C 4 4 (v4 + 1) [(4, .int (v4 + 1)), (0, .ref (gw_a Γ 132)), (1, .int v1), (2, .int v2), (3, .int v3)] dX4_obstacleWith_107 rfl rfl (by decide) rfl ?_
          refine gj_goto C 70 dX4_obstacleWith_110 (by decide) ?_
          cases hf
          replace hr := gw_il hr
          exact gj_pick [1, 2, 3, 4, 0] _ rfl (ih _ _  hr k ke)
        · replace hf := gw_iff hf c
          refine gj_iconst (v := 5) C dX4_obstacleWith_105 (by decide) ?_
          cases hf
          exact gj_iret C (ke _ (gw_ir hr).symm) dX4_obstacleWith_106 (Nat.le_of_ble_eq_true rfl) (Nat.le_of_ble_eq_true rfl)
set_option maxRecDepth 100000 in
set_option maxHeartbeats 4000000 in
theorem s_X4_obstacleWith (l : Launch) (Γ : gw_G) (τ μ : gw_S) (o : Nat → Int64) (a1 : Int32) (a2 : Int32) (a3 : Int32) (r : Int32) (hf : f_X4_obstacleWith μ a1 a2 a3 = some r) : gw_M l yX4_obstacleWith [.code yX4_obstacleWith cX4_obstacleWith 5 (some .int)] gr_X4_obstacleWith 0 0 Γ [.ref (gw_a Γ 132), .int a1, .int a2, .int a3] (gw_W Γ τ μ o) (gw_qi Γ r (gw_W Γ τ μ o)) := by
  refine gw_enter (by decide) (Nat.le_of_ble_eq_true rfl) (fun K C E => ?_)
  unfold f_X4_obstacleWith at hf
  refine gj_aload_n C 0 dX4_obstacleWith_0 rfl ?_
  refine g_X4_28 C  dX4_obstacleWith_1 ?_
  refine gj_iload_n C 1 dX4_obstacleWith_4 rfl ?_
  obtain ⟨g1, hf⟩ := gw_ifs hf
  refine gj_bld (j := 7) C (by decide) (gw_ibv g1) dX4_obstacleWith_5 ?_
  refine gj_iload_n C 2 dX4_obstacleWith_6 rfl ?_
  replace hf := gw_bnd hf
  obtain ⟨r2, hr2, hf⟩ := hf
  refine gj_cSi (As := [.int (μ 7 a1.toNatClampNeg), .int a2]) (rest := []) C cb_X4_84 (s_X4_has (gw_l K) Γ τ μ o (μ 7 a1.toNatClampNeg) a2 r2 hr2) rfl (Nat.le_of_ble_eq_true rfl) dX4_obstacleWith_7 (gw_rmk rfl) rfl ?_
  refine gj_if_eq C 15 dX4_obstacleWith_10 (by decide) (fun c => ?_) (fun c => ?_)
  · replace hf := gw_ift hf c
    refine gj_iload_n C 3 dX4_obstacleWith_15 rfl ?_
    refine gj_iload_n C 2 dX4_obstacleWith_16 rfl ?_
    replace hf := gw_bnd hf
    obtain ⟨r3, hr3, hf⟩ := hf
    refine gj_cSi (As := [.int a3, .int a2]) (rest := []) C cb_X4_84 (s_X4_has (gw_l K) Γ τ μ o a3 a2 r3 hr3) rfl (Nat.le_of_ble_eq_true rfl) dX4_obstacleWith_17 (gw_rmk rfl) rfl ?_
    refine gj_if_eq C 25 dX4_obstacleWith_20 (by decide) (fun c => ?_) (fun c => ?_)
    · replace hf := gw_ift hf c
      refine gj_aload_n C 0 dX4_obstacleWith_25 rfl ?_
      refine gj_iload_n C 2 dX4_obstacleWith_26 rfl ?_
      replace hf := gw_bnd hf
      obtain ⟨r4, hr4, hf⟩ := hf
      refine gj_cVi (As := [.int a2]) (rest := []) C cb_X4_88 (s_X4_requiredBy (gw_l K) Γ τ μ o a2 r4 hr4) rfl (Nat.le_of_ble_eq_true rfl) gw_atD rfl rfl dX4_obstacleWith_27 (gw_rmk rfl) rfl ?_
      refine gj_aload_n C 0 dX4_obstacleWith_30 rfl ?_
      refine g_X4_28 C  dX4_obstacleWith_31 ?_
      refine gj_iload_n C 1 dX4_obstacleWith_34 rfl ?_
      obtain ⟨g5, hf⟩ := gw_ifs hf
      refine gj_bld (j := 7) C (by decide) (gw_ibv g5) dX4_obstacleWith_35 ?_
      refine gj_iconst (v := -1) C dX4_obstacleWith_36 (by decide) ?_
      refine gj_ixor C dX4_obstacleWith_37 ?_
      refine gj_iand C dX4_obstacleWith_38 ?_
      refine gj_if_eq C 44 dX4_obstacleWith_39 (by decide) (fun c => ?_) (fun c => ?_)
      · replace hf := gw_ift hf c
        refine gj_aload_n C 0 dX4_obstacleWith_44 rfl ?_
        refine gj_iload_n C 3 dX4_obstacleWith_45 rfl ?_
        replace hf := gw_bnd hf
        obtain ⟨r6, hr6, hf⟩ := hf
        refine gj_cVi (As := [.int a3]) (rest := []) C cb_X4_92 (s_X4_worthOf (gw_l K) Γ τ μ o a3 r6 hr6) rfl (Nat.le_of_ble_eq_true rfl) gw_atD rfl rfl dX4_obstacleWith_46 (gw_rmk rfl) rfl ?_
        refine gj_aload_n C 0 dX4_obstacleWith_49 rfl ?_
        refine g_X4_13 C  dX4_obstacleWith_50 ?_
        refine gj_iload_n C 2 dX4_obstacleWith_53 rfl ?_
        obtain ⟨g7, hf⟩ := gw_ifs hf
        refine gj_bld (j := 2) C (by decide) (gw_ibv g7) dX4_obstacleWith_54 ?_
        refine gj_iadd C dX4_obstacleWith_55 ?_
        refine gj_aload_n C 0 dX4_obstacleWith_56 rfl ?_
        refine g_X4_25 C  dX4_obstacleWith_57 ?_
        refine gj_iload_n C 1 dX4_obstacleWith_60 rfl ?_
        obtain ⟨g8, hf⟩ := gw_ifs hf
        refine gj_bld (j := 6) C (by decide) (gw_ibv g8) dX4_obstacleWith_61 ?_
        refine gj_ic_le C 67 dX4_obstacleWith_62 (by decide) (fun c => ?_) (fun c => ?_)
        · replace hf := gw_ift hf c
          refine gj_iconst (v := 0) C dX4_obstacleWith_67 (by decide) ?_
          refine gj_istore C 4 [(4, .int (0 : Int32)), (0, .ref (gw_a Γ 132)), (1, .int a1), (2, .int a2), (3, .int a3)] dX4_obstacleWith_68 (by decide) rfl ?_
          replace hf := gw_bnd hf
          obtain ⟨t12, ht12, hf⟩ := hf
          refine gj_pick [1, 2, 3, 4, 0] _ rfl (l_X4_obstacleWith_1 C μ τ o a1 a2 a3 _ _ t12  ht12 (fun x13 e  => ?_) (fun r e => ?_))
          · replace hf := gw_xl hf e
            refine gj_iconst (v := 0) C dX4_obstacleWith_113 (by decide) ?_
            cases hf
            exact gj_iret C E dX4_obstacleWith_114 (Nat.le_of_ble_eq_true rfl) (Nat.le_of_ble_eq_true rfl)
          · replace hf := gw_xr hf e
            cases hf
            exact E
        · replace hf := gw_iff hf c
          refine gj_iconst (v := 4) C dX4_obstacleWith_65 (by decide) ?_
          cases hf
          exact gj_iret C E dX4_obstacleWith_66 (Nat.le_of_ble_eq_true rfl) (Nat.le_of_ble_eq_true rfl)
      · replace hf := gw_iff hf c
        refine gj_iconst (v := 3) C dX4_obstacleWith_42 (by decide) ?_
        cases hf
        exact gj_iret C E dX4_obstacleWith_43 (Nat.le_of_ble_eq_true rfl) (Nat.le_of_ble_eq_true rfl)
    · replace hf := gw_iff hf c
      refine gj_iconst (v := 2) C dX4_obstacleWith_23 (by decide) ?_
      cases hf
      exact gj_iret C E dX4_obstacleWith_24 (Nat.le_of_ble_eq_true rfl) (Nat.le_of_ble_eq_true rfl)
  · replace hf := gw_iff hf c
    refine gj_iconst (v := 1) C dX4_obstacleWith_13 (by decide) ?_
    cases hf
    exact gj_iret C E dX4_obstacleWith_14 (Nat.le_of_ble_eq_true rfl) (Nat.le_of_ble_eq_true rfl)
set_option maxRecDepth 100000 in
set_option maxHeartbeats 4000000 in
theorem l_X4_inCourse_1 {K : gw_K} {Γ : gw_G} (C : gw_C K Γ cX4_inCourse 4 RX4) (μ : gw_S) (τ : gw_S) (o : Nat → Int64) (v1 : Int32) : ∀ (n : Nat) (v2 : Int32) (v3 : Int32) (T : Int32 × Int32), gw_it (b_X4_inCourse_1 μ v1) n (v2, v3) = some T → (gw_J K Γ gr_X4_inCourse 0 0 (gw_W Γ τ μ o) 39 [(0, .ref (gw_a Γ 132)), (1, .int v1), (2, .int T.1), (3, .int T.2)] []) → gw_J K Γ gr_X4_inCourse 0 0 (gw_W Γ τ μ o) 4 [(0, .ref (gw_a Γ 132)), (1, .int v1), (2, .int v2), (3, .int v3)] [] := by
  intro n
  induction n with
  | zero => intro v2 v3 T  h; cases h
  | succ n ih =>
    intro v2 v3 T  h k
    obtain ⟨q, hf, hr⟩ := gw_it_s h
    rw [b_X4_inCourse_1] at hf
    refine gj_iload_n C 3 dX4_inCourse_4 rfl ?_
    refine gj_aload_n C 0 dX4_inCourse_5 rfl ?_
    refine g_X4_74 C  rfl dX4_inCourse_6 ?_
    refine gj_ic_ge C 39 dX4_inCourse_9 (by decide) (fun c => ?_) (fun c => ?_)
    · replace hf := gw_ift hf c
      cases hf
      cases gw_ir hr
      exact gj_pick [0, 1, 2, 3] _ rfl (k )
    · replace hf := gw_iff hf c
      refine gj_iload_n C 2 dX4_inCourse_12 rfl ?_
      refine gj_aload_n C 0 dX4_inCourse_13 rfl ?_
      refine g_X4_31 C  dX4_inCourse_14 ?_
      refine gj_iload_n C 3 dX4_inCourse_17 rfl ?_
      obtain ⟨g1, hf⟩ := gw_ifs hf
      refine gj_bld (j := 8) C (by decide) (gw_ibv g1) dX4_inCourse_18 ?_
      refine gj_iload_n C 1 dX4_inCourse_19 rfl ?_
      replace hf := gw_bnd hf
      obtain ⟨r2, hr2, hf⟩ := hf
      refine gj_cSi (As := [.int (μ 8 v3.toNatClampNeg), .int v1]) (rest := [.int v2]) C cb_X4_84 (s_X4_has (gw_l K) Γ τ μ o (μ 8 v3.toNatClampNeg) v1 r2 hr2) rfl (Nat.le_of_ble_eq_true rfl) dX4_inCourse_20 (gw_rmk rfl) rfl ?_
      refine gj_if_eq C 30 dX4_inCourse_23 (by decide) (fun c => ?_) (fun c => ?_)
      · replace hf := gw_ift hf c
        refine gj_iconst (v := 0) C dX4_inCourse_30 (by decide) ?_
        refine gj_iadd C dX4_inCourse_31 ?_
        refine gj_istore_n C 2 [(2, .int (v2 + (0 : Int32))), (0, .ref (gw_a Γ 132)), (1, .int v1), (3, .int v3)] dX4_inCourse_32 rfl (by decide) rfl ?_
        refine gj_iinc C 3 3 (v3 + 1) [(3, .int (v3 + 1)), (2, .int (v2 + (0 : Int32))), (0, .ref (gw_a Γ 132)), (1, .int v1)] dX4_inCourse_33 rfl rfl (by decide) rfl ?_
        refine gj_goto C 4 dX4_inCourse_36 (by decide) ?_
        cases hf
        replace hr := gw_il hr
        exact gj_pick [2, 3, 1, 0] _ rfl (ih _ _ _  hr k)
      · replace hf := gw_iff hf c
        refine gj_iconst (v := 1) C dX4_inCourse_26 (by decide) ?_
        refine gj_goto C 31 dX4_inCourse_27 (by decide) ?_
        refine gj_iadd C dX4_inCourse_31 ?_
        refine gj_istore_n C 2 [(2, .int (v2 + (1 : Int32))), (0, .ref (gw_a Γ 132)), (1, .int v1), (3, .int v3)] dX4_inCourse_32 rfl (by decide) rfl ?_
        refine gj_iinc C 3 3 (v3 + 1) [(3, .int (v3 + 1)), (2, .int (v2 + (1 : Int32))), (0, .ref (gw_a Γ 132)), (1, .int v1)] dX4_inCourse_33 rfl rfl (by decide) rfl ?_
        refine gj_goto C 4 dX4_inCourse_36 (by decide) ?_
        cases hf
        replace hr := gw_il hr
        exact gj_pick [2, 3, 1, 0] _ rfl (ih _ _ _  hr k)
set_option maxRecDepth 100000 in
set_option maxHeartbeats 4000000 in
theorem s_X4_inCourse (l : Launch) (Γ : gw_G) (τ μ : gw_S) (o : Nat → Int64) (a1 : Int32) (r : Int32) (hf : f_X4_inCourse μ a1 = some r) : gw_M l yX4_inCourse [.code yX4_inCourse cX4_inCourse 4 (some .int)] gr_X4_inCourse 0 0 Γ [.ref (gw_a Γ 132), .int a1] (gw_W Γ τ μ o) (gw_qi Γ r (gw_W Γ τ μ o)) := by
  refine gw_enter (by decide) (Nat.le_of_ble_eq_true rfl) (fun K C E => ?_)
  unfold f_X4_inCourse at hf
  refine gj_iconst (v := 0) C dX4_inCourse_0 (by decide) ?_
  refine gj_istore_n C 2 [(2, .int (0 : Int32)), (0, .ref (gw_a Γ 132)), (1, .int a1)] dX4_inCourse_1 rfl (by decide) rfl ?_
  refine gj_iconst (v := 0) C dX4_inCourse_2 (by decide) ?_
  refine gj_istore_n C 3 [(3, .int (0 : Int32)), (2, .int (0 : Int32)), (0, .ref (gw_a Γ 132)), (1, .int a1)] dX4_inCourse_3 rfl (by decide) rfl ?_
  replace hf := gw_bnd hf
  obtain ⟨t3, ht3, hf⟩ := hf
  refine gj_pick [2, 3, 1, 0] _ rfl (l_X4_inCourse_1 C μ τ o a1 _ _ _ t3  ht3 (?_))
  refine gj_iload_n C 2 dX4_inCourse_39 rfl ?_
  cases hf
  exact gj_iret C E dX4_inCourse_40 (Nat.le_of_ble_eq_true rfl) (Nat.le_of_ble_eq_true rfl)
set_option maxRecDepth 100000 in
set_option maxHeartbeats 4000000 in
theorem s_X4_hasOffer (l : Launch) (Γ : gw_G) (τ μ : gw_S) (o : Nat → Int64) (a1 : Int32) (a2 : Int32) (r : Int32) (hf : f_X4_hasOffer μ a1 a2 = some r) : gw_M l yX4_hasOffer [.code yX4_hasOffer cX4_hasOffer 3 (some .boolean)] gr_X4_hasOffer 0 0 Γ [.ref (gw_a Γ 132), .int a1, .int a2] (gw_W Γ τ μ o) (gw_qi Γ r (gw_W Γ τ μ o)) := by
  refine gw_enter (by decide) (Nat.le_of_ble_eq_true rfl) (fun K C E => ?_)
  unfold f_X4_hasOffer at hf
  refine gj_aload_n C 0 dX4_hasOffer_0 rfl ?_
  refine g_X4_52 C  dX4_hasOffer_1 ?_
  refine gj_bipush (v := 16) C dX4_hasOffer_4 (by decide) ?_
  refine gj_iload_n C 2 dX4_hasOffer_6 rfl ?_
  refine gj_imul C dX4_hasOffer_7 ?_
  refine gj_iload_n C 1 dX4_hasOffer_8 rfl ?_
  refine gj_iadd C dX4_hasOffer_9 ?_
  obtain ⟨g1, hf⟩ := gw_ifs hf
  refine gj_bld (j := 15) C (by decide) (gw_ibv g1) dX4_hasOffer_10 ?_
  refine gj_if_lt C 18 dX4_hasOffer_11 (by decide) (fun c => ?_) (fun c => ?_)
  · replace hf := gw_ift hf c
    refine gj_iconst (v := 0) C dX4_hasOffer_18 (by decide) ?_
    cases hf
    exact gj_zret C E (by decide) dX4_hasOffer_19 (Nat.le_of_ble_eq_true rfl) (Nat.le_of_ble_eq_true rfl)
  · replace hf := gw_iff hf c
    refine gj_iconst (v := 1) C dX4_hasOffer_14 (by decide) ?_
    refine gj_goto C 19 dX4_hasOffer_15 (by decide) ?_
    cases hf
    exact gj_zret C E (by decide) dX4_hasOffer_19 (Nat.le_of_ble_eq_true rfl) (Nat.le_of_ble_eq_true rfl)
set_option maxRecDepth 100000 in
set_option maxHeartbeats 4000000 in
theorem l_X4_free_1 {K : gw_K} {Γ : gw_G} (C : gw_C K Γ cX4_free 4 RX4) (μ : gw_S) (τ : gw_S) (o : Nat → Int64) (v1 : Int32) : ∀ (n : Nat) (v2 : Int32) (v3 : Int32) (T : Int32 × Int32), gw_it (b_X4_free_1 μ v1) n (v2, v3) = some T → (gw_J K Γ gr_X4_free 0 0 (gw_W Γ τ μ o) 46 [(0, .ref (gw_a Γ 132)), (1, .int v1), (2, .int T.1), (3, .int T.2)] []) → gw_J K Γ gr_X4_free 0 0 (gw_W Γ τ μ o) 15 [(0, .ref (gw_a Γ 132)), (1, .int v1), (2, .int v2), (3, .int v3)] [] := by
  intro n
  induction n with
  | zero => intro v2 v3 T  h; cases h
  | succ n ih =>
    intro v2 v3 T  h k
    obtain ⟨q, hf, hr⟩ := gw_it_s h
    rw [b_X4_free_1] at hf
    refine gj_iload_n C 3 dX4_free_15 rfl ?_
    refine gj_aload_n C 0 dX4_free_16 rfl ?_
    refine g_X4_74 C  rfl dX4_free_17 ?_
    refine gj_ic_ge C 46 dX4_free_20 (by decide) (fun c => ?_) (fun c => ?_)
    · replace hf := gw_ift hf c
      cases hf
      cases gw_ir hr
      exact gj_pick [0, 1, 2, 3] _ rfl (k )
    · replace hf := gw_iff hf c
      refine gj_iload_n C 2 dX4_free_23 rfl ?_
      refine gj_aload_n C 0 dX4_free_24 rfl ?_
      refine gj_iload_n C 3 dX4_free_25 rfl ?_
      refine gj_iload_n C 1 dX4_free_26 rfl ?_
      replace hf := gw_bnd hf
      obtain ⟨r3, hr3, hf⟩ := hf
      refine gj_cVi (As := [.int v3, .int v1]) (rest := [.int v2]) C cb_X4_98 (s_X4_hasOffer (gw_l K) Γ τ μ o v3 v1 r3 hr3) rfl (Nat.le_of_ble_eq_true rfl) gw_atD rfl rfl dX4_free_27 (gw_rmk rfl) rfl ?_
      refine gj_if_eq C 37 dX4_free_30 (by decide) (fun c => ?_) (fun c => ?_)
      · replace hf := gw_ift hf c
        refine gj_iconst (v := 0) C dX4_free_37 (by decide) ?_
        refine gj_isub C dX4_free_38 ?_
        refine gj_istore_n C 2 [(2, .int (v2 - (0 : Int32))), (0, .ref (gw_a Γ 132)), (1, .int v1), (3, .int v3)] dX4_free_39 rfl (by decide) rfl ?_
        refine gj_iinc C 3 3 (v3 + 1) [(3, .int (v3 + 1)), (2, .int (v2 - (0 : Int32))), (0, .ref (gw_a Γ 132)), (1, .int v1)] dX4_free_40 rfl rfl (by decide) rfl ?_
        refine gj_goto C 15 dX4_free_43 (by decide) ?_
        cases hf
        replace hr := gw_il hr
        exact gj_pick [2, 3, 1, 0] _ rfl (ih _ _ _  hr k)
      · replace hf := gw_iff hf c
        refine gj_iconst (v := 1) C dX4_free_33 (by decide) ?_
        refine gj_goto C 38 dX4_free_34 (by decide) ?_
        refine gj_isub C dX4_free_38 ?_
        refine gj_istore_n C 2 [(2, .int (v2 - (1 : Int32))), (0, .ref (gw_a Γ 132)), (1, .int v1), (3, .int v3)] dX4_free_39 rfl (by decide) rfl ?_
        refine gj_iinc C 3 3 (v3 + 1) [(3, .int (v3 + 1)), (2, .int (v2 - (1 : Int32))), (0, .ref (gw_a Γ 132)), (1, .int v1)] dX4_free_40 rfl rfl (by decide) rfl ?_
        refine gj_goto C 15 dX4_free_43 (by decide) ?_
        cases hf
        replace hr := gw_il hr
        exact gj_pick [2, 3, 1, 0] _ rfl (ih _ _ _  hr k)
set_option maxRecDepth 100000 in
set_option maxHeartbeats 4000000 in
theorem s_X4_free (l : Launch) (Γ : gw_G) (τ μ : gw_S) (o : Nat → Int64) (a1 : Int32) (r : Int32) (hf : f_X4_free μ a1 = some r) : gw_M l yX4_free [.code yX4_free cX4_free 4 (some .int)] gr_X4_free 0 0 Γ [.ref (gw_a Γ 132), .int a1] (gw_W Γ τ μ o) (gw_qi Γ r (gw_W Γ τ μ o)) := by
  refine gw_enter (by decide) (Nat.le_of_ble_eq_true rfl) (fun K C E => ?_)
  unfold f_X4_free at hf
  refine gj_aload_n C 0 dX4_free_0 rfl ?_
  refine g_X4_7 C  dX4_free_1 ?_
  refine gj_iload_n C 1 dX4_free_4 rfl ?_
  obtain ⟨g1, hf⟩ := gw_ifs hf
  refine gj_bld (j := 1) C (by decide) (gw_ibv g1) dX4_free_5 ?_
  refine gj_aload_n C 0 dX4_free_6 rfl ?_
  refine gj_iload_n C 1 dX4_free_7 rfl ?_
  replace hf := gw_bnd hf
  obtain ⟨r2, hr2, hf⟩ := hf
  refine gj_cVi (As := [.int a1]) (rest := [.int (μ 1 a1.toNatClampNeg)]) C cb_X4_95 (s_X4_inCourse (gw_l K) Γ τ μ o a1 r2 hr2) rfl (Nat.le_of_ble_eq_true rfl) gw_atD rfl rfl dX4_free_8 (gw_rmk rfl) rfl ?_
  refine gj_isub C dX4_free_11 ?_
  refine gj_istore_n C 2 [(2, .int ((μ 1 a1.toNatClampNeg) - r2)), (0, .ref (gw_a Γ 132)), (1, .int a1)] dX4_free_12 rfl (by decide) rfl ?_
  refine gj_iconst (v := 0) C dX4_free_13 (by decide) ?_
  refine gj_istore_n C 3 [(3, .int (0 : Int32)), (2, .int ((μ 1 a1.toNatClampNeg) - r2)), (0, .ref (gw_a Γ 132)), (1, .int a1)] dX4_free_14 rfl (by decide) rfl ?_
  replace hf := gw_bnd hf
  obtain ⟨t4, ht4, hf⟩ := hf
  refine gj_pick [2, 3, 1, 0] _ rfl (l_X4_free_1 C μ τ o a1 _ _ _ t4  ht4 (?_))
  refine gj_iload_n C 2 dX4_free_46 rfl ?_
  cases hf
  exact gj_iret C E dX4_free_47 (Nat.le_of_ble_eq_true rfl) (Nat.le_of_ble_eq_true rfl)
set_option maxRecDepth 100000 in
set_option maxHeartbeats 4000000 in
theorem l_X4_waitPlace_1 {K : gw_K} {Γ : gw_G} (C : gw_C K Γ cX4_waitPlace 4 RX4) (μ : gw_S) (τ : gw_S) (o : Nat → Int64) (v1 : Int32) (v2 : Int32) : ∀ (n : Nat) (v3 : Int32) (T : Int32 ⊕ (Int32)), gw_it (b_X4_waitPlace_1 μ v1 v2) n v3 = some T → (∀ x : Int32, T = .inl x → gw_J K Γ gr_X4_waitPlace 0 0 (gw_W Γ τ μ o) 35 [(0, .ref (gw_a Γ 132)), (1, .int v1), (2, .int v2), (3, .int x)] []) → (∀ r : Int32, T = .inr r → gw_E K Γ (gw_qi Γ r (gw_W Γ τ μ o)) 0 0 (some .int)) → gw_J K Γ gr_X4_waitPlace 0 0 (gw_W Γ τ μ o) 2 [(0, .ref (gw_a Γ 132)), (1, .int v1), (2, .int v2), (3, .int v3)] [] := by
  intro n
  induction n with
  | zero => intro v3 T  h; cases h
  | succ n ih =>
    intro v3 T  h k ke
    obtain ⟨q, hf, hr⟩ := gw_it_s h
    rw [b_X4_waitPlace_1] at hf
    refine gj_iload_n C 3 dX4_waitPlace_2 rfl ?_
    refine gj_aload_n C 0 dX4_waitPlace_3 rfl ?_
    refine g_X4_46 C  dX4_waitPlace_4 ?_
    refine gj_iload_n C 2 dX4_waitPlace_7 rfl ?_
    obtain ⟨g1, hf⟩ := gw_ifs hf
    refine gj_bld (j := 13) C (by decide) (gw_ibv g1) dX4_waitPlace_8 ?_
    refine gj_ic_ge C 35 dX4_waitPlace_9 (by decide) (fun c => ?_) (fun c => ?_)
    · replace hf := gw_ift hf c
      cases hf
      exact gj_pick [0, 1, 2, 3] _ rfl (k _ (gw_ir hr).symm )
    · replace hf := gw_iff hf c
      refine gj_aload_n C 0 dX4_waitPlace_12 rfl ?_
      refine g_X4_49 C  dX4_waitPlace_13 ?_
      refine gj_bipush (v := 16) C dX4_waitPlace_16 (by decide) ?_
      refine gj_iload_n C 2 dX4_waitPlace_18 rfl ?_
      refine gj_imul C dX4_waitPlace_19 ?_
      refine gj_iload_n C 3 dX4_waitPlace_20 rfl ?_
      refine gj_iadd C dX4_waitPlace_21 ?_
      obtain ⟨g2, hf⟩ := gw_ifs hf
      refine gj_bld (j := 14) C (by decide) (gw_ibv g2) dX4_waitPlace_22 ?_
      refine gj_iload_n C 1 dX4_waitPlace_23 rfl ?_
      refine gj_ic_ne C 29 dX4_waitPlace_24 (by decide) (fun c => ?_) (fun c => ?_)
      · replace hf := gw_iff hf c
        refine gj_iinc C 3 3 (v3 + 1) [(3, .int (v3 + 1)), (0, .ref (gw_a Γ 132)), (1, .int v1), (2, .int v2)] dX4_waitPlace_29 rfl rfl (by decide) rfl ?_
        refine gj_goto C 2 dX4_waitPlace_32 (by decide) ?_
        cases hf
        replace hr := gw_il hr
        exact gj_pick [1, 2, 3, 0] _ rfl (ih _ _  hr k ke)
      · replace hf := gw_ift hf c
        refine gj_iload_n C 3 dX4_waitPlace_27 rfl ?_
        cases hf
        exact gj_iret C (ke _ (gw_ir hr).symm) dX4_waitPlace_28 (Nat.le_of_ble_eq_true rfl) (Nat.le_of_ble_eq_true rfl)
set_option maxRecDepth 100000 in
set_option maxHeartbeats 4000000 in
theorem s_X4_waitPlace (l : Launch) (Γ : gw_G) (τ μ : gw_S) (o : Nat → Int64) (a1 : Int32) (a2 : Int32) (r : Int32) (hf : f_X4_waitPlace μ a1 a2 = some r) : gw_M l yX4_waitPlace [.code yX4_waitPlace cX4_waitPlace 4 (some .int)] gr_X4_waitPlace 0 0 Γ [.ref (gw_a Γ 132), .int a1, .int a2] (gw_W Γ τ μ o) (gw_qi Γ r (gw_W Γ τ μ o)) := by
  refine gw_enter (by decide) (Nat.le_of_ble_eq_true rfl) (fun K C E => ?_)
  unfold f_X4_waitPlace at hf
  refine gj_iconst (v := 0) C dX4_waitPlace_0 (by decide) ?_
  refine gj_istore_n C 3 [(3, .int (0 : Int32)), (0, .ref (gw_a Γ 132)), (1, .int a1), (2, .int a2)] dX4_waitPlace_1 rfl (by decide) rfl ?_
  replace hf := gw_bnd hf
  obtain ⟨t3, ht3, hf⟩ := hf
  refine gj_pick [1, 2, 3, 0] _ rfl (l_X4_waitPlace_1 C μ τ o a1 a2 _ _ t3  ht3 (fun x4 e  => ?_) (fun r e => ?_))
  · replace hf := gw_xl hf e
    refine gj_iconst (v := -1) C dX4_waitPlace_35 (by decide) ?_
    cases hf
    exact gj_iret C E dX4_waitPlace_36 (Nat.le_of_ble_eq_true rfl) (Nat.le_of_ble_eq_true rfl)
  · replace hf := gw_xr hf e
    cases hf
    exact E
set_option maxRecDepth 100000 in
set_option maxHeartbeats 4000000 in
theorem l_X4_wishPlace_1 {K : gw_K} {Γ : gw_G} (C : gw_C K Γ cX4_wishPlace 4 RX4) (μ : gw_S) (τ : gw_S) (o : Nat → Int64) (v1 : Int32) (v2 : Int32) : ∀ (n : Nat) (v3 : Int32) (T : Int32 ⊕ (Int32)), gw_it (b_X4_wishPlace_1 μ v1 v2) n v3 = some T → (∀ x : Int32, T = .inl x → gw_J K Γ gr_X4_wishPlace 0 0 (gw_W Γ τ μ o) 35 [(0, .ref (gw_a Γ 132)), (1, .int v1), (2, .int v2), (3, .int x)] []) → (∀ r : Int32, T = .inr r → gw_E K Γ (gw_qi Γ r (gw_W Γ τ μ o)) 0 0 (some .int)) → gw_J K Γ gr_X4_wishPlace 0 0 (gw_W Γ τ μ o) 2 [(0, .ref (gw_a Γ 132)), (1, .int v1), (2, .int v2), (3, .int v3)] [] := by
  intro n
  induction n with
  | zero => intro v3 T  h; cases h
  | succ n ih =>
    intro v3 T  h k ke
    obtain ⟨q, hf, hr⟩ := gw_it_s h
    rw [b_X4_wishPlace_1] at hf
    refine gj_iload_n C 3 dX4_wishPlace_2 rfl ?_
    refine gj_aload_n C 0 dX4_wishPlace_3 rfl ?_
    refine g_X4_34 C  dX4_wishPlace_4 ?_
    refine gj_iload_n C 1 dX4_wishPlace_7 rfl ?_
    obtain ⟨g1, hf⟩ := gw_ifs hf
    refine gj_bld (j := 9) C (by decide) (gw_ibv g1) dX4_wishPlace_8 ?_
    refine gj_ic_ge C 35 dX4_wishPlace_9 (by decide) (fun c => ?_) (fun c => ?_)
    · replace hf := gw_ift hf c
      cases hf
      exact gj_pick [0, 1, 2, 3] _ rfl (k _ (gw_ir hr).symm )
    · replace hf := gw_iff hf c
      refine gj_aload_n C 0 dX4_wishPlace_12 rfl ?_
      refine g_X4_37 C  dX4_wishPlace_13 ?_
      refine gj_bipush (v := 6) C dX4_wishPlace_16 (by decide) ?_
      refine gj_iload_n C 1 dX4_wishPlace_18 rfl ?_
      refine gj_imul C dX4_wishPlace_19 ?_
      refine gj_iload_n C 3 dX4_wishPlace_20 rfl ?_
      refine gj_iadd C dX4_wishPlace_21 ?_
      obtain ⟨g2, hf⟩ := gw_ifs hf
      refine gj_bld (j := 10) C (by decide) (gw_ibv g2) dX4_wishPlace_22 ?_
      refine gj_iload_n C 2 dX4_wishPlace_23 rfl ?_
      refine gj_ic_ne C 29 dX4_wishPlace_24 (by decide) (fun c => ?_) (fun c => ?_)
      · replace hf := gw_iff hf c
        refine gj_iinc C 3 3 (v3 + 1) [(3, .int (v3 + 1)), (0, .ref (gw_a Γ 132)), (1, .int v1), (2, .int v2)] dX4_wishPlace_29 rfl rfl (by decide) rfl ?_
        refine gj_goto C 2 dX4_wishPlace_32 (by decide) ?_
        cases hf
        replace hr := gw_il hr
        exact gj_pick [1, 2, 3, 0] _ rfl (ih _ _  hr k ke)
      · replace hf := gw_ift hf c
        refine gj_iload_n C 3 dX4_wishPlace_27 rfl ?_
        cases hf
        exact gj_iret C (ke _ (gw_ir hr).symm) dX4_wishPlace_28 (Nat.le_of_ble_eq_true rfl) (Nat.le_of_ble_eq_true rfl)
set_option maxRecDepth 100000 in
set_option maxHeartbeats 4000000 in
theorem s_X4_wishPlace (l : Launch) (Γ : gw_G) (τ μ : gw_S) (o : Nat → Int64) (a1 : Int32) (a2 : Int32) (r : Int32) (hf : f_X4_wishPlace μ a1 a2 = some r) : gw_M l yX4_wishPlace [.code yX4_wishPlace cX4_wishPlace 4 (some .int)] gr_X4_wishPlace 0 0 Γ [.ref (gw_a Γ 132), .int a1, .int a2] (gw_W Γ τ μ o) (gw_qi Γ r (gw_W Γ τ μ o)) := by
  refine gw_enter (by decide) (Nat.le_of_ble_eq_true rfl) (fun K C E => ?_)
  unfold f_X4_wishPlace at hf
  refine gj_iconst (v := 0) C dX4_wishPlace_0 (by decide) ?_
  refine gj_istore_n C 3 [(3, .int (0 : Int32)), (0, .ref (gw_a Γ 132)), (1, .int a1), (2, .int a2)] dX4_wishPlace_1 rfl (by decide) rfl ?_
  replace hf := gw_bnd hf
  obtain ⟨t3, ht3, hf⟩ := hf
  refine gj_pick [1, 2, 3, 0] _ rfl (l_X4_wishPlace_1 C μ τ o a1 a2 _ _ t3  ht3 (fun x4 e  => ?_) (fun r e => ?_))
  · replace hf := gw_xl hf e
    refine gj_iconst (v := -1) C dX4_wishPlace_35 (by decide) ?_
    cases hf
    exact gj_iret C E dX4_wishPlace_36 (Nat.le_of_ble_eq_true rfl) (Nat.le_of_ble_eq_true rfl)
  · replace hf := gw_xr hf e
    cases hf
    exact E
set_option maxRecDepth 100000 in
set_option maxHeartbeats 4000000 in
theorem l_X4_leavesList_1 {K : gw_K} {Γ : gw_G} (C : gw_C K Γ cX4_leavesList 5 RX4) (τ : gw_S) (o : Nat → Int64) (v1 : Int32) (v2 : Int32) (v3 : Int32) : ∀ (n : Nat) (v4 : Int32) (μ : gw_S) (T : Int32 × gw_S), gw_it (b_X4_leavesList_1 v1 v2 v3) n (v4, μ) = some T → (gw_J K Γ gr_X4_leavesList 0 0 (gw_W Γ τ T.2 o) 60 [(0, .ref (gw_a Γ 132)), (1, .int v1), (2, .int v2), (3, .int v3), (4, .int T.1)] []) → gw_J K Γ gr_X4_leavesList 0 0 (gw_W Γ τ μ o) 15 [(0, .ref (gw_a Γ 132)), (1, .int v1), (2, .int v2), (3, .int v3), (4, .int v4)] [] := by
  intro n
  induction n with
  | zero => intro v4 μ T  h; cases h
  | succ n ih =>
    intro v4 μ T  h k
    obtain ⟨q, hf, hr⟩ := gw_it_s h
    rw [b_X4_leavesList_1] at hf
    refine gj_iload C 4 dX4_leavesList_15 rfl ?_
    refine gj_iconst (v := 1) C dX4_leavesList_17 (by decide) ?_
    refine gj_iadd C dX4_leavesList_18 ?_
    refine gj_aload_n C 0 dX4_leavesList_19 rfl ?_
    refine g_X4_46 C  dX4_leavesList_20 ?_
    refine gj_iload_n C 2 dX4_leavesList_23 rfl ?_
    obtain ⟨g2, hf⟩ := gw_ifs hf
    refine gj_bld (j := 13) C (by decide) (gw_ibv g2) dX4_leavesList_24 ?_
    refine gj_ic_ge C 60 dX4_leavesList_25 (by decide) (fun c => ?_) (fun c => ?_)
    · replace hf := gw_ift hf c
      cases hf
      cases gw_ir hr
      exact gj_pick [0, 1, 2, 3, 4] _ rfl (k )
    · replace hf := gw_iff hf c
      refine gj_aload_n C 0 dX4_leavesList_28 rfl ?_
      refine g_X4_49 C  dX4_leavesList_29 ?_
      refine gj_bipush (v := 16) C dX4_leavesList_32 (by decide) ?_
      refine gj_iload_n C 2 dX4_leavesList_34 rfl ?_
      refine gj_imul C dX4_leavesList_35 ?_
      refine gj_iload C 4 dX4_leavesList_36 rfl ?_
      refine gj_iadd C dX4_leavesList_38 ?_
      refine gj_aload_n C 0 dX4_leavesList_39 rfl ?_
      refine g_X4_49 C  dX4_leavesList_40 ?_
      refine gj_bipush (v := 16) C dX4_leavesList_43 (by decide) ?_
      refine gj_iload_n C 2 dX4_leavesList_45 rfl ?_
      refine gj_imul C dX4_leavesList_46 ?_
      refine gj_iload C 4 dX4_leavesList_47 rfl ?_
      refine gj_iadd C dX4_leavesList_49 ?_
      refine gj_iconst (v := 1) C dX4_leavesList_50 (by decide) ?_
      refine gj_iadd C dX4_leavesList_51 ?_
      obtain ⟨g3, hf⟩ := gw_ifs hf
      refine gj_bld (j := 14) C (by decide) (gw_ibv g3) dX4_leavesList_52 ?_
      obtain ⟨g4, hf⟩ := gw_ifs hf
      refine gj_bst (j := 14) C (by decide) (gw_ibv g4) dX4_leavesList_53 ?_
      refine gj_iinc C 4 4 (v4 + 1) [(4, .int (v4 + 1)), (0, .ref (gw_a Γ 132)), (1, .int v1), (2, .int v2), (3, .int v3)] dX4_leavesList_54 rfl rfl (by decide) rfl ?_
      refine gj_goto C 15 dX4_leavesList_57 (by decide) ?_
      cases hf
      replace hr := gw_il hr
      exact gj_pick [1, 2, 3, 4, 0] _ rfl (ih _ _ _  hr k)
set_option maxRecDepth 100000 in
set_option maxHeartbeats 4000000 in
theorem s_X4_leavesList (l : Launch) (Γ : gw_G) (τ μ : gw_S) (o : Nat → Int64) (a1 : Int32) (a2 : Int32) (r : gw_S) (hf : f_X4_leavesList μ a1 a2 = some r) : gw_M l yX4_leavesList [.code yX4_leavesList cX4_leavesList 5 none] gr_X4_leavesList 0 0 Γ [.ref (gw_a Γ 132), .int a1, .int a2] (gw_W Γ τ μ o) (gw_qv Γ (gw_W Γ τ r o)) := by
  refine gw_enter (by decide) (Nat.le_of_ble_eq_true rfl) (fun K C E => ?_)
  unfold f_X4_leavesList at hf
  refine gj_aload_n C 0 dX4_leavesList_0 rfl ?_
  refine gj_iload_n C 1 dX4_leavesList_1 rfl ?_
  refine gj_iload_n C 2 dX4_leavesList_2 rfl ?_
  replace hf := gw_bnd hf
  obtain ⟨r1, hr1, hf⟩ := hf
  refine gj_cVi (As := [.int a1, .int a2]) (rest := []) C cb_X4_101 (s_X4_waitPlace (gw_l K) Γ τ μ o a1 a2 r1 hr1) rfl (Nat.le_of_ble_eq_true rfl) gw_atD rfl rfl dX4_leavesList_3 (gw_rmk rfl) rfl ?_
  refine gj_istore_n C 3 [(3, .int r1), (0, .ref (gw_a Γ 132)), (1, .int a1), (2, .int a2)] dX4_leavesList_6 rfl (by decide) rfl ?_
  refine gj_iload_n C 0 dX4_leavesList_7 rfl ?_
  refine gj_if_ge C 12 dX4_leavesList_8 (by decide) (fun c => ?_) (fun c => ?_)
  · replace hf := gw_ift hf c
    refine gj_iload_n C 0 dX4_leavesList_12 rfl ?_
    refine gj_istore C 4 [(4, .int r1), (3, .int r1), (0, .ref (gw_a Γ 132)), (1, .int a1), (2, .int a2)] dX4_leavesList_13 (by decide) rfl ?_
    replace hf := gw_bnd hf
    obtain ⟨t5, ht5, hf⟩ := hf
    refine gj_pick [2, 3, 4, 1, 0] _ rfl (l_X4_leavesList_1 C τ o a1 a2 r1 _ _ _ t5  ht5 (?_))
    refine gj_aload_n C 0 dX4_leavesList_60 rfl ?_
    refine g_X4_46 C  dX4_leavesList_61 ?_
    refine gj_iload_n C 2 dX4_leavesList_64 rfl ?_
    refine gj_dup2 C dX4_leavesList_65 rfl rfl ?_
    obtain ⟨g6, hf⟩ := gw_ifs hf
    refine gj_bld (j := 13) C (by decide) (gw_ibv g6) dX4_leavesList_66 ?_
    refine gj_iconst (v := 1) C dX4_leavesList_67 (by decide) ?_
    refine gj_isub C dX4_leavesList_68 ?_
    obtain ⟨g7, hf⟩ := gw_ifs hf
    refine gj_bst (j := 13) C (by decide) (gw_ibv g7) dX4_leavesList_69 ?_
    refine gj_aload_n C 0 dX4_leavesList_70 rfl ?_
    refine g_X4_52 C  dX4_leavesList_71 ?_
    refine gj_bipush (v := 16) C dX4_leavesList_74 (by decide) ?_
    refine gj_iload_n C 2 dX4_leavesList_76 rfl ?_
    refine gj_imul C dX4_leavesList_77 ?_
    refine gj_iload_n C 1 dX4_leavesList_78 rfl ?_
    refine gj_iadd C dX4_leavesList_79 ?_
    refine gj_iconst (v := -1) C dX4_leavesList_80 (by decide) ?_
    obtain ⟨g8, hf⟩ := gw_ifs hf
    refine gj_bst (j := 15) C (by decide) (gw_ibv g8) dX4_leavesList_81 ?_
    cases hf
    exact gj_vret C E dX4_leavesList_82 (Nat.le_of_ble_eq_true rfl) (Nat.le_of_ble_eq_true rfl)
  · replace hf := gw_iff hf c
    cases hf
    exact gj_vret C E dX4_leavesList_11 (Nat.le_of_ble_eq_true rfl) (Nat.le_of_ble_eq_true rfl)
set_option maxRecDepth 100000 in
set_option maxHeartbeats 4000000 in
theorem l_X4_dropsWish_1 {K : gw_K} {Γ : gw_G} (C : gw_C K Γ cX4_dropsWish 5 RX4) (τ : gw_S) (o : Nat → Int64) (v1 : Int32) (v2 : Int32) (v3 : Int32) : ∀ (n : Nat) (v4 : Int32) (μ : gw_S) (T : Int32 × gw_S), gw_it (b_X4_dropsWish_1 v1 v2 v3) n (v4, μ) = some T → (gw_J K Γ gr_X4_dropsWish 0 0 (gw_W Γ τ T.2 o) 60 [(0, .ref (gw_a Γ 132)), (1, .int v1), (2, .int v2), (3, .int v3), (4, .int T.1)] []) → gw_J K Γ gr_X4_dropsWish 0 0 (gw_W Γ τ μ o) 15 [(0, .ref (gw_a Γ 132)), (1, .int v1), (2, .int v2), (3, .int v3), (4, .int v4)] [] := by
  intro n
  induction n with
  | zero => intro v4 μ T  h; cases h
  | succ n ih =>
    intro v4 μ T  h k
    obtain ⟨q, hf, hr⟩ := gw_it_s h
    rw [b_X4_dropsWish_1] at hf
    refine gj_iload C 4 dX4_dropsWish_15 rfl ?_
    refine gj_iconst (v := 1) C dX4_dropsWish_17 (by decide) ?_
    refine gj_iadd C dX4_dropsWish_18 ?_
    refine gj_aload_n C 0 dX4_dropsWish_19 rfl ?_
    refine g_X4_34 C  dX4_dropsWish_20 ?_
    refine gj_iload_n C 1 dX4_dropsWish_23 rfl ?_
    obtain ⟨g2, hf⟩ := gw_ifs hf
    refine gj_bld (j := 9) C (by decide) (gw_ibv g2) dX4_dropsWish_24 ?_
    refine gj_ic_ge C 60 dX4_dropsWish_25 (by decide) (fun c => ?_) (fun c => ?_)
    · replace hf := gw_ift hf c
      cases hf
      cases gw_ir hr
      exact gj_pick [0, 1, 2, 3, 4] _ rfl (k )
    · replace hf := gw_iff hf c
      refine gj_aload_n C 0 dX4_dropsWish_28 rfl ?_
      refine g_X4_37 C  dX4_dropsWish_29 ?_
      refine gj_bipush (v := 6) C dX4_dropsWish_32 (by decide) ?_
      refine gj_iload_n C 1 dX4_dropsWish_34 rfl ?_
      refine gj_imul C dX4_dropsWish_35 ?_
      refine gj_iload C 4 dX4_dropsWish_36 rfl ?_
      refine gj_iadd C dX4_dropsWish_38 ?_
      refine gj_aload_n C 0 dX4_dropsWish_39 rfl ?_
      refine g_X4_37 C  dX4_dropsWish_40 ?_
      refine gj_bipush (v := 6) C dX4_dropsWish_43 (by decide) ?_
      refine gj_iload_n C 1 dX4_dropsWish_45 rfl ?_
      refine gj_imul C dX4_dropsWish_46 ?_
      refine gj_iload C 4 dX4_dropsWish_47 rfl ?_
      refine gj_iadd C dX4_dropsWish_49 ?_
      refine gj_iconst (v := 1) C dX4_dropsWish_50 (by decide) ?_
      refine gj_iadd C dX4_dropsWish_51 ?_
      obtain ⟨g3, hf⟩ := gw_ifs hf
      refine gj_bld (j := 10) C (by decide) (gw_ibv g3) dX4_dropsWish_52 ?_
      obtain ⟨g4, hf⟩ := gw_ifs hf
      refine gj_bst (j := 10) C (by decide) (gw_ibv g4) dX4_dropsWish_53 ?_
      refine gj_iinc C 4 4 (v4 + 1) [(4, .int (v4 + 1)), (0, .ref (gw_a Γ 132)), (1, .int v1), (2, .int v2), (3, .int v3)] dX4_dropsWish_54 rfl rfl (by decide) rfl ?_
      refine gj_goto C 15 dX4_dropsWish_57 (by decide) ?_
      cases hf
      replace hr := gw_il hr
      exact gj_pick [1, 2, 3, 4, 0] _ rfl (ih _ _ _  hr k)
set_option maxRecDepth 100000 in
set_option maxHeartbeats 4000000 in
theorem s_X4_dropsWish (l : Launch) (Γ : gw_G) (τ μ : gw_S) (o : Nat → Int64) (a1 : Int32) (a2 : Int32) (r : gw_S) (hf : f_X4_dropsWish μ a1 a2 = some r) : gw_M l yX4_dropsWish [.code yX4_dropsWish cX4_dropsWish 5 none] gr_X4_dropsWish 0 0 Γ [.ref (gw_a Γ 132), .int a1, .int a2] (gw_W Γ τ μ o) (gw_qv Γ (gw_W Γ τ r o)) := by
  refine gw_enter (by decide) (Nat.le_of_ble_eq_true rfl) (fun K C E => ?_)
  unfold f_X4_dropsWish at hf
  refine gj_aload_n C 0 dX4_dropsWish_0 rfl ?_
  refine gj_iload_n C 1 dX4_dropsWish_1 rfl ?_
  refine gj_iload_n C 2 dX4_dropsWish_2 rfl ?_
  replace hf := gw_bnd hf
  obtain ⟨r1, hr1, hf⟩ := hf
  refine gj_cVi (As := [.int a1, .int a2]) (rest := []) C cb_X4_105 (s_X4_wishPlace (gw_l K) Γ τ μ o a1 a2 r1 hr1) rfl (Nat.le_of_ble_eq_true rfl) gw_atD rfl rfl dX4_dropsWish_3 (gw_rmk rfl) rfl ?_
  refine gj_istore_n C 3 [(3, .int r1), (0, .ref (gw_a Γ 132)), (1, .int a1), (2, .int a2)] dX4_dropsWish_6 rfl (by decide) rfl ?_
  refine gj_iload_n C 0 dX4_dropsWish_7 rfl ?_
  refine gj_if_ge C 12 dX4_dropsWish_8 (by decide) (fun c => ?_) (fun c => ?_)
  · replace hf := gw_ift hf c
    refine gj_iload_n C 0 dX4_dropsWish_12 rfl ?_
    refine gj_istore C 4 [(4, .int r1), (3, .int r1), (0, .ref (gw_a Γ 132)), (1, .int a1), (2, .int a2)] dX4_dropsWish_13 (by decide) rfl ?_
    replace hf := gw_bnd hf
    obtain ⟨t5, ht5, hf⟩ := hf
    refine gj_pick [2, 3, 4, 1, 0] _ rfl (l_X4_dropsWish_1 C τ o a1 a2 r1 _ _ _ t5  ht5 (?_))
    refine gj_aload_n C 0 dX4_dropsWish_60 rfl ?_
    refine g_X4_34 C  dX4_dropsWish_61 ?_
    refine gj_iload_n C 1 dX4_dropsWish_64 rfl ?_
    refine gj_dup2 C dX4_dropsWish_65 rfl rfl ?_
    obtain ⟨g6, hf⟩ := gw_ifs hf
    refine gj_bld (j := 9) C (by decide) (gw_ibv g6) dX4_dropsWish_66 ?_
    refine gj_iconst (v := 1) C dX4_dropsWish_67 (by decide) ?_
    refine gj_isub C dX4_dropsWish_68 ?_
    obtain ⟨g7, hf⟩ := gw_ifs hf
    refine gj_bst (j := 9) C (by decide) (gw_ibv g7) dX4_dropsWish_69 ?_
    cases hf
    exact gj_vret C E dX4_dropsWish_70 (Nat.le_of_ble_eq_true rfl) (Nat.le_of_ble_eq_true rfl)
  · replace hf := gw_iff hf c
    cases hf
    exact gj_vret C E dX4_dropsWish_11 (Nat.le_of_ble_eq_true rfl) (Nat.le_of_ble_eq_true rfl)
set_option maxRecDepth 100000 in
set_option maxHeartbeats 4000000 in
theorem s_X4_enrols (l : Launch) (Γ : gw_G) (τ μ : gw_S) (o : Nat → Int64) (a1 : Int32) (a2 : Int32) (r : gw_S) (hf : f_X4_enrols μ a1 a2 = some r) : gw_M l yX4_enrols [.code yX4_enrols cX4_enrols 3 none] gr_X4_enrols 0 0 Γ [.ref (gw_a Γ 132), .int a1, .int a2] (gw_W Γ τ μ o) (gw_qv Γ (gw_W Γ τ r o)) := by
  refine gw_enter (by decide) (Nat.le_of_ble_eq_true rfl) (fun K C E => ?_)
  unfold f_X4_enrols at hf
  refine gj_aload_n C 0 dX4_enrols_0 rfl ?_
  refine g_X4_31 C  dX4_enrols_1 ?_
  refine gj_iload_n C 1 dX4_enrols_4 rfl ?_
  refine gj_dup2 C dX4_enrols_5 rfl rfl ?_
  obtain ⟨g1, hf⟩ := gw_ifs hf
  refine gj_bld (j := 8) C (by decide) (gw_ibv g1) dX4_enrols_6 ?_
  refine gj_iconst (v := 1) C dX4_enrols_7 (by decide) ?_
  refine gj_iload_n C 2 dX4_enrols_8 rfl ?_
  refine gj_ishl C dX4_enrols_9 ?_
  refine gj_ior C dX4_enrols_10 ?_
  obtain ⟨g2, hf⟩ := gw_ifs hf
  refine gj_bst (j := 8) C (by decide) (gw_ibv g2) dX4_enrols_11 ?_
  refine gj_aload_n C 0 dX4_enrols_12 rfl ?_
  refine gj_iload_n C 1 dX4_enrols_13 rfl ?_
  refine gj_iload_n C 2 dX4_enrols_14 rfl ?_
  replace hf := gw_bnd hf
  obtain ⟨r3, hr3, hf⟩ := hf
  refine gj_cVv (As := [.int a1, .int a2]) (rest := []) C cb_X4_108 (s_X4_dropsWish (gw_l K) Γ τ (gw_up μ 8 a1.toNatClampNeg ((μ 8 a1.toNatClampNeg) ||| ((1 : Int32) <<< (a2 &&& 31)))) o a1 a2 r3 hr3) rfl (Nat.le_of_ble_eq_true rfl) gw_atD rfl rfl dX4_enrols_15 (gw_rmk rfl) rfl ?_
  refine gj_aload_n C 0 dX4_enrols_18 rfl ?_
  refine gj_iload_n C 1 dX4_enrols_19 rfl ?_
  refine gj_iload_n C 2 dX4_enrols_20 rfl ?_
  replace hf := gw_bnd hf
  obtain ⟨r4, hr4, hf⟩ := hf
  refine gj_cVv (As := [.int a1, .int a2]) (rest := []) C cb_X4_112 (s_X4_leavesList (gw_l K) Γ τ r3 o a1 a2 r4 hr4) rfl (Nat.le_of_ble_eq_true rfl) gw_atD rfl rfl dX4_enrols_21 (gw_rmk rfl) rfl ?_
  cases hf
  exact gj_vret C E dX4_enrols_24 (Nat.le_of_ble_eq_true rfl) (Nat.le_of_ble_eq_true rfl)
set_option maxRecDepth 100000 in
set_option maxHeartbeats 4000000 in
theorem s_X4_gives (l : Launch) (Γ : gw_G) (τ μ : gw_S) (o : Nat → Int64) (a1 : Int32) (a2 : Int32) (r : gw_S) (hf : f_X4_gives μ a1 a2 = some r) : gw_M l yX4_gives [.code yX4_gives cX4_gives 3 none] gr_X4_gives 0 0 Γ [.ref (gw_a Γ 132), .int a1, .int a2] (gw_W Γ τ μ o) (gw_qv Γ (gw_W Γ τ r o)) := by
  refine gw_enter (by decide) (Nat.le_of_ble_eq_true rfl) (fun K C E => ?_)
  unfold f_X4_gives at hf
  refine gj_aload_n C 0 dX4_gives_0 rfl ?_
  refine g_X4_31 C  dX4_gives_1 ?_
  refine gj_iload_n C 1 dX4_gives_4 rfl ?_
  refine gj_dup2 C dX4_gives_5 rfl rfl ?_
  obtain ⟨g1, hf⟩ := gw_ifs hf
  refine gj_bld (j := 8) C (by decide) (gw_ibv g1) dX4_gives_6 ?_
  refine gj_iconst (v := 1) C dX4_gives_7 (by decide) ?_
  refine gj_iload_n C 2 dX4_gives_8 rfl ?_
  refine gj_ishl C dX4_gives_9 ?_
  refine gj_iconst (v := -1) C dX4_gives_10 (by decide) ?_
  refine gj_ixor C dX4_gives_11 ?_
  refine gj_iand C dX4_gives_12 ?_
  obtain ⟨g2, hf⟩ := gw_ifs hf
  refine gj_bst (j := 8) C (by decide) (gw_ibv g2) dX4_gives_13 ?_
  refine gj_aload_n C 0 dX4_gives_14 rfl ?_
  refine g_X4_40 C  dX4_gives_15 ?_
  refine gj_iload_n C 1 dX4_gives_18 rfl ?_
  refine gj_aload_n C 0 dX4_gives_19 rfl ?_
  refine g_X4_40 C  dX4_gives_20 ?_
  refine gj_iload_n C 1 dX4_gives_23 rfl ?_
  obtain ⟨g3, hf⟩ := gw_ifs hf
  refine gj_bld (j := 11) C (by decide) (gw_ibv g3) dX4_gives_24 ?_
  refine gj_iload_n C 2 dX4_gives_25 rfl ?_
  refine gj_ic_ne C 33 dX4_gives_26 (by decide) (fun c => ?_) (fun c => ?_)
  · replace hf := gw_iff hf c
    refine gj_aload_n C 0 dX4_gives_33 rfl ?_
    refine g_X4_40 C  dX4_gives_34 ?_
    refine gj_iload_n C 1 dX4_gives_37 rfl ?_
    obtain ⟨g4, hf⟩ := gw_ifs hf
    refine gj_bld (j := 11) C (by decide) (gw_ibv g4) dX4_gives_38 ?_
    obtain ⟨g5, hf⟩ := gw_ifs hf
    refine gj_bst (j := 11) C (by decide) (gw_ibv g5) dX4_gives_39 ?_
    cases hf
    exact gj_vret C E dX4_gives_40 (Nat.le_of_ble_eq_true rfl) (Nat.le_of_ble_eq_true rfl)
  · replace hf := gw_ift hf c
    refine gj_iconst (v := -1) C dX4_gives_29 (by decide) ?_
    refine gj_goto C 39 dX4_gives_30 (by decide) ?_
    obtain ⟨g6, hf⟩ := gw_ifs hf
    refine gj_bst (j := 11) C (by decide) (gw_ibv g6) dX4_gives_39 ?_
    cases hf
    exact gj_vret C E dX4_gives_40 (Nat.le_of_ble_eq_true rfl) (Nat.le_of_ble_eq_true rfl)
set_option maxRecDepth 100000 in
set_option maxHeartbeats 4000000 in
theorem l_X4_offers_2 {K : gw_K} {Γ : gw_G} (C : gw_C K Γ cX4_offers 4 RX4) (τ : gw_S) (o : Nat → Int64) (v1 : Int32) : ∀ (n : Nat) (v2 : Int32) (μ : gw_S) (T : Int32 × gw_S), gw_it (b_X4_offers_2 v1) n (v2, μ) = some T → (gw_J K Γ gr_X4_offers 0 0 (gw_W Γ τ T.2 o) 87 [(0, .ref (gw_a Γ 132)), (1, .int v1), (2, .int T.1)] []) → gw_J K Γ gr_X4_offers 0 0 (gw_W Γ τ μ o) 12 [(0, .ref (gw_a Γ 132)), (1, .int v1), (2, .int v2)] [] := by
  intro n
  induction n with
  | zero => intro v2 μ T  h; cases h
  | succ n ih =>
    intro v2 μ T  h k
    obtain ⟨q, hf, hr⟩ := gw_it_s h
    rw [b_X4_offers_2] at hf
    refine gj_iload_n C 2 dX4_offers_12 rfl ?_
    refine gj_aload_n C 0 dX4_offers_13 rfl ?_
    refine g_X4_46 C  dX4_offers_14 ?_
    refine gj_iload_n C 1 dX4_offers_17 rfl ?_
    obtain ⟨g1, hf⟩ := gw_ifs hf
    refine gj_bld (j := 13) C (by decide) (gw_ibv g1) dX4_offers_18 ?_
    refine gj_ic_ge C 87 dX4_offers_19 (by decide) (fun c => ?_) (fun c => ?_)
    · replace hf := gw_ift hf c
      cases hf
      cases gw_ir hr
      exact gj_pick [0, 1, 2] _ rfl (k )
    · replace hf := gw_iff hf c
      refine gj_aload_n C 0 dX4_offers_22 rfl ?_
      refine g_X4_49 C  dX4_offers_23 ?_
      refine gj_bipush (v := 16) C dX4_offers_26 (by decide) ?_
      refine gj_iload_n C 1 dX4_offers_28 rfl ?_
      refine gj_imul C dX4_offers_29 ?_
      refine gj_iload_n C 2 dX4_offers_30 rfl ?_
      refine gj_iadd C dX4_offers_31 ?_
      obtain ⟨g2, hf⟩ := gw_ifs hf
      refine gj_bld (j := 14) C (by decide) (gw_ibv g2) dX4_offers_32 ?_
      refine gj_istore_n C 3 [(3, .int (μ 14 (((16 : Int32) * v1) + v2).toNatClampNeg)), (0, .ref (gw_a Γ 132)), (1, .int v1), (2, .int v2)] dX4_offers_33 rfl (by decide) rfl ?_
      refine gj_aload_n C 1 dX4_offers_34 rfl ?_
      refine gj_iload_n C 0 dX4_offers_35 rfl ?_
      refine gj_iload_n C 2 dX4_offers_36 rfl ?_
      replace hf := gw_bnd hf
      obtain ⟨r3, hr3, hf⟩ := hf
      refine gj_cVi (As := [.int (μ 14 (((16 : Int32) * v1) + v2).toNatClampNeg), .int v1]) (rest := []) C cb_X4_98 (s_X4_hasOffer (gw_l K) Γ τ μ o (μ 14 (((16 : Int32) * v1) + v2).toNatClampNeg) v1 r3 hr3) rfl (Nat.le_of_ble_eq_true rfl) gw_atD rfl rfl dX4_offers_37 (gw_rmk rfl) rfl ?_
      refine gj_if_ne C 81 dX4_offers_40 (by decide) (fun c => ?_) (fun c => ?_)
      · replace hf := gw_iff hf c
        refine gj_iinc C 2 3 (v2 + 1) [(2, .int (v2 + 1)), (3, .int (μ 14 (((16 : Int32) * v1) + v2).toNatClampNeg)), (0, .ref (gw_a Γ 132)), (1, .int v1)] dX4_offers_81 rfl rfl (by decide) rfl ?_
        refine gj_goto C 12 dX4_offers_84 (by decide) ?_
        cases hf
        replace hr := gw_il hr
        exact gj_pick [2, 3, 0] _ rfl (ih _ _ _  hr k)
      · replace hf := gw_ift hf c
        refine gj_aload_n C 1 dX4_offers_43 rfl ?_
        refine gj_iload_n C 2 dX4_offers_44 rfl ?_
        replace hf := gw_bnd hf
        obtain ⟨r4, hr4, hf⟩ := hf
        refine gj_cVi (As := [.int v1]) (rest := []) C cb_X4_115 (s_X4_free (gw_l K) Γ τ μ o v1 r4 hr4) rfl (Nat.le_of_ble_eq_true rfl) gw_atD rfl rfl dX4_offers_45 (gw_rmk rfl) rfl ?_
        refine gj_if_le C 81 dX4_offers_48 (by decide) (fun c => ?_) (fun c => ?_)
        · replace hf := gw_ift hf c
          refine gj_iinc C 2 3 (v2 + 1) [(2, .int (v2 + 1)), (3, .int (μ 14 (((16 : Int32) * v1) + v2).toNatClampNeg)), (0, .ref (gw_a Γ 132)), (1, .int v1)] dX4_offers_81 rfl rfl (by decide) rfl ?_
          refine gj_goto C 12 dX4_offers_84 (by decide) ?_
          cases hf
          replace hr := gw_il hr
          exact gj_pick [2, 3, 0] _ rfl (ih _ _ _  hr k)
        · replace hf := gw_iff hf c
          refine gj_aload_n C 1 dX4_offers_51 rfl ?_
          refine gj_iload_n C 0 dX4_offers_52 rfl ?_
          refine gj_iload_n C 2 dX4_offers_53 rfl ?_
          refine gj_aload_n C 1 dX4_offers_54 rfl ?_
          refine g_X4_31 C  dX4_offers_55 ?_
          refine gj_iload_n C 0 dX4_offers_58 rfl ?_
          obtain ⟨g5, hf⟩ := gw_ifs hf
          refine gj_bld (j := 8) C (by decide) (gw_ibv g5) dX4_offers_59 ?_
          replace hf := gw_bnd hf
          obtain ⟨r6, hr6, hf⟩ := hf
          refine gj_cVi (As := [.int (μ 14 (((16 : Int32) * v1) + v2).toNatClampNeg), .int v1, .int (μ 8 (μ 14 (((16 : Int32) * v1) + v2).toNatClampNeg).toNatClampNeg)]) (rest := []) C cb_X4_118 (s_X4_obstacleWith (gw_l K) Γ τ μ o (μ 14 (((16 : Int32) * v1) + v2).toNatClampNeg) v1 (μ 8 (μ 14 (((16 : Int32) * v1) + v2).toNatClampNeg).toNatClampNeg) r6 hr6) rfl (Nat.le_of_ble_eq_true rfl) gw_atD rfl rfl dX4_offers_60 (gw_rmk rfl) rfl ?_
          refine gj_if_ne C 81 dX4_offers_63 (by decide) (fun c => ?_) (fun c => ?_)
          · replace hf := gw_iff hf c
            refine gj_iinc C 2 3 (v2 + 1) [(2, .int (v2 + 1)), (3, .int (μ 14 (((16 : Int32) * v1) + v2).toNatClampNeg)), (0, .ref (gw_a Γ 132)), (1, .int v1)] dX4_offers_81 rfl rfl (by decide) rfl ?_
            refine gj_goto C 12 dX4_offers_84 (by decide) ?_
            cases hf
            replace hr := gw_il hr
            exact gj_pick [2, 3, 0] _ rfl (ih _ _ _  hr k)
          · replace hf := gw_ift hf c
            refine gj_aload_n C 1 dX4_offers_66 rfl ?_
            refine g_X4_52 C  dX4_offers_67 ?_
            refine gj_bipush (v := 16) C dX4_offers_70 (by decide) ?_
            refine gj_iload_n C 2 dX4_offers_72 rfl ?_
            refine gj_imul C dX4_offers_73 ?_
            refine gj_iload_n C 0 dX4_offers_74 rfl ?_
            refine gj_iadd C dX4_offers_75 ?_
            refine gj_aload_n C 1 dX4_offers_76 rfl ?_
            refine g_X4_64 C  rfl dX4_offers_77 ?_
            obtain ⟨g7, hf⟩ := gw_ifs hf
            refine gj_bst (j := 15) C (by decide) (gw_ibv g7) dX4_offers_80 ?_
            refine gj_iinc C 2 3 (v2 + 1) [(2, .int (v2 + 1)), (3, .int (μ 14 (((16 : Int32) * v1) + v2).toNatClampNeg)), (0, .ref (gw_a Γ 132)), (1, .int v1)] dX4_offers_81 rfl rfl (by decide) rfl ?_
            refine gj_goto C 12 dX4_offers_84 (by decide) ?_
            cases hf
            replace hr := gw_il hr
            exact gj_pick [2, 3, 0] _ rfl (ih _ _ _  hr k)
set_option maxRecDepth 100000 in
set_option maxHeartbeats 4000000 in
theorem l_X4_offers_1 {K : gw_K} {Γ : gw_G} (C : gw_C K Γ cX4_offers 4 RX4) (τ : gw_S) (o : Nat → Int64) : ∀ (n : Nat) (v1 : Int32) (μ : gw_S) (T : Int32 × gw_S), gw_it (b_X4_offers_1) n (v1, μ) = some T → (gw_J K Γ gr_X4_offers 0 0 (gw_W Γ τ T.2 o) 93 [(0, .ref (gw_a Γ 132)), (1, .int T.1)] []) → gw_J K Γ gr_X4_offers 0 0 (gw_W Γ τ μ o) 2 [(0, .ref (gw_a Γ 132)), (1, .int v1)] [] := by
  intro n
  induction n with
  | zero => intro v1 μ T  h; cases h
  | succ n ih =>
    intro v1 μ T  h k
    obtain ⟨q, hf, hr⟩ := gw_it_s h
    rw [b_X4_offers_1] at hf
    refine gj_iload_n C 1 dX4_offers_2 rfl ?_
    refine gj_aload_n C 0 dX4_offers_3 rfl ?_
    refine g_X4_71 C  rfl dX4_offers_4 ?_
    refine gj_ic_ge C 93 dX4_offers_7 (by decide) (fun c => ?_) (fun c => ?_)
    · replace hf := gw_ift hf c
      cases hf
      cases gw_ir hr
      exact gj_pick [0, 1] _ rfl (k )
    · replace hf := gw_iff hf c
      refine gj_iconst (v := 0) C dX4_offers_10 (by decide) ?_
      refine gj_istore_n C 2 [(2, .int (0 : Int32)), (0, .ref (gw_a Γ 132)), (1, .int v1)] dX4_offers_11 rfl (by decide) rfl ?_
      replace hf := gw_bnd hf
      obtain ⟨t8, ht8, hf⟩ := hf
      refine gj_pick [1, 2, 0] _ rfl (l_X4_offers_2 C τ o v1 _ _ _ t8  ht8 (?_))
      refine gj_iinc C 1 1 (v1 + 1) [(1, .int (v1 + 1)), (0, .ref (gw_a Γ 132)), (2, .int t8.1)] dX4_offers_87 rfl rfl (by decide) rfl ?_
      refine gj_goto C 2 dX4_offers_90 (by decide) ?_
      cases hf
      replace hr := gw_il hr
      exact gj_pick [1, 0] _ rfl (ih _ _ _  hr k)
set_option maxRecDepth 100000 in
set_option maxHeartbeats 4000000 in
theorem s_X4_offers (l : Launch) (Γ : gw_G) (τ μ : gw_S) (o : Nat → Int64) (r : gw_S) (hf : f_X4_offers μ = some r) : gw_M l yX4_offers [.code yX4_offers cX4_offers 4 none] gr_X4_offers 0 0 Γ [.ref (gw_a Γ 132)] (gw_W Γ τ μ o) (gw_qv Γ (gw_W Γ τ r o)) := by
  refine gw_enter (by decide) (Nat.le_of_ble_eq_true rfl) (fun K C E => ?_)
  unfold f_X4_offers at hf
  refine gj_iconst (v := 0) C dX4_offers_0 (by decide) ?_
  refine gj_istore_n C 1 [(1, .int (0 : Int32)), (0, .ref (gw_a Γ 132))] dX4_offers_1 rfl (by decide) rfl ?_
  replace hf := gw_bnd hf
  obtain ⟨t9, ht9, hf⟩ := hf
  refine gj_pick [1, 0] _ rfl (l_X4_offers_1 C τ o _ _ _ t9  ht9 (?_))
  cases hf
  exact gj_vret C E dX4_offers_93 (Nat.le_of_ble_eq_true rfl) (Nat.le_of_ble_eq_true rfl)
set_option maxRecDepth 100000 in
set_option maxHeartbeats 4000000 in
theorem l_X4_addCourse_1 {K : gw_K} {Γ : gw_G} (C : gw_C K Γ cX4_addCourse 7 RX4) (τ : gw_S) (o : Nat → Int64) (v1 : Int32) (v2 : Int32) (v3 : Int32) (v4 : Int32) (v5 : Int32) : ∀ (n : Nat) (v6 : Int32) (μ : gw_S) (T : Int32 × gw_S), gw_it (b_X4_addCourse_1 v1 v2 v3 v4 v5) n (v6, μ) = some T → (gw_J K Γ gr_X4_addCourse 0 0 (gw_W Γ τ T.2 o) 150 [(0, .ref (gw_a Γ 132)), (1, .int v1), (2, .int v2), (3, .int v3), (4, .int v4), (5, .int v5), (6, .int T.1)] []) → gw_J K Γ gr_X4_addCourse 0 0 (gw_W Γ τ μ o) 123 [(0, .ref (gw_a Γ 132)), (1, .int v1), (2, .int v2), (3, .int v3), (4, .int v4), (5, .int v5), (6, .int v6)] [] := by
  intro n
  induction n with
  | zero => intro v6 μ T  h; cases h
  | succ n ih =>
    intro v6 μ T  h k
    obtain ⟨q, hf, hr⟩ := gw_it_s h
    rw [b_X4_addCourse_1] at hf
    refine gj_iload C 6 dX4_addCourse_123 rfl ?_
    refine gj_bipush (v := 16) C dX4_addCourse_125 (by decide) ?_
    refine gj_ic_ge C 150 dX4_addCourse_127 (by decide) (fun c => ?_) (fun c => ?_)
    · replace hf := gw_ift hf c
      cases hf
      cases gw_ir hr
      exact gj_pick [0, 1, 2, 3, 4, 5, 6] _ rfl (k )
    · replace hf := gw_iff hf c
      refine gj_aload_n C 0 dX4_addCourse_130 rfl ?_
      refine g_X4_52 C  dX4_addCourse_131 ?_
      refine gj_bipush (v := 16) C dX4_addCourse_134 (by decide) ?_
      refine gj_iload C 5 dX4_addCourse_136 rfl ?_
      refine gj_imul C dX4_addCourse_138 ?_
      refine gj_iload C 6 dX4_addCourse_139 rfl ?_
      refine gj_iadd C dX4_addCourse_141 ?_
      refine gj_iconst (v := -1) C dX4_addCourse_142 (by decide) ?_
      obtain ⟨g6, hf⟩ := gw_ifs hf
      refine gj_bst (j := 15) C (by decide) (gw_ibv g6) dX4_addCourse_143 ?_
      refine gj_iinc C 6 6 (v6 + 1) [(6, .int (v6 + 1)), (0, .ref (gw_a Γ 132)), (1, .int v1), (2, .int v2), (3, .int v3), (4, .int v4), (5, .int v5)] dX4_addCourse_144 rfl rfl (by decide) rfl ?_
      refine gj_goto C 123 dX4_addCourse_147 (by decide) ?_
      cases hf
      replace hr := gw_il hr
      exact gj_pick [1, 2, 3, 4, 5, 6, 0] _ rfl (ih _ _ _  hr k)
set_option maxRecDepth 100000 in
set_option maxHeartbeats 4000000 in
theorem s_X4_addCourse (l : Launch) (Γ : gw_G) (τ μ : gw_S) (o : Nat → Int64) (a1 : Int32) (a2 : Int32) (a3 : Int32) (r : Int32 × gw_S) (hf : f_X4_addCourse μ a1 a2 a3 = some r) : gw_M l yX4_addCourse [.code yX4_addCourse cX4_addCourse 7 (some .int)] gr_X4_addCourse 0 0 Γ [.ref (gw_a Γ 132), .int a1, .int a2, .int a3] (gw_W Γ τ μ o) (gw_qi Γ r.1 (gw_W Γ τ r.2 o)) := by
  refine gw_enter (by decide) (Nat.le_of_ble_eq_true rfl) (fun K C E => ?_)
  unfold f_X4_addCourse at hf
  refine gj_iload_n C 1 dX4_addCourse_0 rfl ?_
  refine gj_if_lt C 35 dX4_addCourse_1 (by decide) (fun c => ?_) (fun c => ?_)
  · replace hf := gw_ift hf c
    refine gj_iconst (v := 0) C dX4_addCourse_35 (by decide) ?_
    refine gj_istore C 4 [(4, .int (0 : Int32)), (0, .ref (gw_a Γ 132)), (1, .int a1), (2, .int a2), (3, .int a3)] dX4_addCourse_36 (by decide) rfl ?_
    refine gj_aload_n C 1 dX4_addCourse_38 rfl ?_
    refine gj_iload C 0 dX4_addCourse_39 rfl ?_
    refine gj_if_ne C 48 dX4_addCourse_41 (by decide) (fun c => absurd (by decide) c) (fun _ => ?_)
    refine gj_iconst (v := 1) C dX4_addCourse_44 (by decide) ?_
    refine gj_goto C 62 dX4_addCourse_45 (by decide) ?_
    refine p_X4_68 C  dX4_addCourse_62 ?_
    refine gj_aload_n C 1 dX4_addCourse_65 rfl ?_
    refine g_X4_68 C  (gw_up_s _ _ _ _) dX4_addCourse_66 ?_
    refine gj_if_le C 74 dX4_addCourse_69 (by decide) (fun c => absurd c (by decide)) (fun _ => ?_)
    refine gj_iconst (v := 0) C dX4_addCourse_72 (by decide) ?_
    cases hf
    exact gj_iret C E dX4_addCourse_73 (Nat.le_of_ble_eq_true rfl) (Nat.le_of_ble_eq_true rfl)
  · replace hf := gw_iff hf c
    refine gj_iload_n C 1 dX4_addCourse_4 rfl ?_
    refine gj_bipush (v := 16) C dX4_addCourse_5 (by decide) ?_
    refine gj_ic_gt C 35 dX4_addCourse_7 (by decide) (fun c => ?_) (fun c => ?_)
    · replace hf := gw_ift hf c
      refine gj_iconst (v := 0) C dX4_addCourse_35 (by decide) ?_
      refine gj_istore C 4 [(4, .int (0 : Int32)), (0, .ref (gw_a Γ 132)), (1, .int a1), (2, .int a2), (3, .int a3)] dX4_addCourse_36 (by decide) rfl ?_
      refine gj_aload_n C 1 dX4_addCourse_38 rfl ?_
      refine gj_iload C 0 dX4_addCourse_39 rfl ?_
      refine gj_if_ne C 48 dX4_addCourse_41 (by decide) (fun c => absurd (by decide) c) (fun _ => ?_)
      refine gj_iconst (v := 1) C dX4_addCourse_44 (by decide) ?_
      refine gj_goto C 62 dX4_addCourse_45 (by decide) ?_
      refine p_X4_68 C  dX4_addCourse_62 ?_
      refine gj_aload_n C 1 dX4_addCourse_65 rfl ?_
      refine g_X4_68 C  (gw_up_s _ _ _ _) dX4_addCourse_66 ?_
      refine gj_if_le C 74 dX4_addCourse_69 (by decide) (fun c => absurd c (by decide)) (fun _ => ?_)
      refine gj_iconst (v := 0) C dX4_addCourse_72 (by decide) ?_
      cases hf
      exact gj_iret C E dX4_addCourse_73 (Nat.le_of_ble_eq_true rfl) (Nat.le_of_ble_eq_true rfl)
    · replace hf := gw_iff hf c
      refine gj_iload_n C 2 dX4_addCourse_10 rfl ?_
      refine gj_iconst (v := 1) C dX4_addCourse_11 (by decide) ?_
      refine gj_ic_lt C 35 dX4_addCourse_12 (by decide) (fun c => ?_) (fun c => ?_)
      · replace hf := gw_ift hf c
        refine gj_iconst (v := 0) C dX4_addCourse_35 (by decide) ?_
        refine gj_istore C 4 [(4, .int (0 : Int32)), (0, .ref (gw_a Γ 132)), (1, .int a1), (2, .int a2), (3, .int a3)] dX4_addCourse_36 (by decide) rfl ?_
        refine gj_aload_n C 1 dX4_addCourse_38 rfl ?_
        refine gj_iload C 0 dX4_addCourse_39 rfl ?_
        refine gj_if_ne C 48 dX4_addCourse_41 (by decide) (fun c => absurd (by decide) c) (fun _ => ?_)
        refine gj_iconst (v := 1) C dX4_addCourse_44 (by decide) ?_
        refine gj_goto C 62 dX4_addCourse_45 (by decide) ?_
        refine p_X4_68 C  dX4_addCourse_62 ?_
        refine gj_aload_n C 1 dX4_addCourse_65 rfl ?_
        refine g_X4_68 C  (gw_up_s _ _ _ _) dX4_addCourse_66 ?_
        refine gj_if_le C 74 dX4_addCourse_69 (by decide) (fun c => absurd c (by decide)) (fun _ => ?_)
        refine gj_iconst (v := 0) C dX4_addCourse_72 (by decide) ?_
        cases hf
        exact gj_iret C E dX4_addCourse_73 (Nat.le_of_ble_eq_true rfl) (Nat.le_of_ble_eq_true rfl)
      · replace hf := gw_iff hf c
        refine gj_iload_n C 2 dX4_addCourse_15 rfl ?_
        refine gj_bipush (v := 12) C dX4_addCourse_16 (by decide) ?_
        refine gj_ic_gt C 35 dX4_addCourse_18 (by decide) (fun c => ?_) (fun c => ?_)
        · replace hf := gw_ift hf c
          refine gj_iconst (v := 0) C dX4_addCourse_35 (by decide) ?_
          refine gj_istore C 4 [(4, .int (0 : Int32)), (0, .ref (gw_a Γ 132)), (1, .int a1), (2, .int a2), (3, .int a3)] dX4_addCourse_36 (by decide) rfl ?_
          refine gj_aload_n C 1 dX4_addCourse_38 rfl ?_
          refine gj_iload C 0 dX4_addCourse_39 rfl ?_
          refine gj_if_ne C 48 dX4_addCourse_41 (by decide) (fun c => absurd (by decide) c) (fun _ => ?_)
          refine gj_iconst (v := 1) C dX4_addCourse_44 (by decide) ?_
          refine gj_goto C 62 dX4_addCourse_45 (by decide) ?_
          refine p_X4_68 C  dX4_addCourse_62 ?_
          refine gj_aload_n C 1 dX4_addCourse_65 rfl ?_
          refine g_X4_68 C  (gw_up_s _ _ _ _) dX4_addCourse_66 ?_
          refine gj_if_le C 74 dX4_addCourse_69 (by decide) (fun c => absurd c (by decide)) (fun _ => ?_)
          refine gj_iconst (v := 0) C dX4_addCourse_72 (by decide) ?_
          cases hf
          exact gj_iret C E dX4_addCourse_73 (Nat.le_of_ble_eq_true rfl) (Nat.le_of_ble_eq_true rfl)
        · replace hf := gw_iff hf c
          refine gj_iload_n C 3 dX4_addCourse_21 rfl ?_
          refine gj_if_lt C 35 dX4_addCourse_22 (by decide) (fun c => ?_) (fun c => ?_)
          · replace hf := gw_ift hf c
            refine gj_iconst (v := 0) C dX4_addCourse_35 (by decide) ?_
            refine gj_istore C 4 [(4, .int (0 : Int32)), (0, .ref (gw_a Γ 132)), (1, .int a1), (2, .int a2), (3, .int a3)] dX4_addCourse_36 (by decide) rfl ?_
            refine gj_aload_n C 1 dX4_addCourse_38 rfl ?_
            refine gj_iload C 0 dX4_addCourse_39 rfl ?_
            refine gj_if_ne C 48 dX4_addCourse_41 (by decide) (fun c => absurd (by decide) c) (fun _ => ?_)
            refine gj_iconst (v := 1) C dX4_addCourse_44 (by decide) ?_
            refine gj_goto C 62 dX4_addCourse_45 (by decide) ?_
            refine p_X4_68 C  dX4_addCourse_62 ?_
            refine gj_aload_n C 1 dX4_addCourse_65 rfl ?_
            refine g_X4_68 C  (gw_up_s _ _ _ _) dX4_addCourse_66 ?_
            refine gj_if_le C 74 dX4_addCourse_69 (by decide) (fun c => absurd c (by decide)) (fun _ => ?_)
            refine gj_iconst (v := 0) C dX4_addCourse_72 (by decide) ?_
            cases hf
            exact gj_iret C E dX4_addCourse_73 (Nat.le_of_ble_eq_true rfl) (Nat.le_of_ble_eq_true rfl)
          · replace hf := gw_iff hf c
            refine gj_iload_n C 3 dX4_addCourse_25 rfl ?_
            refine gj_ldc (v := 1073741823) C cst_X4_122 dX4_addCourse_26 ?_
            refine gj_ic_gt C 35 dX4_addCourse_28 (by decide) (fun c => ?_) (fun c => ?_)
            · replace hf := gw_ift hf c
              refine gj_iconst (v := 0) C dX4_addCourse_35 (by decide) ?_
              refine gj_istore C 4 [(4, .int (0 : Int32)), (0, .ref (gw_a Γ 132)), (1, .int a1), (2, .int a2), (3, .int a3)] dX4_addCourse_36 (by decide) rfl ?_
              refine gj_aload_n C 1 dX4_addCourse_38 rfl ?_
              refine gj_iload C 0 dX4_addCourse_39 rfl ?_
              refine gj_if_ne C 48 dX4_addCourse_41 (by decide) (fun c => absurd (by decide) c) (fun _ => ?_)
              refine gj_iconst (v := 1) C dX4_addCourse_44 (by decide) ?_
              refine gj_goto C 62 dX4_addCourse_45 (by decide) ?_
              refine p_X4_68 C  dX4_addCourse_62 ?_
              refine gj_aload_n C 1 dX4_addCourse_65 rfl ?_
              refine g_X4_68 C  (gw_up_s _ _ _ _) dX4_addCourse_66 ?_
              refine gj_if_le C 74 dX4_addCourse_69 (by decide) (fun c => absurd c (by decide)) (fun _ => ?_)
              refine gj_iconst (v := 0) C dX4_addCourse_72 (by decide) ?_
              cases hf
              exact gj_iret C E dX4_addCourse_73 (Nat.le_of_ble_eq_true rfl) (Nat.le_of_ble_eq_true rfl)
            · replace hf := gw_iff hf c
              refine gj_iconst (v := 1) C dX4_addCourse_31 (by decide) ?_
              refine gj_goto C 36 dX4_addCourse_32 (by decide) ?_
              refine gj_istore C 4 [(4, .int (1 : Int32)), (0, .ref (gw_a Γ 132)), (1, .int a1), (2, .int a2), (3, .int a3)] dX4_addCourse_36 (by decide) rfl ?_
              refine gj_aload_n C 1 dX4_addCourse_38 rfl ?_
              refine gj_iload C 0 dX4_addCourse_39 rfl ?_
              refine gj_if_ne C 48 dX4_addCourse_41 (by decide) (fun _ => ?_) (fun c => absurd c (by decide))
              refine gj_aload_n C 1 dX4_addCourse_48 rfl ?_
              refine g_X4_71 C  rfl dX4_addCourse_49 ?_
              refine gj_bipush (v := 20) C dX4_addCourse_52 (by decide) ?_
              refine gj_ic_ne C 61 dX4_addCourse_54 (by decide) (fun c => ?_) (fun c => ?_)
              · replace hf := gw_iff hf c
                refine gj_iconst (v := 0) C dX4_addCourse_61 (by decide) ?_
                refine p_X4_68 C  dX4_addCourse_62 ?_
                refine gj_aload_n C 1 dX4_addCourse_65 rfl ?_
                refine g_X4_68 C  (gw_up_s _ _ _ _) dX4_addCourse_66 ?_
                refine gj_if_le C 74 dX4_addCourse_69 (by decide) (fun _ => ?_) (fun c => absurd (by decide) c)
                refine gj_aload_n C 1 dX4_addCourse_74 rfl ?_
                refine g_X4_71 C  (gw_up_n (by omega)) dX4_addCourse_75 ?_
                refine gj_istore C 5 [(5, .int (μ 0 0)), (4, .int (1 : Int32)), (0, .ref (gw_a Γ 132)), (1, .int a1), (2, .int a2), (3, .int a3)] dX4_addCourse_78 (by decide) rfl ?_
                refine gj_aload_n C 2 dX4_addCourse_80 rfl ?_
                refine g_X4_7 C  dX4_addCourse_81 ?_
                refine gj_iload C 0 dX4_addCourse_84 rfl ?_
                refine gj_iload_n C 3 dX4_addCourse_86 rfl ?_
                obtain ⟨g1, hf⟩ := gw_ifs hf
                refine gj_bst (j := 1) C (by decide) (gw_ibv g1) dX4_addCourse_87 ?_
                refine gj_aload_n C 2 dX4_addCourse_88 rfl ?_
                refine g_X4_13 C  dX4_addCourse_89 ?_
                refine gj_iload C 0 dX4_addCourse_92 rfl ?_
                refine gj_iload_n C 4 dX4_addCourse_94 rfl ?_
                obtain ⟨g2, hf⟩ := gw_ifs hf
                refine gj_bst (j := 2) C (by decide) (gw_ibv g2) dX4_addCourse_95 ?_
                refine gj_aload_n C 2 dX4_addCourse_96 rfl ?_
                refine g_X4_16 C  dX4_addCourse_97 ?_
                refine gj_iload C 0 dX4_addCourse_100 rfl ?_
                refine gj_iload_n C 5 dX4_addCourse_102 rfl ?_
                obtain ⟨g3, hf⟩ := gw_ifs hf
                refine gj_bst (j := 3) C (by decide) (gw_ibv g3) dX4_addCourse_103 ?_
                refine gj_aload_n C 2 dX4_addCourse_104 rfl ?_
                refine g_X4_19 C  dX4_addCourse_105 ?_
                refine gj_iload C 0 dX4_addCourse_108 rfl ?_
                refine gj_iconst (v := 0) C dX4_addCourse_110 (by decide) ?_
                obtain ⟨g4, hf⟩ := gw_ifs hf
                refine gj_bst (j := 4) C (by decide) (gw_ibv g4) dX4_addCourse_111 ?_
                refine gj_aload_n C 2 dX4_addCourse_112 rfl ?_
                refine g_X4_46 C  dX4_addCourse_113 ?_
                refine gj_iload C 0 dX4_addCourse_116 rfl ?_
                refine gj_iconst (v := 0) C dX4_addCourse_118 (by decide) ?_
                obtain ⟨g5, hf⟩ := gw_ifs hf
                refine gj_bst (j := 13) C (by decide) (gw_ibv g5) dX4_addCourse_119 ?_
                refine gj_iconst (v := 0) C dX4_addCourse_120 (by decide) ?_
                refine gj_istore C 6 [(6, .int (0 : Int32)), (5, .int (μ 0 0)), (4, .int (1 : Int32)), (0, .ref (gw_a Γ 132)), (1, .int a1), (2, .int a2), (3, .int a3)] dX4_addCourse_121 (by decide) rfl ?_
                replace hf := gw_bnd hf
                obtain ⟨t7, ht7, hf⟩ := hf
                refine gj_pick [3, 4, 5, 6, 2, 1, 0] _ rfl (l_X4_addCourse_1 C τ o a1 a2 a3 (1 : Int32) (μ 0 0) _ _ _ t7  ht7 (?_))
                refine gj_aload_n C 0 dX4_addCourse_150 rfl ?_
                refine gj_dup C dX4_addCourse_151 rfl ?_
                refine g_X4_71 C  rfl dX4_addCourse_152 ?_
                refine gj_iconst (v := 1) C dX4_addCourse_155 (by decide) ?_
                refine gj_iadd C dX4_addCourse_156 ?_
                refine p_X4_71 C  dX4_addCourse_157 ?_
                refine gj_iload C 5 dX4_addCourse_160 rfl ?_
                cases hf
                exact gj_iret C E dX4_addCourse_162 (Nat.le_of_ble_eq_true rfl) (Nat.le_of_ble_eq_true rfl)
              · replace hf := gw_ift hf c
                refine gj_iconst (v := 2) C dX4_addCourse_57 (by decide) ?_
                refine gj_goto C 62 dX4_addCourse_58 (by decide) ?_
                refine p_X4_68 C  dX4_addCourse_62 ?_
                refine gj_aload_n C 1 dX4_addCourse_65 rfl ?_
                refine g_X4_68 C  (gw_up_s _ _ _ _) dX4_addCourse_66 ?_
                refine gj_if_le C 74 dX4_addCourse_69 (by decide) (fun c => absurd c (by decide)) (fun _ => ?_)
                refine gj_iconst (v := 0) C dX4_addCourse_72 (by decide) ?_
                cases hf
                exact gj_iret C E dX4_addCourse_73 (Nat.le_of_ble_eq_true rfl) (Nat.le_of_ble_eq_true rfl)
set_option maxRecDepth 100000 in
set_option maxHeartbeats 4000000 in
theorem s_X4_setSeats (l : Launch) (Γ : gw_G) (τ μ : gw_S) (o : Nat → Int64) (a1 : Int32) (a2 : Int32) (r : Int32 × gw_S) (hf : f_X4_setSeats μ a1 a2 = some r) : gw_M l yX4_setSeats [.code yX4_setSeats cX4_setSeats 4 (some .int)] gr_X4_setSeats 0 0 Γ [.ref (gw_a Γ 132), .int a1, .int a2] (gw_W Γ τ μ o) (gw_qi Γ r.1 (gw_W Γ τ r.2 o)) := by
  refine gw_enter (by decide) (Nat.le_of_ble_eq_true rfl) (fun K C E => ?_)
  unfold f_X4_setSeats at hf
  refine gj_aload_n C 0 dX4_setSeats_0 rfl ?_
  refine gj_aload_n C 0 dX4_setSeats_1 rfl ?_
  refine gj_iload_n C 1 dX4_setSeats_2 rfl ?_
  replace hf := gw_bnd hf
  obtain ⟨r1, hr1, hf⟩ := hf
  refine gj_cVi (As := [.int a1]) (rest := [.ref (gw_a Γ 132)]) C cb_X4_81 (s_X4_isCourse (gw_l K) Γ τ μ o a1 r1 hr1) rfl (Nat.le_of_ble_eq_true rfl) gw_atD rfl rfl dX4_setSeats_3 (gw_rmk rfl) rfl ?_
  refine gj_if_ne C 13 dX4_setSeats_6 (by decide) (fun c => ?_) (fun c => ?_)
  · replace hf := gw_iff hf c
    refine gj_iload_n C 2 dX4_setSeats_13 rfl ?_
    refine gj_if_lt C 23 dX4_setSeats_14 (by decide) (fun c => ?_) (fun c => ?_)
    · replace hf := gw_ift hf c
      refine gj_iconst (v := 2) C dX4_setSeats_23 (by decide) ?_
      refine gj_goto C 28 dX4_setSeats_24 (by decide) ?_
      refine p_X4_68 C  dX4_setSeats_28 ?_
      refine gj_aload_n C 0 dX4_setSeats_31 rfl ?_
      refine g_X4_68 C  (gw_up_s _ _ _ _) dX4_setSeats_32 ?_
      refine gj_if_ne C 59 dX4_setSeats_35 (by decide) (fun _ => ?_) (fun c => absurd c (by decide))
      refine gj_aload_n C 0 dX4_setSeats_59 rfl ?_
      refine g_X4_68 C  (gw_up_s _ _ _ _) dX4_setSeats_60 ?_
      refine gj_if_le C 68 dX4_setSeats_63 (by decide) (fun c => absurd c (by decide)) (fun _ => ?_)
      refine gj_iconst (v := 0) C dX4_setSeats_66 (by decide) ?_
      cases hf
      exact gj_iret C E dX4_setSeats_67 (Nat.le_of_ble_eq_true rfl) (Nat.le_of_ble_eq_true rfl)
    · replace hf := gw_iff hf c
      refine gj_iload_n C 2 dX4_setSeats_17 rfl ?_
      refine gj_bipush (v := 16) C dX4_setSeats_18 (by decide) ?_
      refine gj_ic_le C 27 dX4_setSeats_20 (by decide) (fun c => ?_) (fun c => ?_)
      · replace hf := gw_ift hf c
        refine gj_iconst (v := 0) C dX4_setSeats_27 (by decide) ?_
        refine p_X4_68 C  dX4_setSeats_28 ?_
        refine gj_aload_n C 0 dX4_setSeats_31 rfl ?_
        refine g_X4_68 C  (gw_up_s _ _ _ _) dX4_setSeats_32 ?_
        refine gj_if_ne C 59 dX4_setSeats_35 (by decide) (fun c => absurd (by decide) c) (fun _ => ?_)
        refine gj_iload_n C 2 dX4_setSeats_38 rfl ?_
        refine gj_aload_n C 0 dX4_setSeats_39 rfl ?_
        refine g_X4_7 C  dX4_setSeats_40 ?_
        refine gj_iload_n C 1 dX4_setSeats_43 rfl ?_
        obtain ⟨g2, hf⟩ := gw_ifs hf
        refine gj_bld (j := 1) C (by decide) (gw_ibv g2) dX4_setSeats_44 ?_
        refine gj_aload_n C 0 dX4_setSeats_45 rfl ?_
        refine gj_iload_n C 1 dX4_setSeats_46 rfl ?_
        replace hf := gw_bnd hf
        obtain ⟨r3, hr3, hf⟩ := hf
        refine gj_cVi (As := [.int a1]) (rest := [.int ((gw_up μ 0 18 (0 : Int32)) 1 a1.toNatClampNeg), .int a2]) C cb_X4_115 (s_X4_free (gw_l K) Γ τ (gw_up μ 0 18 (0 : Int32)) o a1 r3 hr3) rfl (Nat.le_of_ble_eq_true rfl) gw_atD rfl rfl dX4_setSeats_47 (gw_rmk rfl) rfl ?_
        refine gj_isub C dX4_setSeats_50 ?_
        refine gj_ic_ge C 59 dX4_setSeats_51 (by decide) (fun c => ?_) (fun c => ?_)
        · replace hf := gw_ift hf c
          refine gj_aload_n C 0 dX4_setSeats_59 rfl ?_
          refine g_X4_68 C  (gw_up_s _ _ _ _) dX4_setSeats_60 ?_
          refine gj_if_le C 68 dX4_setSeats_63 (by decide) (fun _ => ?_) (fun c => absurd (by decide) c)
          refine gj_aload_n C 0 dX4_setSeats_68 rfl ?_
          refine g_X4_7 C  dX4_setSeats_69 ?_
          refine gj_iload_n C 1 dX4_setSeats_72 rfl ?_
          obtain ⟨g4, hf⟩ := gw_ifs hf
          refine gj_bld (j := 1) C (by decide) (gw_ibv g4) dX4_setSeats_73 ?_
          refine gj_istore_n C 3 [(3, .int ((gw_up μ 0 18 (0 : Int32)) 1 a1.toNatClampNeg)), (0, .ref (gw_a Γ 132)), (1, .int a1), (2, .int a2)] dX4_setSeats_74 rfl (by decide) rfl ?_
          refine gj_aload_n C 1 dX4_setSeats_75 rfl ?_
          refine g_X4_7 C  dX4_setSeats_76 ?_
          refine gj_iload_n C 2 dX4_setSeats_79 rfl ?_
          refine gj_iload_n C 3 dX4_setSeats_80 rfl ?_
          obtain ⟨g5, hf⟩ := gw_ifs hf
          refine gj_bst (j := 1) C (by decide) (gw_ibv g5) dX4_setSeats_81 ?_
          refine gj_aload_n C 1 dX4_setSeats_82 rfl ?_
          replace hf := gw_bnd hf
          obtain ⟨r6, hr6, hf⟩ := hf
          refine gj_cVv (As := []) (rest := []) C cb_X4_123 (s_X4_offers (gw_l K) Γ τ (gw_up (gw_up μ 0 18 (0 : Int32)) 1 a1.toNatClampNeg a2) o  r6 hr6) rfl (Nat.le_of_ble_eq_true rfl) gw_atD rfl rfl dX4_setSeats_83 (gw_rmk rfl) rfl ?_
          refine gj_iload_n C 0 dX4_setSeats_86 rfl ?_
          cases hf
          exact gj_iret C E dX4_setSeats_87 (Nat.le_of_ble_eq_true rfl) (Nat.le_of_ble_eq_true rfl)
        · replace hf := gw_iff hf c
          refine gj_aload_n C 0 dX4_setSeats_54 rfl ?_
          refine gj_iconst (v := 3) C dX4_setSeats_55 (by decide) ?_
          refine p_X4_68 C  dX4_setSeats_56 ?_
          refine gj_aload_n C 0 dX4_setSeats_59 rfl ?_
          refine g_X4_68 C  (gw_up_s _ _ _ _) dX4_setSeats_60 ?_
          refine gj_if_le C 68 dX4_setSeats_63 (by decide) (fun c => absurd c (by decide)) (fun _ => ?_)
          refine gj_iconst (v := 0) C dX4_setSeats_66 (by decide) ?_
          cases hf
          exact gj_iret C E dX4_setSeats_67 (Nat.le_of_ble_eq_true rfl) (Nat.le_of_ble_eq_true rfl)
      · replace hf := gw_iff hf c
        refine gj_iconst (v := 2) C dX4_setSeats_23 (by decide) ?_
        refine gj_goto C 28 dX4_setSeats_24 (by decide) ?_
        refine p_X4_68 C  dX4_setSeats_28 ?_
        refine gj_aload_n C 0 dX4_setSeats_31 rfl ?_
        refine g_X4_68 C  (gw_up_s _ _ _ _) dX4_setSeats_32 ?_
        refine gj_if_ne C 59 dX4_setSeats_35 (by decide) (fun _ => ?_) (fun c => absurd c (by decide))
        refine gj_aload_n C 0 dX4_setSeats_59 rfl ?_
        refine g_X4_68 C  (gw_up_s _ _ _ _) dX4_setSeats_60 ?_
        refine gj_if_le C 68 dX4_setSeats_63 (by decide) (fun c => absurd c (by decide)) (fun _ => ?_)
        refine gj_iconst (v := 0) C dX4_setSeats_66 (by decide) ?_
        cases hf
        exact gj_iret C E dX4_setSeats_67 (Nat.le_of_ble_eq_true rfl) (Nat.le_of_ble_eq_true rfl)
  · replace hf := gw_ift hf c
    refine gj_iconst (v := 1) C dX4_setSeats_9 (by decide) ?_
    refine gj_goto C 28 dX4_setSeats_10 (by decide) ?_
    refine p_X4_68 C  dX4_setSeats_28 ?_
    refine gj_aload_n C 0 dX4_setSeats_31 rfl ?_
    refine g_X4_68 C  (gw_up_s _ _ _ _) dX4_setSeats_32 ?_
    refine gj_if_ne C 59 dX4_setSeats_35 (by decide) (fun _ => ?_) (fun c => absurd c (by decide))
    refine gj_aload_n C 0 dX4_setSeats_59 rfl ?_
    refine g_X4_68 C  (gw_up_s _ _ _ _) dX4_setSeats_60 ?_
    refine gj_if_le C 68 dX4_setSeats_63 (by decide) (fun c => absurd c (by decide)) (fun _ => ?_)
    refine gj_iconst (v := 0) C dX4_setSeats_66 (by decide) ?_
    cases hf
    exact gj_iret C E dX4_setSeats_67 (Nat.le_of_ble_eq_true rfl) (Nat.le_of_ble_eq_true rfl)
set_option maxRecDepth 100000 in
set_option maxHeartbeats 4000000 in
theorem s_X4_addPrerequisite (l : Launch) (Γ : gw_G) (τ μ : gw_S) (o : Nat → Int64) (a1 : Int32) (a2 : Int32) (r : Int32 × gw_S) (hf : f_X4_addPrerequisite μ a1 a2 = some r) : gw_M l yX4_addPrerequisite [.code yX4_addPrerequisite cX4_addPrerequisite 3 (some .int)] gr_X4_addPrerequisite 0 0 Γ [.ref (gw_a Γ 132), .int a1, .int a2] (gw_W Γ τ μ o) (gw_qi Γ r.1 (gw_W Γ τ r.2 o)) := by
  refine gw_enter (by decide) (Nat.le_of_ble_eq_true rfl) (fun K C E => ?_)
  unfold f_X4_addPrerequisite at hf
  refine gj_aload_n C 0 dX4_addPrerequisite_0 rfl ?_
  refine gj_aload_n C 0 dX4_addPrerequisite_1 rfl ?_
  refine gj_iload_n C 1 dX4_addPrerequisite_2 rfl ?_
  replace hf := gw_bnd hf
  obtain ⟨r1, hr1, hf⟩ := hf
  refine gj_cVi (As := [.int a1]) (rest := [.ref (gw_a Γ 132)]) C cb_X4_81 (s_X4_isCourse (gw_l K) Γ τ μ o a1 r1 hr1) rfl (Nat.le_of_ble_eq_true rfl) gw_atD rfl rfl dX4_addPrerequisite_3 (gw_rmk rfl) rfl ?_
  refine gj_if_eq C 21 dX4_addPrerequisite_6 (by decide) (fun c => ?_) (fun c => ?_)
  · replace hf := gw_ift hf c
    refine gj_iconst (v := 1) C dX4_addPrerequisite_21 (by decide) ?_
    refine p_X4_68 C  dX4_addPrerequisite_22 ?_
    refine gj_aload_n C 0 dX4_addPrerequisite_25 rfl ?_
    refine g_X4_68 C  (gw_up_s _ _ _ _) dX4_addPrerequisite_26 ?_
    refine gj_if_ne C 67 dX4_addPrerequisite_29 (by decide) (fun _ => ?_) (fun c => absurd c (by decide))
    refine gj_aload_n C 0 dX4_addPrerequisite_67 rfl ?_
    refine g_X4_68 C  (gw_up_s _ _ _ _) dX4_addPrerequisite_68 ?_
    refine gj_if_le C 76 dX4_addPrerequisite_71 (by decide) (fun c => absurd c (by decide)) (fun _ => ?_)
    refine gj_iconst (v := 0) C dX4_addPrerequisite_74 (by decide) ?_
    cases hf
    exact gj_iret C E dX4_addPrerequisite_75 (Nat.le_of_ble_eq_true rfl) (Nat.le_of_ble_eq_true rfl)
  · replace hf := gw_iff hf c
    refine gj_aload_n C 0 dX4_addPrerequisite_9 rfl ?_
    refine gj_iload_n C 2 dX4_addPrerequisite_10 rfl ?_
    replace hf := gw_bnd hf
    obtain ⟨r2, hr2, hf⟩ := hf
    refine gj_cVi (As := [.int a2]) (rest := [.ref (gw_a Γ 132)]) C cb_X4_81 (s_X4_isCourse (gw_l K) Γ τ μ o a2 r2 hr2) rfl (Nat.le_of_ble_eq_true rfl) gw_atD rfl rfl dX4_addPrerequisite_11 (gw_rmk rfl) rfl ?_
    refine gj_if_eq C 21 dX4_addPrerequisite_14 (by decide) (fun c => ?_) (fun c => ?_)
    · replace hf := gw_ift hf c
      refine gj_iconst (v := 1) C dX4_addPrerequisite_21 (by decide) ?_
      refine p_X4_68 C  dX4_addPrerequisite_22 ?_
      refine gj_aload_n C 0 dX4_addPrerequisite_25 rfl ?_
      refine g_X4_68 C  (gw_up_s _ _ _ _) dX4_addPrerequisite_26 ?_
      refine gj_if_ne C 67 dX4_addPrerequisite_29 (by decide) (fun _ => ?_) (fun c => absurd c (by decide))
      refine gj_aload_n C 0 dX4_addPrerequisite_67 rfl ?_
      refine g_X4_68 C  (gw_up_s _ _ _ _) dX4_addPrerequisite_68 ?_
      refine gj_if_le C 76 dX4_addPrerequisite_71 (by decide) (fun c => absurd c (by decide)) (fun _ => ?_)
      refine gj_iconst (v := 0) C dX4_addPrerequisite_74 (by decide) ?_
      cases hf
      exact gj_iret C E dX4_addPrerequisite_75 (Nat.le_of_ble_eq_true rfl) (Nat.le_of_ble_eq_true rfl)
    · replace hf := gw_iff hf c
      refine gj_iconst (v := 0) C dX4_addPrerequisite_17 (by decide) ?_
      refine gj_goto C 22 dX4_addPrerequisite_18 (by decide) ?_
      refine p_X4_68 C  dX4_addPrerequisite_22 ?_
      refine gj_aload_n C 0 dX4_addPrerequisite_25 rfl ?_
      refine g_X4_68 C  (gw_up_s _ _ _ _) dX4_addPrerequisite_26 ?_
      refine gj_if_ne C 67 dX4_addPrerequisite_29 (by decide) (fun c => absurd (by decide) c) (fun _ => ?_)
      refine gj_iload_n C 1 dX4_addPrerequisite_32 rfl ?_
      refine gj_iload_n C 2 dX4_addPrerequisite_33 rfl ?_
      refine gj_ic_eq C 62 dX4_addPrerequisite_34 (by decide) (fun c => ?_) (fun c => ?_)
      · replace hf := gw_ift hf c
        refine gj_aload_n C 0 dX4_addPrerequisite_62 rfl ?_
        refine gj_iconst (v := 2) C dX4_addPrerequisite_63 (by decide) ?_
        refine p_X4_68 C  dX4_addPrerequisite_64 ?_
        refine gj_aload_n C 0 dX4_addPrerequisite_67 rfl ?_
        refine g_X4_68 C  (gw_up_s _ _ _ _) dX4_addPrerequisite_68 ?_
        refine gj_if_le C 76 dX4_addPrerequisite_71 (by decide) (fun c => absurd c (by decide)) (fun _ => ?_)
        refine gj_iconst (v := 0) C dX4_addPrerequisite_74 (by decide) ?_
        cases hf
        exact gj_iret C E dX4_addPrerequisite_75 (Nat.le_of_ble_eq_true rfl) (Nat.le_of_ble_eq_true rfl)
      · replace hf := gw_iff hf c
        refine gj_aload_n C 0 dX4_addPrerequisite_37 rfl ?_
        refine g_X4_19 C  dX4_addPrerequisite_38 ?_
        refine gj_iload_n C 1 dX4_addPrerequisite_41 rfl ?_
        obtain ⟨g3, hf⟩ := gw_ifs hf
        refine gj_bld (j := 4) C (by decide) (gw_ibv g3) dX4_addPrerequisite_42 ?_
        refine gj_iload_n C 2 dX4_addPrerequisite_43 rfl ?_
        replace hf := gw_bnd hf
        obtain ⟨r4, hr4, hf⟩ := hf
        refine gj_cSi (As := [.int ((gw_up μ 0 18 (0 : Int32)) 4 a1.toNatClampNeg), .int a2]) (rest := []) C cb_X4_84 (s_X4_has (gw_l K) Γ τ (gw_up μ 0 18 (0 : Int32)) o ((gw_up μ 0 18 (0 : Int32)) 4 a1.toNatClampNeg) a2 r4 hr4) rfl (Nat.le_of_ble_eq_true rfl) dX4_addPrerequisite_44 (gw_rmk rfl) rfl ?_
        refine gj_if_ne C 62 dX4_addPrerequisite_47 (by decide) (fun c => ?_) (fun c => ?_)
        · replace hf := gw_iff hf c
          refine gj_aload_n C 0 dX4_addPrerequisite_62 rfl ?_
          refine gj_iconst (v := 2) C dX4_addPrerequisite_63 (by decide) ?_
          refine p_X4_68 C  dX4_addPrerequisite_64 ?_
          refine gj_aload_n C 0 dX4_addPrerequisite_67 rfl ?_
          refine g_X4_68 C  (gw_up_s _ _ _ _) dX4_addPrerequisite_68 ?_
          refine gj_if_le C 76 dX4_addPrerequisite_71 (by decide) (fun c => absurd c (by decide)) (fun _ => ?_)
          refine gj_iconst (v := 0) C dX4_addPrerequisite_74 (by decide) ?_
          cases hf
          exact gj_iret C E dX4_addPrerequisite_75 (Nat.le_of_ble_eq_true rfl) (Nat.le_of_ble_eq_true rfl)
        · replace hf := gw_ift hf c
          refine gj_aload_n C 0 dX4_addPrerequisite_50 rfl ?_
          refine gj_iload_n C 2 dX4_addPrerequisite_51 rfl ?_
          replace hf := gw_bnd hf
          obtain ⟨r5, hr5, hf⟩ := hf
          refine gj_cVi (As := [.int a2]) (rest := []) C cb_X4_88 (s_X4_requiredBy (gw_l K) Γ τ (gw_up μ 0 18 (0 : Int32)) o a2 r5 hr5) rfl (Nat.le_of_ble_eq_true rfl) gw_atD rfl rfl dX4_addPrerequisite_52 (gw_rmk rfl) rfl ?_
          refine gj_iload_n C 1 dX4_addPrerequisite_55 rfl ?_
          replace hf := gw_bnd hf
          obtain ⟨r6, hr6, hf⟩ := hf
          refine gj_cSi (As := [.int r5, .int a1]) (rest := []) C cb_X4_84 (s_X4_has (gw_l K) Γ τ (gw_up μ 0 18 (0 : Int32)) o r5 a1 r6 hr6) rfl (Nat.le_of_ble_eq_true rfl) dX4_addPrerequisite_56 (gw_rmk rfl) rfl ?_
          refine gj_if_eq C 67 dX4_addPrerequisite_59 (by decide) (fun c => ?_) (fun c => ?_)
          · replace hf := gw_ift hf c
            refine gj_aload_n C 0 dX4_addPrerequisite_67 rfl ?_
            refine g_X4_68 C  (gw_up_s _ _ _ _) dX4_addPrerequisite_68 ?_
            refine gj_if_le C 76 dX4_addPrerequisite_71 (by decide) (fun _ => ?_) (fun c => absurd (by decide) c)
            refine gj_aload_n C 0 dX4_addPrerequisite_76 rfl ?_
            refine g_X4_19 C  dX4_addPrerequisite_77 ?_
            refine gj_iload_n C 1 dX4_addPrerequisite_80 rfl ?_
            refine gj_dup2 C dX4_addPrerequisite_81 rfl rfl ?_
            obtain ⟨g7, hf⟩ := gw_ifs hf
            refine gj_bld (j := 4) C (by decide) (gw_ibv g7) dX4_addPrerequisite_82 ?_
            refine gj_iconst (v := 1) C dX4_addPrerequisite_83 (by decide) ?_
            refine gj_iload_n C 2 dX4_addPrerequisite_84 rfl ?_
            refine gj_ishl C dX4_addPrerequisite_85 ?_
            refine gj_ior C dX4_addPrerequisite_86 ?_
            obtain ⟨g8, hf⟩ := gw_ifs hf
            refine gj_bst (j := 4) C (by decide) (gw_ibv g8) dX4_addPrerequisite_87 ?_
            refine gj_aload_n C 0 dX4_addPrerequisite_88 rfl ?_
            replace hf := gw_bnd hf
            obtain ⟨r9, hr9, hf⟩ := hf
            refine gj_cVv (As := []) (rest := []) C cb_X4_123 (s_X4_offers (gw_l K) Γ τ (gw_up (gw_up μ 0 18 (0 : Int32)) 4 a1.toNatClampNeg (((gw_up μ 0 18 (0 : Int32)) 4 a1.toNatClampNeg) ||| ((1 : Int32) <<< (a2 &&& 31)))) o  r9 hr9) rfl (Nat.le_of_ble_eq_true rfl) gw_atD rfl rfl dX4_addPrerequisite_89 (gw_rmk rfl) rfl ?_
            refine gj_aload_n C 0 dX4_addPrerequisite_92 rfl ?_
            refine gj_iload_n C 1 dX4_addPrerequisite_93 rfl ?_
            replace hf := gw_bnd hf
            obtain ⟨r10, hr10, hf⟩ := hf
            refine gj_cVi (As := [.int a1]) (rest := []) C cb_X4_88 (s_X4_requiredBy (gw_l K) Γ τ r9 o a1 r10 hr10) rfl (Nat.le_of_ble_eq_true rfl) gw_atD rfl rfl dX4_addPrerequisite_94 (gw_rmk rfl) rfl ?_
            replace hf := gw_bnd hf
            obtain ⟨r11, hr11, hf⟩ := hf
            refine gj_cSi (As := [.int r10]) (rest := []) C cb_X4_126 (s_X4_size (gw_l K) Γ τ r9 o r10 r11 hr11) rfl (Nat.le_of_ble_eq_true rfl) dX4_addPrerequisite_97 (gw_rmk rfl) rfl ?_
            cases hf
            exact gj_iret C E dX4_addPrerequisite_100 (Nat.le_of_ble_eq_true rfl) (Nat.le_of_ble_eq_true rfl)
          · replace hf := gw_iff hf c
            refine gj_aload_n C 0 dX4_addPrerequisite_62 rfl ?_
            refine gj_iconst (v := 2) C dX4_addPrerequisite_63 (by decide) ?_
            refine p_X4_68 C  dX4_addPrerequisite_64 ?_
            refine gj_aload_n C 0 dX4_addPrerequisite_67 rfl ?_
            refine g_X4_68 C  (gw_up_s _ _ _ _) dX4_addPrerequisite_68 ?_
            refine gj_if_le C 76 dX4_addPrerequisite_71 (by decide) (fun c => absurd c (by decide)) (fun _ => ?_)
            refine gj_iconst (v := 0) C dX4_addPrerequisite_74 (by decide) ?_
            cases hf
            exact gj_iret C E dX4_addPrerequisite_75 (Nat.le_of_ble_eq_true rfl) (Nat.le_of_ble_eq_true rfl)
set_option maxRecDepth 100000 in
set_option maxHeartbeats 4000000 in
theorem s_X4_requires (l : Launch) (Γ : gw_G) (τ μ : gw_S) (o : Nat → Int64) (a1 : Int32) (a2 : Int32) (r : Int32 × gw_S) (hf : f_X4_requires μ a1 a2 = some r) : gw_M l yX4_requires [.code yX4_requires cX4_requires 3 (some .boolean)] gr_X4_requires 0 0 Γ [.ref (gw_a Γ 132), .int a1, .int a2] (gw_W Γ τ μ o) (gw_qi Γ r.1 (gw_W Γ τ r.2 o)) := by
  refine gw_enter (by decide) (Nat.le_of_ble_eq_true rfl) (fun K C E => ?_)
  unfold f_X4_requires at hf
  refine gj_aload_n C 0 dX4_requires_0 rfl ?_
  refine gj_aload_n C 0 dX4_requires_1 rfl ?_
  refine gj_iload_n C 1 dX4_requires_2 rfl ?_
  replace hf := gw_bnd hf
  obtain ⟨r1, hr1, hf⟩ := hf
  refine gj_cVi (As := [.int a1]) (rest := [.ref (gw_a Γ 132)]) C cb_X4_81 (s_X4_isCourse (gw_l K) Γ τ μ o a1 r1 hr1) rfl (Nat.le_of_ble_eq_true rfl) gw_atD rfl rfl dX4_requires_3 (gw_rmk rfl) rfl ?_
  refine gj_if_eq C 21 dX4_requires_6 (by decide) (fun c => ?_) (fun c => ?_)
  · replace hf := gw_ift hf c
    refine gj_iconst (v := 1) C dX4_requires_21 (by decide) ?_
    refine p_X4_68 C  dX4_requires_22 ?_
    refine gj_aload_n C 0 dX4_requires_25 rfl ?_
    refine g_X4_68 C  (gw_up_s _ _ _ _) dX4_requires_26 ?_
    refine gj_if_ne C 48 dX4_requires_29 (by decide) (fun _ => ?_) (fun c => absurd c (by decide))
    refine gj_iconst (v := 0) C dX4_requires_48 (by decide) ?_
    cases hf
    exact gj_zret C E (by decide) dX4_requires_49 (Nat.le_of_ble_eq_true rfl) (Nat.le_of_ble_eq_true rfl)
  · replace hf := gw_iff hf c
    refine gj_aload_n C 0 dX4_requires_9 rfl ?_
    refine gj_iload_n C 2 dX4_requires_10 rfl ?_
    replace hf := gw_bnd hf
    obtain ⟨r2, hr2, hf⟩ := hf
    refine gj_cVi (As := [.int a2]) (rest := [.ref (gw_a Γ 132)]) C cb_X4_81 (s_X4_isCourse (gw_l K) Γ τ μ o a2 r2 hr2) rfl (Nat.le_of_ble_eq_true rfl) gw_atD rfl rfl dX4_requires_11 (gw_rmk rfl) rfl ?_
    refine gj_if_eq C 21 dX4_requires_14 (by decide) (fun c => ?_) (fun c => ?_)
    · replace hf := gw_ift hf c
      refine gj_iconst (v := 1) C dX4_requires_21 (by decide) ?_
      refine p_X4_68 C  dX4_requires_22 ?_
      refine gj_aload_n C 0 dX4_requires_25 rfl ?_
      refine g_X4_68 C  (gw_up_s _ _ _ _) dX4_requires_26 ?_
      refine gj_if_ne C 48 dX4_requires_29 (by decide) (fun _ => ?_) (fun c => absurd c (by decide))
      refine gj_iconst (v := 0) C dX4_requires_48 (by decide) ?_
      cases hf
      exact gj_zret C E (by decide) dX4_requires_49 (Nat.le_of_ble_eq_true rfl) (Nat.le_of_ble_eq_true rfl)
    · replace hf := gw_iff hf c
      refine gj_iconst (v := 0) C dX4_requires_17 (by decide) ?_
      refine gj_goto C 22 dX4_requires_18 (by decide) ?_
      refine p_X4_68 C  dX4_requires_22 ?_
      refine gj_aload_n C 0 dX4_requires_25 rfl ?_
      refine g_X4_68 C  (gw_up_s _ _ _ _) dX4_requires_26 ?_
      refine gj_if_ne C 48 dX4_requires_29 (by decide) (fun c => absurd (by decide) c) (fun _ => ?_)
      refine gj_aload_n C 0 dX4_requires_32 rfl ?_
      refine gj_iload_n C 1 dX4_requires_33 rfl ?_
      replace hf := gw_bnd hf
      obtain ⟨r3, hr3, hf⟩ := hf
      refine gj_cVi (As := [.int a1]) (rest := []) C cb_X4_88 (s_X4_requiredBy (gw_l K) Γ τ (gw_up μ 0 18 (0 : Int32)) o a1 r3 hr3) rfl (Nat.le_of_ble_eq_true rfl) gw_atD rfl rfl dX4_requires_34 (gw_rmk rfl) rfl ?_
      refine gj_iload_n C 2 dX4_requires_37 rfl ?_
      replace hf := gw_bnd hf
      obtain ⟨r4, hr4, hf⟩ := hf
      refine gj_cSi (As := [.int r3, .int a2]) (rest := []) C cb_X4_84 (s_X4_has (gw_l K) Γ τ (gw_up μ 0 18 (0 : Int32)) o r3 a2 r4 hr4) rfl (Nat.le_of_ble_eq_true rfl) dX4_requires_38 (gw_rmk rfl) rfl ?_
      refine gj_if_eq C 48 dX4_requires_41 (by decide) (fun c => ?_) (fun c => ?_)
      · replace hf := gw_ift hf c
        refine gj_iconst (v := 0) C dX4_requires_48 (by decide) ?_
        cases hf
        exact gj_zret C E (by decide) dX4_requires_49 (Nat.le_of_ble_eq_true rfl) (Nat.le_of_ble_eq_true rfl)
      · replace hf := gw_iff hf c
        refine gj_iconst (v := 1) C dX4_requires_44 (by decide) ?_
        refine gj_goto C 49 dX4_requires_45 (by decide) ?_
        cases hf
        exact gj_zret C E (by decide) dX4_requires_49 (Nat.le_of_ble_eq_true rfl) (Nat.le_of_ble_eq_true rfl)
set_option maxRecDepth 100000 in
set_option maxHeartbeats 4000000 in
theorem l_X4_level_1 {K : gw_K} {Γ : gw_G} (C : gw_C K Γ cX4_level 5 RX4) (τ : gw_S) (o : Nat → Int64) (v1 : Int32) : ∀ (n : Nat) (v2 : Int32) (μ : gw_S) (T : Int32 × gw_S), gw_it (b_X4_level_1 v1) n (v2, μ) = some T → (gw_J K Γ gr_X4_level 0 0 (gw_W Γ τ T.2 o) 49 [(0, .ref (gw_a Γ 132)), (1, .int v1), (2, .int T.1)] []) → gw_J K Γ gr_X4_level 0 0 (gw_W Γ τ μ o) 28 [(0, .ref (gw_a Γ 132)), (1, .int v1), (2, .int v2)] [] := by
  intro n
  induction n with
  | zero => intro v2 μ T  h; cases h
  | succ n ih =>
    intro v2 μ T  h k
    obtain ⟨q, hf, hr⟩ := gw_it_s h
    rw [b_X4_level_1] at hf
    refine gj_iload_n C 2 dX4_level_28 rfl ?_
    refine gj_aload_n C 0 dX4_level_29 rfl ?_
    refine g_X4_71 C  rfl dX4_level_30 ?_
    refine gj_ic_ge C 49 dX4_level_33 (by decide) (fun c => ?_) (fun c => ?_)
    · replace hf := gw_ift hf c
      cases hf
      cases gw_ir hr
      exact gj_pick [0, 1, 2] _ rfl (k )
    · replace hf := gw_iff hf c
      refine gj_aload_n C 0 dX4_level_36 rfl ?_
      refine g_X4_55 C  dX4_level_37 ?_
      refine gj_iload_n C 2 dX4_level_40 rfl ?_
      refine gj_iconst (v := 0) C dX4_level_41 (by decide) ?_
      obtain ⟨g2, hf⟩ := gw_ifs hf
      refine gj_bst (j := 16) C (by decide) (gw_ibv g2) dX4_level_42 ?_
      refine gj_iinc C 2 2 (v2 + 1) [(2, .int (v2 + 1)), (0, .ref (gw_a Γ 132)), (1, .int v1)] dX4_level_43 rfl rfl (by decide) rfl ?_
      refine gj_goto C 28 dX4_level_46 (by decide) ?_
      cases hf
      replace hr := gw_il hr
      exact gj_pick [1, 2, 0] _ rfl (ih _ _ _  hr k)
set_option maxRecDepth 100000 in
set_option maxHeartbeats 4000000 in
theorem l_X4_level_4 {K : gw_K} {Γ : gw_G} (C : gw_C K Γ cX4_level 5 RX4) (τ : gw_S) (o : Nat → Int64) (v1 : Int32) (v2 : Int32) (v3 : Int32) : ∀ (n : Nat) (v4 : Int32) (μ : gw_S) (T : Int32 × gw_S), gw_it (b_X4_level_4 v1 v2 v3) n (v4, μ) = some T → (gw_J K Γ gr_X4_level 0 0 (gw_W Γ τ T.2 o) 139 [(0, .ref (gw_a Γ 132)), (1, .int v1), (2, .int v2), (3, .int v3), (4, .int T.1)] []) → gw_J K Γ gr_X4_level 0 0 (gw_W Γ τ μ o) 70 [(0, .ref (gw_a Γ 132)), (1, .int v1), (2, .int v2), (3, .int v3), (4, .int v4)] [] := by
  intro n
  induction n with
  | zero => intro v4 μ T  h; cases h
  | succ n ih =>
    intro v4 μ T  h k
    obtain ⟨q, hf, hr⟩ := gw_it_s h
    rw [b_X4_level_4] at hf
    refine gj_iload C 4 dX4_level_70 rfl ?_
    refine gj_aload_n C 0 dX4_level_72 rfl ?_
    refine g_X4_71 C  rfl dX4_level_73 ?_
    refine gj_ic_ge C 139 dX4_level_76 (by decide) (fun c => ?_) (fun c => ?_)
    · replace hf := gw_ift hf c
      cases hf
      cases gw_ir hr
      exact gj_pick [0, 1, 2, 3, 4] _ rfl (k )
    · replace hf := gw_iff hf c
      refine gj_aload_n C 0 dX4_level_79 rfl ?_
      refine g_X4_55 C  dX4_level_80 ?_
      refine gj_iload_n C 3 dX4_level_83 rfl ?_
      refine gj_aload_n C 0 dX4_level_84 rfl ?_
      refine g_X4_19 C  dX4_level_85 ?_
      refine gj_iload_n C 3 dX4_level_88 rfl ?_
      obtain ⟨g4, hf⟩ := gw_ifs hf
      refine gj_bld (j := 4) C (by decide) (gw_ibv g4) dX4_level_89 ?_
      refine gj_iload C 4 dX4_level_90 rfl ?_
      replace hf := gw_bnd hf
      obtain ⟨r5, hr5, hf⟩ := hf
      refine gj_cSi (As := [.int (μ 4 v3.toNatClampNeg), .int v4]) (rest := [.int v3, .ref (gw_a Γ 148)]) C cb_X4_84 (s_X4_has (gw_l K) Γ τ μ o (μ 4 v3.toNatClampNeg) v4 r5 hr5) rfl (Nat.le_of_ble_eq_true rfl) dX4_level_92 (gw_rmk rfl) rfl ?_
      refine gj_if_eq C 126 dX4_level_95 (by decide) (fun c => ?_) (fun c => ?_)
      · replace hf := gw_ift hf c
        refine gj_aload_n C 0 dX4_level_126 rfl ?_
        refine g_X4_55 C  dX4_level_127 ?_
        refine gj_iload_n C 3 dX4_level_130 rfl ?_
        obtain ⟨g6, hf⟩ := gw_ifs hf
        refine gj_bld (j := 16) C (by decide) (gw_ibv g6) dX4_level_131 ?_
        obtain ⟨g7, hf⟩ := gw_ifs hf
        refine gj_bst (j := 16) C (by decide) (gw_ibv g7) dX4_level_132 ?_
        refine gj_iinc C 4 4 (v4 + 1) [(4, .int (v4 + 1)), (0, .ref (gw_a Γ 132)), (1, .int v1), (2, .int v2), (3, .int v3)] dX4_level_133 rfl rfl (by decide) rfl ?_
        refine gj_goto C 70 dX4_level_136 (by decide) ?_
        cases hf
        replace hr := gw_il hr
        exact gj_pick [1, 2, 3, 4, 0] _ rfl (ih _ _ _  hr k)
      · replace hf := gw_iff hf c
        refine gj_aload_n C 0 dX4_level_98 rfl ?_
        refine g_X4_55 C  dX4_level_99 ?_
        refine gj_iload C 4 dX4_level_102 rfl ?_
        obtain ⟨g8, hf⟩ := gw_ifs hf
        refine gj_bld (j := 16) C (by decide) (gw_ibv g8) dX4_level_104 ?_
        refine gj_aload_n C 0 dX4_level_105 rfl ?_
        refine g_X4_55 C  dX4_level_106 ?_
        refine gj_iload_n C 3 dX4_level_109 rfl ?_
        obtain ⟨g9, hf⟩ := gw_ifs hf
        refine gj_bld (j := 16) C (by decide) (gw_ibv g9) dX4_level_110 ?_
        refine gj_ic_lt C 126 dX4_level_111 (by decide) (fun c => ?_) (fun c => ?_)
        · replace hf := gw_ift hf c
          refine gj_aload_n C 0 dX4_level_126 rfl ?_
          refine g_X4_55 C  dX4_level_127 ?_
          refine gj_iload_n C 3 dX4_level_130 rfl ?_
          obtain ⟨g10, hf⟩ := gw_ifs hf
          refine gj_bld (j := 16) C (by decide) (gw_ibv g10) dX4_level_131 ?_
          obtain ⟨g11, hf⟩ := gw_ifs hf
          refine gj_bst (j := 16) C (by decide) (gw_ibv g11) dX4_level_132 ?_
          refine gj_iinc C 4 4 (v4 + 1) [(4, .int (v4 + 1)), (0, .ref (gw_a Γ 132)), (1, .int v1), (2, .int v2), (3, .int v3)] dX4_level_133 rfl rfl (by decide) rfl ?_
          refine gj_goto C 70 dX4_level_136 (by decide) ?_
          cases hf
          replace hr := gw_il hr
          exact gj_pick [1, 2, 3, 4, 0] _ rfl (ih _ _ _  hr k)
        · replace hf := gw_iff hf c
          refine gj_aload_n C 0 dX4_level_114 rfl ?_
          refine g_X4_55 C  dX4_level_115 ?_
          refine gj_iload C 4 dX4_level_118 rfl ?_
          obtain ⟨g12, hf⟩ := gw_ifs hf
          refine gj_bld (j := 16) C (by decide) (gw_ibv g12) dX4_level_120 ?_
          refine gj_iconst (v := 1) C dX4_level_121 (by decide) ?_
          refine gj_iadd C dX4_level_122 ?_
          refine gj_goto C 132 dX4_level_123 (by decide) ?_
          obtain ⟨g13, hf⟩ := gw_ifs hf
          refine gj_bst (j := 16) C (by decide) (gw_ibv g13) dX4_level_132 ?_
          refine gj_iinc C 4 4 (v4 + 1) [(4, .int (v4 + 1)), (0, .ref (gw_a Γ 132)), (1, .int v1), (2, .int v2), (3, .int v3)] dX4_level_133 rfl rfl (by decide) rfl ?_
          refine gj_goto C 70 dX4_level_136 (by decide) ?_
          cases hf
          replace hr := gw_il hr
          exact gj_pick [1, 2, 3, 4, 0] _ rfl (ih _ _ _  hr k)
set_option maxRecDepth 100000 in
set_option maxHeartbeats 4000000 in
theorem l_X4_level_3 {K : gw_K} {Γ : gw_G} (C : gw_C K Γ cX4_level 5 RX4) (τ : gw_S) (o : Nat → Int64) (v1 : Int32) (v2 : Int32) : ∀ (n : Nat) (v3 : Int32) (μ : gw_S) (T : Int32 × gw_S), gw_it (b_X4_level_3 v1 v2) n (v3, μ) = some T → (gw_J K Γ gr_X4_level 0 0 (gw_W Γ τ T.2 o) 145 [(0, .ref (gw_a Γ 132)), (1, .int v1), (2, .int v2), (3, .int T.1)] []) → gw_J K Γ gr_X4_level 0 0 (gw_W Γ τ μ o) 59 [(0, .ref (gw_a Γ 132)), (1, .int v1), (2, .int v2), (3, .int v3)] [] := by
  intro n
  induction n with
  | zero => intro v3 μ T  h; cases h
  | succ n ih =>
    intro v3 μ T  h k
    obtain ⟨q, hf, hr⟩ := gw_it_s h
    rw [b_X4_level_3] at hf
    refine gj_iload_n C 3 dX4_level_59 rfl ?_
    refine gj_aload_n C 0 dX4_level_60 rfl ?_
    refine g_X4_71 C  rfl dX4_level_61 ?_
    refine gj_ic_ge C 145 dX4_level_64 (by decide) (fun c => ?_) (fun c => ?_)
    · replace hf := gw_ift hf c
      cases hf
      cases gw_ir hr
      exact gj_pick [0, 1, 2, 3] _ rfl (k )
    · replace hf := gw_iff hf c
      refine gj_iconst (v := 0) C dX4_level_67 (by decide) ?_
      refine gj_istore C 4 [(4, .int (0 : Int32)), (0, .ref (gw_a Γ 132)), (1, .int v1), (2, .int v2), (3, .int v3)] dX4_level_68 (by decide) rfl ?_
      replace hf := gw_bnd hf
      obtain ⟨t14, ht14, hf⟩ := hf
      refine gj_pick [1, 2, 3, 4, 0] _ rfl (l_X4_level_4 C τ o v1 v2 v3 _ _ _ t14  ht14 (?_))
      refine gj_iinc C 3 3 (v3 + 1) [(3, .int (v3 + 1)), (0, .ref (gw_a Γ 132)), (1, .int v1), (2, .int v2), (4, .int t14.1)] dX4_level_139 rfl rfl (by decide) rfl ?_
      refine gj_goto C 59 dX4_level_142 (by decide) ?_
      cases hf
      replace hr := gw_il hr
      exact gj_pick [1, 2, 3, 0] _ rfl (ih _ _ _  hr k)
set_option maxRecDepth 100000 in
set_option maxHeartbeats 4000000 in
theorem l_X4_level_2 {K : gw_K} {Γ : gw_G} (C : gw_C K Γ cX4_level 5 RX4) (τ : gw_S) (o : Nat → Int64) (v1 : Int32) : ∀ (n : Nat) (v2 : Int32) (μ : gw_S) (T : Int32 × gw_S), gw_it (b_X4_level_2 v1) n (v2, μ) = some T → (gw_J K Γ gr_X4_level 0 0 (gw_W Γ τ T.2 o) 151 [(0, .ref (gw_a Γ 132)), (1, .int v1), (2, .int T.1)] []) → gw_J K Γ gr_X4_level 0 0 (gw_W Γ τ μ o) 51 [(0, .ref (gw_a Γ 132)), (1, .int v1), (2, .int v2)] [] := by
  intro n
  induction n with
  | zero => intro v2 μ T  h; cases h
  | succ n ih =>
    intro v2 μ T  h k
    obtain ⟨q, hf, hr⟩ := gw_it_s h
    rw [b_X4_level_2] at hf
    refine gj_iload_n C 2 dX4_level_51 rfl ?_
    refine gj_bipush (v := 20) C dX4_level_52 (by decide) ?_
    refine gj_ic_ge C 151 dX4_level_54 (by decide) (fun c => ?_) (fun c => ?_)
    · replace hf := gw_ift hf c
      cases hf
      cases gw_ir hr
      exact gj_pick [0, 1, 2] _ rfl (k )
    · replace hf := gw_iff hf c
      refine gj_iconst (v := 0) C dX4_level_57 (by decide) ?_
      refine gj_istore_n C 3 [(3, .int (0 : Int32)), (0, .ref (gw_a Γ 132)), (1, .int v1), (2, .int v2)] dX4_level_58 rfl (by decide) rfl ?_
      replace hf := gw_bnd hf
      obtain ⟨t15, ht15, hf⟩ := hf
      refine gj_pick [1, 2, 3, 0] _ rfl (l_X4_level_3 C τ o v1 v2 _ _ _ t15  ht15 (?_))
      refine gj_iinc C 2 2 (v2 + 1) [(2, .int (v2 + 1)), (0, .ref (gw_a Γ 132)), (1, .int v1), (3, .int t15.1)] dX4_level_145 rfl rfl (by decide) rfl ?_
      refine gj_goto C 51 dX4_level_148 (by decide) ?_
      cases hf
      replace hr := gw_il hr
      exact gj_pick [1, 2, 0] _ rfl (ih _ _ _  hr k)
set_option maxRecDepth 100000 in
set_option maxHeartbeats 4000000 in
theorem s_X4_level (l : Launch) (Γ : gw_G) (τ μ : gw_S) (o : Nat → Int64) (a1 : Int32) (r : Int32 × gw_S) (hf : f_X4_level μ a1 = some r) : gw_M l yX4_level [.code yX4_level cX4_level 5 (some .int)] gr_X4_level 0 0 Γ [.ref (gw_a Γ 132), .int a1] (gw_W Γ τ μ o) (gw_qi Γ r.1 (gw_W Γ τ r.2 o)) := by
  refine gw_enter (by decide) (Nat.le_of_ble_eq_true rfl) (fun K C E => ?_)
  unfold f_X4_level at hf
  refine gj_aload_n C 0 dX4_level_0 rfl ?_
  refine gj_aload_n C 0 dX4_level_1 rfl ?_
  refine gj_iload_n C 1 dX4_level_2 rfl ?_
  replace hf := gw_bnd hf
  obtain ⟨r1, hr1, hf⟩ := hf
  refine gj_cVi (As := [.int a1]) (rest := [.ref (gw_a Γ 132)]) C cb_X4_81 (s_X4_isCourse (gw_l K) Γ τ μ o a1 r1 hr1) rfl (Nat.le_of_ble_eq_true rfl) gw_atD rfl rfl dX4_level_3 (gw_rmk rfl) rfl ?_
  refine gj_if_eq C 13 dX4_level_6 (by decide) (fun c => ?_) (fun c => ?_)
  · replace hf := gw_ift hf c
    refine gj_iconst (v := 1) C dX4_level_13 (by decide) ?_
    refine p_X4_68 C  dX4_level_14 ?_
    refine gj_aload_n C 0 dX4_level_17 rfl ?_
    refine g_X4_68 C  (gw_up_s _ _ _ _) dX4_level_18 ?_
    refine gj_if_le C 26 dX4_level_21 (by decide) (fun c => absurd c (by decide)) (fun _ => ?_)
    refine gj_iconst (v := 0) C dX4_level_24 (by decide) ?_
    cases hf
    exact gj_iret C E dX4_level_25 (Nat.le_of_ble_eq_true rfl) (Nat.le_of_ble_eq_true rfl)
  · replace hf := gw_iff hf c
    refine gj_iconst (v := 0) C dX4_level_9 (by decide) ?_
    refine gj_goto C 14 dX4_level_10 (by decide) ?_
    refine p_X4_68 C  dX4_level_14 ?_
    refine gj_aload_n C 0 dX4_level_17 rfl ?_
    refine g_X4_68 C  (gw_up_s _ _ _ _) dX4_level_18 ?_
    refine gj_if_le C 26 dX4_level_21 (by decide) (fun _ => ?_) (fun c => absurd (by decide) c)
    refine gj_iconst (v := 0) C dX4_level_26 (by decide) ?_
    refine gj_istore_n C 2 [(2, .int (0 : Int32)), (0, .ref (gw_a Γ 132)), (1, .int a1)] dX4_level_27 rfl (by decide) rfl ?_
    replace hf := gw_bnd hf
    obtain ⟨t3, ht3, hf⟩ := hf
    refine gj_pick [1, 2, 0] _ rfl (l_X4_level_1 C τ o a1 _ _ _ t3  ht3 (?_))
    refine gj_iconst (v := 0) C dX4_level_49 (by decide) ?_
    refine gj_istore_n C 2 [(2, .int (0 : Int32)), (0, .ref (gw_a Γ 132)), (1, .int a1)] dX4_level_50 rfl (by decide) rfl ?_
    replace hf := gw_bnd hf
    obtain ⟨t16, ht16, hf⟩ := hf
    refine gj_pick [1, 2, 0] _ rfl (l_X4_level_2 C τ o a1 _ _ _ t16  ht16 (?_))
    refine gj_aload_n C 0 dX4_level_151 rfl ?_
    refine g_X4_55 C  dX4_level_152 ?_
    refine gj_iload_n C 1 dX4_level_155 rfl ?_
    obtain ⟨g17, hf⟩ := gw_ifs hf
    refine gj_bld (j := 16) C (by decide) (gw_ibv g17) dX4_level_156 ?_
    cases hf
    exact gj_iret C E dX4_level_157 (Nat.le_of_ble_eq_true rfl) (Nat.le_of_ble_eq_true rfl)
set_option maxRecDepth 100000 in
set_option maxHeartbeats 4000000 in
theorem s_X4_courses (l : Launch) (Γ : gw_G) (τ μ : gw_S) (o : Nat → Int64) (r : Int32 × gw_S) (hf : f_X4_courses μ = some r) : gw_M l yX4_courses [.code yX4_courses cX4_courses 1 (some .int)] gr_X4_courses 0 0 Γ [.ref (gw_a Γ 132)] (gw_W Γ τ μ o) (gw_qi Γ r.1 (gw_W Γ τ r.2 o)) := by
  refine gw_enter (by decide) (Nat.le_of_ble_eq_true rfl) (fun K C E => ?_)
  unfold f_X4_courses at hf
  refine gj_aload_n C 0 dX4_courses_0 rfl ?_
  refine gj_iconst (v := 0) C dX4_courses_1 (by decide) ?_
  refine p_X4_68 C  dX4_courses_2 ?_
  refine gj_aload_n C 0 dX4_courses_5 rfl ?_
  refine g_X4_71 C  (gw_up_n (by omega)) dX4_courses_6 ?_
  cases hf
  exact gj_iret C E dX4_courses_9 (Nat.le_of_ble_eq_true rfl) (Nat.le_of_ble_eq_true rfl)
set_option maxRecDepth 100000 in
set_option maxHeartbeats 4000000 in
theorem s_X4_enrolled (l : Launch) (Γ : gw_G) (τ μ : gw_S) (o : Nat → Int64) (a1 : Int32) (r : Int32 × gw_S) (hf : f_X4_enrolled μ a1 = some r) : gw_M l yX4_enrolled [.code yX4_enrolled cX4_enrolled 2 (some .int)] gr_X4_enrolled 0 0 Γ [.ref (gw_a Γ 132), .int a1] (gw_W Γ τ μ o) (gw_qi Γ r.1 (gw_W Γ τ r.2 o)) := by
  refine gw_enter (by decide) (Nat.le_of_ble_eq_true rfl) (fun K C E => ?_)
  unfold f_X4_enrolled at hf
  refine gj_aload_n C 0 dX4_enrolled_0 rfl ?_
  refine gj_aload_n C 0 dX4_enrolled_1 rfl ?_
  refine gj_iload_n C 1 dX4_enrolled_2 rfl ?_
  replace hf := gw_bnd hf
  obtain ⟨r1, hr1, hf⟩ := hf
  refine gj_cVi (As := [.int a1]) (rest := [.ref (gw_a Γ 132)]) C cb_X4_81 (s_X4_isCourse (gw_l K) Γ τ μ o a1 r1 hr1) rfl (Nat.le_of_ble_eq_true rfl) gw_atD rfl rfl dX4_enrolled_3 (gw_rmk rfl) rfl ?_
  refine gj_if_eq C 13 dX4_enrolled_6 (by decide) (fun c => ?_) (fun c => ?_)
  · replace hf := gw_ift hf c
    refine gj_iconst (v := 1) C dX4_enrolled_13 (by decide) ?_
    refine p_X4_68 C  dX4_enrolled_14 ?_
    refine gj_aload_n C 0 dX4_enrolled_17 rfl ?_
    refine g_X4_68 C  (gw_up_s _ _ _ _) dX4_enrolled_18 ?_
    refine gj_if_ne C 32 dX4_enrolled_21 (by decide) (fun _ => ?_) (fun c => absurd c (by decide))
    refine gj_iconst (v := 0) C dX4_enrolled_32 (by decide) ?_
    cases hf
    exact gj_iret C E dX4_enrolled_33 (Nat.le_of_ble_eq_true rfl) (Nat.le_of_ble_eq_true rfl)
  · replace hf := gw_iff hf c
    refine gj_iconst (v := 0) C dX4_enrolled_9 (by decide) ?_
    refine gj_goto C 14 dX4_enrolled_10 (by decide) ?_
    refine p_X4_68 C  dX4_enrolled_14 ?_
    refine gj_aload_n C 0 dX4_enrolled_17 rfl ?_
    refine g_X4_68 C  (gw_up_s _ _ _ _) dX4_enrolled_18 ?_
    refine gj_if_ne C 32 dX4_enrolled_21 (by decide) (fun c => absurd (by decide) c) (fun _ => ?_)
    refine gj_aload_n C 0 dX4_enrolled_24 rfl ?_
    refine gj_iload_n C 1 dX4_enrolled_25 rfl ?_
    replace hf := gw_bnd hf
    obtain ⟨r2, hr2, hf⟩ := hf
    refine gj_cVi (As := [.int a1]) (rest := []) C cb_X4_95 (s_X4_inCourse (gw_l K) Γ τ (gw_up μ 0 18 (0 : Int32)) o a1 r2 hr2) rfl (Nat.le_of_ble_eq_true rfl) gw_atD rfl rfl dX4_enrolled_26 (gw_rmk rfl) rfl ?_
    refine gj_goto C 33 dX4_enrolled_29 (by decide) ?_
    cases hf
    exact gj_iret C E dX4_enrolled_33 (Nat.le_of_ble_eq_true rfl) (Nat.le_of_ble_eq_true rfl)
set_option maxRecDepth 100000 in
set_option maxHeartbeats 4000000 in
theorem s_X4_freeSeats (l : Launch) (Γ : gw_G) (τ μ : gw_S) (o : Nat → Int64) (a1 : Int32) (r : Int32 × gw_S) (hf : f_X4_freeSeats μ a1 = some r) : gw_M l yX4_freeSeats [.code yX4_freeSeats cX4_freeSeats 2 (some .int)] gr_X4_freeSeats 0 0 Γ [.ref (gw_a Γ 132), .int a1] (gw_W Γ τ μ o) (gw_qi Γ r.1 (gw_W Γ τ r.2 o)) := by
  refine gw_enter (by decide) (Nat.le_of_ble_eq_true rfl) (fun K C E => ?_)
  unfold f_X4_freeSeats at hf
  refine gj_aload_n C 0 dX4_freeSeats_0 rfl ?_
  refine gj_aload_n C 0 dX4_freeSeats_1 rfl ?_
  refine gj_iload_n C 1 dX4_freeSeats_2 rfl ?_
  replace hf := gw_bnd hf
  obtain ⟨r1, hr1, hf⟩ := hf
  refine gj_cVi (As := [.int a1]) (rest := [.ref (gw_a Γ 132)]) C cb_X4_81 (s_X4_isCourse (gw_l K) Γ τ μ o a1 r1 hr1) rfl (Nat.le_of_ble_eq_true rfl) gw_atD rfl rfl dX4_freeSeats_3 (gw_rmk rfl) rfl ?_
  refine gj_if_eq C 13 dX4_freeSeats_6 (by decide) (fun c => ?_) (fun c => ?_)
  · replace hf := gw_ift hf c
    refine gj_iconst (v := 1) C dX4_freeSeats_13 (by decide) ?_
    refine p_X4_68 C  dX4_freeSeats_14 ?_
    refine gj_aload_n C 0 dX4_freeSeats_17 rfl ?_
    refine g_X4_68 C  (gw_up_s _ _ _ _) dX4_freeSeats_18 ?_
    refine gj_if_ne C 32 dX4_freeSeats_21 (by decide) (fun _ => ?_) (fun c => absurd c (by decide))
    refine gj_iconst (v := 0) C dX4_freeSeats_32 (by decide) ?_
    cases hf
    exact gj_iret C E dX4_freeSeats_33 (Nat.le_of_ble_eq_true rfl) (Nat.le_of_ble_eq_true rfl)
  · replace hf := gw_iff hf c
    refine gj_iconst (v := 0) C dX4_freeSeats_9 (by decide) ?_
    refine gj_goto C 14 dX4_freeSeats_10 (by decide) ?_
    refine p_X4_68 C  dX4_freeSeats_14 ?_
    refine gj_aload_n C 0 dX4_freeSeats_17 rfl ?_
    refine g_X4_68 C  (gw_up_s _ _ _ _) dX4_freeSeats_18 ?_
    refine gj_if_ne C 32 dX4_freeSeats_21 (by decide) (fun c => absurd (by decide) c) (fun _ => ?_)
    refine gj_aload_n C 0 dX4_freeSeats_24 rfl ?_
    refine gj_iload_n C 1 dX4_freeSeats_25 rfl ?_
    replace hf := gw_bnd hf
    obtain ⟨r2, hr2, hf⟩ := hf
    refine gj_cVi (As := [.int a1]) (rest := []) C cb_X4_115 (s_X4_free (gw_l K) Γ τ (gw_up μ 0 18 (0 : Int32)) o a1 r2 hr2) rfl (Nat.le_of_ble_eq_true rfl) gw_atD rfl rfl dX4_freeSeats_26 (gw_rmk rfl) rfl ?_
    refine gj_goto C 33 dX4_freeSeats_29 (by decide) ?_
    cases hf
    exact gj_iret C E dX4_freeSeats_33 (Nat.le_of_ble_eq_true rfl) (Nat.le_of_ble_eq_true rfl)
set_option maxRecDepth 100000 in
set_option maxHeartbeats 4000000 in
theorem l_X4_addStudent_1 {K : gw_K} {Γ : gw_G} (C : gw_C K Γ cX4_addStudent 5 RX4) (τ : gw_S) (o : Nat → Int64) (v1 : Int32) (v2 : Int32) (v3 : Int32) : ∀ (n : Nat) (v4 : Int32) (μ : gw_S) (T : Int32 × gw_S), gw_it (b_X4_addStudent_1 v1 v2 v3) n (v4, μ) = some T → (gw_J K Γ gr_X4_addStudent 0 0 (gw_W Γ τ T.2 o) 134 [(0, .ref (gw_a Γ 132)), (1, .int v1), (2, .int v2), (3, .int v3), (4, .int T.1)] []) → gw_J K Γ gr_X4_addStudent 0 0 (gw_W Γ τ μ o) 108 [(0, .ref (gw_a Γ 132)), (1, .int v1), (2, .int v2), (3, .int v3), (4, .int v4)] [] := by
  intro n
  induction n with
  | zero => intro v4 μ T  h; cases h
  | succ n ih =>
    intro v4 μ T  h k
    obtain ⟨q, hf, hr⟩ := gw_it_s h
    rw [b_X4_addStudent_1] at hf
    refine gj_iload C 4 dX4_addStudent_108 rfl ?_
    refine gj_bipush (v := 20) C dX4_addStudent_110 (by decide) ?_
    refine gj_ic_ge C 134 dX4_addStudent_112 (by decide) (fun c => ?_) (fun c => ?_)
    · replace hf := gw_ift hf c
      cases hf
      cases gw_ir hr
      exact gj_pick [0, 1, 2, 3, 4] _ rfl (k )
    · replace hf := gw_iff hf c
      refine gj_aload_n C 0 dX4_addStudent_115 rfl ?_
      refine g_X4_52 C  dX4_addStudent_116 ?_
      refine gj_bipush (v := 16) C dX4_addStudent_119 (by decide) ?_
      refine gj_iload C 4 dX4_addStudent_121 rfl ?_
      refine gj_imul C dX4_addStudent_123 ?_
      refine gj_iload_n C 3 dX4_addStudent_124 rfl ?_
      refine gj_iadd C dX4_addStudent_125 ?_
      refine gj_iconst (v := -1) C dX4_addStudent_126 (by decide) ?_
      obtain ⟨g8, hf⟩ := gw_ifs hf
      refine gj_bst (j := 15) C (by decide) (gw_ibv g8) dX4_addStudent_127 ?_
      refine gj_iinc C 4 4 (v4 + 1) [(4, .int (v4 + 1)), (0, .ref (gw_a Γ 132)), (1, .int v1), (2, .int v2), (3, .int v3)] dX4_addStudent_128 rfl rfl (by decide) rfl ?_
      refine gj_goto C 108 dX4_addStudent_131 (by decide) ?_
      cases hf
      replace hr := gw_il hr
      exact gj_pick [1, 2, 3, 4, 0] _ rfl (ih _ _ _  hr k)
set_option maxRecDepth 100000 in
set_option maxHeartbeats 4000000 in
theorem s_X4_addStudent (l : Launch) (Γ : gw_G) (τ μ : gw_S) (o : Nat → Int64) (a1 : Int32) (a2 : Int32) (r : Int32 × gw_S) (hf : f_X4_addStudent μ a1 a2 = some r) : gw_M l yX4_addStudent [.code yX4_addStudent cX4_addStudent 5 (some .int)] gr_X4_addStudent 0 0 Γ [.ref (gw_a Γ 132), .int a1, .int a2] (gw_W Γ τ μ o) (gw_qi Γ r.1 (gw_W Γ τ r.2 o)) := by
  refine gw_enter (by decide) (Nat.le_of_ble_eq_true rfl) (fun K C E => ?_)
  unfold f_X4_addStudent at hf
  refine gj_aload_n C 0 dX4_addStudent_0 rfl ?_
  refine gj_iload_n C 1 dX4_addStudent_1 rfl ?_
  refine gj_if_lt C 21 dX4_addStudent_2 (by decide) (fun c => ?_) (fun c => ?_)
  · replace hf := gw_ift hf c
    refine gj_iconst (v := 1) C dX4_addStudent_21 (by decide) ?_
    refine gj_goto C 39 dX4_addStudent_22 (by decide) ?_
    refine p_X4_68 C  dX4_addStudent_39 ?_
    refine gj_aload_n C 0 dX4_addStudent_42 rfl ?_
    refine g_X4_68 C  (gw_up_s _ _ _ _) dX4_addStudent_43 ?_
    refine gj_if_le C 51 dX4_addStudent_46 (by decide) (fun c => absurd c (by decide)) (fun _ => ?_)
    refine gj_iconst (v := 0) C dX4_addStudent_49 (by decide) ?_
    cases hf
    exact gj_iret C E dX4_addStudent_50 (Nat.le_of_ble_eq_true rfl) (Nat.le_of_ble_eq_true rfl)
  · replace hf := gw_iff hf c
    refine gj_iload_n C 1 dX4_addStudent_5 rfl ?_
    refine gj_iconst (v := 3) C dX4_addStudent_6 (by decide) ?_
    refine gj_ic_gt C 21 dX4_addStudent_7 (by decide) (fun c => ?_) (fun c => ?_)
    · replace hf := gw_ift hf c
      refine gj_iconst (v := 1) C dX4_addStudent_21 (by decide) ?_
      refine gj_goto C 39 dX4_addStudent_22 (by decide) ?_
      refine p_X4_68 C  dX4_addStudent_39 ?_
      refine gj_aload_n C 0 dX4_addStudent_42 rfl ?_
      refine g_X4_68 C  (gw_up_s _ _ _ _) dX4_addStudent_43 ?_
      refine gj_if_le C 51 dX4_addStudent_46 (by decide) (fun c => absurd c (by decide)) (fun _ => ?_)
      refine gj_iconst (v := 0) C dX4_addStudent_49 (by decide) ?_
      cases hf
      exact gj_iret C E dX4_addStudent_50 (Nat.le_of_ble_eq_true rfl) (Nat.le_of_ble_eq_true rfl)
    · replace hf := gw_iff hf c
      refine gj_iload_n C 2 dX4_addStudent_10 rfl ?_
      refine gj_iconst (v := 1) C dX4_addStudent_11 (by decide) ?_
      refine gj_ic_lt C 21 dX4_addStudent_12 (by decide) (fun c => ?_) (fun c => ?_)
      · replace hf := gw_ift hf c
        refine gj_iconst (v := 1) C dX4_addStudent_21 (by decide) ?_
        refine gj_goto C 39 dX4_addStudent_22 (by decide) ?_
        refine p_X4_68 C  dX4_addStudent_39 ?_
        refine gj_aload_n C 0 dX4_addStudent_42 rfl ?_
        refine g_X4_68 C  (gw_up_s _ _ _ _) dX4_addStudent_43 ?_
        refine gj_if_le C 51 dX4_addStudent_46 (by decide) (fun c => absurd c (by decide)) (fun _ => ?_)
        refine gj_iconst (v := 0) C dX4_addStudent_49 (by decide) ?_
        cases hf
        exact gj_iret C E dX4_addStudent_50 (Nat.le_of_ble_eq_true rfl) (Nat.le_of_ble_eq_true rfl)
      · replace hf := gw_iff hf c
        refine gj_iload_n C 2 dX4_addStudent_15 rfl ?_
        refine gj_bipush (v := 40) C dX4_addStudent_16 (by decide) ?_
        refine gj_ic_le C 25 dX4_addStudent_18 (by decide) (fun c => ?_) (fun c => ?_)
        · replace hf := gw_ift hf c
          refine gj_aload_n C 0 dX4_addStudent_25 rfl ?_
          refine g_X4_74 C  rfl dX4_addStudent_26 ?_
          refine gj_bipush (v := 16) C dX4_addStudent_29 (by decide) ?_
          refine gj_ic_ne C 38 dX4_addStudent_31 (by decide) (fun c => ?_) (fun c => ?_)
          · replace hf := gw_iff hf c
            refine gj_iconst (v := 0) C dX4_addStudent_38 (by decide) ?_
            refine p_X4_68 C  dX4_addStudent_39 ?_
            refine gj_aload_n C 0 dX4_addStudent_42 rfl ?_
            refine g_X4_68 C  (gw_up_s _ _ _ _) dX4_addStudent_43 ?_
            refine gj_if_le C 51 dX4_addStudent_46 (by decide) (fun _ => ?_) (fun c => absurd (by decide) c)
            refine gj_aload_n C 0 dX4_addStudent_51 rfl ?_
            refine g_X4_74 C  (gw_up_n (by omega)) dX4_addStudent_52 ?_
            refine gj_istore_n C 3 [(3, .int (μ 0 5)), (0, .ref (gw_a Γ 132)), (1, .int a1), (2, .int a2)] dX4_addStudent_55 rfl (by decide) rfl ?_
            refine gj_aload_n C 1 dX4_addStudent_56 rfl ?_
            refine g_X4_22 C  dX4_addStudent_57 ?_
            refine gj_iload_n C 0 dX4_addStudent_60 rfl ?_
            refine gj_iload_n C 2 dX4_addStudent_61 rfl ?_
            obtain ⟨g1, hf⟩ := gw_ifs hf
            refine gj_bst (j := 5) C (by decide) (gw_ibv g1) dX4_addStudent_62 ?_
            refine gj_aload_n C 1 dX4_addStudent_63 rfl ?_
            refine g_X4_25 C  dX4_addStudent_64 ?_
            refine gj_iload_n C 0 dX4_addStudent_67 rfl ?_
            refine gj_iload_n C 3 dX4_addStudent_68 rfl ?_
            obtain ⟨g2, hf⟩ := gw_ifs hf
            refine gj_bst (j := 6) C (by decide) (gw_ibv g2) dX4_addStudent_69 ?_
            refine gj_aload_n C 1 dX4_addStudent_70 rfl ?_
            refine g_X4_28 C  dX4_addStudent_71 ?_
            refine gj_iload_n C 0 dX4_addStudent_74 rfl ?_
            refine gj_iconst (v := 0) C dX4_addStudent_75 (by decide) ?_
            obtain ⟨g3, hf⟩ := gw_ifs hf
            refine gj_bst (j := 7) C (by decide) (gw_ibv g3) dX4_addStudent_76 ?_
            refine gj_aload_n C 1 dX4_addStudent_77 rfl ?_
            refine g_X4_31 C  dX4_addStudent_78 ?_
            refine gj_iload_n C 0 dX4_addStudent_81 rfl ?_
            refine gj_iconst (v := 0) C dX4_addStudent_82 (by decide) ?_
            obtain ⟨g4, hf⟩ := gw_ifs hf
            refine gj_bst (j := 8) C (by decide) (gw_ibv g4) dX4_addStudent_83 ?_
            refine gj_aload_n C 1 dX4_addStudent_84 rfl ?_
            refine g_X4_34 C  dX4_addStudent_85 ?_
            refine gj_iload_n C 0 dX4_addStudent_88 rfl ?_
            refine gj_iconst (v := 0) C dX4_addStudent_89 (by decide) ?_
            obtain ⟨g5, hf⟩ := gw_ifs hf
            refine gj_bst (j := 9) C (by decide) (gw_ibv g5) dX4_addStudent_90 ?_
            refine gj_aload_n C 1 dX4_addStudent_91 rfl ?_
            refine g_X4_40 C  dX4_addStudent_92 ?_
            refine gj_iload_n C 0 dX4_addStudent_95 rfl ?_
            refine gj_iconst (v := -1) C dX4_addStudent_96 (by decide) ?_
            obtain ⟨g6, hf⟩ := gw_ifs hf
            refine gj_bst (j := 11) C (by decide) (gw_ibv g6) dX4_addStudent_97 ?_
            refine gj_aload_n C 1 dX4_addStudent_98 rfl ?_
            refine g_X4_43 C  dX4_addStudent_99 ?_
            refine gj_iload_n C 0 dX4_addStudent_102 rfl ?_
            refine gj_iconst (v := -1) C dX4_addStudent_103 (by decide) ?_
            obtain ⟨g7, hf⟩ := gw_ifs hf
            refine gj_bst (j := 12) C (by decide) (gw_ibv g7) dX4_addStudent_104 ?_
            refine gj_iconst (v := 0) C dX4_addStudent_105 (by decide) ?_
            refine gj_istore C 4 [(4, .int (0 : Int32)), (3, .int (μ 0 5)), (0, .ref (gw_a Γ 132)), (1, .int a1), (2, .int a2)] dX4_addStudent_106 (by decide) rfl ?_
            replace hf := gw_bnd hf
            obtain ⟨t9, ht9, hf⟩ := hf
            refine gj_pick [2, 3, 4, 1, 0] _ rfl (l_X4_addStudent_1 C τ o a1 a2 (μ 0 5) _ _ _ t9  ht9 (?_))
            refine gj_aload_n C 0 dX4_addStudent_134 rfl ?_
            refine gj_dup C dX4_addStudent_135 rfl ?_
            refine g_X4_74 C  rfl dX4_addStudent_136 ?_
            refine gj_iconst (v := 1) C dX4_addStudent_139 (by decide) ?_
            refine gj_iadd C dX4_addStudent_140 ?_
            refine p_X4_74 C  dX4_addStudent_141 ?_
            refine gj_iload_n C 3 dX4_addStudent_144 rfl ?_
            cases hf
            exact gj_iret C E dX4_addStudent_145 (Nat.le_of_ble_eq_true rfl) (Nat.le_of_ble_eq_true rfl)
          · replace hf := gw_ift hf c
            refine gj_iconst (v := 2) C dX4_addStudent_34 (by decide) ?_
            refine gj_goto C 39 dX4_addStudent_35 (by decide) ?_
            refine p_X4_68 C  dX4_addStudent_39 ?_
            refine gj_aload_n C 0 dX4_addStudent_42 rfl ?_
            refine g_X4_68 C  (gw_up_s _ _ _ _) dX4_addStudent_43 ?_
            refine gj_if_le C 51 dX4_addStudent_46 (by decide) (fun c => absurd c (by decide)) (fun _ => ?_)
            refine gj_iconst (v := 0) C dX4_addStudent_49 (by decide) ?_
            cases hf
            exact gj_iret C E dX4_addStudent_50 (Nat.le_of_ble_eq_true rfl) (Nat.le_of_ble_eq_true rfl)
        · replace hf := gw_iff hf c
          refine gj_iconst (v := 1) C dX4_addStudent_21 (by decide) ?_
          refine gj_goto C 39 dX4_addStudent_22 (by decide) ?_
          refine p_X4_68 C  dX4_addStudent_39 ?_
          refine gj_aload_n C 0 dX4_addStudent_42 rfl ?_
          refine g_X4_68 C  (gw_up_s _ _ _ _) dX4_addStudent_43 ?_
          refine gj_if_le C 51 dX4_addStudent_46 (by decide) (fun c => absurd c (by decide)) (fun _ => ?_)
          refine gj_iconst (v := 0) C dX4_addStudent_49 (by decide) ?_
          cases hf
          exact gj_iret C E dX4_addStudent_50 (Nat.le_of_ble_eq_true rfl) (Nat.le_of_ble_eq_true rfl)
set_option maxRecDepth 100000 in
set_option maxHeartbeats 4000000 in
theorem s_X4_pass (l : Launch) (Γ : gw_G) (τ μ : gw_S) (o : Nat → Int64) (a1 : Int32) (a2 : Int32) (r : Int32 × gw_S) (hf : f_X4_pass μ a1 a2 = some r) : gw_M l yX4_pass [.code yX4_pass cX4_pass 3 (some .int)] gr_X4_pass 0 0 Γ [.ref (gw_a Γ 132), .int a1, .int a2] (gw_W Γ τ μ o) (gw_qi Γ r.1 (gw_W Γ τ r.2 o)) := by
  refine gw_enter (by decide) (Nat.le_of_ble_eq_true rfl) (fun K C E => ?_)
  unfold f_X4_pass at hf
  refine gj_aload_n C 0 dX4_pass_0 rfl ?_
  refine gj_iload_n C 1 dX4_pass_1 rfl ?_
  refine gj_iload_n C 2 dX4_pass_2 rfl ?_
  replace hf := gw_bnd hf
  obtain ⟨r1, hr1, hf⟩ := hf
  refine gj_cVi (As := [.int a1, .int a2]) (rest := []) C cb_X4_129 (s_X4_areBoth (gw_l K) Γ τ μ o a1 a2 r1 hr1) rfl (Nat.le_of_ble_eq_true rfl) gw_atD rfl rfl dX4_pass_3 (gw_rmk rfl) rfl ?_
  refine gj_if_ne C 11 dX4_pass_6 (by decide) (fun c => ?_) (fun c => ?_)
  · replace hf := gw_iff hf c
    refine gj_aload_n C 0 dX4_pass_11 rfl ?_
    refine g_X4_28 C  dX4_pass_12 ?_
    refine gj_iload_n C 1 dX4_pass_15 rfl ?_
    obtain ⟨g2, hf⟩ := gw_ifs hf
    refine gj_bld (j := 7) C (by decide) (gw_ibv g2) dX4_pass_16 ?_
    refine gj_iload_n C 2 dX4_pass_17 rfl ?_
    replace hf := gw_bnd hf
    obtain ⟨r3, hr3, hf⟩ := hf
    refine gj_cSi (As := [.int (r1.2 7 a1.toNatClampNeg), .int a2]) (rest := []) C cb_X4_84 (s_X4_has (gw_l K) Γ τ r1.2 o (r1.2 7 a1.toNatClampNeg) a2 r3 hr3) rfl (Nat.le_of_ble_eq_true rfl) dX4_pass_18 (gw_rmk rfl) rfl ?_
    refine gj_if_ne C 37 dX4_pass_21 (by decide) (fun c => ?_) (fun c => ?_)
    · replace hf := gw_iff hf c
      refine gj_aload_n C 0 dX4_pass_37 rfl ?_
      refine gj_iconst (v := 2) C dX4_pass_38 (by decide) ?_
      refine p_X4_68 C  dX4_pass_39 ?_
      refine gj_iconst (v := 0) C dX4_pass_42 (by decide) ?_
      cases hf
      exact gj_iret C E dX4_pass_43 (Nat.le_of_ble_eq_true rfl) (Nat.le_of_ble_eq_true rfl)
    · replace hf := gw_ift hf c
      refine gj_aload_n C 0 dX4_pass_24 rfl ?_
      refine g_X4_31 C  dX4_pass_25 ?_
      refine gj_iload_n C 1 dX4_pass_28 rfl ?_
      obtain ⟨g4, hf⟩ := gw_ifs hf
      refine gj_bld (j := 8) C (by decide) (gw_ibv g4) dX4_pass_29 ?_
      refine gj_iload_n C 2 dX4_pass_30 rfl ?_
      replace hf := gw_bnd hf
      obtain ⟨r5, hr5, hf⟩ := hf
      refine gj_cSi (As := [.int (r1.2 8 a1.toNatClampNeg), .int a2]) (rest := []) C cb_X4_84 (s_X4_has (gw_l K) Γ τ r1.2 o (r1.2 8 a1.toNatClampNeg) a2 r5 hr5) rfl (Nat.le_of_ble_eq_true rfl) dX4_pass_31 (gw_rmk rfl) rfl ?_
      refine gj_if_eq C 44 dX4_pass_34 (by decide) (fun c => ?_) (fun c => ?_)
      · replace hf := gw_ift hf c
        refine gj_aload_n C 0 dX4_pass_44 rfl ?_
        refine g_X4_28 C  dX4_pass_45 ?_
        refine gj_iload_n C 1 dX4_pass_48 rfl ?_
        refine gj_dup2 C dX4_pass_49 rfl rfl ?_
        obtain ⟨g6, hf⟩ := gw_ifs hf
        refine gj_bld (j := 7) C (by decide) (gw_ibv g6) dX4_pass_50 ?_
        refine gj_iconst (v := 1) C dX4_pass_51 (by decide) ?_
        refine gj_iload_n C 2 dX4_pass_52 rfl ?_
        refine gj_ishl C dX4_pass_53 ?_
        refine gj_ior C dX4_pass_54 ?_
        obtain ⟨g7, hf⟩ := gw_ifs hf
        refine gj_bst (j := 7) C (by decide) (gw_ibv g7) dX4_pass_55 ?_
        refine gj_aload_n C 0 dX4_pass_56 rfl ?_
        refine gj_iload_n C 1 dX4_pass_57 rfl ?_
        refine gj_iload_n C 2 dX4_pass_58 rfl ?_
        replace hf := gw_bnd hf
        obtain ⟨r8, hr8, hf⟩ := hf
        refine gj_cVv (As := [.int a1, .int a2]) (rest := []) C cb_X4_108 (s_X4_dropsWish (gw_l K) Γ τ (gw_up r1.2 7 a1.toNatClampNeg ((r1.2 7 a1.toNatClampNeg) ||| ((1 : Int32) <<< (a2 &&& 31)))) o a1 a2 r8 hr8) rfl (Nat.le_of_ble_eq_true rfl) gw_atD rfl rfl dX4_pass_59 (gw_rmk rfl) rfl ?_
        refine gj_aload_n C 0 dX4_pass_62 rfl ?_
        refine gj_iload_n C 1 dX4_pass_63 rfl ?_
        refine gj_iload_n C 2 dX4_pass_64 rfl ?_
        replace hf := gw_bnd hf
        obtain ⟨r9, hr9, hf⟩ := hf
        refine gj_cVv (As := [.int a1, .int a2]) (rest := []) C cb_X4_112 (s_X4_leavesList (gw_l K) Γ τ r8 o a1 a2 r9 hr9) rfl (Nat.le_of_ble_eq_true rfl) gw_atD rfl rfl dX4_pass_65 (gw_rmk rfl) rfl ?_
        refine gj_aload_n C 0 dX4_pass_68 rfl ?_
        replace hf := gw_bnd hf
        obtain ⟨r10, hr10, hf⟩ := hf
        refine gj_cVv (As := []) (rest := []) C cb_X4_123 (s_X4_offers (gw_l K) Γ τ r9 o  r10 hr10) rfl (Nat.le_of_ble_eq_true rfl) gw_atD rfl rfl dX4_pass_69 (gw_rmk rfl) rfl ?_
        refine gj_aload_n C 0 dX4_pass_72 rfl ?_
        refine g_X4_28 C  dX4_pass_73 ?_
        refine gj_iload_n C 1 dX4_pass_76 rfl ?_
        obtain ⟨g11, hf⟩ := gw_ifs hf
        refine gj_bld (j := 7) C (by decide) (gw_ibv g11) dX4_pass_77 ?_
        replace hf := gw_bnd hf
        obtain ⟨r12, hr12, hf⟩ := hf
        refine gj_cSi (As := [.int (r10 7 a1.toNatClampNeg)]) (rest := []) C cb_X4_126 (s_X4_size (gw_l K) Γ τ r10 o (r10 7 a1.toNatClampNeg) r12 hr12) rfl (Nat.le_of_ble_eq_true rfl) dX4_pass_78 (gw_rmk rfl) rfl ?_
        cases hf
        exact gj_iret C E dX4_pass_81 (Nat.le_of_ble_eq_true rfl) (Nat.le_of_ble_eq_true rfl)
      · replace hf := gw_iff hf c
        refine gj_aload_n C 0 dX4_pass_37 rfl ?_
        refine gj_iconst (v := 2) C dX4_pass_38 (by decide) ?_
        refine p_X4_68 C  dX4_pass_39 ?_
        refine gj_iconst (v := 0) C dX4_pass_42 (by decide) ?_
        cases hf
        exact gj_iret C E dX4_pass_43 (Nat.le_of_ble_eq_true rfl) (Nat.le_of_ble_eq_true rfl)
  · replace hf := gw_ift hf c
    refine gj_iconst (v := 0) C dX4_pass_9 (by decide) ?_
    cases hf
    exact gj_iret C E dX4_pass_10 (Nat.le_of_ble_eq_true rfl) (Nat.le_of_ble_eq_true rfl)
set_option maxRecDepth 100000 in
set_option maxHeartbeats 4000000 in
theorem s_X4_students (l : Launch) (Γ : gw_G) (τ μ : gw_S) (o : Nat → Int64) (r : Int32 × gw_S) (hf : f_X4_students μ = some r) : gw_M l yX4_students [.code yX4_students cX4_students 1 (some .int)] gr_X4_students 0 0 Γ [.ref (gw_a Γ 132)] (gw_W Γ τ μ o) (gw_qi Γ r.1 (gw_W Γ τ r.2 o)) := by
  refine gw_enter (by decide) (Nat.le_of_ble_eq_true rfl) (fun K C E => ?_)
  unfold f_X4_students at hf
  refine gj_aload_n C 0 dX4_students_0 rfl ?_
  refine gj_iconst (v := 0) C dX4_students_1 (by decide) ?_
  refine p_X4_68 C  dX4_students_2 ?_
  refine gj_aload_n C 0 dX4_students_5 rfl ?_
  refine g_X4_74 C  (gw_up_n (by omega)) dX4_students_6 ?_
  cases hf
  exact gj_iret C E dX4_students_9 (Nat.le_of_ble_eq_true rfl) (Nat.le_of_ble_eq_true rfl)
set_option maxRecDepth 100000 in
set_option maxHeartbeats 4000000 in
theorem s_X4_hasPassed (l : Launch) (Γ : gw_G) (τ μ : gw_S) (o : Nat → Int64) (a1 : Int32) (a2 : Int32) (r : Int32 × gw_S) (hf : f_X4_hasPassed μ a1 a2 = some r) : gw_M l yX4_hasPassed [.code yX4_hasPassed cX4_hasPassed 3 (some .boolean)] gr_X4_hasPassed 0 0 Γ [.ref (gw_a Γ 132), .int a1, .int a2] (gw_W Γ τ μ o) (gw_qi Γ r.1 (gw_W Γ τ r.2 o)) := by
  refine gw_enter (by decide) (Nat.le_of_ble_eq_true rfl) (fun K C E => ?_)
  unfold f_X4_hasPassed at hf
  refine gj_aload_n C 0 dX4_hasPassed_0 rfl ?_
  refine gj_iload_n C 1 dX4_hasPassed_1 rfl ?_
  refine gj_iload_n C 2 dX4_hasPassed_2 rfl ?_
  replace hf := gw_bnd hf
  obtain ⟨r1, hr1, hf⟩ := hf
  refine gj_cVi (As := [.int a1, .int a2]) (rest := []) C cb_X4_129 (s_X4_areBoth (gw_l K) Γ τ μ o a1 a2 r1 hr1) rfl (Nat.le_of_ble_eq_true rfl) gw_atD rfl rfl dX4_hasPassed_3 (gw_rmk rfl) rfl ?_
  refine gj_if_eq C 26 dX4_hasPassed_6 (by decide) (fun c => ?_) (fun c => ?_)
  · replace hf := gw_ift hf c
    refine gj_iconst (v := 0) C dX4_hasPassed_26 (by decide) ?_
    cases hf
    exact gj_zret C E (by decide) dX4_hasPassed_27 (Nat.le_of_ble_eq_true rfl) (Nat.le_of_ble_eq_true rfl)
  · replace hf := gw_iff hf c
    refine gj_aload_n C 0 dX4_hasPassed_9 rfl ?_
    refine g_X4_28 C  dX4_hasPassed_10 ?_
    refine gj_iload_n C 1 dX4_hasPassed_13 rfl ?_
    obtain ⟨g2, hf⟩ := gw_ifs hf
    refine gj_bld (j := 7) C (by decide) (gw_ibv g2) dX4_hasPassed_14 ?_
    refine gj_iload_n C 2 dX4_hasPassed_15 rfl ?_
    replace hf := gw_bnd hf
    obtain ⟨r3, hr3, hf⟩ := hf
    refine gj_cSi (As := [.int (r1.2 7 a1.toNatClampNeg), .int a2]) (rest := []) C cb_X4_84 (s_X4_has (gw_l K) Γ τ r1.2 o (r1.2 7 a1.toNatClampNeg) a2 r3 hr3) rfl (Nat.le_of_ble_eq_true rfl) dX4_hasPassed_16 (gw_rmk rfl) rfl ?_
    refine gj_if_eq C 26 dX4_hasPassed_19 (by decide) (fun c => ?_) (fun c => ?_)
    · replace hf := gw_ift hf c
      refine gj_iconst (v := 0) C dX4_hasPassed_26 (by decide) ?_
      cases hf
      exact gj_zret C E (by decide) dX4_hasPassed_27 (Nat.le_of_ble_eq_true rfl) (Nat.le_of_ble_eq_true rfl)
    · replace hf := gw_iff hf c
      refine gj_iconst (v := 1) C dX4_hasPassed_22 (by decide) ?_
      refine gj_goto C 27 dX4_hasPassed_23 (by decide) ?_
      cases hf
      exact gj_zret C E (by decide) dX4_hasPassed_27 (Nat.le_of_ble_eq_true rfl) (Nat.le_of_ble_eq_true rfl)
set_option maxRecDepth 100000 in
set_option maxHeartbeats 4000000 in
theorem s_X4_isEnrolled (l : Launch) (Γ : gw_G) (τ μ : gw_S) (o : Nat → Int64) (a1 : Int32) (a2 : Int32) (r : Int32 × gw_S) (hf : f_X4_isEnrolled μ a1 a2 = some r) : gw_M l yX4_isEnrolled [.code yX4_isEnrolled cX4_isEnrolled 3 (some .boolean)] gr_X4_isEnrolled 0 0 Γ [.ref (gw_a Γ 132), .int a1, .int a2] (gw_W Γ τ μ o) (gw_qi Γ r.1 (gw_W Γ τ r.2 o)) := by
  refine gw_enter (by decide) (Nat.le_of_ble_eq_true rfl) (fun K C E => ?_)
  unfold f_X4_isEnrolled at hf
  refine gj_aload_n C 0 dX4_isEnrolled_0 rfl ?_
  refine gj_iload_n C 1 dX4_isEnrolled_1 rfl ?_
  refine gj_iload_n C 2 dX4_isEnrolled_2 rfl ?_
  replace hf := gw_bnd hf
  obtain ⟨r1, hr1, hf⟩ := hf
  refine gj_cVi (As := [.int a1, .int a2]) (rest := []) C cb_X4_129 (s_X4_areBoth (gw_l K) Γ τ μ o a1 a2 r1 hr1) rfl (Nat.le_of_ble_eq_true rfl) gw_atD rfl rfl dX4_isEnrolled_3 (gw_rmk rfl) rfl ?_
  refine gj_if_eq C 26 dX4_isEnrolled_6 (by decide) (fun c => ?_) (fun c => ?_)
  · replace hf := gw_ift hf c
    refine gj_iconst (v := 0) C dX4_isEnrolled_26 (by decide) ?_
    cases hf
    exact gj_zret C E (by decide) dX4_isEnrolled_27 (Nat.le_of_ble_eq_true rfl) (Nat.le_of_ble_eq_true rfl)
  · replace hf := gw_iff hf c
    refine gj_aload_n C 0 dX4_isEnrolled_9 rfl ?_
    refine g_X4_31 C  dX4_isEnrolled_10 ?_
    refine gj_iload_n C 1 dX4_isEnrolled_13 rfl ?_
    obtain ⟨g2, hf⟩ := gw_ifs hf
    refine gj_bld (j := 8) C (by decide) (gw_ibv g2) dX4_isEnrolled_14 ?_
    refine gj_iload_n C 2 dX4_isEnrolled_15 rfl ?_
    replace hf := gw_bnd hf
    obtain ⟨r3, hr3, hf⟩ := hf
    refine gj_cSi (As := [.int (r1.2 8 a1.toNatClampNeg), .int a2]) (rest := []) C cb_X4_84 (s_X4_has (gw_l K) Γ τ r1.2 o (r1.2 8 a1.toNatClampNeg) a2 r3 hr3) rfl (Nat.le_of_ble_eq_true rfl) dX4_isEnrolled_16 (gw_rmk rfl) rfl ?_
    refine gj_if_eq C 26 dX4_isEnrolled_19 (by decide) (fun c => ?_) (fun c => ?_)
    · replace hf := gw_ift hf c
      refine gj_iconst (v := 0) C dX4_isEnrolled_26 (by decide) ?_
      cases hf
      exact gj_zret C E (by decide) dX4_isEnrolled_27 (Nat.le_of_ble_eq_true rfl) (Nat.le_of_ble_eq_true rfl)
    · replace hf := gw_iff hf c
      refine gj_iconst (v := 1) C dX4_isEnrolled_22 (by decide) ?_
      refine gj_goto C 27 dX4_isEnrolled_23 (by decide) ?_
      cases hf
      exact gj_zret C E (by decide) dX4_isEnrolled_27 (Nat.le_of_ble_eq_true rfl) (Nat.le_of_ble_eq_true rfl)
set_option maxRecDepth 100000 in
set_option maxHeartbeats 4000000 in
theorem s_X4_credits (l : Launch) (Γ : gw_G) (τ μ : gw_S) (o : Nat → Int64) (a1 : Int32) (r : Int32 × gw_S) (hf : f_X4_credits μ a1 = some r) : gw_M l yX4_credits [.code yX4_credits cX4_credits 2 (some .int)] gr_X4_credits 0 0 Γ [.ref (gw_a Γ 132), .int a1] (gw_W Γ τ μ o) (gw_qi Γ r.1 (gw_W Γ τ r.2 o)) := by
  refine gw_enter (by decide) (Nat.le_of_ble_eq_true rfl) (fun K C E => ?_)
  unfold f_X4_credits at hf
  refine gj_aload_n C 0 dX4_credits_0 rfl ?_
  refine gj_aload_n C 0 dX4_credits_1 rfl ?_
  refine gj_iload_n C 1 dX4_credits_2 rfl ?_
  replace hf := gw_bnd hf
  obtain ⟨r1, hr1, hf⟩ := hf
  refine gj_cVi (As := [.int a1]) (rest := [.ref (gw_a Γ 132)]) C cb_X4_77 (s_X4_isStudent (gw_l K) Γ τ μ o a1 r1 hr1) rfl (Nat.le_of_ble_eq_true rfl) gw_atD rfl rfl dX4_credits_3 (gw_rmk rfl) rfl ?_
  refine gj_if_eq C 13 dX4_credits_6 (by decide) (fun c => ?_) (fun c => ?_)
  · replace hf := gw_ift hf c
    refine gj_iconst (v := 1) C dX4_credits_13 (by decide) ?_
    refine p_X4_68 C  dX4_credits_14 ?_
    refine gj_aload_n C 0 dX4_credits_17 rfl ?_
    refine g_X4_68 C  (gw_up_s _ _ _ _) dX4_credits_18 ?_
    refine gj_if_ne C 37 dX4_credits_21 (by decide) (fun _ => ?_) (fun c => absurd c (by decide))
    refine gj_iconst (v := 0) C dX4_credits_37 (by decide) ?_
    cases hf
    exact gj_iret C E dX4_credits_38 (Nat.le_of_ble_eq_true rfl) (Nat.le_of_ble_eq_true rfl)
  · replace hf := gw_iff hf c
    refine gj_iconst (v := 0) C dX4_credits_9 (by decide) ?_
    refine gj_goto C 14 dX4_credits_10 (by decide) ?_
    refine p_X4_68 C  dX4_credits_14 ?_
    refine gj_aload_n C 0 dX4_credits_17 rfl ?_
    refine g_X4_68 C  (gw_up_s _ _ _ _) dX4_credits_18 ?_
    refine gj_if_ne C 37 dX4_credits_21 (by decide) (fun c => absurd (by decide) c) (fun _ => ?_)
    refine gj_aload_n C 0 dX4_credits_24 rfl ?_
    refine gj_aload_n C 0 dX4_credits_25 rfl ?_
    refine g_X4_31 C  dX4_credits_26 ?_
    refine gj_iload_n C 1 dX4_credits_29 rfl ?_
    obtain ⟨g2, hf⟩ := gw_ifs hf
    refine gj_bld (j := 8) C (by decide) (gw_ibv g2) dX4_credits_30 ?_
    replace hf := gw_bnd hf
    obtain ⟨r3, hr3, hf⟩ := hf
    refine gj_cVi (As := [.int ((gw_up μ 0 18 (0 : Int32)) 8 a1.toNatClampNeg)]) (rest := []) C cb_X4_92 (s_X4_worthOf (gw_l K) Γ τ (gw_up μ 0 18 (0 : Int32)) o ((gw_up μ 0 18 (0 : Int32)) 8 a1.toNatClampNeg) r3 hr3) rfl (Nat.le_of_ble_eq_true rfl) gw_atD rfl rfl dX4_credits_31 (gw_rmk rfl) rfl ?_
    refine gj_goto C 38 dX4_credits_34 (by decide) ?_
    cases hf
    exact gj_iret C E dX4_credits_38 (Nat.le_of_ble_eq_true rfl) (Nat.le_of_ble_eq_true rfl)
set_option maxRecDepth 100000 in
set_option maxHeartbeats 4000000 in
theorem s_X4_missing (l : Launch) (Γ : gw_G) (τ μ : gw_S) (o : Nat → Int64) (a1 : Int32) (a2 : Int32) (r : Int32 × gw_S) (hf : f_X4_missing μ a1 a2 = some r) : gw_M l yX4_missing [.code yX4_missing cX4_missing 3 (some .int)] gr_X4_missing 0 0 Γ [.ref (gw_a Γ 132), .int a1, .int a2] (gw_W Γ τ μ o) (gw_qi Γ r.1 (gw_W Γ τ r.2 o)) := by
  refine gw_enter (by decide) (Nat.le_of_ble_eq_true rfl) (fun K C E => ?_)
  unfold f_X4_missing at hf
  refine gj_aload_n C 0 dX4_missing_0 rfl ?_
  refine gj_iload_n C 1 dX4_missing_1 rfl ?_
  refine gj_iload_n C 2 dX4_missing_2 rfl ?_
  replace hf := gw_bnd hf
  obtain ⟨r1, hr1, hf⟩ := hf
  refine gj_cVi (As := [.int a1, .int a2]) (rest := []) C cb_X4_129 (s_X4_areBoth (gw_l K) Γ τ μ o a1 a2 r1 hr1) rfl (Nat.le_of_ble_eq_true rfl) gw_atD rfl rfl dX4_missing_3 (gw_rmk rfl) rfl ?_
  refine gj_if_eq C 29 dX4_missing_6 (by decide) (fun c => ?_) (fun c => ?_)
  · replace hf := gw_ift hf c
    refine gj_iconst (v := 0) C dX4_missing_29 (by decide) ?_
    cases hf
    exact gj_iret C E dX4_missing_30 (Nat.le_of_ble_eq_true rfl) (Nat.le_of_ble_eq_true rfl)
  · replace hf := gw_iff hf c
    refine gj_aload_n C 0 dX4_missing_9 rfl ?_
    refine gj_iload_n C 2 dX4_missing_10 rfl ?_
    replace hf := gw_bnd hf
    obtain ⟨r2, hr2, hf⟩ := hf
    refine gj_cVi (As := [.int a2]) (rest := []) C cb_X4_88 (s_X4_requiredBy (gw_l K) Γ τ r1.2 o a2 r2 hr2) rfl (Nat.le_of_ble_eq_true rfl) gw_atD rfl rfl dX4_missing_11 (gw_rmk rfl) rfl ?_
    refine gj_aload_n C 0 dX4_missing_14 rfl ?_
    refine g_X4_28 C  dX4_missing_15 ?_
    refine gj_iload_n C 1 dX4_missing_18 rfl ?_
    obtain ⟨g3, hf⟩ := gw_ifs hf
    refine gj_bld (j := 7) C (by decide) (gw_ibv g3) dX4_missing_19 ?_
    refine gj_iconst (v := -1) C dX4_missing_20 (by decide) ?_
    refine gj_ixor C dX4_missing_21 ?_
    refine gj_iand C dX4_missing_22 ?_
    replace hf := gw_bnd hf
    obtain ⟨r4, hr4, hf⟩ := hf
    refine gj_cSi (As := [.int (r2 &&& ((r1.2 7 a1.toNatClampNeg) ^^^ (-1 : Int32)))]) (rest := []) C cb_X4_126 (s_X4_size (gw_l K) Γ τ r1.2 o (r2 &&& ((r1.2 7 a1.toNatClampNeg) ^^^ (-1 : Int32))) r4 hr4) rfl (Nat.le_of_ble_eq_true rfl) dX4_missing_23 (gw_rmk rfl) rfl ?_
    refine gj_goto C 30 dX4_missing_26 (by decide) ?_
    cases hf
    exact gj_iret C E dX4_missing_30 (Nat.le_of_ble_eq_true rfl) (Nat.le_of_ble_eq_true rfl)
set_option maxRecDepth 100000 in
set_option maxHeartbeats 4000000 in
theorem s_X4_obstacle (l : Launch) (Γ : gw_G) (τ μ : gw_S) (o : Nat → Int64) (a1 : Int32) (a2 : Int32) (r : Int32 × gw_S) (hf : f_X4_obstacle μ a1 a2 = some r) : gw_M l yX4_obstacle [.code yX4_obstacle cX4_obstacle 3 (some .int)] gr_X4_obstacle 0 0 Γ [.ref (gw_a Γ 132), .int a1, .int a2] (gw_W Γ τ μ o) (gw_qi Γ r.1 (gw_W Γ τ r.2 o)) := by
  refine gw_enter (by decide) (Nat.le_of_ble_eq_true rfl) (fun K C E => ?_)
  unfold f_X4_obstacle at hf
  refine gj_aload_n C 0 dX4_obstacle_0 rfl ?_
  refine gj_iload_n C 1 dX4_obstacle_1 rfl ?_
  refine gj_iload_n C 2 dX4_obstacle_2 rfl ?_
  replace hf := gw_bnd hf
  obtain ⟨r1, hr1, hf⟩ := hf
  refine gj_cVi (As := [.int a1, .int a2]) (rest := []) C cb_X4_129 (s_X4_areBoth (gw_l K) Γ τ μ o a1 a2 r1 hr1) rfl (Nat.le_of_ble_eq_true rfl) gw_atD rfl rfl dX4_obstacle_3 (gw_rmk rfl) rfl ?_
  refine gj_if_eq C 24 dX4_obstacle_6 (by decide) (fun c => ?_) (fun c => ?_)
  · replace hf := gw_ift hf c
    refine gj_iconst (v := 0) C dX4_obstacle_24 (by decide) ?_
    cases hf
    exact gj_iret C E dX4_obstacle_25 (Nat.le_of_ble_eq_true rfl) (Nat.le_of_ble_eq_true rfl)
  · replace hf := gw_iff hf c
    refine gj_aload_n C 0 dX4_obstacle_9 rfl ?_
    refine gj_iload_n C 1 dX4_obstacle_10 rfl ?_
    refine gj_iload_n C 2 dX4_obstacle_11 rfl ?_
    refine gj_aload_n C 0 dX4_obstacle_12 rfl ?_
    refine g_X4_31 C  dX4_obstacle_13 ?_
    refine gj_iload_n C 1 dX4_obstacle_16 rfl ?_
    obtain ⟨g2, hf⟩ := gw_ifs hf
    refine gj_bld (j := 8) C (by decide) (gw_ibv g2) dX4_obstacle_17 ?_
    replace hf := gw_bnd hf
    obtain ⟨r3, hr3, hf⟩ := hf
    refine gj_cVi (As := [.int a1, .int a2, .int (r1.2 8 a1.toNatClampNeg)]) (rest := []) C cb_X4_118 (s_X4_obstacleWith (gw_l K) Γ τ r1.2 o a1 a2 (r1.2 8 a1.toNatClampNeg) r3 hr3) rfl (Nat.le_of_ble_eq_true rfl) gw_atD rfl rfl dX4_obstacle_18 (gw_rmk rfl) rfl ?_
    refine gj_goto C 25 dX4_obstacle_21 (by decide) ?_
    cases hf
    exact gj_iret C E dX4_obstacle_25 (Nat.le_of_ble_eq_true rfl) (Nat.le_of_ble_eq_true rfl)
set_option maxRecDepth 100000 in
set_option maxHeartbeats 4000000 in
theorem s_X4_wish (l : Launch) (Γ : gw_G) (τ μ : gw_S) (o : Nat → Int64) (a1 : Int32) (a2 : Int32) (r : Int32 × gw_S) (hf : f_X4_wish μ a1 a2 = some r) : gw_M l yX4_wish [.code yX4_wish cX4_wish 3 (some .int)] gr_X4_wish 0 0 Γ [.ref (gw_a Γ 132), .int a1, .int a2] (gw_W Γ τ μ o) (gw_qi Γ r.1 (gw_W Γ τ r.2 o)) := by
  refine gw_enter (by decide) (Nat.le_of_ble_eq_true rfl) (fun K C E => ?_)
  unfold f_X4_wish at hf
  refine gj_aload_n C 0 dX4_wish_0 rfl ?_
  refine gj_iload_n C 1 dX4_wish_1 rfl ?_
  refine gj_iload_n C 2 dX4_wish_2 rfl ?_
  replace hf := gw_bnd hf
  obtain ⟨r1, hr1, hf⟩ := hf
  refine gj_cVi (As := [.int a1, .int a2]) (rest := []) C cb_X4_129 (s_X4_areBoth (gw_l K) Γ τ μ o a1 a2 r1 hr1) rfl (Nat.le_of_ble_eq_true rfl) gw_atD rfl rfl dX4_wish_3 (gw_rmk rfl) rfl ?_
  refine gj_if_ne C 11 dX4_wish_6 (by decide) (fun c => ?_) (fun c => ?_)
  · replace hf := gw_iff hf c
    refine gj_aload_n C 0 dX4_wish_11 rfl ?_
    refine g_X4_28 C  dX4_wish_12 ?_
    refine gj_iload_n C 1 dX4_wish_15 rfl ?_
    obtain ⟨g2, hf⟩ := gw_ifs hf
    refine gj_bld (j := 7) C (by decide) (gw_ibv g2) dX4_wish_16 ?_
    refine gj_aload_n C 0 dX4_wish_17 rfl ?_
    refine g_X4_31 C  dX4_wish_18 ?_
    refine gj_iload_n C 1 dX4_wish_21 rfl ?_
    obtain ⟨g3, hf⟩ := gw_ifs hf
    refine gj_bld (j := 8) C (by decide) (gw_ibv g3) dX4_wish_22 ?_
    refine gj_ior C dX4_wish_23 ?_
    refine gj_iload_n C 2 dX4_wish_24 rfl ?_
    replace hf := gw_bnd hf
    obtain ⟨r4, hr4, hf⟩ := hf
    refine gj_cSi (As := [.int ((r1.2 7 a1.toNatClampNeg) ||| (r1.2 8 a1.toNatClampNeg)), .int a2]) (rest := []) C cb_X4_84 (s_X4_has (gw_l K) Γ τ r1.2 o ((r1.2 7 a1.toNatClampNeg) ||| (r1.2 8 a1.toNatClampNeg)) a2 r4 hr4) rfl (Nat.le_of_ble_eq_true rfl) dX4_wish_25 (gw_rmk rfl) rfl ?_
    refine gj_if_ne C 51 dX4_wish_28 (by decide) (fun c => ?_) (fun c => ?_)
    · replace hf := gw_iff hf c
      refine gj_aload_n C 0 dX4_wish_51 rfl ?_
      refine gj_iconst (v := 2) C dX4_wish_52 (by decide) ?_
      refine p_X4_68 C  dX4_wish_53 ?_
      refine gj_iconst (v := 0) C dX4_wish_56 (by decide) ?_
      cases hf
      exact gj_iret C E dX4_wish_57 (Nat.le_of_ble_eq_true rfl) (Nat.le_of_ble_eq_true rfl)
    · replace hf := gw_ift hf c
      refine gj_aload_n C 0 dX4_wish_31 rfl ?_
      refine gj_iload_n C 1 dX4_wish_32 rfl ?_
      refine gj_iload_n C 2 dX4_wish_33 rfl ?_
      replace hf := gw_bnd hf
      obtain ⟨r5, hr5, hf⟩ := hf
      refine gj_cVi (As := [.int a1, .int a2]) (rest := []) C cb_X4_105 (s_X4_wishPlace (gw_l K) Γ τ r1.2 o a1 a2 r5 hr5) rfl (Nat.le_of_ble_eq_true rfl) gw_atD rfl rfl dX4_wish_34 (gw_rmk rfl) rfl ?_
      refine gj_if_ge C 51 dX4_wish_37 (by decide) (fun c => ?_) (fun c => ?_)
      · replace hf := gw_ift hf c
        refine gj_aload_n C 0 dX4_wish_51 rfl ?_
        refine gj_iconst (v := 2) C dX4_wish_52 (by decide) ?_
        refine p_X4_68 C  dX4_wish_53 ?_
        refine gj_iconst (v := 0) C dX4_wish_56 (by decide) ?_
        cases hf
        exact gj_iret C E dX4_wish_57 (Nat.le_of_ble_eq_true rfl) (Nat.le_of_ble_eq_true rfl)
      · replace hf := gw_iff hf c
        refine gj_aload_n C 0 dX4_wish_40 rfl ?_
        refine g_X4_34 C  dX4_wish_41 ?_
        refine gj_iload_n C 1 dX4_wish_44 rfl ?_
        obtain ⟨g6, hf⟩ := gw_ifs hf
        refine gj_bld (j := 9) C (by decide) (gw_ibv g6) dX4_wish_45 ?_
        refine gj_bipush (v := 6) C dX4_wish_46 (by decide) ?_
        refine gj_ic_ne C 58 dX4_wish_48 (by decide) (fun c => ?_) (fun c => ?_)
        · replace hf := gw_iff hf c
          refine gj_aload_n C 0 dX4_wish_58 rfl ?_
          refine g_X4_37 C  dX4_wish_59 ?_
          refine gj_bipush (v := 6) C dX4_wish_62 (by decide) ?_
          refine gj_iload_n C 1 dX4_wish_64 rfl ?_
          refine gj_imul C dX4_wish_65 ?_
          refine gj_aload_n C 0 dX4_wish_66 rfl ?_
          refine g_X4_34 C  dX4_wish_67 ?_
          refine gj_iload_n C 1 dX4_wish_70 rfl ?_
          obtain ⟨g7, hf⟩ := gw_ifs hf
          refine gj_bld (j := 9) C (by decide) (gw_ibv g7) dX4_wish_71 ?_
          refine gj_iadd C dX4_wish_72 ?_
          refine gj_iload_n C 2 dX4_wish_73 rfl ?_
          obtain ⟨g8, hf⟩ := gw_ifs hf
          refine gj_bst (j := 10) C (by decide) (gw_ibv g8) dX4_wish_74 ?_
          refine gj_aload_n C 0 dX4_wish_75 rfl ?_
          refine g_X4_34 C  dX4_wish_76 ?_
          refine gj_iload_n C 1 dX4_wish_79 rfl ?_
          refine gj_dup2 C dX4_wish_80 rfl rfl ?_
          obtain ⟨g9, hf⟩ := gw_ifs hf
          refine gj_bld (j := 9) C (by decide) (gw_ibv g9) dX4_wish_81 ?_
          refine gj_iconst (v := 1) C dX4_wish_82 (by decide) ?_
          refine gj_iadd C dX4_wish_83 ?_
          obtain ⟨g10, hf⟩ := gw_ifs hf
          refine gj_bst (j := 9) C (by decide) (gw_ibv g10) dX4_wish_84 ?_
          refine gj_aload_n C 0 dX4_wish_85 rfl ?_
          refine g_X4_34 C  dX4_wish_86 ?_
          refine gj_iload_n C 1 dX4_wish_89 rfl ?_
          obtain ⟨g11, hf⟩ := gw_ifs hf
          refine gj_bld (j := 9) C (by decide) (gw_ibv g11) dX4_wish_90 ?_
          refine gj_iconst (v := 1) C dX4_wish_91 (by decide) ?_
          refine gj_isub C dX4_wish_92 ?_
          cases hf
          exact gj_iret C E dX4_wish_93 (Nat.le_of_ble_eq_true rfl) (Nat.le_of_ble_eq_true rfl)
        · replace hf := gw_ift hf c
          refine gj_aload_n C 0 dX4_wish_51 rfl ?_
          refine gj_iconst (v := 2) C dX4_wish_52 (by decide) ?_
          refine p_X4_68 C  dX4_wish_53 ?_
          refine gj_iconst (v := 0) C dX4_wish_56 (by decide) ?_
          cases hf
          exact gj_iret C E dX4_wish_57 (Nat.le_of_ble_eq_true rfl) (Nat.le_of_ble_eq_true rfl)
  · replace hf := gw_ift hf c
    refine gj_iconst (v := 0) C dX4_wish_9 (by decide) ?_
    cases hf
    exact gj_iret C E dX4_wish_10 (Nat.le_of_ble_eq_true rfl) (Nat.le_of_ble_eq_true rfl)
set_option maxRecDepth 100000 in
set_option maxHeartbeats 4000000 in
theorem s_X4_dropWish (l : Launch) (Γ : gw_G) (τ μ : gw_S) (o : Nat → Int64) (a1 : Int32) (a2 : Int32) (r : Int32 × gw_S) (hf : f_X4_dropWish μ a1 a2 = some r) : gw_M l yX4_dropWish [.code yX4_dropWish cX4_dropWish 3 (some .int)] gr_X4_dropWish 0 0 Γ [.ref (gw_a Γ 132), .int a1, .int a2] (gw_W Γ τ μ o) (gw_qi Γ r.1 (gw_W Γ τ r.2 o)) := by
  refine gw_enter (by decide) (Nat.le_of_ble_eq_true rfl) (fun K C E => ?_)
  unfold f_X4_dropWish at hf
  refine gj_aload_n C 0 dX4_dropWish_0 rfl ?_
  refine gj_iload_n C 1 dX4_dropWish_1 rfl ?_
  refine gj_iload_n C 2 dX4_dropWish_2 rfl ?_
  replace hf := gw_bnd hf
  obtain ⟨r1, hr1, hf⟩ := hf
  refine gj_cVi (As := [.int a1, .int a2]) (rest := []) C cb_X4_129 (s_X4_areBoth (gw_l K) Γ τ μ o a1 a2 r1 hr1) rfl (Nat.le_of_ble_eq_true rfl) gw_atD rfl rfl dX4_dropWish_3 (gw_rmk rfl) rfl ?_
  refine gj_if_ne C 11 dX4_dropWish_6 (by decide) (fun c => ?_) (fun c => ?_)
  · replace hf := gw_iff hf c
    refine gj_aload_n C 0 dX4_dropWish_11 rfl ?_
    refine gj_iload_n C 1 dX4_dropWish_12 rfl ?_
    refine gj_iload_n C 2 dX4_dropWish_13 rfl ?_
    replace hf := gw_bnd hf
    obtain ⟨r2, hr2, hf⟩ := hf
    refine gj_cVi (As := [.int a1, .int a2]) (rest := []) C cb_X4_105 (s_X4_wishPlace (gw_l K) Γ τ r1.2 o a1 a2 r2 hr2) rfl (Nat.le_of_ble_eq_true rfl) gw_atD rfl rfl dX4_dropWish_14 (gw_rmk rfl) rfl ?_
    refine gj_if_ge C 27 dX4_dropWish_17 (by decide) (fun c => ?_) (fun c => ?_)
    · replace hf := gw_ift hf c
      refine gj_aload_n C 0 dX4_dropWish_27 rfl ?_
      refine gj_iload_n C 1 dX4_dropWish_28 rfl ?_
      refine gj_iload_n C 2 dX4_dropWish_29 rfl ?_
      replace hf := gw_bnd hf
      obtain ⟨r3, hr3, hf⟩ := hf
      refine gj_cVv (As := [.int a1, .int a2]) (rest := []) C cb_X4_108 (s_X4_dropsWish (gw_l K) Γ τ r1.2 o a1 a2 r3 hr3) rfl (Nat.le_of_ble_eq_true rfl) gw_atD rfl rfl dX4_dropWish_30 (gw_rmk rfl) rfl ?_
      refine gj_aload_n C 0 dX4_dropWish_33 rfl ?_
      refine g_X4_34 C  dX4_dropWish_34 ?_
      refine gj_iload_n C 1 dX4_dropWish_37 rfl ?_
      obtain ⟨g4, hf⟩ := gw_ifs hf
      refine gj_bld (j := 9) C (by decide) (gw_ibv g4) dX4_dropWish_38 ?_
      cases hf
      exact gj_iret C E dX4_dropWish_39 (Nat.le_of_ble_eq_true rfl) (Nat.le_of_ble_eq_true rfl)
    · replace hf := gw_iff hf c
      refine gj_aload_n C 0 dX4_dropWish_20 rfl ?_
      refine gj_iconst (v := 2) C dX4_dropWish_21 (by decide) ?_
      refine p_X4_68 C  dX4_dropWish_22 ?_
      refine gj_iconst (v := 0) C dX4_dropWish_25 (by decide) ?_
      cases hf
      exact gj_iret C E dX4_dropWish_26 (Nat.le_of_ble_eq_true rfl) (Nat.le_of_ble_eq_true rfl)
  · replace hf := gw_ift hf c
    refine gj_iconst (v := 0) C dX4_dropWish_9 (by decide) ?_
    cases hf
    exact gj_iret C E dX4_dropWish_10 (Nat.le_of_ble_eq_true rfl) (Nat.le_of_ble_eq_true rfl)
set_option maxRecDepth 100000 in
set_option maxHeartbeats 4000000 in
theorem s_X4_wishes (l : Launch) (Γ : gw_G) (τ μ : gw_S) (o : Nat → Int64) (a1 : Int32) (r : Int32 × gw_S) (hf : f_X4_wishes μ a1 = some r) : gw_M l yX4_wishes [.code yX4_wishes cX4_wishes 2 (some .int)] gr_X4_wishes 0 0 Γ [.ref (gw_a Γ 132), .int a1] (gw_W Γ τ μ o) (gw_qi Γ r.1 (gw_W Γ τ r.2 o)) := by
  refine gw_enter (by decide) (Nat.le_of_ble_eq_true rfl) (fun K C E => ?_)
  unfold f_X4_wishes at hf
  refine gj_aload_n C 0 dX4_wishes_0 rfl ?_
  refine gj_aload_n C 0 dX4_wishes_1 rfl ?_
  refine gj_iload_n C 1 dX4_wishes_2 rfl ?_
  replace hf := gw_bnd hf
  obtain ⟨r1, hr1, hf⟩ := hf
  refine gj_cVi (As := [.int a1]) (rest := [.ref (gw_a Γ 132)]) C cb_X4_77 (s_X4_isStudent (gw_l K) Γ τ μ o a1 r1 hr1) rfl (Nat.le_of_ble_eq_true rfl) gw_atD rfl rfl dX4_wishes_3 (gw_rmk rfl) rfl ?_
  refine gj_if_eq C 13 dX4_wishes_6 (by decide) (fun c => ?_) (fun c => ?_)
  · replace hf := gw_ift hf c
    refine gj_iconst (v := 1) C dX4_wishes_13 (by decide) ?_
    refine p_X4_68 C  dX4_wishes_14 ?_
    refine gj_aload_n C 0 dX4_wishes_17 rfl ?_
    refine g_X4_68 C  (gw_up_s _ _ _ _) dX4_wishes_18 ?_
    refine gj_if_ne C 33 dX4_wishes_21 (by decide) (fun _ => ?_) (fun c => absurd c (by decide))
    refine gj_iconst (v := 0) C dX4_wishes_33 (by decide) ?_
    cases hf
    exact gj_iret C E dX4_wishes_34 (Nat.le_of_ble_eq_true rfl) (Nat.le_of_ble_eq_true rfl)
  · replace hf := gw_iff hf c
    refine gj_iconst (v := 0) C dX4_wishes_9 (by decide) ?_
    refine gj_goto C 14 dX4_wishes_10 (by decide) ?_
    refine p_X4_68 C  dX4_wishes_14 ?_
    refine gj_aload_n C 0 dX4_wishes_17 rfl ?_
    refine g_X4_68 C  (gw_up_s _ _ _ _) dX4_wishes_18 ?_
    refine gj_if_ne C 33 dX4_wishes_21 (by decide) (fun c => absurd (by decide) c) (fun _ => ?_)
    refine gj_aload_n C 0 dX4_wishes_24 rfl ?_
    refine g_X4_34 C  dX4_wishes_25 ?_
    refine gj_iload_n C 1 dX4_wishes_28 rfl ?_
    obtain ⟨g2, hf⟩ := gw_ifs hf
    refine gj_bld (j := 9) C (by decide) (gw_ibv g2) dX4_wishes_29 ?_
    refine gj_goto C 34 dX4_wishes_30 (by decide) ?_
    cases hf
    exact gj_iret C E dX4_wishes_34 (Nat.le_of_ble_eq_true rfl) (Nat.le_of_ble_eq_true rfl)
set_option maxRecDepth 100000 in
set_option maxHeartbeats 4000000 in
theorem s_X4_wishAt (l : Launch) (Γ : gw_G) (τ μ : gw_S) (o : Nat → Int64) (a1 : Int32) (a2 : Int32) (r : Int32 × gw_S) (hf : f_X4_wishAt μ a1 a2 = some r) : gw_M l yX4_wishAt [.code yX4_wishAt cX4_wishAt 3 (some .int)] gr_X4_wishAt 0 0 Γ [.ref (gw_a Γ 132), .int a1, .int a2] (gw_W Γ τ μ o) (gw_qi Γ r.1 (gw_W Γ τ r.2 o)) := by
  refine gw_enter (by decide) (Nat.le_of_ble_eq_true rfl) (fun K C E => ?_)
  unfold f_X4_wishAt at hf
  refine gj_aload_n C 0 dX4_wishAt_0 rfl ?_
  refine gj_aload_n C 0 dX4_wishAt_1 rfl ?_
  refine gj_iload_n C 1 dX4_wishAt_2 rfl ?_
  replace hf := gw_bnd hf
  obtain ⟨r1, hr1, hf⟩ := hf
  refine gj_cVi (As := [.int a1]) (rest := [.ref (gw_a Γ 132)]) C cb_X4_77 (s_X4_isStudent (gw_l K) Γ τ μ o a1 r1 hr1) rfl (Nat.le_of_ble_eq_true rfl) gw_atD rfl rfl dX4_wishAt_3 (gw_rmk rfl) rfl ?_
  refine gj_if_eq C 27 dX4_wishAt_6 (by decide) (fun c => ?_) (fun c => ?_)
  · replace hf := gw_ift hf c
    refine gj_iconst (v := 1) C dX4_wishAt_27 (by decide) ?_
    refine p_X4_68 C  dX4_wishAt_28 ?_
    refine gj_aload_n C 0 dX4_wishAt_31 rfl ?_
    refine g_X4_68 C  (gw_up_s _ _ _ _) dX4_wishAt_32 ?_
    refine gj_if_ne C 52 dX4_wishAt_35 (by decide) (fun _ => ?_) (fun c => absurd c (by decide))
    refine gj_iconst (v := 0) C dX4_wishAt_52 (by decide) ?_
    cases hf
    exact gj_iret C E dX4_wishAt_53 (Nat.le_of_ble_eq_true rfl) (Nat.le_of_ble_eq_true rfl)
  · replace hf := gw_iff hf c
    refine gj_iload_n C 2 dX4_wishAt_9 rfl ?_
    refine gj_if_lt C 27 dX4_wishAt_10 (by decide) (fun c => ?_) (fun c => ?_)
    · replace hf := gw_ift hf c
      refine gj_iconst (v := 1) C dX4_wishAt_27 (by decide) ?_
      refine p_X4_68 C  dX4_wishAt_28 ?_
      refine gj_aload_n C 0 dX4_wishAt_31 rfl ?_
      refine g_X4_68 C  (gw_up_s _ _ _ _) dX4_wishAt_32 ?_
      refine gj_if_ne C 52 dX4_wishAt_35 (by decide) (fun _ => ?_) (fun c => absurd c (by decide))
      refine gj_iconst (v := 0) C dX4_wishAt_52 (by decide) ?_
      cases hf
      exact gj_iret C E dX4_wishAt_53 (Nat.le_of_ble_eq_true rfl) (Nat.le_of_ble_eq_true rfl)
    · replace hf := gw_iff hf c
      refine gj_iload_n C 2 dX4_wishAt_13 rfl ?_
      refine gj_aload_n C 0 dX4_wishAt_14 rfl ?_
      refine g_X4_34 C  dX4_wishAt_15 ?_
      refine gj_iload_n C 1 dX4_wishAt_18 rfl ?_
      obtain ⟨g2, hf⟩ := gw_ifs hf
      refine gj_bld (j := 9) C (by decide) (gw_ibv g2) dX4_wishAt_19 ?_
      refine gj_ic_ge C 27 dX4_wishAt_20 (by decide) (fun c => ?_) (fun c => ?_)
      · replace hf := gw_ift hf c
        refine gj_iconst (v := 1) C dX4_wishAt_27 (by decide) ?_
        refine p_X4_68 C  dX4_wishAt_28 ?_
        refine gj_aload_n C 0 dX4_wishAt_31 rfl ?_
        refine g_X4_68 C  (gw_up_s _ _ _ _) dX4_wishAt_32 ?_
        refine gj_if_ne C 52 dX4_wishAt_35 (by decide) (fun _ => ?_) (fun c => absurd c (by decide))
        refine gj_iconst (v := 0) C dX4_wishAt_52 (by decide) ?_
        cases hf
        exact gj_iret C E dX4_wishAt_53 (Nat.le_of_ble_eq_true rfl) (Nat.le_of_ble_eq_true rfl)
      · replace hf := gw_iff hf c
        refine gj_iconst (v := 0) C dX4_wishAt_23 (by decide) ?_
        refine gj_goto C 28 dX4_wishAt_24 (by decide) ?_
        refine p_X4_68 C  dX4_wishAt_28 ?_
        refine gj_aload_n C 0 dX4_wishAt_31 rfl ?_
        refine g_X4_68 C  (gw_up_s _ _ _ _) dX4_wishAt_32 ?_
        refine gj_if_ne C 52 dX4_wishAt_35 (by decide) (fun c => absurd (by decide) c) (fun _ => ?_)
        refine gj_aload_n C 0 dX4_wishAt_38 rfl ?_
        refine g_X4_37 C  dX4_wishAt_39 ?_
        refine gj_bipush (v := 6) C dX4_wishAt_42 (by decide) ?_
        refine gj_iload_n C 1 dX4_wishAt_44 rfl ?_
        refine gj_imul C dX4_wishAt_45 ?_
        refine gj_iload_n C 2 dX4_wishAt_46 rfl ?_
        refine gj_iadd C dX4_wishAt_47 ?_
        obtain ⟨g3, hf⟩ := gw_ifs hf
        refine gj_bld (j := 10) C (by decide) (gw_ibv g3) dX4_wishAt_48 ?_
        refine gj_goto C 53 dX4_wishAt_49 (by decide) ?_
        cases hf
        exact gj_iret C E dX4_wishAt_53 (Nat.le_of_ble_eq_true rfl) (Nat.le_of_ble_eq_true rfl)
set_option maxRecDepth 100000 in
set_option maxHeartbeats 4000000 in
theorem s_X4_request (l : Launch) (Γ : gw_G) (τ μ : gw_S) (o : Nat → Int64) (a1 : Int32) (a2 : Int32) (r : Int32 × gw_S) (hf : f_X4_request μ a1 a2 = some r) : gw_M l yX4_request [.code yX4_request cX4_request 3 (some .int)] gr_X4_request 0 0 Γ [.ref (gw_a Γ 132), .int a1, .int a2] (gw_W Γ τ μ o) (gw_qi Γ r.1 (gw_W Γ τ r.2 o)) := by
  refine gw_enter (by decide) (Nat.le_of_ble_eq_true rfl) (fun K C E => ?_)
  unfold f_X4_request at hf
  refine gj_aload_n C 0 dX4_request_0 rfl ?_
  refine gj_iload_n C 1 dX4_request_1 rfl ?_
  refine gj_iload_n C 2 dX4_request_2 rfl ?_
  replace hf := gw_bnd hf
  obtain ⟨r1, hr1, hf⟩ := hf
  refine gj_cVi (As := [.int a1, .int a2]) (rest := []) C cb_X4_129 (s_X4_areBoth (gw_l K) Γ τ μ o a1 a2 r1 hr1) rfl (Nat.le_of_ble_eq_true rfl) gw_atD rfl rfl dX4_request_3 (gw_rmk rfl) rfl ?_
  refine gj_if_ne C 11 dX4_request_6 (by decide) (fun c => ?_) (fun c => ?_)
  · replace hf := gw_iff hf c
    refine gj_aload_n C 0 dX4_request_11 rfl ?_
    refine gj_iload_n C 1 dX4_request_12 rfl ?_
    refine gj_iload_n C 2 dX4_request_13 rfl ?_
    refine gj_aload_n C 0 dX4_request_14 rfl ?_
    refine g_X4_31 C  dX4_request_15 ?_
    refine gj_iload_n C 1 dX4_request_18 rfl ?_
    obtain ⟨g2, hf⟩ := gw_ifs hf
    refine gj_bld (j := 8) C (by decide) (gw_ibv g2) dX4_request_19 ?_
    replace hf := gw_bnd hf
    obtain ⟨r3, hr3, hf⟩ := hf
    refine gj_cVi (As := [.int a1, .int a2, .int (r1.2 8 a1.toNatClampNeg)]) (rest := []) C cb_X4_118 (s_X4_obstacleWith (gw_l K) Γ τ r1.2 o a1 a2 (r1.2 8 a1.toNatClampNeg) r3 hr3) rfl (Nat.le_of_ble_eq_true rfl) gw_atD rfl rfl dX4_request_20 (gw_rmk rfl) rfl ?_
    refine gj_if_ne C 35 dX4_request_23 (by decide) (fun c => ?_) (fun c => ?_)
    · replace hf := gw_iff hf c
      refine gj_aload_n C 0 dX4_request_35 rfl ?_
      refine gj_iconst (v := 2) C dX4_request_36 (by decide) ?_
      refine p_X4_68 C  dX4_request_37 ?_
      refine gj_iconst (v := 0) C dX4_request_40 (by decide) ?_
      cases hf
      exact gj_iret C E dX4_request_41 (Nat.le_of_ble_eq_true rfl) (Nat.le_of_ble_eq_true rfl)
    · replace hf := gw_ift hf c
      refine gj_aload_n C 0 dX4_request_26 rfl ?_
      refine gj_iload_n C 1 dX4_request_27 rfl ?_
      refine gj_iload_n C 2 dX4_request_28 rfl ?_
      replace hf := gw_bnd hf
      obtain ⟨r4, hr4, hf⟩ := hf
      refine gj_cVi (As := [.int a1, .int a2]) (rest := []) C cb_X4_101 (s_X4_waitPlace (gw_l K) Γ τ r1.2 o a1 a2 r4 hr4) rfl (Nat.le_of_ble_eq_true rfl) gw_atD rfl rfl dX4_request_29 (gw_rmk rfl) rfl ?_
      refine gj_if_lt C 42 dX4_request_32 (by decide) (fun c => ?_) (fun c => ?_)
      · replace hf := gw_ift hf c
        refine gj_aload_n C 0 dX4_request_42 rfl ?_
        refine gj_iload_n C 2 dX4_request_43 rfl ?_
        replace hf := gw_bnd hf
        obtain ⟨r5, hr5, hf⟩ := hf
        refine gj_cVi (As := [.int a2]) (rest := []) C cb_X4_115 (s_X4_free (gw_l K) Γ τ r1.2 o a2 r5 hr5) rfl (Nat.le_of_ble_eq_true rfl) gw_atD rfl rfl dX4_request_44 (gw_rmk rfl) rfl ?_
        refine gj_if_le C 62 dX4_request_47 (by decide) (fun c => ?_) (fun c => ?_)
        · replace hf := gw_ift hf c
          refine gj_aload_n C 0 dX4_request_62 rfl ?_
          refine g_X4_49 C  dX4_request_63 ?_
          refine gj_bipush (v := 16) C dX4_request_66 (by decide) ?_
          refine gj_iload_n C 2 dX4_request_68 rfl ?_
          refine gj_imul C dX4_request_69 ?_
          refine gj_aload_n C 0 dX4_request_70 rfl ?_
          refine g_X4_46 C  dX4_request_71 ?_
          refine gj_iload_n C 2 dX4_request_74 rfl ?_
          obtain ⟨g6, hf⟩ := gw_ifs hf
          refine gj_bld (j := 13) C (by decide) (gw_ibv g6) dX4_request_75 ?_
          refine gj_iadd C dX4_request_76 ?_
          refine gj_iload_n C 1 dX4_request_77 rfl ?_
          obtain ⟨g7, hf⟩ := gw_ifs hf
          refine gj_bst (j := 14) C (by decide) (gw_ibv g7) dX4_request_78 ?_
          refine gj_aload_n C 0 dX4_request_79 rfl ?_
          refine g_X4_46 C  dX4_request_80 ?_
          refine gj_iload_n C 2 dX4_request_83 rfl ?_
          refine gj_dup2 C dX4_request_84 rfl rfl ?_
          obtain ⟨g8, hf⟩ := gw_ifs hf
          refine gj_bld (j := 13) C (by decide) (gw_ibv g8) dX4_request_85 ?_
          refine gj_iconst (v := 1) C dX4_request_86 (by decide) ?_
          refine gj_iadd C dX4_request_87 ?_
          obtain ⟨g9, hf⟩ := gw_ifs hf
          refine gj_bst (j := 13) C (by decide) (gw_ibv g9) dX4_request_88 ?_
          refine gj_aload_n C 0 dX4_request_89 rfl ?_
          replace hf := gw_bnd hf
          obtain ⟨r10, hr10, hf⟩ := hf
          refine gj_cVv (As := []) (rest := []) C cb_X4_123 (s_X4_offers (gw_l K) Γ τ (gw_up (gw_up r1.2 14 ((((16 : Int32) * a2) + (r1.2 13 a2.toNatClampNeg)).toNatClampNeg) a1) 13 a2.toNatClampNeg (((gw_up r1.2 14 ((((16 : Int32) * a2) + (r1.2 13 a2.toNatClampNeg)).toNatClampNeg) a1) 13 a2.toNatClampNeg) + (1 : Int32))) o  r10 hr10) rfl (Nat.le_of_ble_eq_true rfl) gw_atD rfl rfl dX4_request_90 (gw_rmk rfl) rfl ?_
          refine gj_aload_n C 0 dX4_request_93 rfl ?_
          refine g_X4_46 C  dX4_request_94 ?_
          refine gj_iload_n C 2 dX4_request_97 rfl ?_
          obtain ⟨g11, hf⟩ := gw_ifs hf
          refine gj_bld (j := 13) C (by decide) (gw_ibv g11) dX4_request_98 ?_
          cases hf
          exact gj_iret C E dX4_request_99 (Nat.le_of_ble_eq_true rfl) (Nat.le_of_ble_eq_true rfl)
        · replace hf := gw_iff hf c
          refine gj_aload_n C 0 dX4_request_50 rfl ?_
          refine gj_iload_n C 1 dX4_request_51 rfl ?_
          refine gj_iload_n C 2 dX4_request_52 rfl ?_
          replace hf := gw_bnd hf
          obtain ⟨r12, hr12, hf⟩ := hf
          refine gj_cVv (As := [.int a1, .int a2]) (rest := []) C cb_X4_132 (s_X4_enrols (gw_l K) Γ τ r1.2 o a1 a2 r12 hr12) rfl (Nat.le_of_ble_eq_true rfl) gw_atD rfl rfl dX4_request_53 (gw_rmk rfl) rfl ?_
          refine gj_aload_n C 0 dX4_request_56 rfl ?_
          replace hf := gw_bnd hf
          obtain ⟨r13, hr13, hf⟩ := hf
          refine gj_cVv (As := []) (rest := []) C cb_X4_123 (s_X4_offers (gw_l K) Γ τ r12 o  r13 hr13) rfl (Nat.le_of_ble_eq_true rfl) gw_atD rfl rfl dX4_request_57 (gw_rmk rfl) rfl ?_
          refine gj_iconst (v := 0) C dX4_request_60 (by decide) ?_
          cases hf
          exact gj_iret C E dX4_request_61 (Nat.le_of_ble_eq_true rfl) (Nat.le_of_ble_eq_true rfl)
      · replace hf := gw_iff hf c
        refine gj_aload_n C 0 dX4_request_35 rfl ?_
        refine gj_iconst (v := 2) C dX4_request_36 (by decide) ?_
        refine p_X4_68 C  dX4_request_37 ?_
        refine gj_iconst (v := 0) C dX4_request_40 (by decide) ?_
        cases hf
        exact gj_iret C E dX4_request_41 (Nat.le_of_ble_eq_true rfl) (Nat.le_of_ble_eq_true rfl)
  · replace hf := gw_ift hf c
    refine gj_iconst (v := 0) C dX4_request_9 (by decide) ?_
    cases hf
    exact gj_iret C E dX4_request_10 (Nat.le_of_ble_eq_true rfl) (Nat.le_of_ble_eq_true rfl)
set_option maxRecDepth 100000 in
set_option maxHeartbeats 4000000 in
theorem s_X4_drop (l : Launch) (Γ : gw_G) (τ μ : gw_S) (o : Nat → Int64) (a1 : Int32) (a2 : Int32) (r : Int32 × gw_S) (hf : f_X4_drop μ a1 a2 = some r) : gw_M l yX4_drop [.code yX4_drop cX4_drop 3 (some .int)] gr_X4_drop 0 0 Γ [.ref (gw_a Γ 132), .int a1, .int a2] (gw_W Γ τ μ o) (gw_qi Γ r.1 (gw_W Γ τ r.2 o)) := by
  refine gw_enter (by decide) (Nat.le_of_ble_eq_true rfl) (fun K C E => ?_)
  unfold f_X4_drop at hf
  refine gj_aload_n C 0 dX4_drop_0 rfl ?_
  refine gj_iload_n C 1 dX4_drop_1 rfl ?_
  refine gj_iload_n C 2 dX4_drop_2 rfl ?_
  replace hf := gw_bnd hf
  obtain ⟨r1, hr1, hf⟩ := hf
  refine gj_cVi (As := [.int a1, .int a2]) (rest := []) C cb_X4_129 (s_X4_areBoth (gw_l K) Γ τ μ o a1 a2 r1 hr1) rfl (Nat.le_of_ble_eq_true rfl) gw_atD rfl rfl dX4_drop_3 (gw_rmk rfl) rfl ?_
  refine gj_if_ne C 11 dX4_drop_6 (by decide) (fun c => ?_) (fun c => ?_)
  · replace hf := gw_iff hf c
    refine gj_aload_n C 0 dX4_drop_11 rfl ?_
    refine g_X4_31 C  dX4_drop_12 ?_
    refine gj_iload_n C 1 dX4_drop_15 rfl ?_
    obtain ⟨g2, hf⟩ := gw_ifs hf
    refine gj_bld (j := 8) C (by decide) (gw_ibv g2) dX4_drop_16 ?_
    refine gj_iload_n C 2 dX4_drop_17 rfl ?_
    replace hf := gw_bnd hf
    obtain ⟨r3, hr3, hf⟩ := hf
    refine gj_cSi (As := [.int (r1.2 8 a1.toNatClampNeg), .int a2]) (rest := []) C cb_X4_84 (s_X4_has (gw_l K) Γ τ r1.2 o (r1.2 8 a1.toNatClampNeg) a2 r3 hr3) rfl (Nat.le_of_ble_eq_true rfl) dX4_drop_18 (gw_rmk rfl) rfl ?_
    refine gj_if_ne C 31 dX4_drop_21 (by decide) (fun c => ?_) (fun c => ?_)
    · replace hf := gw_iff hf c
      refine gj_aload_n C 0 dX4_drop_31 rfl ?_
      refine gj_iload_n C 1 dX4_drop_32 rfl ?_
      refine gj_iload_n C 2 dX4_drop_33 rfl ?_
      replace hf := gw_bnd hf
      obtain ⟨r4, hr4, hf⟩ := hf
      refine gj_cVv (As := [.int a1, .int a2]) (rest := []) C cb_X4_135 (s_X4_gives (gw_l K) Γ τ r1.2 o a1 a2 r4 hr4) rfl (Nat.le_of_ble_eq_true rfl) gw_atD rfl rfl dX4_drop_34 (gw_rmk rfl) rfl ?_
      refine gj_aload_n C 0 dX4_drop_37 rfl ?_
      replace hf := gw_bnd hf
      obtain ⟨r5, hr5, hf⟩ := hf
      refine gj_cVv (As := []) (rest := []) C cb_X4_123 (s_X4_offers (gw_l K) Γ τ r4 o  r5 hr5) rfl (Nat.le_of_ble_eq_true rfl) gw_atD rfl rfl dX4_drop_38 (gw_rmk rfl) rfl ?_
      refine gj_aload_n C 0 dX4_drop_41 rfl ?_
      refine gj_aload_n C 0 dX4_drop_42 rfl ?_
      refine g_X4_31 C  dX4_drop_43 ?_
      refine gj_iload_n C 1 dX4_drop_46 rfl ?_
      obtain ⟨g6, hf⟩ := gw_ifs hf
      refine gj_bld (j := 8) C (by decide) (gw_ibv g6) dX4_drop_47 ?_
      replace hf := gw_bnd hf
      obtain ⟨r7, hr7, hf⟩ := hf
      refine gj_cVi (As := [.int (r5 8 a1.toNatClampNeg)]) (rest := []) C cb_X4_92 (s_X4_worthOf (gw_l K) Γ τ r5 o (r5 8 a1.toNatClampNeg) r7 hr7) rfl (Nat.le_of_ble_eq_true rfl) gw_atD rfl rfl dX4_drop_48 (gw_rmk rfl) rfl ?_
      cases hf
      exact gj_iret C E dX4_drop_51 (Nat.le_of_ble_eq_true rfl) (Nat.le_of_ble_eq_true rfl)
    · replace hf := gw_ift hf c
      refine gj_aload_n C 0 dX4_drop_24 rfl ?_
      refine gj_iconst (v := 2) C dX4_drop_25 (by decide) ?_
      refine p_X4_68 C  dX4_drop_26 ?_
      refine gj_iconst (v := 0) C dX4_drop_29 (by decide) ?_
      cases hf
      exact gj_iret C E dX4_drop_30 (Nat.le_of_ble_eq_true rfl) (Nat.le_of_ble_eq_true rfl)
  · replace hf := gw_ift hf c
    refine gj_iconst (v := 0) C dX4_drop_9 (by decide) ?_
    cases hf
    exact gj_iret C E dX4_drop_10 (Nat.le_of_ble_eq_true rfl) (Nat.le_of_ble_eq_true rfl)
set_option maxRecDepth 100000 in
set_option maxHeartbeats 4000000 in
theorem s_X4_change (l : Launch) (Γ : gw_G) (τ μ : gw_S) (o : Nat → Int64) (a1 : Int32) (a2 : Int32) (a3 : Int32) (r : Int32 × gw_S) (hf : f_X4_change μ a1 a2 a3 = some r) : gw_M l yX4_change [.code yX4_change cX4_change 4 (some .int)] gr_X4_change 0 0 Γ [.ref (gw_a Γ 132), .int a1, .int a2, .int a3] (gw_W Γ τ μ o) (gw_qi Γ r.1 (gw_W Γ τ r.2 o)) := by
  refine gw_enter (by decide) (Nat.le_of_ble_eq_true rfl) (fun K C E => ?_)
  unfold f_X4_change at hf
  refine gj_aload_n C 0 dX4_change_0 rfl ?_
  refine gj_aload_n C 0 dX4_change_1 rfl ?_
  refine gj_iload_n C 1 dX4_change_2 rfl ?_
  replace hf := gw_bnd hf
  obtain ⟨r1, hr1, hf⟩ := hf
  refine gj_cVi (As := [.int a1]) (rest := [.ref (gw_a Γ 132)]) C cb_X4_77 (s_X4_isStudent (gw_l K) Γ τ μ o a1 r1 hr1) rfl (Nat.le_of_ble_eq_true rfl) gw_atD rfl rfl dX4_change_3 (gw_rmk rfl) rfl ?_
  refine gj_if_eq C 29 dX4_change_6 (by decide) (fun c => ?_) (fun c => ?_)
  · replace hf := gw_ift hf c
    refine gj_iconst (v := 1) C dX4_change_29 (by decide) ?_
    refine p_X4_68 C  dX4_change_30 ?_
    refine gj_aload_n C 0 dX4_change_33 rfl ?_
    refine g_X4_68 C  (gw_up_s _ _ _ _) dX4_change_34 ?_
    refine gj_if_le C 42 dX4_change_37 (by decide) (fun c => absurd c (by decide)) (fun _ => ?_)
    refine gj_iconst (v := 0) C dX4_change_40 (by decide) ?_
    cases hf
    exact gj_iret C E dX4_change_41 (Nat.le_of_ble_eq_true rfl) (Nat.le_of_ble_eq_true rfl)
  · replace hf := gw_iff hf c
    refine gj_aload_n C 0 dX4_change_9 rfl ?_
    refine gj_iload_n C 2 dX4_change_10 rfl ?_
    replace hf := gw_bnd hf
    obtain ⟨r2, hr2, hf⟩ := hf
    refine gj_cVi (As := [.int a2]) (rest := [.ref (gw_a Γ 132)]) C cb_X4_81 (s_X4_isCourse (gw_l K) Γ τ μ o a2 r2 hr2) rfl (Nat.le_of_ble_eq_true rfl) gw_atD rfl rfl dX4_change_11 (gw_rmk rfl) rfl ?_
    refine gj_if_eq C 29 dX4_change_14 (by decide) (fun c => ?_) (fun c => ?_)
    · replace hf := gw_ift hf c
      refine gj_iconst (v := 1) C dX4_change_29 (by decide) ?_
      refine p_X4_68 C  dX4_change_30 ?_
      refine gj_aload_n C 0 dX4_change_33 rfl ?_
      refine g_X4_68 C  (gw_up_s _ _ _ _) dX4_change_34 ?_
      refine gj_if_le C 42 dX4_change_37 (by decide) (fun c => absurd c (by decide)) (fun _ => ?_)
      refine gj_iconst (v := 0) C dX4_change_40 (by decide) ?_
      cases hf
      exact gj_iret C E dX4_change_41 (Nat.le_of_ble_eq_true rfl) (Nat.le_of_ble_eq_true rfl)
    · replace hf := gw_iff hf c
      refine gj_aload_n C 0 dX4_change_17 rfl ?_
      refine gj_iload_n C 3 dX4_change_18 rfl ?_
      replace hf := gw_bnd hf
      obtain ⟨r3, hr3, hf⟩ := hf
      refine gj_cVi (As := [.int a3]) (rest := [.ref (gw_a Γ 132)]) C cb_X4_81 (s_X4_isCourse (gw_l K) Γ τ μ o a3 r3 hr3) rfl (Nat.le_of_ble_eq_true rfl) gw_atD rfl rfl dX4_change_19 (gw_rmk rfl) rfl ?_
      refine gj_if_eq C 29 dX4_change_22 (by decide) (fun c => ?_) (fun c => ?_)
      · replace hf := gw_ift hf c
        refine gj_iconst (v := 1) C dX4_change_29 (by decide) ?_
        refine p_X4_68 C  dX4_change_30 ?_
        refine gj_aload_n C 0 dX4_change_33 rfl ?_
        refine g_X4_68 C  (gw_up_s _ _ _ _) dX4_change_34 ?_
        refine gj_if_le C 42 dX4_change_37 (by decide) (fun c => absurd c (by decide)) (fun _ => ?_)
        refine gj_iconst (v := 0) C dX4_change_40 (by decide) ?_
        cases hf
        exact gj_iret C E dX4_change_41 (Nat.le_of_ble_eq_true rfl) (Nat.le_of_ble_eq_true rfl)
      · replace hf := gw_iff hf c
        refine gj_iconst (v := 0) C dX4_change_25 (by decide) ?_
        refine gj_goto C 30 dX4_change_26 (by decide) ?_
        refine p_X4_68 C  dX4_change_30 ?_
        refine gj_aload_n C 0 dX4_change_33 rfl ?_
        refine g_X4_68 C  (gw_up_s _ _ _ _) dX4_change_34 ?_
        refine gj_if_le C 42 dX4_change_37 (by decide) (fun _ => ?_) (fun c => absurd (by decide) c)
        refine gj_aload_n C 0 dX4_change_42 rfl ?_
        refine g_X4_31 C  dX4_change_43 ?_
        refine gj_iload_n C 1 dX4_change_46 rfl ?_
        obtain ⟨g4, hf⟩ := gw_ifs hf
        refine gj_bld (j := 8) C (by decide) (gw_ibv g4) dX4_change_47 ?_
        refine gj_iload_n C 2 dX4_change_48 rfl ?_
        replace hf := gw_bnd hf
        obtain ⟨r5, hr5, hf⟩ := hf
        refine gj_cSi (As := [.int ((gw_up μ 0 18 (0 : Int32)) 8 a1.toNatClampNeg), .int a2]) (rest := []) C cb_X4_84 (s_X4_has (gw_l K) Γ τ (gw_up μ 0 18 (0 : Int32)) o ((gw_up μ 0 18 (0 : Int32)) 8 a1.toNatClampNeg) a2 r5 hr5) rfl (Nat.le_of_ble_eq_true rfl) dX4_change_49 (gw_rmk rfl) rfl ?_
        refine gj_if_eq C 89 dX4_change_52 (by decide) (fun c => ?_) (fun c => ?_)
        · replace hf := gw_ift hf c
          refine gj_aload_n C 0 dX4_change_89 rfl ?_
          refine gj_iconst (v := 2) C dX4_change_90 (by decide) ?_
          refine p_X4_68 C  dX4_change_91 ?_
          refine gj_iconst (v := 0) C dX4_change_94 (by decide) ?_
          cases hf
          exact gj_iret C E dX4_change_95 (Nat.le_of_ble_eq_true rfl) (Nat.le_of_ble_eq_true rfl)
        · replace hf := gw_iff hf c
          refine gj_iload_n C 2 dX4_change_55 rfl ?_
          refine gj_iload_n C 3 dX4_change_56 rfl ?_
          refine gj_ic_eq C 89 dX4_change_57 (by decide) (fun c => ?_) (fun c => ?_)
          · replace hf := gw_ift hf c
            refine gj_aload_n C 0 dX4_change_89 rfl ?_
            refine gj_iconst (v := 2) C dX4_change_90 (by decide) ?_
            refine p_X4_68 C  dX4_change_91 ?_
            refine gj_iconst (v := 0) C dX4_change_94 (by decide) ?_
            cases hf
            exact gj_iret C E dX4_change_95 (Nat.le_of_ble_eq_true rfl) (Nat.le_of_ble_eq_true rfl)
          · replace hf := gw_iff hf c
            refine gj_aload_n C 0 dX4_change_60 rfl ?_
            refine gj_iload_n C 1 dX4_change_61 rfl ?_
            refine gj_iload_n C 3 dX4_change_62 rfl ?_
            refine gj_aload_n C 0 dX4_change_63 rfl ?_
            refine g_X4_31 C  dX4_change_64 ?_
            refine gj_iload_n C 1 dX4_change_67 rfl ?_
            obtain ⟨g6, hf⟩ := gw_ifs hf
            refine gj_bld (j := 8) C (by decide) (gw_ibv g6) dX4_change_68 ?_
            refine gj_iconst (v := 1) C dX4_change_69 (by decide) ?_
            refine gj_iload_n C 2 dX4_change_70 rfl ?_
            refine gj_ishl C dX4_change_71 ?_
            refine gj_iconst (v := -1) C dX4_change_72 (by decide) ?_
            refine gj_ixor C dX4_change_73 ?_
            refine gj_iand C dX4_change_74 ?_
            replace hf := gw_bnd hf
            obtain ⟨r7, hr7, hf⟩ := hf
            refine gj_cVi (As := [.int a1, .int a3, .int (((gw_up μ 0 18 (0 : Int32)) 8 a1.toNatClampNeg) &&& (((1 : Int32) <<< (a2 &&& 31)) ^^^ (-1 : Int32)))]) (rest := []) C cb_X4_118 (s_X4_obstacleWith (gw_l K) Γ τ (gw_up μ 0 18 (0 : Int32)) o a1 a3 (((gw_up μ 0 18 (0 : Int32)) 8 a1.toNatClampNeg) &&& (((1 : Int32) <<< (a2 &&& 31)) ^^^ (-1 : Int32))) r7 hr7) rfl (Nat.le_of_ble_eq_true rfl) gw_atD rfl rfl dX4_change_75 (gw_rmk rfl) rfl ?_
            refine gj_if_ne C 89 dX4_change_78 (by decide) (fun c => ?_) (fun c => ?_)
            · replace hf := gw_iff hf c
              refine gj_aload_n C 0 dX4_change_89 rfl ?_
              refine gj_iconst (v := 2) C dX4_change_90 (by decide) ?_
              refine p_X4_68 C  dX4_change_91 ?_
              refine gj_iconst (v := 0) C dX4_change_94 (by decide) ?_
              cases hf
              exact gj_iret C E dX4_change_95 (Nat.le_of_ble_eq_true rfl) (Nat.le_of_ble_eq_true rfl)
            · replace hf := gw_ift hf c
              refine gj_aload_n C 0 dX4_change_81 rfl ?_
              refine gj_iload_n C 3 dX4_change_82 rfl ?_
              replace hf := gw_bnd hf
              obtain ⟨r8, hr8, hf⟩ := hf
              refine gj_cVi (As := [.int a3]) (rest := []) C cb_X4_115 (s_X4_free (gw_l K) Γ τ (gw_up μ 0 18 (0 : Int32)) o a3 r8 hr8) rfl (Nat.le_of_ble_eq_true rfl) gw_atD rfl rfl dX4_change_83 (gw_rmk rfl) rfl ?_
              refine gj_if_ne C 96 dX4_change_86 (by decide) (fun c => ?_) (fun c => ?_)
              · replace hf := gw_iff hf c
                refine gj_aload_n C 0 dX4_change_96 rfl ?_
                refine gj_iload_n C 1 dX4_change_97 rfl ?_
                refine gj_iload_n C 2 dX4_change_98 rfl ?_
                replace hf := gw_bnd hf
                obtain ⟨r9, hr9, hf⟩ := hf
                refine gj_cVv (As := [.int a1, .int a2]) (rest := []) C cb_X4_135 (s_X4_gives (gw_l K) Γ τ (gw_up μ 0 18 (0 : Int32)) o a1 a2 r9 hr9) rfl (Nat.le_of_ble_eq_true rfl) gw_atD rfl rfl dX4_change_99 (gw_rmk rfl) rfl ?_
                refine gj_aload_n C 0 dX4_change_102 rfl ?_
                refine gj_iload_n C 1 dX4_change_103 rfl ?_
                refine gj_iload_n C 3 dX4_change_104 rfl ?_
                replace hf := gw_bnd hf
                obtain ⟨r10, hr10, hf⟩ := hf
                refine gj_cVv (As := [.int a1, .int a3]) (rest := []) C cb_X4_132 (s_X4_enrols (gw_l K) Γ τ r9 o a1 a3 r10 hr10) rfl (Nat.le_of_ble_eq_true rfl) gw_atD rfl rfl dX4_change_105 (gw_rmk rfl) rfl ?_
                refine gj_aload_n C 0 dX4_change_108 rfl ?_
                replace hf := gw_bnd hf
                obtain ⟨r11, hr11, hf⟩ := hf
                refine gj_cVv (As := []) (rest := []) C cb_X4_123 (s_X4_offers (gw_l K) Γ τ r10 o  r11 hr11) rfl (Nat.le_of_ble_eq_true rfl) gw_atD rfl rfl dX4_change_109 (gw_rmk rfl) rfl ?_
                refine gj_aload_n C 0 dX4_change_112 rfl ?_
                refine gj_aload_n C 0 dX4_change_113 rfl ?_
                refine g_X4_31 C  dX4_change_114 ?_
                refine gj_iload_n C 1 dX4_change_117 rfl ?_
                obtain ⟨g12, hf⟩ := gw_ifs hf
                refine gj_bld (j := 8) C (by decide) (gw_ibv g12) dX4_change_118 ?_
                replace hf := gw_bnd hf
                obtain ⟨r13, hr13, hf⟩ := hf
                refine gj_cVi (As := [.int (r11 8 a1.toNatClampNeg)]) (rest := []) C cb_X4_92 (s_X4_worthOf (gw_l K) Γ τ r11 o (r11 8 a1.toNatClampNeg) r13 hr13) rfl (Nat.le_of_ble_eq_true rfl) gw_atD rfl rfl dX4_change_119 (gw_rmk rfl) rfl ?_
                cases hf
                exact gj_iret C E dX4_change_122 (Nat.le_of_ble_eq_true rfl) (Nat.le_of_ble_eq_true rfl)
              · replace hf := gw_ift hf c
                refine gj_aload_n C 0 dX4_change_89 rfl ?_
                refine gj_iconst (v := 2) C dX4_change_90 (by decide) ?_
                refine p_X4_68 C  dX4_change_91 ?_
                refine gj_iconst (v := 0) C dX4_change_94 (by decide) ?_
                cases hf
                exact gj_iret C E dX4_change_95 (Nat.le_of_ble_eq_true rfl) (Nat.le_of_ble_eq_true rfl)
set_option maxRecDepth 100000 in
set_option maxHeartbeats 4000000 in
theorem s_X4_accept (l : Launch) (Γ : gw_G) (τ μ : gw_S) (o : Nat → Int64) (a1 : Int32) (a2 : Int32) (r : Int32 × gw_S) (hf : f_X4_accept μ a1 a2 = some r) : gw_M l yX4_accept [.code yX4_accept cX4_accept 3 (some .int)] gr_X4_accept 0 0 Γ [.ref (gw_a Γ 132), .int a1, .int a2] (gw_W Γ τ μ o) (gw_qi Γ r.1 (gw_W Γ τ r.2 o)) := by
  refine gw_enter (by decide) (Nat.le_of_ble_eq_true rfl) (fun K C E => ?_)
  unfold f_X4_accept at hf
  refine gj_aload_n C 0 dX4_accept_0 rfl ?_
  refine gj_iload_n C 1 dX4_accept_1 rfl ?_
  refine gj_iload_n C 2 dX4_accept_2 rfl ?_
  replace hf := gw_bnd hf
  obtain ⟨r1, hr1, hf⟩ := hf
  refine gj_cVi (As := [.int a1, .int a2]) (rest := []) C cb_X4_129 (s_X4_areBoth (gw_l K) Γ τ μ o a1 a2 r1 hr1) rfl (Nat.le_of_ble_eq_true rfl) gw_atD rfl rfl dX4_accept_3 (gw_rmk rfl) rfl ?_
  refine gj_if_ne C 11 dX4_accept_6 (by decide) (fun c => ?_) (fun c => ?_)
  · replace hf := gw_iff hf c
    refine gj_aload_n C 0 dX4_accept_11 rfl ?_
    refine gj_iload_n C 1 dX4_accept_12 rfl ?_
    refine gj_iload_n C 2 dX4_accept_13 rfl ?_
    replace hf := gw_bnd hf
    obtain ⟨r2, hr2, hf⟩ := hf
    refine gj_cVi (As := [.int a1, .int a2]) (rest := []) C cb_X4_98 (s_X4_hasOffer (gw_l K) Γ τ r1.2 o a1 a2 r2 hr2) rfl (Nat.le_of_ble_eq_true rfl) gw_atD rfl rfl dX4_accept_14 (gw_rmk rfl) rfl ?_
    refine gj_if_eq C 35 dX4_accept_17 (by decide) (fun c => ?_) (fun c => ?_)
    · replace hf := gw_ift hf c
      refine gj_aload_n C 0 dX4_accept_35 rfl ?_
      refine gj_iconst (v := 2) C dX4_accept_36 (by decide) ?_
      refine p_X4_68 C  dX4_accept_37 ?_
      refine gj_iconst (v := 0) C dX4_accept_40 (by decide) ?_
      cases hf
      exact gj_iret C E dX4_accept_41 (Nat.le_of_ble_eq_true rfl) (Nat.le_of_ble_eq_true rfl)
    · replace hf := gw_iff hf c
      refine gj_aload_n C 0 dX4_accept_20 rfl ?_
      refine gj_iload_n C 1 dX4_accept_21 rfl ?_
      refine gj_iload_n C 2 dX4_accept_22 rfl ?_
      refine gj_aload_n C 0 dX4_accept_23 rfl ?_
      refine g_X4_31 C  dX4_accept_24 ?_
      refine gj_iload_n C 1 dX4_accept_27 rfl ?_
      obtain ⟨g3, hf⟩ := gw_ifs hf
      refine gj_bld (j := 8) C (by decide) (gw_ibv g3) dX4_accept_28 ?_
      replace hf := gw_bnd hf
      obtain ⟨r4, hr4, hf⟩ := hf
      refine gj_cVi (As := [.int a1, .int a2, .int (r1.2 8 a1.toNatClampNeg)]) (rest := []) C cb_X4_118 (s_X4_obstacleWith (gw_l K) Γ τ r1.2 o a1 a2 (r1.2 8 a1.toNatClampNeg) r4 hr4) rfl (Nat.le_of_ble_eq_true rfl) gw_atD rfl rfl dX4_accept_29 (gw_rmk rfl) rfl ?_
      refine gj_if_eq C 42 dX4_accept_32 (by decide) (fun c => ?_) (fun c => ?_)
      · replace hf := gw_ift hf c
        refine gj_aload_n C 0 dX4_accept_42 rfl ?_
        refine gj_iload_n C 1 dX4_accept_43 rfl ?_
        refine gj_iload_n C 2 dX4_accept_44 rfl ?_
        replace hf := gw_bnd hf
        obtain ⟨r5, hr5, hf⟩ := hf
        refine gj_cVv (As := [.int a1, .int a2]) (rest := []) C cb_X4_132 (s_X4_enrols (gw_l K) Γ τ r1.2 o a1 a2 r5 hr5) rfl (Nat.le_of_ble_eq_true rfl) gw_atD rfl rfl dX4_accept_45 (gw_rmk rfl) rfl ?_
        refine gj_aload_n C 0 dX4_accept_48 rfl ?_
        replace hf := gw_bnd hf
        obtain ⟨r6, hr6, hf⟩ := hf
        refine gj_cVv (As := []) (rest := []) C cb_X4_123 (s_X4_offers (gw_l K) Γ τ r5 o  r6 hr6) rfl (Nat.le_of_ble_eq_true rfl) gw_atD rfl rfl dX4_accept_49 (gw_rmk rfl) rfl ?_
        refine gj_aload_n C 0 dX4_accept_52 rfl ?_
        refine gj_aload_n C 0 dX4_accept_53 rfl ?_
        refine g_X4_31 C  dX4_accept_54 ?_
        refine gj_iload_n C 1 dX4_accept_57 rfl ?_
        obtain ⟨g7, hf⟩ := gw_ifs hf
        refine gj_bld (j := 8) C (by decide) (gw_ibv g7) dX4_accept_58 ?_
        replace hf := gw_bnd hf
        obtain ⟨r8, hr8, hf⟩ := hf
        refine gj_cVi (As := [.int (r6 8 a1.toNatClampNeg)]) (rest := []) C cb_X4_92 (s_X4_worthOf (gw_l K) Γ τ r6 o (r6 8 a1.toNatClampNeg) r8 hr8) rfl (Nat.le_of_ble_eq_true rfl) gw_atD rfl rfl dX4_accept_59 (gw_rmk rfl) rfl ?_
        cases hf
        exact gj_iret C E dX4_accept_62 (Nat.le_of_ble_eq_true rfl) (Nat.le_of_ble_eq_true rfl)
      · replace hf := gw_iff hf c
        refine gj_aload_n C 0 dX4_accept_35 rfl ?_
        refine gj_iconst (v := 2) C dX4_accept_36 (by decide) ?_
        refine p_X4_68 C  dX4_accept_37 ?_
        refine gj_iconst (v := 0) C dX4_accept_40 (by decide) ?_
        cases hf
        exact gj_iret C E dX4_accept_41 (Nat.le_of_ble_eq_true rfl) (Nat.le_of_ble_eq_true rfl)
  · replace hf := gw_ift hf c
    refine gj_iconst (v := 0) C dX4_accept_9 (by decide) ?_
    cases hf
    exact gj_iret C E dX4_accept_10 (Nat.le_of_ble_eq_true rfl) (Nat.le_of_ble_eq_true rfl)
set_option maxRecDepth 100000 in
set_option maxHeartbeats 4000000 in
theorem s_X4_leave (l : Launch) (Γ : gw_G) (τ μ : gw_S) (o : Nat → Int64) (a1 : Int32) (a2 : Int32) (r : Int32 × gw_S) (hf : f_X4_leave μ a1 a2 = some r) : gw_M l yX4_leave [.code yX4_leave cX4_leave 4 (some .boolean)] gr_X4_leave 0 0 Γ [.ref (gw_a Γ 132), .int a1, .int a2] (gw_W Γ τ μ o) (gw_qi Γ r.1 (gw_W Γ τ r.2 o)) := by
  refine gw_enter (by decide) (Nat.le_of_ble_eq_true rfl) (fun K C E => ?_)
  unfold f_X4_leave at hf
  refine gj_aload_n C 0 dX4_leave_0 rfl ?_
  refine gj_iload_n C 1 dX4_leave_1 rfl ?_
  refine gj_iload_n C 2 dX4_leave_2 rfl ?_
  replace hf := gw_bnd hf
  obtain ⟨r1, hr1, hf⟩ := hf
  refine gj_cVi (As := [.int a1, .int a2]) (rest := []) C cb_X4_129 (s_X4_areBoth (gw_l K) Γ τ μ o a1 a2 r1 hr1) rfl (Nat.le_of_ble_eq_true rfl) gw_atD rfl rfl dX4_leave_3 (gw_rmk rfl) rfl ?_
  refine gj_if_ne C 11 dX4_leave_6 (by decide) (fun c => ?_) (fun c => ?_)
  · replace hf := gw_iff hf c
    refine gj_aload_n C 0 dX4_leave_11 rfl ?_
    refine gj_iload_n C 1 dX4_leave_12 rfl ?_
    refine gj_iload_n C 2 dX4_leave_13 rfl ?_
    replace hf := gw_bnd hf
    obtain ⟨r2, hr2, hf⟩ := hf
    refine gj_cVi (As := [.int a1, .int a2]) (rest := []) C cb_X4_101 (s_X4_waitPlace (gw_l K) Γ τ r1.2 o a1 a2 r2 hr2) rfl (Nat.le_of_ble_eq_true rfl) gw_atD rfl rfl dX4_leave_14 (gw_rmk rfl) rfl ?_
    refine gj_if_ge C 27 dX4_leave_17 (by decide) (fun c => ?_) (fun c => ?_)
    · replace hf := gw_ift hf c
      refine gj_aload_n C 0 dX4_leave_27 rfl ?_
      refine gj_iload_n C 1 dX4_leave_28 rfl ?_
      refine gj_iload_n C 2 dX4_leave_29 rfl ?_
      replace hf := gw_bnd hf
      obtain ⟨r3, hr3, hf⟩ := hf
      refine gj_cVi (As := [.int a1, .int a2]) (rest := []) C cb_X4_98 (s_X4_hasOffer (gw_l K) Γ τ r1.2 o a1 a2 r3 hr3) rfl (Nat.le_of_ble_eq_true rfl) gw_atD rfl rfl dX4_leave_30 (gw_rmk rfl) rfl ?_
      refine gj_istore_n C 3 [(3, .int r3), (0, .ref (gw_a Γ 132)), (1, .int a1), (2, .int a2)] dX4_leave_33 rfl (by decide) rfl ?_
      refine gj_aload_n C 1 dX4_leave_34 rfl ?_
      refine gj_iload_n C 2 dX4_leave_35 rfl ?_
      refine gj_iload_n C 3 dX4_leave_36 rfl ?_
      replace hf := gw_bnd hf
      obtain ⟨r4, hr4, hf⟩ := hf
      refine gj_cVv (As := [.int a1, .int a2]) (rest := []) C cb_X4_112 (s_X4_leavesList (gw_l K) Γ τ r1.2 o a1 a2 r4 hr4) rfl (Nat.le_of_ble_eq_true rfl) gw_atD rfl rfl dX4_leave_37 (gw_rmk rfl) rfl ?_
      refine gj_aload_n C 1 dX4_leave_40 rfl ?_
      replace hf := gw_bnd hf
      obtain ⟨r5, hr5, hf⟩ := hf
      refine gj_cVv (As := []) (rest := []) C cb_X4_123 (s_X4_offers (gw_l K) Γ τ r4 o  r5 hr5) rfl (Nat.le_of_ble_eq_true rfl) gw_atD rfl rfl dX4_leave_41 (gw_rmk rfl) rfl ?_
      refine gj_iload_n C 0 dX4_leave_44 rfl ?_
      cases hf
      exact gj_zret C E (z_X4_hasOffer hr3) dX4_leave_45 (Nat.le_of_ble_eq_true rfl) (Nat.le_of_ble_eq_true rfl)
    · replace hf := gw_iff hf c
      refine gj_aload_n C 0 dX4_leave_20 rfl ?_
      refine gj_iconst (v := 2) C dX4_leave_21 (by decide) ?_
      refine p_X4_68 C  dX4_leave_22 ?_
      refine gj_iconst (v := 0) C dX4_leave_25 (by decide) ?_
      cases hf
      exact gj_zret C E (by decide) dX4_leave_26 (Nat.le_of_ble_eq_true rfl) (Nat.le_of_ble_eq_true rfl)
  · replace hf := gw_ift hf c
    refine gj_iconst (v := 0) C dX4_leave_9 (by decide) ?_
    cases hf
    exact gj_zret C E (by decide) dX4_leave_10 (Nat.le_of_ble_eq_true rfl) (Nat.le_of_ble_eq_true rfl)
set_option maxRecDepth 100000 in
set_option maxHeartbeats 4000000 in
theorem l_X4_expires_2 {K : gw_K} {Γ : gw_G} (C : gw_C K Γ cX4_expires 4 RX4) (τ : gw_S) (o : Nat → Int64) (v2 : Int32) : ∀ (n : Nat) (v1 : Int32) (v3 : Int32) (μ : gw_S) (T : Int32 × Int32 × gw_S), gw_it (b_X4_expires_2 v2) n (v1, v3, μ) = some T → (gw_J K Γ gr_X4_expires 0 0 (gw_W Γ τ T.2.2 o) 66 [(0, .ref (gw_a Γ 132)), (1, .int T.1), (2, .int v2), (3, .int T.2.1)] []) → gw_J K Γ gr_X4_expires 0 0 (gw_W Γ τ μ o) 14 [(0, .ref (gw_a Γ 132)), (1, .int v1), (2, .int v2), (3, .int v3)] [] := by
  intro n
  induction n with
  | zero => intro v1 v3 μ T  h; cases h
  | succ n ih =>
    intro v1 v3 μ T  h k
    obtain ⟨q, hf, hr⟩ := gw_it_s h
    rw [b_X4_expires_2] at hf
    refine gj_iload_n C 3 dX4_expires_14 rfl ?_
    refine gj_aload_n C 0 dX4_expires_15 rfl ?_
    refine g_X4_74 C  rfl dX4_expires_16 ?_
    refine gj_ic_ge C 66 dX4_expires_19 (by decide) (fun c => ?_) (fun c => ?_)
    · replace hf := gw_ift hf c
      cases hf
      cases gw_ir hr
      exact gj_pick [0, 1, 2, 3] _ rfl (k )
    · replace hf := gw_iff hf c
      refine gj_aload_n C 0 dX4_expires_22 rfl ?_
      refine gj_iload_n C 3 dX4_expires_23 rfl ?_
      refine gj_iload_n C 2 dX4_expires_24 rfl ?_
      replace hf := gw_bnd hf
      obtain ⟨r1, hr1, hf⟩ := hf
      refine gj_cVi (As := [.int v3, .int v2]) (rest := []) C cb_X4_98 (s_X4_hasOffer (gw_l K) Γ τ μ o v3 v2 r1 hr1) rfl (Nat.le_of_ble_eq_true rfl) gw_atD rfl rfl dX4_expires_25 (gw_rmk rfl) rfl ?_
      refine gj_if_eq C 60 dX4_expires_28 (by decide) (fun c => ?_) (fun c => ?_)
      · replace hf := gw_ift hf c
        refine gj_iinc C 3 3 (v3 + 1) [(3, .int (v3 + 1)), (0, .ref (gw_a Γ 132)), (1, .int v1), (2, .int v2)] dX4_expires_60 rfl rfl (by decide) rfl ?_
        refine gj_goto C 14 dX4_expires_63 (by decide) ?_
        cases hf
        replace hr := gw_il hr
        exact gj_pick [1, 2, 3, 0] _ rfl (ih _ _ _ _  hr k)
      · replace hf := gw_iff hf c
        refine gj_aload_n C 0 dX4_expires_31 rfl ?_
        refine g_X4_52 C  dX4_expires_32 ?_
        refine gj_bipush (v := 16) C dX4_expires_35 (by decide) ?_
        refine gj_iload_n C 2 dX4_expires_37 rfl ?_
        refine gj_imul C dX4_expires_38 ?_
        refine gj_iload_n C 3 dX4_expires_39 rfl ?_
        refine gj_iadd C dX4_expires_40 ?_
        obtain ⟨g2, hf⟩ := gw_ifs hf
        refine gj_bld (j := 15) C (by decide) (gw_ibv g2) dX4_expires_41 ?_
        refine gj_iconst (v := 3) C dX4_expires_42 (by decide) ?_
        refine gj_iadd C dX4_expires_43 ?_
        refine gj_aload_n C 0 dX4_expires_44 rfl ?_
        refine g_X4_64 C  rfl dX4_expires_45 ?_
        refine gj_ic_ne C 60 dX4_expires_48 (by decide) (fun c => ?_) (fun c => ?_)
        · replace hf := gw_iff hf c
          refine gj_iinc C 3 3 (v3 + 1) [(3, .int (v3 + 1)), (0, .ref (gw_a Γ 132)), (1, .int v1), (2, .int v2)] dX4_expires_60 rfl rfl (by decide) rfl ?_
          refine gj_goto C 14 dX4_expires_63 (by decide) ?_
          cases hf
          replace hr := gw_il hr
          exact gj_pick [1, 2, 3, 0] _ rfl (ih _ _ _ _  hr k)
        · replace hf := gw_ift hf c
          refine gj_aload_n C 0 dX4_expires_51 rfl ?_
          refine gj_iload_n C 3 dX4_expires_52 rfl ?_
          refine gj_iload_n C 2 dX4_expires_53 rfl ?_
          replace hf := gw_bnd hf
          obtain ⟨r3, hr3, hf⟩ := hf
          refine gj_cVv (As := [.int v3, .int v2]) (rest := []) C cb_X4_112 (s_X4_leavesList (gw_l K) Γ τ μ o v3 v2 r3 hr3) rfl (Nat.le_of_ble_eq_true rfl) gw_atD rfl rfl dX4_expires_54 (gw_rmk rfl) rfl ?_
          refine gj_iinc C 1 1 (v1 + 1) [(1, .int (v1 + 1)), (0, .ref (gw_a Γ 132)), (2, .int v2), (3, .int v3)] dX4_expires_57 rfl rfl (by decide) rfl ?_
          refine gj_iinc C 3 3 (v3 + 1) [(3, .int (v3 + 1)), (1, .int (v1 + 1)), (0, .ref (gw_a Γ 132)), (2, .int v2)] dX4_expires_60 rfl rfl (by decide) rfl ?_
          refine gj_goto C 14 dX4_expires_63 (by decide) ?_
          cases hf
          replace hr := gw_il hr
          exact gj_pick [2, 1, 3, 0] _ rfl (ih _ _ _ _  hr k)
set_option maxRecDepth 100000 in
set_option maxHeartbeats 4000000 in
theorem l_X4_expires_1 {K : gw_K} {Γ : gw_G} (C : gw_C K Γ cX4_expires 4 RX4) (τ : gw_S) (o : Nat → Int64) : ∀ (n : Nat) (v1 : Int32) (v2 : Int32) (μ : gw_S) (T : Int32 × Int32 × gw_S), gw_it (b_X4_expires_1) n (v1, v2, μ) = some T → (gw_J K Γ gr_X4_expires 0 0 (gw_W Γ τ T.2.2 o) 72 [(0, .ref (gw_a Γ 132)), (1, .int T.1), (2, .int T.2.1)] []) → gw_J K Γ gr_X4_expires 0 0 (gw_W Γ τ μ o) 4 [(0, .ref (gw_a Γ 132)), (1, .int v1), (2, .int v2)] [] := by
  intro n
  induction n with
  | zero => intro v1 v2 μ T  h; cases h
  | succ n ih =>
    intro v1 v2 μ T  h k
    obtain ⟨q, hf, hr⟩ := gw_it_s h
    rw [b_X4_expires_1] at hf
    refine gj_iload_n C 2 dX4_expires_4 rfl ?_
    refine gj_aload_n C 0 dX4_expires_5 rfl ?_
    refine g_X4_71 C  rfl dX4_expires_6 ?_
    refine gj_ic_ge C 72 dX4_expires_9 (by decide) (fun c => ?_) (fun c => ?_)
    · replace hf := gw_ift hf c
      cases hf
      cases gw_ir hr
      exact gj_pick [0, 1, 2] _ rfl (k )
    · replace hf := gw_iff hf c
      refine gj_iconst (v := 0) C dX4_expires_12 (by decide) ?_
      refine gj_istore_n C 3 [(3, .int (0 : Int32)), (0, .ref (gw_a Γ 132)), (1, .int v1), (2, .int v2)] dX4_expires_13 rfl (by decide) rfl ?_
      replace hf := gw_bnd hf
      obtain ⟨t4, ht4, hf⟩ := hf
      refine gj_pick [1, 2, 3, 0] _ rfl (l_X4_expires_2 C τ o v2 _ _ _ _ t4  ht4 (?_))
      refine gj_iinc C 2 2 (v2 + 1) [(2, .int (v2 + 1)), (0, .ref (gw_a Γ 132)), (1, .int t4.1), (3, .int t4.2.1)] dX4_expires_66 rfl rfl (by decide) rfl ?_
      refine gj_goto C 4 dX4_expires_69 (by decide) ?_
      cases hf
      replace hr := gw_il hr
      exact gj_pick [1, 2, 0] _ rfl (ih _ _ _ _  hr k)
set_option maxRecDepth 100000 in
set_option maxHeartbeats 4000000 in
theorem s_X4_expires (l : Launch) (Γ : gw_G) (τ μ : gw_S) (o : Nat → Int64) (r : Int32 × gw_S) (hf : f_X4_expires μ = some r) : gw_M l yX4_expires [.code yX4_expires cX4_expires 4 (some .int)] gr_X4_expires 0 0 Γ [.ref (gw_a Γ 132)] (gw_W Γ τ μ o) (gw_qi Γ r.1 (gw_W Γ τ r.2 o)) := by
  refine gw_enter (by decide) (Nat.le_of_ble_eq_true rfl) (fun K C E => ?_)
  unfold f_X4_expires at hf
  refine gj_iconst (v := 0) C dX4_expires_0 (by decide) ?_
  refine gj_istore_n C 1 [(1, .int (0 : Int32)), (0, .ref (gw_a Γ 132))] dX4_expires_1 rfl (by decide) rfl ?_
  refine gj_iconst (v := 0) C dX4_expires_2 (by decide) ?_
  refine gj_istore_n C 2 [(2, .int (0 : Int32)), (1, .int (0 : Int32)), (0, .ref (gw_a Γ 132))] dX4_expires_3 rfl (by decide) rfl ?_
  replace hf := gw_bnd hf
  obtain ⟨t5, ht5, hf⟩ := hf
  refine gj_pick [2, 1, 0] _ rfl (l_X4_expires_1 C τ o _ _ _ _ t5  ht5 (?_))
  refine gj_iload_n C 1 dX4_expires_72 rfl ?_
  cases hf
  exact gj_iret C E dX4_expires_73 (Nat.le_of_ble_eq_true rfl) (Nat.le_of_ble_eq_true rfl)
set_option maxRecDepth 100000 in
set_option maxHeartbeats 4000000 in
theorem l_X4_advance_1 {K : gw_K} {Γ : gw_G} (C : gw_C K Γ cX4_advance 4 RX4) (τ : gw_S) (o : Nat → Int64) (v1 : Int32) : ∀ (n : Nat) (v2 : Int32) (v3 : Int32) (μ : gw_S) (T : Int32 × Int32 × gw_S), gw_it (b_X4_advance_1 v1) n (v2, v3, μ) = some T → (gw_J K Γ gr_X4_advance 0 0 (gw_W Γ τ T.2.2 o) 63 [(0, .ref (gw_a Γ 132)), (1, .int v1), (2, .int T.1), (3, .int T.2.1)] []) → gw_J K Γ gr_X4_advance 0 0 (gw_W Γ τ μ o) 24 [(0, .ref (gw_a Γ 132)), (1, .int v1), (2, .int v2), (3, .int v3)] [] := by
  intro n
  induction n with
  | zero => intro v2 v3 μ T  h; cases h
  | succ n ih =>
    intro v2 v3 μ T  h k
    obtain ⟨q, hf, hr⟩ := gw_it_s h
    rw [b_X4_advance_1] at hf
    refine gj_iload_n C 3 dX4_advance_24 rfl ?_
    refine gj_iload_n C 1 dX4_advance_25 rfl ?_
    refine gj_ic_ge C 63 dX4_advance_26 (by decide) (fun c => ?_) (fun c => ?_)
    · replace hf := gw_ift hf c
      cases hf
      cases gw_ir hr
      exact gj_pick [0, 1, 2, 3] _ rfl (k )
    · replace hf := gw_iff hf c
      refine gj_aload_n C 0 dX4_advance_29 rfl ?_
      refine g_X4_68 C  rfl dX4_advance_30 ?_
      refine gj_if_ne C 63 dX4_advance_33 (by decide) (fun c => ?_) (fun c => ?_)
      · replace hf := gw_iff hf c
        cases hf
        cases gw_ir hr
        exact gj_pick [0, 1, 2, 3] _ rfl (k )
      · replace hf := gw_ift hf c
        refine gj_aload_n C 0 dX4_advance_36 rfl ?_
        refine gj_dup C dX4_advance_37 rfl ?_
        refine g_X4_64 C  rfl dX4_advance_38 ?_
        refine gj_iconst (v := 1) C dX4_advance_41 (by decide) ?_
        refine gj_iadd C dX4_advance_42 ?_
        refine p_X4_64 C  dX4_advance_43 ?_
        refine gj_iload_n C 2 dX4_advance_46 rfl ?_
        refine gj_aload_n C 0 dX4_advance_47 rfl ?_
        replace hf := gw_bnd hf
        obtain ⟨r1, hr1, hf⟩ := hf
        refine gj_cVi (As := []) (rest := [.int v2]) C cb_X4_138 (s_X4_expires (gw_l K) Γ τ (gw_up μ 0 17 ((μ 0 17) + (1 : Int32))) o  r1 hr1) rfl (Nat.le_of_ble_eq_true rfl) gw_atD rfl rfl dX4_advance_48 (gw_rmk rfl) rfl ?_
        refine gj_iadd C dX4_advance_51 ?_
        refine gj_istore_n C 2 [(2, .int (v2 + r1.1)), (0, .ref (gw_a Γ 132)), (1, .int v1), (3, .int v3)] dX4_advance_52 rfl (by decide) rfl ?_
        refine gj_aload_n C 1 dX4_advance_53 rfl ?_
        replace hf := gw_bnd hf
        obtain ⟨r2, hr2, hf⟩ := hf
        refine gj_cVv (As := []) (rest := []) C cb_X4_123 (s_X4_offers (gw_l K) Γ τ r1.2 o  r2 hr2) rfl (Nat.le_of_ble_eq_true rfl) gw_atD rfl rfl dX4_advance_54 (gw_rmk rfl) rfl ?_
        refine gj_iinc C 3 3 (v3 + 1) [(3, .int (v3 + 1)), (2, .int (v2 + r1.1)), (0, .ref (gw_a Γ 132)), (1, .int v1)] dX4_advance_57 rfl rfl (by decide) rfl ?_
        refine gj_goto C 24 dX4_advance_60 (by decide) ?_
        cases hf
        replace hr := gw_il hr
        exact gj_pick [2, 3, 1, 0] _ rfl (ih _ _ _ _  hr k)
set_option maxRecDepth 100000 in
set_option maxHeartbeats 4000000 in
theorem s_X4_advance (l : Launch) (Γ : gw_G) (τ μ : gw_S) (o : Nat → Int64) (a1 : Int32) (r : Int32 × gw_S) (hf : f_X4_advance μ a1 = some r) : gw_M l yX4_advance [.code yX4_advance cX4_advance 4 (some .int)] gr_X4_advance 0 0 Γ [.ref (gw_a Γ 132), .int a1] (gw_W Γ τ μ o) (gw_qi Γ r.1 (gw_W Γ τ r.2 o)) := by
  refine gw_enter (by decide) (Nat.le_of_ble_eq_true rfl) (fun K C E => ?_)
  unfold f_X4_advance at hf
  refine gj_aload_n C 0 dX4_advance_0 rfl ?_
  refine gj_iload_n C 1 dX4_advance_1 rfl ?_
  refine gj_iconst (v := 1) C dX4_advance_2 (by decide) ?_
  refine gj_ic_lt C 12 dX4_advance_3 (by decide) (fun c => ?_) (fun c => ?_)
  · replace hf := gw_ift hf c
    refine gj_iconst (v := 1) C dX4_advance_12 (by decide) ?_
    refine gj_goto C 17 dX4_advance_13 (by decide) ?_
    refine p_X4_68 C  dX4_advance_17 ?_
    refine gj_iconst (v := 0) C dX4_advance_20 (by decide) ?_
    refine gj_istore_n C 2 [(2, .int (0 : Int32)), (0, .ref (gw_a Γ 132)), (1, .int a1)] dX4_advance_21 rfl (by decide) rfl ?_
    refine gj_iconst (v := 0) C dX4_advance_22 (by decide) ?_
    refine gj_istore_n C 3 [(3, .int (0 : Int32)), (2, .int (0 : Int32)), (0, .ref (gw_a Γ 132)), (1, .int a1)] dX4_advance_23 rfl (by decide) rfl ?_
    replace hf := gw_bnd hf
    obtain ⟨t3, ht3, hf⟩ := hf
    refine gj_pick [2, 3, 1, 0] _ rfl (l_X4_advance_1 C τ o a1 _ _ _ _ t3  ht3 (?_))
    refine gj_iload_n C 2 dX4_advance_63 rfl ?_
    cases hf
    exact gj_iret C E dX4_advance_64 (Nat.le_of_ble_eq_true rfl) (Nat.le_of_ble_eq_true rfl)
  · replace hf := gw_iff hf c
    refine gj_iload_n C 1 dX4_advance_6 rfl ?_
    refine gj_bipush (v := 7) C dX4_advance_7 (by decide) ?_
    refine gj_ic_le C 16 dX4_advance_9 (by decide) (fun c => ?_) (fun c => ?_)
    · replace hf := gw_ift hf c
      refine gj_iconst (v := 0) C dX4_advance_16 (by decide) ?_
      refine p_X4_68 C  dX4_advance_17 ?_
      refine gj_iconst (v := 0) C dX4_advance_20 (by decide) ?_
      refine gj_istore_n C 2 [(2, .int (0 : Int32)), (0, .ref (gw_a Γ 132)), (1, .int a1)] dX4_advance_21 rfl (by decide) rfl ?_
      refine gj_iconst (v := 0) C dX4_advance_22 (by decide) ?_
      refine gj_istore_n C 3 [(3, .int (0 : Int32)), (2, .int (0 : Int32)), (0, .ref (gw_a Γ 132)), (1, .int a1)] dX4_advance_23 rfl (by decide) rfl ?_
      replace hf := gw_bnd hf
      obtain ⟨t4, ht4, hf⟩ := hf
      refine gj_pick [2, 3, 1, 0] _ rfl (l_X4_advance_1 C τ o a1 _ _ _ _ t4  ht4 (?_))
      refine gj_iload_n C 2 dX4_advance_63 rfl ?_
      cases hf
      exact gj_iret C E dX4_advance_64 (Nat.le_of_ble_eq_true rfl) (Nat.le_of_ble_eq_true rfl)
    · replace hf := gw_iff hf c
      refine gj_iconst (v := 1) C dX4_advance_12 (by decide) ?_
      refine gj_goto C 17 dX4_advance_13 (by decide) ?_
      refine p_X4_68 C  dX4_advance_17 ?_
      refine gj_iconst (v := 0) C dX4_advance_20 (by decide) ?_
      refine gj_istore_n C 2 [(2, .int (0 : Int32)), (0, .ref (gw_a Γ 132)), (1, .int a1)] dX4_advance_21 rfl (by decide) rfl ?_
      refine gj_iconst (v := 0) C dX4_advance_22 (by decide) ?_
      refine gj_istore_n C 3 [(3, .int (0 : Int32)), (2, .int (0 : Int32)), (0, .ref (gw_a Γ 132)), (1, .int a1)] dX4_advance_23 rfl (by decide) rfl ?_
      replace hf := gw_bnd hf
      obtain ⟨t5, ht5, hf⟩ := hf
      refine gj_pick [2, 3, 1, 0] _ rfl (l_X4_advance_1 C τ o a1 _ _ _ _ t5  ht5 (?_))
      refine gj_iload_n C 2 dX4_advance_63 rfl ?_
      cases hf
      exact gj_iret C E dX4_advance_64 (Nat.le_of_ble_eq_true rfl) (Nat.le_of_ble_eq_true rfl)
set_option maxRecDepth 100000 in
set_option maxHeartbeats 4000000 in
theorem s_X4_day (l : Launch) (Γ : gw_G) (τ μ : gw_S) (o : Nat → Int64) (r : Int32 × gw_S) (hf : f_X4_day μ = some r) : gw_M l yX4_day [.code yX4_day cX4_day 1 (some .int)] gr_X4_day 0 0 Γ [.ref (gw_a Γ 132)] (gw_W Γ τ μ o) (gw_qi Γ r.1 (gw_W Γ τ r.2 o)) := by
  refine gw_enter (by decide) (Nat.le_of_ble_eq_true rfl) (fun K C E => ?_)
  unfold f_X4_day at hf
  refine gj_aload_n C 0 dX4_day_0 rfl ?_
  refine gj_iconst (v := 0) C dX4_day_1 (by decide) ?_
  refine p_X4_68 C  dX4_day_2 ?_
  refine gj_aload_n C 0 dX4_day_5 rfl ?_
  refine g_X4_64 C  (gw_up_n (by omega)) dX4_day_6 ?_
  cases hf
  exact gj_iret C E dX4_day_9 (Nat.le_of_ble_eq_true rfl) (Nat.le_of_ble_eq_true rfl)
set_option maxRecDepth 100000 in
set_option maxHeartbeats 4000000 in
theorem s_X4_waiting (l : Launch) (Γ : gw_G) (τ μ : gw_S) (o : Nat → Int64) (a1 : Int32) (r : Int32 × gw_S) (hf : f_X4_waiting μ a1 = some r) : gw_M l yX4_waiting [.code yX4_waiting cX4_waiting 2 (some .int)] gr_X4_waiting 0 0 Γ [.ref (gw_a Γ 132), .int a1] (gw_W Γ τ μ o) (gw_qi Γ r.1 (gw_W Γ τ r.2 o)) := by
  refine gw_enter (by decide) (Nat.le_of_ble_eq_true rfl) (fun K C E => ?_)
  unfold f_X4_waiting at hf
  refine gj_aload_n C 0 dX4_waiting_0 rfl ?_
  refine gj_aload_n C 0 dX4_waiting_1 rfl ?_
  refine gj_iload_n C 1 dX4_waiting_2 rfl ?_
  replace hf := gw_bnd hf
  obtain ⟨r1, hr1, hf⟩ := hf
  refine gj_cVi (As := [.int a1]) (rest := [.ref (gw_a Γ 132)]) C cb_X4_81 (s_X4_isCourse (gw_l K) Γ τ μ o a1 r1 hr1) rfl (Nat.le_of_ble_eq_true rfl) gw_atD rfl rfl dX4_waiting_3 (gw_rmk rfl) rfl ?_
  refine gj_if_eq C 13 dX4_waiting_6 (by decide) (fun c => ?_) (fun c => ?_)
  · replace hf := gw_ift hf c
    refine gj_iconst (v := 1) C dX4_waiting_13 (by decide) ?_
    refine p_X4_68 C  dX4_waiting_14 ?_
    refine gj_aload_n C 0 dX4_waiting_17 rfl ?_
    refine g_X4_68 C  (gw_up_s _ _ _ _) dX4_waiting_18 ?_
    refine gj_if_ne C 33 dX4_waiting_21 (by decide) (fun _ => ?_) (fun c => absurd c (by decide))
    refine gj_iconst (v := 0) C dX4_waiting_33 (by decide) ?_
    cases hf
    exact gj_iret C E dX4_waiting_34 (Nat.le_of_ble_eq_true rfl) (Nat.le_of_ble_eq_true rfl)
  · replace hf := gw_iff hf c
    refine gj_iconst (v := 0) C dX4_waiting_9 (by decide) ?_
    refine gj_goto C 14 dX4_waiting_10 (by decide) ?_
    refine p_X4_68 C  dX4_waiting_14 ?_
    refine gj_aload_n C 0 dX4_waiting_17 rfl ?_
    refine g_X4_68 C  (gw_up_s _ _ _ _) dX4_waiting_18 ?_
    refine gj_if_ne C 33 dX4_waiting_21 (by decide) (fun c => absurd (by decide) c) (fun _ => ?_)
    refine gj_aload_n C 0 dX4_waiting_24 rfl ?_
    refine g_X4_46 C  dX4_waiting_25 ?_
    refine gj_iload_n C 1 dX4_waiting_28 rfl ?_
    obtain ⟨g2, hf⟩ := gw_ifs hf
    refine gj_bld (j := 13) C (by decide) (gw_ibv g2) dX4_waiting_29 ?_
    refine gj_goto C 34 dX4_waiting_30 (by decide) ?_
    cases hf
    exact gj_iret C E dX4_waiting_34 (Nat.le_of_ble_eq_true rfl) (Nat.le_of_ble_eq_true rfl)
set_option maxRecDepth 100000 in
set_option maxHeartbeats 4000000 in
theorem s_X4_waitingAt (l : Launch) (Γ : gw_G) (τ μ : gw_S) (o : Nat → Int64) (a1 : Int32) (a2 : Int32) (r : Int32 × gw_S) (hf : f_X4_waitingAt μ a1 a2 = some r) : gw_M l yX4_waitingAt [.code yX4_waitingAt cX4_waitingAt 3 (some .int)] gr_X4_waitingAt 0 0 Γ [.ref (gw_a Γ 132), .int a1, .int a2] (gw_W Γ τ μ o) (gw_qi Γ r.1 (gw_W Γ τ r.2 o)) := by
  refine gw_enter (by decide) (Nat.le_of_ble_eq_true rfl) (fun K C E => ?_)
  unfold f_X4_waitingAt at hf
  refine gj_aload_n C 0 dX4_waitingAt_0 rfl ?_
  refine gj_aload_n C 0 dX4_waitingAt_1 rfl ?_
  refine gj_iload_n C 1 dX4_waitingAt_2 rfl ?_
  replace hf := gw_bnd hf
  obtain ⟨r1, hr1, hf⟩ := hf
  refine gj_cVi (As := [.int a1]) (rest := [.ref (gw_a Γ 132)]) C cb_X4_81 (s_X4_isCourse (gw_l K) Γ τ μ o a1 r1 hr1) rfl (Nat.le_of_ble_eq_true rfl) gw_atD rfl rfl dX4_waitingAt_3 (gw_rmk rfl) rfl ?_
  refine gj_if_eq C 27 dX4_waitingAt_6 (by decide) (fun c => ?_) (fun c => ?_)
  · replace hf := gw_ift hf c
    refine gj_iconst (v := 1) C dX4_waitingAt_27 (by decide) ?_
    refine p_X4_68 C  dX4_waitingAt_28 ?_
    refine gj_aload_n C 0 dX4_waitingAt_31 rfl ?_
    refine g_X4_68 C  (gw_up_s _ _ _ _) dX4_waitingAt_32 ?_
    refine gj_if_ne C 52 dX4_waitingAt_35 (by decide) (fun _ => ?_) (fun c => absurd c (by decide))
    refine gj_iconst (v := 0) C dX4_waitingAt_52 (by decide) ?_
    cases hf
    exact gj_iret C E dX4_waitingAt_53 (Nat.le_of_ble_eq_true rfl) (Nat.le_of_ble_eq_true rfl)
  · replace hf := gw_iff hf c
    refine gj_iload_n C 2 dX4_waitingAt_9 rfl ?_
    refine gj_if_lt C 27 dX4_waitingAt_10 (by decide) (fun c => ?_) (fun c => ?_)
    · replace hf := gw_ift hf c
      refine gj_iconst (v := 1) C dX4_waitingAt_27 (by decide) ?_
      refine p_X4_68 C  dX4_waitingAt_28 ?_
      refine gj_aload_n C 0 dX4_waitingAt_31 rfl ?_
      refine g_X4_68 C  (gw_up_s _ _ _ _) dX4_waitingAt_32 ?_
      refine gj_if_ne C 52 dX4_waitingAt_35 (by decide) (fun _ => ?_) (fun c => absurd c (by decide))
      refine gj_iconst (v := 0) C dX4_waitingAt_52 (by decide) ?_
      cases hf
      exact gj_iret C E dX4_waitingAt_53 (Nat.le_of_ble_eq_true rfl) (Nat.le_of_ble_eq_true rfl)
    · replace hf := gw_iff hf c
      refine gj_iload_n C 2 dX4_waitingAt_13 rfl ?_
      refine gj_aload_n C 0 dX4_waitingAt_14 rfl ?_
      refine g_X4_46 C  dX4_waitingAt_15 ?_
      refine gj_iload_n C 1 dX4_waitingAt_18 rfl ?_
      obtain ⟨g2, hf⟩ := gw_ifs hf
      refine gj_bld (j := 13) C (by decide) (gw_ibv g2) dX4_waitingAt_19 ?_
      refine gj_ic_ge C 27 dX4_waitingAt_20 (by decide) (fun c => ?_) (fun c => ?_)
      · replace hf := gw_ift hf c
        refine gj_iconst (v := 1) C dX4_waitingAt_27 (by decide) ?_
        refine p_X4_68 C  dX4_waitingAt_28 ?_
        refine gj_aload_n C 0 dX4_waitingAt_31 rfl ?_
        refine g_X4_68 C  (gw_up_s _ _ _ _) dX4_waitingAt_32 ?_
        refine gj_if_ne C 52 dX4_waitingAt_35 (by decide) (fun _ => ?_) (fun c => absurd c (by decide))
        refine gj_iconst (v := 0) C dX4_waitingAt_52 (by decide) ?_
        cases hf
        exact gj_iret C E dX4_waitingAt_53 (Nat.le_of_ble_eq_true rfl) (Nat.le_of_ble_eq_true rfl)
      · replace hf := gw_iff hf c
        refine gj_iconst (v := 0) C dX4_waitingAt_23 (by decide) ?_
        refine gj_goto C 28 dX4_waitingAt_24 (by decide) ?_
        refine p_X4_68 C  dX4_waitingAt_28 ?_
        refine gj_aload_n C 0 dX4_waitingAt_31 rfl ?_
        refine g_X4_68 C  (gw_up_s _ _ _ _) dX4_waitingAt_32 ?_
        refine gj_if_ne C 52 dX4_waitingAt_35 (by decide) (fun c => absurd (by decide) c) (fun _ => ?_)
        refine gj_aload_n C 0 dX4_waitingAt_38 rfl ?_
        refine g_X4_49 C  dX4_waitingAt_39 ?_
        refine gj_bipush (v := 16) C dX4_waitingAt_42 (by decide) ?_
        refine gj_iload_n C 1 dX4_waitingAt_44 rfl ?_
        refine gj_imul C dX4_waitingAt_45 ?_
        refine gj_iload_n C 2 dX4_waitingAt_46 rfl ?_
        refine gj_iadd C dX4_waitingAt_47 ?_
        obtain ⟨g3, hf⟩ := gw_ifs hf
        refine gj_bld (j := 14) C (by decide) (gw_ibv g3) dX4_waitingAt_48 ?_
        refine gj_goto C 53 dX4_waitingAt_49 (by decide) ?_
        cases hf
        exact gj_iret C E dX4_waitingAt_53 (Nat.le_of_ble_eq_true rfl) (Nat.le_of_ble_eq_true rfl)
set_option maxRecDepth 100000 in
set_option maxHeartbeats 4000000 in
theorem s_X4_offerDays (l : Launch) (Γ : gw_G) (τ μ : gw_S) (o : Nat → Int64) (a1 : Int32) (a2 : Int32) (r : Int32 × gw_S) (hf : f_X4_offerDays μ a1 a2 = some r) : gw_M l yX4_offerDays [.code yX4_offerDays cX4_offerDays 3 (some .int)] gr_X4_offerDays 0 0 Γ [.ref (gw_a Γ 132), .int a1, .int a2] (gw_W Γ τ μ o) (gw_qi Γ r.1 (gw_W Γ τ r.2 o)) := by
  refine gw_enter (by decide) (Nat.le_of_ble_eq_true rfl) (fun K C E => ?_)
  unfold f_X4_offerDays at hf
  refine gj_aload_n C 0 dX4_offerDays_0 rfl ?_
  refine gj_iload_n C 1 dX4_offerDays_1 rfl ?_
  refine gj_iload_n C 2 dX4_offerDays_2 rfl ?_
  replace hf := gw_bnd hf
  obtain ⟨r1, hr1, hf⟩ := hf
  refine gj_cVi (As := [.int a1, .int a2]) (rest := []) C cb_X4_129 (s_X4_areBoth (gw_l K) Γ τ μ o a1 a2 r1 hr1) rfl (Nat.le_of_ble_eq_true rfl) gw_atD rfl rfl dX4_offerDays_3 (gw_rmk rfl) rfl ?_
  refine gj_if_eq C 18 dX4_offerDays_6 (by decide) (fun c => ?_) (fun c => ?_)
  · replace hf := gw_ift hf c
    refine gj_iconst (v := 0) C dX4_offerDays_18 (by decide) ?_
    cases hf
    exact gj_iret C E dX4_offerDays_19 (Nat.le_of_ble_eq_true rfl) (Nat.le_of_ble_eq_true rfl)
  · replace hf := gw_iff hf c
    refine gj_aload_n C 0 dX4_offerDays_9 rfl ?_
    refine gj_iload_n C 1 dX4_offerDays_10 rfl ?_
    refine gj_iload_n C 2 dX4_offerDays_11 rfl ?_
    replace hf := gw_bnd hf
    obtain ⟨r2, hr2, hf⟩ := hf
    refine gj_cVi (As := [.int a1, .int a2]) (rest := []) C cb_X4_98 (s_X4_hasOffer (gw_l K) Γ τ r1.2 o a1 a2 r2 hr2) rfl (Nat.le_of_ble_eq_true rfl) gw_atD rfl rfl dX4_offerDays_12 (gw_rmk rfl) rfl ?_
    refine gj_if_ne C 20 dX4_offerDays_15 (by decide) (fun c => ?_) (fun c => ?_)
    · replace hf := gw_iff hf c
      refine gj_aload_n C 0 dX4_offerDays_20 rfl ?_
      refine g_X4_52 C  dX4_offerDays_21 ?_
      refine gj_bipush (v := 16) C dX4_offerDays_24 (by decide) ?_
      refine gj_iload_n C 2 dX4_offerDays_26 rfl ?_
      refine gj_imul C dX4_offerDays_27 ?_
      refine gj_iload_n C 1 dX4_offerDays_28 rfl ?_
      refine gj_iadd C dX4_offerDays_29 ?_
      obtain ⟨g3, hf⟩ := gw_ifs hf
      refine gj_bld (j := 15) C (by decide) (gw_ibv g3) dX4_offerDays_30 ?_
      refine gj_iconst (v := 3) C dX4_offerDays_31 (by decide) ?_
      refine gj_iadd C dX4_offerDays_32 ?_
      refine gj_aload_n C 0 dX4_offerDays_33 rfl ?_
      refine g_X4_64 C  rfl dX4_offerDays_34 ?_
      refine gj_isub C dX4_offerDays_37 ?_
      cases hf
      exact gj_iret C E dX4_offerDays_38 (Nat.le_of_ble_eq_true rfl) (Nat.le_of_ble_eq_true rfl)
    · replace hf := gw_ift hf c
      refine gj_iconst (v := 0) C dX4_offerDays_18 (by decide) ?_
      cases hf
      exact gj_iret C E dX4_offerDays_19 (Nat.le_of_ble_eq_true rfl) (Nat.le_of_ble_eq_true rfl)
set_option maxRecDepth 100000 in
set_option maxHeartbeats 4000000 in
theorem s_X4_isAhead (l : Launch) (Γ : gw_G) (τ μ : gw_S) (o : Nat → Int64) (a1 : Int32) (a2 : Int32) (r : Int32) (hf : f_X4_isAhead μ a1 a2 = some r) : gw_M l yX4_isAhead [.code yX4_isAhead cX4_isAhead 3 (some .boolean)] gr_X4_isAhead 0 0 Γ [.ref (gw_a Γ 132), .int a1, .int a2] (gw_W Γ τ μ o) (gw_qi Γ r (gw_W Γ τ μ o)) := by
  refine gw_enter (by decide) (Nat.le_of_ble_eq_true rfl) (fun K C E => ?_)
  unfold f_X4_isAhead at hf
  refine gj_aload_n C 0 dX4_isAhead_0 rfl ?_
  refine g_X4_22 C  dX4_isAhead_1 ?_
  refine gj_iload_n C 1 dX4_isAhead_4 rfl ?_
  obtain ⟨g1, hf⟩ := gw_ifs hf
  refine gj_bld (j := 5) C (by decide) (gw_ibv g1) dX4_isAhead_5 ?_
  refine gj_aload_n C 0 dX4_isAhead_6 rfl ?_
  refine g_X4_22 C  dX4_isAhead_7 ?_
  refine gj_iload_n C 2 dX4_isAhead_10 rfl ?_
  obtain ⟨g2, hf⟩ := gw_ifs hf
  refine gj_bld (j := 5) C (by decide) (gw_ibv g2) dX4_isAhead_11 ?_
  refine gj_ic_eq C 36 dX4_isAhead_12 (by decide) (fun c => ?_) (fun c => ?_)
  · replace hf := gw_ift hf c
    refine gj_aload_n C 0 dX4_isAhead_36 rfl ?_
    refine g_X4_43 C  dX4_isAhead_37 ?_
    refine gj_iload_n C 1 dX4_isAhead_40 rfl ?_
    obtain ⟨g3, hf⟩ := gw_ifs hf
    refine gj_bld (j := 12) C (by decide) (gw_ibv g3) dX4_isAhead_41 ?_
    refine gj_aload_n C 0 dX4_isAhead_42 rfl ?_
    refine g_X4_43 C  dX4_isAhead_43 ?_
    refine gj_iload_n C 2 dX4_isAhead_46 rfl ?_
    obtain ⟨g4, hf⟩ := gw_ifs hf
    refine gj_bld (j := 12) C (by decide) (gw_ibv g4) dX4_isAhead_47 ?_
    refine gj_ic_eq C 74 dX4_isAhead_48 (by decide) (fun c => ?_) (fun c => ?_)
    · replace hf := gw_ift hf c
      refine gj_iload_n C 1 dX4_isAhead_74 rfl ?_
      refine gj_iload_n C 2 dX4_isAhead_75 rfl ?_
      refine gj_ic_ge C 83 dX4_isAhead_76 (by decide) (fun c => ?_) (fun c => ?_)
      · replace hf := gw_ift hf c
        refine gj_iconst (v := 0) C dX4_isAhead_83 (by decide) ?_
        cases hf
        exact gj_zret C E (by decide) dX4_isAhead_84 (Nat.le_of_ble_eq_true rfl) (Nat.le_of_ble_eq_true rfl)
      · replace hf := gw_iff hf c
        refine gj_iconst (v := 1) C dX4_isAhead_79 (by decide) ?_
        refine gj_goto C 84 dX4_isAhead_80 (by decide) ?_
        cases hf
        exact gj_zret C E (by decide) dX4_isAhead_84 (Nat.le_of_ble_eq_true rfl) (Nat.le_of_ble_eq_true rfl)
    · replace hf := gw_iff hf c
      refine gj_aload_n C 0 dX4_isAhead_51 rfl ?_
      refine g_X4_43 C  dX4_isAhead_52 ?_
      refine gj_iload_n C 1 dX4_isAhead_55 rfl ?_
      obtain ⟨g5, hf⟩ := gw_ifs hf
      refine gj_bld (j := 12) C (by decide) (gw_ibv g5) dX4_isAhead_56 ?_
      refine gj_aload_n C 0 dX4_isAhead_57 rfl ?_
      refine g_X4_43 C  dX4_isAhead_58 ?_
      refine gj_iload_n C 2 dX4_isAhead_61 rfl ?_
      obtain ⟨g6, hf⟩ := gw_ifs hf
      refine gj_bld (j := 12) C (by decide) (gw_ibv g6) dX4_isAhead_62 ?_
      refine gj_ic_ge C 70 dX4_isAhead_63 (by decide) (fun c => ?_) (fun c => ?_)
      · replace hf := gw_ift hf c
        refine gj_iconst (v := 0) C dX4_isAhead_70 (by decide) ?_
        refine gj_goto C 84 dX4_isAhead_71 (by decide) ?_
        cases hf
        exact gj_zret C E (by decide) dX4_isAhead_84 (Nat.le_of_ble_eq_true rfl) (Nat.le_of_ble_eq_true rfl)
      · replace hf := gw_iff hf c
        refine gj_iconst (v := 1) C dX4_isAhead_66 (by decide) ?_
        refine gj_goto C 84 dX4_isAhead_67 (by decide) ?_
        cases hf
        exact gj_zret C E (by decide) dX4_isAhead_84 (Nat.le_of_ble_eq_true rfl) (Nat.le_of_ble_eq_true rfl)
  · replace hf := gw_iff hf c
    refine gj_aload_n C 0 dX4_isAhead_15 rfl ?_
    refine g_X4_22 C  dX4_isAhead_16 ?_
    refine gj_iload_n C 1 dX4_isAhead_19 rfl ?_
    obtain ⟨g7, hf⟩ := gw_ifs hf
    refine gj_bld (j := 5) C (by decide) (gw_ibv g7) dX4_isAhead_20 ?_
    refine gj_aload_n C 0 dX4_isAhead_21 rfl ?_
    refine g_X4_22 C  dX4_isAhead_22 ?_
    refine gj_iload_n C 2 dX4_isAhead_25 rfl ?_
    obtain ⟨g8, hf⟩ := gw_ifs hf
    refine gj_bld (j := 5) C (by decide) (gw_ibv g8) dX4_isAhead_26 ?_
    refine gj_ic_ge C 34 dX4_isAhead_27 (by decide) (fun c => ?_) (fun c => ?_)
    · replace hf := gw_ift hf c
      refine gj_iconst (v := 0) C dX4_isAhead_34 (by decide) ?_
      cases hf
      exact gj_zret C E (by decide) dX4_isAhead_35 (Nat.le_of_ble_eq_true rfl) (Nat.le_of_ble_eq_true rfl)
    · replace hf := gw_iff hf c
      refine gj_iconst (v := 1) C dX4_isAhead_30 (by decide) ?_
      refine gj_goto C 35 dX4_isAhead_31 (by decide) ?_
      cases hf
      exact gj_zret C E (by decide) dX4_isAhead_35 (Nat.le_of_ble_eq_true rfl) (Nat.le_of_ble_eq_true rfl)
set_option maxRecDepth 100000 in
set_option maxHeartbeats 4000000 in
theorem l_X4_getsOne_1 {K : gw_K} {Γ : gw_G} (C : gw_C K Γ cX4_getsOne 4 RX4) (τ : gw_S) (o : Nat → Int64) (v1 : Int32) : ∀ (n : Nat) (v2 : Int32) (μ : gw_S) (T : (Int32 × gw_S) ⊕ (Int32 × gw_S)), gw_it (b_X4_getsOne_1 v1) n (v2, μ) = some T → (∀ x : Int32 × gw_S, T = .inl x → gw_J K Γ gr_X4_getsOne 0 0 (gw_W Γ τ x.2 o) 61 [(0, .ref (gw_a Γ 132)), (1, .int v1), (2, .int x.1)] []) → (∀ r : Int32 × gw_S, T = .inr r → gw_E K Γ (gw_qi Γ r.1 (gw_W Γ τ r.2 o)) 0 0 (some .boolean)) → gw_J K Γ gr_X4_getsOne 0 0 (gw_W Γ τ μ o) 2 [(0, .ref (gw_a Γ 132)), (1, .int v1), (2, .int v2)] [] := by
  intro n
  induction n with
  | zero => intro v2 μ T  h; cases h
  | succ n ih =>
    intro v2 μ T  h k ke
    obtain ⟨q, hf, hr⟩ := gw_it_s h
    rw [b_X4_getsOne_1] at hf
    refine gj_iload_n C 2 dX4_getsOne_2 rfl ?_
    refine gj_aload_n C 0 dX4_getsOne_3 rfl ?_
    refine g_X4_34 C  dX4_getsOne_4 ?_
    refine gj_iload_n C 1 dX4_getsOne_7 rfl ?_
    obtain ⟨g1, hf⟩ := gw_ifs hf
    refine gj_bld (j := 9) C (by decide) (gw_ibv g1) dX4_getsOne_8 ?_
    refine gj_ic_ge C 61 dX4_getsOne_9 (by decide) (fun c => ?_) (fun c => ?_)
    · replace hf := gw_ift hf c
      cases hf
      exact gj_pick [0, 1, 2] _ rfl (k _ (gw_ir hr).symm )
    · replace hf := gw_iff hf c
      refine gj_aload_n C 0 dX4_getsOne_12 rfl ?_
      refine g_X4_37 C  dX4_getsOne_13 ?_
      refine gj_bipush (v := 6) C dX4_getsOne_16 (by decide) ?_
      refine gj_iload_n C 1 dX4_getsOne_18 rfl ?_
      refine gj_imul C dX4_getsOne_19 ?_
      refine gj_iload_n C 2 dX4_getsOne_20 rfl ?_
      refine gj_iadd C dX4_getsOne_21 ?_
      obtain ⟨g2, hf⟩ := gw_ifs hf
      refine gj_bld (j := 10) C (by decide) (gw_ibv g2) dX4_getsOne_22 ?_
      refine gj_istore_n C 3 [(3, .int (μ 10 (((6 : Int32) * v1) + v2).toNatClampNeg)), (0, .ref (gw_a Γ 132)), (1, .int v1), (2, .int v2)] dX4_getsOne_23 rfl (by decide) rfl ?_
      refine gj_aload_n C 1 dX4_getsOne_24 rfl ?_
      refine gj_iload_n C 2 dX4_getsOne_25 rfl ?_
      refine gj_iload_n C 0 dX4_getsOne_26 rfl ?_
      refine gj_aload_n C 1 dX4_getsOne_27 rfl ?_
      refine g_X4_31 C  dX4_getsOne_28 ?_
      refine gj_iload_n C 2 dX4_getsOne_31 rfl ?_
      obtain ⟨g3, hf⟩ := gw_ifs hf
      refine gj_bld (j := 8) C (by decide) (gw_ibv g3) dX4_getsOne_32 ?_
      replace hf := gw_bnd hf
      obtain ⟨r4, hr4, hf⟩ := hf
      refine gj_cVi (As := [.int v1, .int (μ 10 (((6 : Int32) * v1) + v2).toNatClampNeg), .int (μ 8 v1.toNatClampNeg)]) (rest := []) C cb_X4_118 (s_X4_obstacleWith (gw_l K) Γ τ μ o v1 (μ 10 (((6 : Int32) * v1) + v2).toNatClampNeg) (μ 8 v1.toNatClampNeg) r4 hr4) rfl (Nat.le_of_ble_eq_true rfl) gw_atD rfl rfl dX4_getsOne_33 (gw_rmk rfl) rfl ?_
      refine gj_if_ne C 55 dX4_getsOne_36 (by decide) (fun c => ?_) (fun c => ?_)
      · replace hf := gw_iff hf c
        refine gj_iinc C 2 3 (v2 + 1) [(2, .int (v2 + 1)), (3, .int (μ 10 (((6 : Int32) * v1) + v2).toNatClampNeg)), (0, .ref (gw_a Γ 132)), (1, .int v1)] dX4_getsOne_55 rfl rfl (by decide) rfl ?_
        refine gj_goto C 2 dX4_getsOne_58 (by decide) ?_
        cases hf
        replace hr := gw_il hr
        exact gj_pick [2, 3, 0] _ rfl (ih _ _ _  hr k ke)
      · replace hf := gw_ift hf c
        refine gj_aload_n C 1 dX4_getsOne_39 rfl ?_
        refine gj_iload_n C 0 dX4_getsOne_40 rfl ?_
        replace hf := gw_bnd hf
        obtain ⟨r5, hr5, hf⟩ := hf
        refine gj_cVi (As := [.int (μ 10 (((6 : Int32) * v1) + v2).toNatClampNeg)]) (rest := []) C cb_X4_115 (s_X4_free (gw_l K) Γ τ μ o (μ 10 (((6 : Int32) * v1) + v2).toNatClampNeg) r5 hr5) rfl (Nat.le_of_ble_eq_true rfl) gw_atD rfl rfl dX4_getsOne_41 (gw_rmk rfl) rfl ?_
        refine gj_if_le C 55 dX4_getsOne_44 (by decide) (fun c => ?_) (fun c => ?_)
        · replace hf := gw_ift hf c
          refine gj_iinc C 2 3 (v2 + 1) [(2, .int (v2 + 1)), (3, .int (μ 10 (((6 : Int32) * v1) + v2).toNatClampNeg)), (0, .ref (gw_a Γ 132)), (1, .int v1)] dX4_getsOne_55 rfl rfl (by decide) rfl ?_
          refine gj_goto C 2 dX4_getsOne_58 (by decide) ?_
          cases hf
          replace hr := gw_il hr
          exact gj_pick [2, 3, 0] _ rfl (ih _ _ _  hr k ke)
        · replace hf := gw_iff hf c
          refine gj_aload_n C 1 dX4_getsOne_47 rfl ?_
          refine gj_iload_n C 2 dX4_getsOne_48 rfl ?_
          refine gj_iload_n C 0 dX4_getsOne_49 rfl ?_
          replace hf := gw_bnd hf
          obtain ⟨r6, hr6, hf⟩ := hf
          refine gj_cVv (As := [.int v1, .int (μ 10 (((6 : Int32) * v1) + v2).toNatClampNeg)]) (rest := []) C cb_X4_132 (s_X4_enrols (gw_l K) Γ τ μ o v1 (μ 10 (((6 : Int32) * v1) + v2).toNatClampNeg) r6 hr6) rfl (Nat.le_of_ble_eq_true rfl) gw_atD rfl rfl dX4_getsOne_50 (gw_rmk rfl) rfl ?_
          refine gj_iconst (v := 1) C dX4_getsOne_53 (by decide) ?_
          cases hf
          exact gj_zret C (ke _ (gw_ir hr).symm) (by decide) dX4_getsOne_54 (Nat.le_of_ble_eq_true rfl) (Nat.le_of_ble_eq_true rfl)
set_option maxRecDepth 100000 in
set_option maxHeartbeats 4000000 in
theorem s_X4_getsOne (l : Launch) (Γ : gw_G) (τ μ : gw_S) (o : Nat → Int64) (a1 : Int32) (r : Int32 × gw_S) (hf : f_X4_getsOne μ a1 = some r) : gw_M l yX4_getsOne [.code yX4_getsOne cX4_getsOne 4 (some .boolean)] gr_X4_getsOne 0 0 Γ [.ref (gw_a Γ 132), .int a1] (gw_W Γ τ μ o) (gw_qi Γ r.1 (gw_W Γ τ r.2 o)) := by
  refine gw_enter (by decide) (Nat.le_of_ble_eq_true rfl) (fun K C E => ?_)
  unfold f_X4_getsOne at hf
  refine gj_iconst (v := 0) C dX4_getsOne_0 (by decide) ?_
  refine gj_istore_n C 2 [(2, .int (0 : Int32)), (0, .ref (gw_a Γ 132)), (1, .int a1)] dX4_getsOne_1 rfl (by decide) rfl ?_
  replace hf := gw_bnd hf
  obtain ⟨t7, ht7, hf⟩ := hf
  refine gj_pick [1, 2, 0] _ rfl (l_X4_getsOne_1 C τ o a1 _ _ _ t7  ht7 (fun x8 e  => ?_) (fun r e => ?_))
  · replace hf := gw_xl hf e
    refine gj_iconst (v := 0) C dX4_getsOne_61 (by decide) ?_
    cases hf
    exact gj_zret C E (by decide) dX4_getsOne_62 (Nat.le_of_ble_eq_true rfl) (Nat.le_of_ble_eq_true rfl)
  · replace hf := gw_xr hf e
    cases hf
    exact E
set_option maxRecDepth 100000 in
set_option maxHeartbeats 4000000 in
theorem l_X4_runLottery_1 {K : gw_K} {Γ : gw_G} (C : gw_C K Γ cX4_runLottery 9 RX4) (τ : gw_S) (o : Nat → Int64) (v1 : Int32) : ∀ (n : Nat) (v2 : Int64) (v4 : Int32) (μ : gw_S) (T : Int64 × Int32 × gw_S), gw_it (b_X4_runLottery_1 v1) n (v2, v4, μ) = some T → (gw_J K Γ gr_X4_runLottery 0 0 (gw_W Γ τ T.2.2 o) 70 [(0, .ref (gw_a Γ 132)), (1, .int v1), (2, .long T.1), (4, .int T.2.1)] []) → gw_J K Γ gr_X4_runLottery 0 0 (gw_W Γ τ μ o) 28 [(0, .ref (gw_a Γ 132)), (1, .int v1), (2, .long v2), (4, .int v4)] [] := by
  intro n
  induction n with
  | zero => intro v2 v4 μ T  h; cases h
  | succ n ih =>
    intro v2 v4 μ T  h k
    obtain ⟨q, hf, hr⟩ := gw_it_s h
    rw [b_X4_runLottery_1] at hf
    refine gj_iload C 3 dX4_runLottery_28 rfl ?_
    refine gj_aload_n C 0 dX4_runLottery_30 rfl ?_
    refine g_X4_74 C  rfl dX4_runLottery_31 ?_
    refine gj_ic_ge C 70 dX4_runLottery_34 (by decide) (fun c => ?_) (fun c => ?_)
    · replace hf := gw_ift hf c
      cases hf
      cases gw_ir hr
      exact gj_pick [0, 1, 2, 3] _ rfl (k )
    · replace hf := gw_iff hf c
      refine gj_ldc2 (v := 1103515245) C cst_X4_142 dX4_runLottery_37 ?_
      refine gj_lload_n C 2 dX4_runLottery_40 rfl ?_
      refine gj_lmul C dX4_runLottery_41 ?_
      refine gj_ldc2 (v := 12345) C cst_X4_144 dX4_runLottery_42 ?_
      refine gj_ladd C dX4_runLottery_45 ?_
      refine gj_ldc2 (v := 2147483648) C cst_X4_146 dX4_runLottery_46 ?_
      refine gj_lrem C dX4_runLottery_49 (by decide) ?_
      refine gj_lstore_n C 2 [(2, .long ((((1103515245 : Int64) * v2) + (12345 : Int64)) - (((1103515245 : Int64) * v2) + (12345 : Int64)) / (2147483648 : Int64) * (2147483648 : Int64))), (0, .ref (gw_a Γ 132)), (1, .int v1), (4, .int v4)] dX4_runLottery_50 rfl (by decide) rfl ?_
      refine gj_aload_n C 1 dX4_runLottery_51 rfl ?_
      refine g_X4_43 C  dX4_runLottery_52 ?_
      refine gj_iload C 3 dX4_runLottery_55 rfl ?_
      refine gj_lload_n C 0 dX4_runLottery_57 rfl ?_
      refine gj_ldc2 (v := 65536) C cst_X4_148 dX4_runLottery_58 ?_
      refine gj_ldiv C dX4_runLottery_61 (by decide) ?_
      refine gj_l2i C dX4_runLottery_62 ?_
      obtain ⟨g1, hf⟩ := gw_ifs hf
      refine gj_bst (j := 12) C (by decide) (gw_ibv g1) dX4_runLottery_63 ?_
      refine gj_iinc C 4 3 (v4 + 1) [(4, .int (v4 + 1)), (2, .long ((((1103515245 : Int64) * v2) + (12345 : Int64)) - (((1103515245 : Int64) * v2) + (12345 : Int64)) / (2147483648 : Int64) * (2147483648 : Int64))), (0, .ref (gw_a Γ 132)), (1, .int v1)] dX4_runLottery_64 rfl rfl (by decide) rfl ?_
      refine gj_goto C 28 dX4_runLottery_67 (by decide) ?_
      cases hf
      replace hr := gw_il hr
      exact gj_pick [2, 3, 1, 0] _ rfl (ih _ _ _ _  hr k)
set_option maxRecDepth 100000 in
set_option maxHeartbeats 4000000 in
theorem l_X4_runLottery_4 {K : gw_K} {Γ : gw_G} (C : gw_C K Γ cX4_runLottery 9 RX4) (μ : gw_S) (τ : gw_S) (o : Nat → Int64) (v1 : Int32) (v2 : Int64) (v4 : Int32) (v5 : Int32) (v6 : Int32) : ∀ (n : Nat) (v7 : Int32) (v8 : Int32) (T : Int32 × Int32), gw_it (b_X4_runLottery_4 μ v1 v2 v4 v5 v6) n (v7, v8) = some T → (gw_J K Γ gr_X4_runLottery 0 0 (gw_W Γ τ μ o) 139 [(0, .ref (gw_a Γ 132)), (1, .int v1), (2, .long v2), (4, .int v4), (5, .int v5), (6, .int v6), (7, .int T.1), (8, .int T.2)] []) → gw_J K Γ gr_X4_runLottery 0 0 (gw_W Γ τ μ o) 103 [(0, .ref (gw_a Γ 132)), (1, .int v1), (2, .long v2), (4, .int v4), (5, .int v5), (6, .int v6), (7, .int v7), (8, .int v8)] [] := by
  intro n
  induction n with
  | zero => intro v7 v8 T  h; cases h
  | succ n ih =>
    intro v7 v8 T  h k
    obtain ⟨q, hf, hr⟩ := gw_it_s h
    rw [b_X4_runLottery_4] at hf
    refine gj_iload C 7 dX4_runLottery_103 rfl ?_
    refine gj_aload_n C 0 dX4_runLottery_105 rfl ?_
    refine g_X4_74 C  rfl dX4_runLottery_106 ?_
    refine gj_ic_ge C 139 dX4_runLottery_109 (by decide) (fun c => ?_) (fun c => ?_)
    · replace hf := gw_ift hf c
      cases hf
      cases gw_ir hr
      exact gj_pick [0, 1, 2, 3, 4, 5, 6, 7] _ rfl (k )
    · replace hf := gw_iff hf c
      refine gj_iload C 6 dX4_runLottery_112 rfl ?_
      refine gj_aload_n C 0 dX4_runLottery_114 rfl ?_
      refine gj_iload C 7 dX4_runLottery_115 rfl ?_
      refine gj_iload C 5 dX4_runLottery_117 rfl ?_
      replace hf := gw_bnd hf
      obtain ⟨r3, hr3, hf⟩ := hf
      refine gj_cVi (As := [.int v8, .int v6]) (rest := [.int v7]) C cb_X4_150 (s_X4_isAhead (gw_l K) Γ τ μ o v8 v6 r3 hr3) rfl (Nat.le_of_ble_eq_true rfl) gw_atD rfl rfl dX4_runLottery_119 (gw_rmk rfl) rfl ?_
      refine gj_if_eq C 129 dX4_runLottery_122 (by decide) (fun c => ?_) (fun c => ?_)
      · replace hf := gw_ift hf c
        refine gj_iconst (v := 0) C dX4_runLottery_129 (by decide) ?_
        refine gj_iadd C dX4_runLottery_130 ?_
        refine gj_istore C 7 [(7, .int (v7 + (0 : Int32))), (0, .ref (gw_a Γ 132)), (1, .int v1), (2, .long v2), (4, .int v4), (5, .int v5), (6, .int v6), (8, .int v8)] dX4_runLottery_131 (by decide) rfl ?_
        refine gj_iinc C 8 7 (v8 + 1) [(8, .int (v8 + 1)), (7, .int (v7 + (0 : Int32))), (0, .ref (gw_a Γ 132)), (1, .int v1), (2, .long v2), (4, .int v4), (5, .int v5), (6, .int v6)] dX4_runLottery_133 rfl rfl (by decide) rfl ?_
        refine gj_goto C 103 dX4_runLottery_136 (by decide) ?_
        cases hf
        replace hr := gw_il hr
        exact gj_pick [2, 3, 4, 5, 6, 7, 1, 0] _ rfl (ih _ _ _  hr k)
      · replace hf := gw_iff hf c
        refine gj_iconst (v := 1) C dX4_runLottery_125 (by decide) ?_
        refine gj_goto C 130 dX4_runLottery_126 (by decide) ?_
        refine gj_iadd C dX4_runLottery_130 ?_
        refine gj_istore C 7 [(7, .int (v7 + (1 : Int32))), (0, .ref (gw_a Γ 132)), (1, .int v1), (2, .long v2), (4, .int v4), (5, .int v5), (6, .int v6), (8, .int v8)] dX4_runLottery_131 (by decide) rfl ?_
        refine gj_iinc C 8 7 (v8 + 1) [(8, .int (v8 + 1)), (7, .int (v7 + (1 : Int32))), (0, .ref (gw_a Γ 132)), (1, .int v1), (2, .long v2), (4, .int v4), (5, .int v5), (6, .int v6)] dX4_runLottery_133 rfl rfl (by decide) rfl ?_
        refine gj_goto C 103 dX4_runLottery_136 (by decide) ?_
        cases hf
        replace hr := gw_il hr
        exact gj_pick [2, 3, 4, 5, 6, 7, 1, 0] _ rfl (ih _ _ _  hr k)
set_option maxRecDepth 100000 in
set_option maxHeartbeats 4000000 in
theorem l_X4_runLottery_3 {K : gw_K} {Γ : gw_G} (C : gw_C K Γ cX4_runLottery 9 RX4) (τ : gw_S) (o : Nat → Int64) (v1 : Int32) (v2 : Int64) (v5 : Int32) : ∀ (n : Nat) (v4 : Int32) (v6 : Int32) (μ : gw_S) (T : Int32 × Int32 × gw_S), gw_it (b_X4_runLottery_3 v1 v2 v5) n (v4, v6, μ) = some T → (gw_J K Γ gr_X4_runLottery 0 0 (gw_W Γ τ T.2.2 o) 171 [(0, .ref (gw_a Γ 132)), (1, .int v1), (2, .long v2), (4, .int T.1), (5, .int v5), (6, .int T.2.1)] []) → gw_J K Γ gr_X4_runLottery 0 0 (gw_W Γ τ μ o) 88 [(0, .ref (gw_a Γ 132)), (1, .int v1), (2, .long v2), (4, .int v4), (5, .int v5), (6, .int v6)] [] := by
  intro n
  induction n with
  | zero => intro v4 v6 μ T  h; cases h
  | succ n ih =>
    intro v4 v6 μ T  h k
    obtain ⟨q, hf, hr⟩ := gw_it_s h
    rw [b_X4_runLottery_3] at hf
    refine gj_iload C 5 dX4_runLottery_88 rfl ?_
    refine gj_aload_n C 0 dX4_runLottery_90 rfl ?_
    refine g_X4_74 C  rfl dX4_runLottery_91 ?_
    refine gj_ic_ge C 171 dX4_runLottery_94 (by decide) (fun c => ?_) (fun c => ?_)
    · replace hf := gw_ift hf c
      cases hf
      cases gw_ir hr
      exact gj_pick [0, 1, 2, 3, 4, 5] _ rfl (k )
    · replace hf := gw_iff hf c
      refine gj_iconst (v := 0) C dX4_runLottery_97 (by decide) ?_
      refine gj_istore C 7 [(7, .int (0 : Int32)), (0, .ref (gw_a Γ 132)), (1, .int v1), (2, .long v2), (4, .int v4), (5, .int v5), (6, .int v6)] dX4_runLottery_98 (by decide) rfl ?_
      refine gj_iconst (v := 0) C dX4_runLottery_100 (by decide) ?_
      refine gj_istore C 8 [(8, .int (0 : Int32)), (7, .int (0 : Int32)), (0, .ref (gw_a Γ 132)), (1, .int v1), (2, .long v2), (4, .int v4), (5, .int v5), (6, .int v6)] dX4_runLottery_101 (by decide) rfl ?_
      replace hf := gw_bnd hf
      obtain ⟨t4, ht4, hf⟩ := hf
      refine gj_pick [2, 3, 4, 5, 6, 7, 1, 0] _ rfl (l_X4_runLottery_4 C μ τ o v1 v2 v4 v5 v6 _ _ _ t4  ht4 (?_))
      refine gj_iload C 3 dX4_runLottery_139 rfl ?_
      refine gj_iload C 6 dX4_runLottery_141 rfl ?_
      refine gj_iload C 4 dX4_runLottery_143 rfl ?_
      refine gj_ic_ne C 161 dX4_runLottery_145 (by decide) (fun c => ?_) (fun c => ?_)
      · replace hf := gw_iff hf c
        refine gj_iconst (v := 0) C dX4_runLottery_161 (by decide) ?_
        refine gj_iadd C dX4_runLottery_162 ?_
        refine gj_istore C 4 [(4, .int (v4 + (0 : Int32))), (0, .ref (gw_a Γ 132)), (1, .int v1), (2, .long v2), (5, .int v5), (6, .int v6), (7, .int t4.1), (8, .int t4.2)] dX4_runLottery_163 (by decide) rfl ?_
        refine gj_iinc C 6 5 (v6 + 1) [(6, .int (v6 + 1)), (4, .int (v4 + (0 : Int32))), (0, .ref (gw_a Γ 132)), (1, .int v1), (2, .long v2), (5, .int v5), (7, .int t4.1), (8, .int t4.2)] dX4_runLottery_165 rfl rfl (by decide) rfl ?_
        refine gj_goto C 88 dX4_runLottery_168 (by decide) ?_
        cases hf
        replace hr := gw_il hr
        exact gj_pick [2, 3, 4, 1, 5, 0] _ rfl (ih _ _ _ _  hr k)
      · replace hf := gw_ift hf c
        refine gj_aload_n C 0 dX4_runLottery_148 rfl ?_
        refine gj_iload C 5 dX4_runLottery_149 rfl ?_
        replace hf := gw_bnd hf
        obtain ⟨r5, hr5, hf⟩ := hf
        refine gj_cVi (As := [.int v6]) (rest := [.int v4]) C cb_X4_153 (s_X4_getsOne (gw_l K) Γ τ μ o v6 r5 hr5) rfl (Nat.le_of_ble_eq_true rfl) gw_atD rfl rfl dX4_runLottery_151 (gw_rmk rfl) rfl ?_
        refine gj_if_eq C 161 dX4_runLottery_154 (by decide) (fun c => ?_) (fun c => ?_)
        · replace hf := gw_ift hf c
          refine gj_iconst (v := 0) C dX4_runLottery_161 (by decide) ?_
          refine gj_iadd C dX4_runLottery_162 ?_
          refine gj_istore C 4 [(4, .int (v4 + (0 : Int32))), (0, .ref (gw_a Γ 132)), (1, .int v1), (2, .long v2), (5, .int v5), (6, .int v6), (7, .int t4.1), (8, .int t4.2)] dX4_runLottery_163 (by decide) rfl ?_
          refine gj_iinc C 6 5 (v6 + 1) [(6, .int (v6 + 1)), (4, .int (v4 + (0 : Int32))), (0, .ref (gw_a Γ 132)), (1, .int v1), (2, .long v2), (5, .int v5), (7, .int t4.1), (8, .int t4.2)] dX4_runLottery_165 rfl rfl (by decide) rfl ?_
          refine gj_goto C 88 dX4_runLottery_168 (by decide) ?_
          cases hf
          replace hr := gw_il hr
          exact gj_pick [2, 3, 4, 1, 5, 0] _ rfl (ih _ _ _ _  hr k)
        · replace hf := gw_iff hf c
          refine gj_iconst (v := 1) C dX4_runLottery_157 (by decide) ?_
          refine gj_goto C 162 dX4_runLottery_158 (by decide) ?_
          refine gj_iadd C dX4_runLottery_162 ?_
          refine gj_istore C 4 [(4, .int (v4 + (1 : Int32))), (0, .ref (gw_a Γ 132)), (1, .int v1), (2, .long v2), (5, .int v5), (6, .int v6), (7, .int t4.1), (8, .int t4.2)] dX4_runLottery_163 (by decide) rfl ?_
          refine gj_iinc C 6 5 (v6 + 1) [(6, .int (v6 + 1)), (4, .int (v4 + (1 : Int32))), (0, .ref (gw_a Γ 132)), (1, .int v1), (2, .long v2), (5, .int v5), (7, .int t4.1), (8, .int t4.2)] dX4_runLottery_165 rfl rfl (by decide) rfl ?_
          refine gj_goto C 88 dX4_runLottery_168 (by decide) ?_
          cases hf
          replace hr := gw_il hr
          exact gj_pick [2, 3, 4, 1, 5, 0] _ rfl (ih _ _ _ _  hr k)
set_option maxRecDepth 100000 in
set_option maxHeartbeats 4000000 in
theorem l_X4_runLottery_2 {K : gw_K} {Γ : gw_G} (C : gw_C K Γ cX4_runLottery 9 RX4) (τ : gw_S) (o : Nat → Int64) (v1 : Int32) (v2 : Int64) : ∀ (n : Nat) (v4 : Int32) (v5 : Int32) (μ : gw_S) (T : Int32 × Int32 × gw_S), gw_it (b_X4_runLottery_2 v1 v2) n (v4, v5, μ) = some T → (gw_J K Γ gr_X4_runLottery 0 0 (gw_W Γ τ T.2.2 o) 177 [(0, .ref (gw_a Γ 132)), (1, .int v1), (2, .long v2), (4, .int T.1), (5, .int T.2.1)] []) → gw_J K Γ gr_X4_runLottery 0 0 (gw_W Γ τ μ o) 76 [(0, .ref (gw_a Γ 132)), (1, .int v1), (2, .long v2), (4, .int v4), (5, .int v5)] [] := by
  intro n
  induction n with
  | zero => intro v4 v5 μ T  h; cases h
  | succ n ih =>
    intro v4 v5 μ T  h k
    obtain ⟨q, hf, hr⟩ := gw_it_s h
    rw [b_X4_runLottery_2] at hf
    refine gj_iload C 4 dX4_runLottery_76 rfl ?_
    refine gj_aload_n C 0 dX4_runLottery_78 rfl ?_
    refine g_X4_74 C  rfl dX4_runLottery_79 ?_
    refine gj_ic_ge C 177 dX4_runLottery_82 (by decide) (fun c => ?_) (fun c => ?_)
    · replace hf := gw_ift hf c
      cases hf
      cases gw_ir hr
      exact gj_pick [0, 1, 2, 3, 4] _ rfl (k )
    · replace hf := gw_iff hf c
      refine gj_iconst (v := 0) C dX4_runLottery_85 (by decide) ?_
      refine gj_istore C 6 [(6, .int (0 : Int32)), (0, .ref (gw_a Γ 132)), (1, .int v1), (2, .long v2), (4, .int v4), (5, .int v5)] dX4_runLottery_86 (by decide) rfl ?_
      replace hf := gw_bnd hf
      obtain ⟨t6, ht6, hf⟩ := hf
      refine gj_pick [1, 2, 3, 4, 5, 0] _ rfl (l_X4_runLottery_3 C τ o v1 v2 v5 _ _ _ _ t6  ht6 (?_))
      refine gj_iinc C 5 4 (v5 + 1) [(5, .int (v5 + 1)), (0, .ref (gw_a Γ 132)), (1, .int v1), (2, .long v2), (4, .int t6.1), (6, .int t6.2.1)] dX4_runLottery_171 rfl rfl (by decide) rfl ?_
      refine gj_goto C 76 dX4_runLottery_174 (by decide) ?_
      cases hf
      replace hr := gw_il hr
      exact gj_pick [1, 2, 3, 4, 0] _ rfl (ih _ _ _ _  hr k)
set_option maxRecDepth 100000 in
set_option maxHeartbeats 4000000 in
theorem s_X4_runLottery (l : Launch) (Γ : gw_G) (τ μ : gw_S) (o : Nat → Int64) (a1 : Int32) (r : Int32 × gw_S) (hf : f_X4_runLottery μ a1 = some r) : gw_M l yX4_runLottery [.code yX4_runLottery cX4_runLottery 9 (some .int)] gr_X4_runLottery 0 0 Γ [.ref (gw_a Γ 132), .int a1] (gw_W Γ τ μ o) (gw_qi Γ r.1 (gw_W Γ τ r.2 o)) := by
  refine gw_enter (by decide) (Nat.le_of_ble_eq_true rfl) (fun K C E => ?_)
  unfold f_X4_runLottery at hf
  refine gj_aload_n C 0 dX4_runLottery_0 rfl ?_
  refine gj_iload_n C 1 dX4_runLottery_1 rfl ?_
  refine gj_if_ge C 9 dX4_runLottery_2 (by decide) (fun c => ?_) (fun c => ?_)
  · replace hf := gw_ift hf c
    refine gj_iconst (v := 0) C dX4_runLottery_9 (by decide) ?_
    refine p_X4_68 C  dX4_runLottery_10 ?_
    refine gj_aload_n C 0 dX4_runLottery_13 rfl ?_
    refine g_X4_68 C  (gw_up_s _ _ _ _) dX4_runLottery_14 ?_
    refine gj_if_le C 22 dX4_runLottery_17 (by decide) (fun _ => ?_) (fun c => absurd (by decide) c)
    refine gj_iload_n C 1 dX4_runLottery_22 rfl ?_
    refine gj_i2l C dX4_runLottery_23 ?_
    refine gj_lstore_n C 2 [(2, .long a1.toInt64), (0, .ref (gw_a Γ 132)), (1, .int a1)] dX4_runLottery_24 rfl (by decide) rfl ?_
    refine gj_iconst (v := 0) C dX4_runLottery_25 (by decide) ?_
    refine gj_istore C 4 [(4, .int (0 : Int32)), (2, .long a1.toInt64), (0, .ref (gw_a Γ 132)), (1, .int a1)] dX4_runLottery_26 (by decide) rfl ?_
    replace hf := gw_bnd hf
    obtain ⟨t2, ht2, hf⟩ := hf
    refine gj_pick [2, 3, 1, 0] _ rfl (l_X4_runLottery_1 C τ o a1 _ _ _ _ t2  ht2 (?_))
    refine gj_iconst (v := 0) C dX4_runLottery_70 (by decide) ?_
    refine gj_istore C 4 [(4, .int (0 : Int32)), (0, .ref (gw_a Γ 132)), (1, .int a1), (2, .long t2.1)] dX4_runLottery_71 (by decide) rfl ?_
    refine gj_iconst (v := 0) C dX4_runLottery_73 (by decide) ?_
    refine gj_istore C 5 [(5, .int (0 : Int32)), (4, .int (0 : Int32)), (0, .ref (gw_a Γ 132)), (1, .int a1), (2, .long t2.1)] dX4_runLottery_74 (by decide) rfl ?_
    replace hf := gw_bnd hf
    obtain ⟨t7, ht7, hf⟩ := hf
    refine gj_pick [2, 3, 4, 1, 0] _ rfl (l_X4_runLottery_2 C τ o a1 t2.1 _ _ _ _ t7  ht7 (?_))
    refine gj_aload_n C 0 dX4_runLottery_177 rfl ?_
    replace hf := gw_bnd hf
    obtain ⟨r8, hr8, hf⟩ := hf
    refine gj_cVv (As := []) (rest := []) C cb_X4_123 (s_X4_offers (gw_l K) Γ τ t7.2.2 o  r8 hr8) rfl (Nat.le_of_ble_eq_true rfl) gw_atD rfl rfl dX4_runLottery_178 (gw_rmk rfl) rfl ?_
    refine gj_iload C 3 dX4_runLottery_181 rfl ?_
    cases hf
    exact gj_iret C E dX4_runLottery_183 (Nat.le_of_ble_eq_true rfl) (Nat.le_of_ble_eq_true rfl)
  · replace hf := gw_iff hf c
    refine gj_iconst (v := 1) C dX4_runLottery_5 (by decide) ?_
    refine gj_goto C 10 dX4_runLottery_6 (by decide) ?_
    refine p_X4_68 C  dX4_runLottery_10 ?_
    refine gj_aload_n C 0 dX4_runLottery_13 rfl ?_
    refine g_X4_68 C  (gw_up_s _ _ _ _) dX4_runLottery_14 ?_
    refine gj_if_le C 22 dX4_runLottery_17 (by decide) (fun c => absurd c (by decide)) (fun _ => ?_)
    refine gj_iconst (v := 0) C dX4_runLottery_20 (by decide) ?_
    cases hf
    exact gj_iret C E dX4_runLottery_21 (Nat.le_of_ble_eq_true rfl) (Nat.le_of_ble_eq_true rfl)
set_option maxRecDepth 100000 in
set_option maxHeartbeats 4000000 in
theorem s_X4_lotteryNumber (l : Launch) (Γ : gw_G) (τ μ : gw_S) (o : Nat → Int64) (a1 : Int32) (r : Int32 × gw_S) (hf : f_X4_lotteryNumber μ a1 = some r) : gw_M l yX4_lotteryNumber [.code yX4_lotteryNumber cX4_lotteryNumber 2 (some .int)] gr_X4_lotteryNumber 0 0 Γ [.ref (gw_a Γ 132), .int a1] (gw_W Γ τ μ o) (gw_qi Γ r.1 (gw_W Γ τ r.2 o)) := by
  refine gw_enter (by decide) (Nat.le_of_ble_eq_true rfl) (fun K C E => ?_)
  unfold f_X4_lotteryNumber at hf
  refine gj_aload_n C 0 dX4_lotteryNumber_0 rfl ?_
  refine gj_aload_n C 0 dX4_lotteryNumber_1 rfl ?_
  refine gj_iload_n C 1 dX4_lotteryNumber_2 rfl ?_
  replace hf := gw_bnd hf
  obtain ⟨r1, hr1, hf⟩ := hf
  refine gj_cVi (As := [.int a1]) (rest := [.ref (gw_a Γ 132)]) C cb_X4_77 (s_X4_isStudent (gw_l K) Γ τ μ o a1 r1 hr1) rfl (Nat.le_of_ble_eq_true rfl) gw_atD rfl rfl dX4_lotteryNumber_3 (gw_rmk rfl) rfl ?_
  refine gj_if_eq C 13 dX4_lotteryNumber_6 (by decide) (fun c => ?_) (fun c => ?_)
  · replace hf := gw_ift hf c
    refine gj_iconst (v := 1) C dX4_lotteryNumber_13 (by decide) ?_
    refine p_X4_68 C  dX4_lotteryNumber_14 ?_
    refine gj_aload_n C 0 dX4_lotteryNumber_17 rfl ?_
    refine g_X4_68 C  (gw_up_s _ _ _ _) dX4_lotteryNumber_18 ?_
    refine gj_if_ne C 33 dX4_lotteryNumber_21 (by decide) (fun _ => ?_) (fun c => absurd c (by decide))
    refine gj_iconst (v := 0) C dX4_lotteryNumber_33 (by decide) ?_
    cases hf
    exact gj_iret C E dX4_lotteryNumber_34 (Nat.le_of_ble_eq_true rfl) (Nat.le_of_ble_eq_true rfl)
  · replace hf := gw_iff hf c
    refine gj_iconst (v := 0) C dX4_lotteryNumber_9 (by decide) ?_
    refine gj_goto C 14 dX4_lotteryNumber_10 (by decide) ?_
    refine p_X4_68 C  dX4_lotteryNumber_14 ?_
    refine gj_aload_n C 0 dX4_lotteryNumber_17 rfl ?_
    refine g_X4_68 C  (gw_up_s _ _ _ _) dX4_lotteryNumber_18 ?_
    refine gj_if_ne C 33 dX4_lotteryNumber_21 (by decide) (fun c => absurd (by decide) c) (fun _ => ?_)
    refine gj_aload_n C 0 dX4_lotteryNumber_24 rfl ?_
    refine g_X4_43 C  dX4_lotteryNumber_25 ?_
    refine gj_iload_n C 1 dX4_lotteryNumber_28 rfl ?_
    obtain ⟨g2, hf⟩ := gw_ifs hf
    refine gj_bld (j := 12) C (by decide) (gw_ibv g2) dX4_lotteryNumber_29 ?_
    refine gj_goto C 34 dX4_lotteryNumber_30 (by decide) ?_
    cases hf
    exact gj_iret C E dX4_lotteryNumber_34 (Nat.le_of_ble_eq_true rfl) (Nat.le_of_ble_eq_true rfl)
set_option maxRecDepth 100000 in
set_option maxHeartbeats 4000000 in
theorem s_X4_putUp (l : Launch) (Γ : gw_G) (τ μ : gw_S) (o : Nat → Int64) (a1 : Int32) (a2 : Int32) (r : Int32 × gw_S) (hf : f_X4_putUp μ a1 a2 = some r) : gw_M l yX4_putUp [.code yX4_putUp cX4_putUp 4 (some .int)] gr_X4_putUp 0 0 Γ [.ref (gw_a Γ 132), .int a1, .int a2] (gw_W Γ τ μ o) (gw_qi Γ r.1 (gw_W Γ τ r.2 o)) := by
  refine gw_enter (by decide) (Nat.le_of_ble_eq_true rfl) (fun K C E => ?_)
  unfold f_X4_putUp at hf
  refine gj_aload_n C 0 dX4_putUp_0 rfl ?_
  refine gj_iload_n C 1 dX4_putUp_1 rfl ?_
  refine gj_iload_n C 2 dX4_putUp_2 rfl ?_
  replace hf := gw_bnd hf
  obtain ⟨r1, hr1, hf⟩ := hf
  refine gj_cVi (As := [.int a1, .int a2]) (rest := []) C cb_X4_129 (s_X4_areBoth (gw_l K) Γ τ μ o a1 a2 r1 hr1) rfl (Nat.le_of_ble_eq_true rfl) gw_atD rfl rfl dX4_putUp_3 (gw_rmk rfl) rfl ?_
  refine gj_if_ne C 11 dX4_putUp_6 (by decide) (fun c => ?_) (fun c => ?_)
  · replace hf := gw_iff hf c
    refine gj_aload_n C 0 dX4_putUp_11 rfl ?_
    refine g_X4_31 C  dX4_putUp_12 ?_
    refine gj_iload_n C 1 dX4_putUp_15 rfl ?_
    obtain ⟨g2, hf⟩ := gw_ifs hf
    refine gj_bld (j := 8) C (by decide) (gw_ibv g2) dX4_putUp_16 ?_
    refine gj_iload_n C 2 dX4_putUp_17 rfl ?_
    replace hf := gw_bnd hf
    obtain ⟨r3, hr3, hf⟩ := hf
    refine gj_cSi (As := [.int (r1.2 8 a1.toNatClampNeg), .int a2]) (rest := []) C cb_X4_84 (s_X4_has (gw_l K) Γ τ r1.2 o (r1.2 8 a1.toNatClampNeg) a2 r3 hr3) rfl (Nat.le_of_ble_eq_true rfl) dX4_putUp_18 (gw_rmk rfl) rfl ?_
    refine gj_if_ne C 31 dX4_putUp_21 (by decide) (fun c => ?_) (fun c => ?_)
    · replace hf := gw_iff hf c
      refine gj_aload_n C 0 dX4_putUp_31 rfl ?_
      refine g_X4_40 C  dX4_putUp_32 ?_
      refine gj_iload_n C 1 dX4_putUp_35 rfl ?_
      obtain ⟨g4, hf⟩ := gw_ifs hf
      refine gj_bld (j := 11) C (by decide) (gw_ibv g4) dX4_putUp_36 ?_
      refine gj_istore_n C 3 [(3, .int (r1.2 11 a1.toNatClampNeg)), (0, .ref (gw_a Γ 132)), (1, .int a1), (2, .int a2)] dX4_putUp_37 rfl (by decide) rfl ?_
      refine gj_aload_n C 1 dX4_putUp_38 rfl ?_
      refine g_X4_40 C  dX4_putUp_39 ?_
      refine gj_iload_n C 2 dX4_putUp_42 rfl ?_
      refine gj_iload_n C 3 dX4_putUp_43 rfl ?_
      obtain ⟨g5, hf⟩ := gw_ifs hf
      refine gj_bst (j := 11) C (by decide) (gw_ibv g5) dX4_putUp_44 ?_
      refine gj_iload_n C 0 dX4_putUp_45 rfl ?_
      cases hf
      exact gj_iret C E dX4_putUp_46 (Nat.le_of_ble_eq_true rfl) (Nat.le_of_ble_eq_true rfl)
    · replace hf := gw_ift hf c
      refine gj_aload_n C 0 dX4_putUp_24 rfl ?_
      refine gj_iconst (v := 2) C dX4_putUp_25 (by decide) ?_
      refine p_X4_68 C  dX4_putUp_26 ?_
      refine gj_iconst (v := 0) C dX4_putUp_29 (by decide) ?_
      cases hf
      exact gj_iret C E dX4_putUp_30 (Nat.le_of_ble_eq_true rfl) (Nat.le_of_ble_eq_true rfl)
  · replace hf := gw_ift hf c
    refine gj_iconst (v := 0) C dX4_putUp_9 (by decide) ?_
    cases hf
    exact gj_iret C E dX4_putUp_10 (Nat.le_of_ble_eq_true rfl) (Nat.le_of_ble_eq_true rfl)
set_option maxRecDepth 100000 in
set_option maxHeartbeats 4000000 in
theorem s_X4_withdraw (l : Launch) (Γ : gw_G) (τ μ : gw_S) (o : Nat → Int64) (a1 : Int32) (r : Int32 × gw_S) (hf : f_X4_withdraw μ a1 = some r) : gw_M l yX4_withdraw [.code yX4_withdraw cX4_withdraw 3 (some .int)] gr_X4_withdraw 0 0 Γ [.ref (gw_a Γ 132), .int a1] (gw_W Γ τ μ o) (gw_qi Γ r.1 (gw_W Γ τ r.2 o)) := by
  refine gw_enter (by decide) (Nat.le_of_ble_eq_true rfl) (fun K C E => ?_)
  unfold f_X4_withdraw at hf
  refine gj_aload_n C 0 dX4_withdraw_0 rfl ?_
  refine gj_aload_n C 0 dX4_withdraw_1 rfl ?_
  refine gj_iload_n C 1 dX4_withdraw_2 rfl ?_
  replace hf := gw_bnd hf
  obtain ⟨r1, hr1, hf⟩ := hf
  refine gj_cVi (As := [.int a1]) (rest := [.ref (gw_a Γ 132)]) C cb_X4_77 (s_X4_isStudent (gw_l K) Γ τ μ o a1 r1 hr1) rfl (Nat.le_of_ble_eq_true rfl) gw_atD rfl rfl dX4_withdraw_3 (gw_rmk rfl) rfl ?_
  refine gj_if_eq C 13 dX4_withdraw_6 (by decide) (fun c => ?_) (fun c => ?_)
  · replace hf := gw_ift hf c
    refine gj_iconst (v := 1) C dX4_withdraw_13 (by decide) ?_
    refine p_X4_68 C  dX4_withdraw_14 ?_
    refine gj_aload_n C 0 dX4_withdraw_17 rfl ?_
    refine g_X4_68 C  (gw_up_s _ _ _ _) dX4_withdraw_18 ?_
    refine gj_if_le C 26 dX4_withdraw_21 (by decide) (fun c => absurd c (by decide)) (fun _ => ?_)
    refine gj_iconst (v := 0) C dX4_withdraw_24 (by decide) ?_
    cases hf
    exact gj_iret C E dX4_withdraw_25 (Nat.le_of_ble_eq_true rfl) (Nat.le_of_ble_eq_true rfl)
  · replace hf := gw_iff hf c
    refine gj_iconst (v := 0) C dX4_withdraw_9 (by decide) ?_
    refine gj_goto C 14 dX4_withdraw_10 (by decide) ?_
    refine p_X4_68 C  dX4_withdraw_14 ?_
    refine gj_aload_n C 0 dX4_withdraw_17 rfl ?_
    refine g_X4_68 C  (gw_up_s _ _ _ _) dX4_withdraw_18 ?_
    refine gj_if_le C 26 dX4_withdraw_21 (by decide) (fun _ => ?_) (fun c => absurd (by decide) c)
    refine gj_aload_n C 0 dX4_withdraw_26 rfl ?_
    refine g_X4_40 C  dX4_withdraw_27 ?_
    refine gj_iload_n C 1 dX4_withdraw_30 rfl ?_
    obtain ⟨g2, hf⟩ := gw_ifs hf
    refine gj_bld (j := 11) C (by decide) (gw_ibv g2) dX4_withdraw_31 ?_
    refine gj_istore_n C 2 [(2, .int ((gw_up μ 0 18 (0 : Int32)) 11 a1.toNatClampNeg)), (0, .ref (gw_a Γ 132)), (1, .int a1)] dX4_withdraw_32 rfl (by decide) rfl ?_
    refine gj_aload_n C 1 dX4_withdraw_33 rfl ?_
    refine g_X4_40 C  dX4_withdraw_34 ?_
    refine gj_iload_n C 2 dX4_withdraw_37 rfl ?_
    refine gj_iconst (v := -1) C dX4_withdraw_38 (by decide) ?_
    obtain ⟨g3, hf⟩ := gw_ifs hf
    refine gj_bst (j := 11) C (by decide) (gw_ibv g3) dX4_withdraw_39 ?_
    refine gj_iload_n C 0 dX4_withdraw_40 rfl ?_
    cases hf
    exact gj_iret C E dX4_withdraw_41 (Nat.le_of_ble_eq_true rfl) (Nat.le_of_ble_eq_true rfl)
set_option maxRecDepth 100000 in
set_option maxHeartbeats 4000000 in
theorem s_X4_placeUp (l : Launch) (Γ : gw_G) (τ μ : gw_S) (o : Nat → Int64) (a1 : Int32) (r : Int32 × gw_S) (hf : f_X4_placeUp μ a1 = some r) : gw_M l yX4_placeUp [.code yX4_placeUp cX4_placeUp 2 (some .int)] gr_X4_placeUp 0 0 Γ [.ref (gw_a Γ 132), .int a1] (gw_W Γ τ μ o) (gw_qi Γ r.1 (gw_W Γ τ r.2 o)) := by
  refine gw_enter (by decide) (Nat.le_of_ble_eq_true rfl) (fun K C E => ?_)
  unfold f_X4_placeUp at hf
  refine gj_aload_n C 0 dX4_placeUp_0 rfl ?_
  refine gj_aload_n C 0 dX4_placeUp_1 rfl ?_
  refine gj_iload_n C 1 dX4_placeUp_2 rfl ?_
  replace hf := gw_bnd hf
  obtain ⟨r1, hr1, hf⟩ := hf
  refine gj_cVi (As := [.int a1]) (rest := [.ref (gw_a Γ 132)]) C cb_X4_77 (s_X4_isStudent (gw_l K) Γ τ μ o a1 r1 hr1) rfl (Nat.le_of_ble_eq_true rfl) gw_atD rfl rfl dX4_placeUp_3 (gw_rmk rfl) rfl ?_
  refine gj_if_eq C 13 dX4_placeUp_6 (by decide) (fun c => ?_) (fun c => ?_)
  · replace hf := gw_ift hf c
    refine gj_iconst (v := 1) C dX4_placeUp_13 (by decide) ?_
    refine p_X4_68 C  dX4_placeUp_14 ?_
    refine gj_aload_n C 0 dX4_placeUp_17 rfl ?_
    refine g_X4_68 C  (gw_up_s _ _ _ _) dX4_placeUp_18 ?_
    refine gj_if_ne C 33 dX4_placeUp_21 (by decide) (fun _ => ?_) (fun c => absurd c (by decide))
    refine gj_iconst (v := 0) C dX4_placeUp_33 (by decide) ?_
    cases hf
    exact gj_iret C E dX4_placeUp_34 (Nat.le_of_ble_eq_true rfl) (Nat.le_of_ble_eq_true rfl)
  · replace hf := gw_iff hf c
    refine gj_iconst (v := 0) C dX4_placeUp_9 (by decide) ?_
    refine gj_goto C 14 dX4_placeUp_10 (by decide) ?_
    refine p_X4_68 C  dX4_placeUp_14 ?_
    refine gj_aload_n C 0 dX4_placeUp_17 rfl ?_
    refine g_X4_68 C  (gw_up_s _ _ _ _) dX4_placeUp_18 ?_
    refine gj_if_ne C 33 dX4_placeUp_21 (by decide) (fun c => absurd (by decide) c) (fun _ => ?_)
    refine gj_aload_n C 0 dX4_placeUp_24 rfl ?_
    refine g_X4_40 C  dX4_placeUp_25 ?_
    refine gj_iload_n C 1 dX4_placeUp_28 rfl ?_
    obtain ⟨g2, hf⟩ := gw_ifs hf
    refine gj_bld (j := 11) C (by decide) (gw_ibv g2) dX4_placeUp_29 ?_
    refine gj_goto C 34 dX4_placeUp_30 (by decide) ?_
    cases hf
    exact gj_iret C E dX4_placeUp_34 (Nat.le_of_ble_eq_true rfl) (Nat.le_of_ble_eq_true rfl)
set_option maxRecDepth 100000 in
set_option maxHeartbeats 4000000 in
theorem l_X4_participants_1 {K : gw_K} {Γ : gw_G} (C : gw_C K Γ cX4_participants 3 RX4) (μ : gw_S) (τ : gw_S) (o : Nat → Int64) : ∀ (n : Nat) (v1 : Int32) (v2 : Int32) (T : Int32 × Int32), gw_it (b_X4_participants_1 μ) n (v1, v2) = some T → (gw_J K Γ gr_X4_participants 0 0 (gw_W Γ τ μ o) 38 [(0, .ref (gw_a Γ 132)), (1, .int T.1), (2, .int T.2)] []) → gw_J K Γ gr_X4_participants 0 0 (gw_W Γ τ μ o) 4 [(0, .ref (gw_a Γ 132)), (1, .int v1), (2, .int v2)] [] := by
  intro n
  induction n with
  | zero => intro v1 v2 T  h; cases h
  | succ n ih =>
    intro v1 v2 T  h k
    obtain ⟨q, hf, hr⟩ := gw_it_s h
    rw [b_X4_participants_1] at hf
    refine gj_iload_n C 2 dX4_participants_4 rfl ?_
    refine gj_aload_n C 0 dX4_participants_5 rfl ?_
    refine g_X4_74 C  rfl dX4_participants_6 ?_
    refine gj_ic_ge C 38 dX4_participants_9 (by decide) (fun c => ?_) (fun c => ?_)
    · replace hf := gw_ift hf c
      cases hf
      cases gw_ir hr
      exact gj_pick [0, 1, 2] _ rfl (k )
    · replace hf := gw_iff hf c
      refine gj_iload_n C 1 dX4_participants_12 rfl ?_
      refine gj_aload_n C 0 dX4_participants_13 rfl ?_
      refine g_X4_40 C  dX4_participants_14 ?_
      refine gj_iload_n C 2 dX4_participants_17 rfl ?_
      obtain ⟨g1, hf⟩ := gw_ifs hf
      refine gj_bld (j := 11) C (by decide) (gw_ibv g1) dX4_participants_18 ?_
      refine gj_iconst (v := -1) C dX4_participants_19 (by decide) ?_
      refine gj_ic_ne C 27 dX4_participants_20 (by decide) (fun c => ?_) (fun c => ?_)
      · replace hf := gw_iff hf c
        refine gj_iconst (v := 1) C dX4_participants_27 (by decide) ?_
        refine gj_iload_n C 2 dX4_participants_28 rfl ?_
        refine gj_ishl C dX4_participants_29 ?_
        refine gj_ior C dX4_participants_30 ?_
        refine gj_istore_n C 1 [(1, .int (v1 ||| ((1 : Int32) <<< (v2 &&& 31)))), (0, .ref (gw_a Γ 132)), (2, .int v2)] dX4_participants_31 rfl (by decide) rfl ?_
        refine gj_iinc C 2 2 (v2 + 1) [(2, .int (v2 + 1)), (1, .int (v1 ||| ((1 : Int32) <<< (v2 &&& 31)))), (0, .ref (gw_a Γ 132))] dX4_participants_32 rfl rfl (by decide) rfl ?_
        refine gj_goto C 4 dX4_participants_35 (by decide) ?_
        cases hf
        replace hr := gw_il hr
        exact gj_pick [2, 1, 0] _ rfl (ih _ _ _  hr k)
      · replace hf := gw_ift hf c
        refine gj_iconst (v := 0) C dX4_participants_23 (by decide) ?_
        refine gj_goto C 30 dX4_participants_24 (by decide) ?_
        refine gj_ior C dX4_participants_30 ?_
        refine gj_istore_n C 1 [(1, .int (v1 ||| (0 : Int32))), (0, .ref (gw_a Γ 132)), (2, .int v2)] dX4_participants_31 rfl (by decide) rfl ?_
        refine gj_iinc C 2 2 (v2 + 1) [(2, .int (v2 + 1)), (1, .int (v1 ||| (0 : Int32))), (0, .ref (gw_a Γ 132))] dX4_participants_32 rfl rfl (by decide) rfl ?_
        refine gj_goto C 4 dX4_participants_35 (by decide) ?_
        cases hf
        replace hr := gw_il hr
        exact gj_pick [2, 1, 0] _ rfl (ih _ _ _  hr k)
set_option maxRecDepth 100000 in
set_option maxHeartbeats 4000000 in
theorem s_X4_participants (l : Launch) (Γ : gw_G) (τ μ : gw_S) (o : Nat → Int64) (r : Int32) (hf : f_X4_participants μ = some r) : gw_M l yX4_participants [.code yX4_participants cX4_participants 3 (some .int)] gr_X4_participants 0 0 Γ [.ref (gw_a Γ 132)] (gw_W Γ τ μ o) (gw_qi Γ r (gw_W Γ τ μ o)) := by
  refine gw_enter (by decide) (Nat.le_of_ble_eq_true rfl) (fun K C E => ?_)
  unfold f_X4_participants at hf
  refine gj_iconst (v := 0) C dX4_participants_0 (by decide) ?_
  refine gj_istore_n C 1 [(1, .int (0 : Int32)), (0, .ref (gw_a Γ 132))] dX4_participants_1 rfl (by decide) rfl ?_
  refine gj_iconst (v := 0) C dX4_participants_2 (by decide) ?_
  refine gj_istore_n C 2 [(2, .int (0 : Int32)), (1, .int (0 : Int32)), (0, .ref (gw_a Γ 132))] dX4_participants_3 rfl (by decide) rfl ?_
  replace hf := gw_bnd hf
  obtain ⟨t2, ht2, hf⟩ := hf
  refine gj_pick [2, 1, 0] _ rfl (l_X4_participants_1 C μ τ o _ _ _ t2  ht2 (?_))
  refine gj_iload_n C 1 dX4_participants_38 rfl ?_
  cases hf
  exact gj_iret C E dX4_participants_39 (Nat.le_of_ble_eq_true rfl) (Nat.le_of_ble_eq_true rfl)
set_option maxRecDepth 100000 in
set_option maxHeartbeats 4000000 in
theorem l_X4_pointer_2 {K : gw_K} {Γ : gw_G} (C : gw_C K Γ cX4_pointer 7 RX4) (μ : gw_S) (τ : gw_S) (o : Nat → Int64) (v1 : Int32) (v2 : Int32) (v3 : Int32) (v4 : Int32) (v5 : Int32) : ∀ (n : Nat) (v6 : Int32) (T : Int32 ⊕ (Int32)), gw_it (b_X4_pointer_2 μ v1 v2 v3 v4 v5) n v6 = some T → (∀ x : Int32, T = .inl x → gw_J K Γ gr_X4_pointer 0 0 (gw_W Γ τ μ o) 112 [(0, .ref (gw_a Γ 132)), (1, .int v1), (2, .int v2), (3, .int v3), (4, .int v4), (5, .int v5), (6, .int x)] []) → (∀ r : Int32, T = .inr r → gw_E K Γ (gw_qi Γ r (gw_W Γ τ μ o)) 0 0 (some .int)) → gw_J K Γ gr_X4_pointer 0 0 (gw_W Γ τ μ o) 62 [(0, .ref (gw_a Γ 132)), (1, .int v1), (2, .int v2), (3, .int v3), (4, .int v4), (5, .int v5), (6, .int v6)] [] := by
  intro n
  induction n with
  | zero => intro v6 T  h; cases h
  | succ n ih =>
    intro v6 T  h k ke
    obtain ⟨q, hf, hr⟩ := gw_it_s h
    rw [b_X4_pointer_2] at hf
    refine gj_iload C 6 dX4_pointer_62 rfl ?_
    refine gj_aload_n C 0 dX4_pointer_64 rfl ?_
    refine g_X4_74 C  rfl dX4_pointer_65 ?_
    refine gj_ic_ge C 112 dX4_pointer_68 (by decide) (fun c => ?_) (fun c => ?_)
    · replace hf := gw_ift hf c
      cases hf
      exact gj_pick [0, 1, 2, 3, 4, 5, 6] _ rfl (k _ (gw_ir hr).symm )
    · replace hf := gw_iff hf c
      refine gj_iload C 5 dX4_pointer_71 rfl ?_
      refine gj_if_eq C 112 dX4_pointer_73 (by decide) (fun c => ?_) (fun c => ?_)
      · replace hf := gw_ift hf c
        cases hf
        exact gj_pick [0, 1, 2, 3, 4, 5, 6] _ rfl (k _ (gw_ir hr).symm )
      · replace hf := gw_iff hf c
        refine gj_iload C 6 dX4_pointer_76 rfl ?_
        refine gj_iload_n C 1 dX4_pointer_78 rfl ?_
        refine gj_ic_eq C 106 dX4_pointer_79 (by decide) (fun c => ?_) (fun c => ?_)
        · replace hf := gw_ift hf c
          refine gj_iinc C 6 6 (v6 + 1) [(6, .int (v6 + 1)), (0, .ref (gw_a Γ 132)), (1, .int v1), (2, .int v2), (3, .int v3), (4, .int v4), (5, .int v5)] dX4_pointer_106 rfl rfl (by decide) rfl ?_
          refine gj_goto C 62 dX4_pointer_109 (by decide) ?_
          cases hf
          replace hr := gw_il hr
          exact gj_pick [1, 2, 3, 4, 5, 6, 0] _ rfl (ih _ _  hr k ke)
        · replace hf := gw_iff hf c
          refine gj_iload_n C 2 dX4_pointer_82 rfl ?_
          refine gj_iload C 6 dX4_pointer_83 rfl ?_
          replace hf := gw_bnd hf
          obtain ⟨r6, hr6, hf⟩ := hf
          refine gj_cSi (As := [.int v2, .int v6]) (rest := []) C cb_X4_84 (s_X4_has (gw_l K) Γ τ μ o v2 v6 r6 hr6) rfl (Nat.le_of_ble_eq_true rfl) dX4_pointer_85 (gw_rmk rfl) rfl ?_
          refine gj_if_eq C 106 dX4_pointer_88 (by decide) (fun c => ?_) (fun c => ?_)
          · replace hf := gw_ift hf c
            refine gj_iinc C 6 6 (v6 + 1) [(6, .int (v6 + 1)), (0, .ref (gw_a Γ 132)), (1, .int v1), (2, .int v2), (3, .int v3), (4, .int v4), (5, .int v5)] dX4_pointer_106 rfl rfl (by decide) rfl ?_
            refine gj_goto C 62 dX4_pointer_109 (by decide) ?_
            cases hf
            replace hr := gw_il hr
            exact gj_pick [1, 2, 3, 4, 5, 6, 0] _ rfl (ih _ _  hr k ke)
          · replace hf := gw_iff hf c
            refine gj_aload_n C 0 dX4_pointer_91 rfl ?_
            refine g_X4_40 C  dX4_pointer_92 ?_
            refine gj_iload C 6 dX4_pointer_95 rfl ?_
            obtain ⟨g7, hf⟩ := gw_ifs hf
            refine gj_bld (j := 11) C (by decide) (gw_ibv g7) dX4_pointer_97 ?_
            refine gj_iload C 4 dX4_pointer_98 rfl ?_
            refine gj_ic_ne C 106 dX4_pointer_100 (by decide) (fun c => ?_) (fun c => ?_)
            · replace hf := gw_iff hf c
              refine gj_iinc C 6 6 (v6 + 1) [(6, .int (v6 + 1)), (0, .ref (gw_a Γ 132)), (1, .int v1), (2, .int v2), (3, .int v3), (4, .int v4), (5, .int v5)] dX4_pointer_106 rfl rfl (by decide) rfl ?_
              refine gj_goto C 62 dX4_pointer_109 (by decide) ?_
              cases hf
              replace hr := gw_il hr
              exact gj_pick [1, 2, 3, 4, 5, 6, 0] _ rfl (ih _ _  hr k ke)
            · replace hf := gw_ift hf c
              refine gj_iload C 6 dX4_pointer_103 rfl ?_
              cases hf
              exact gj_iret C (ke _ (gw_ir hr).symm) dX4_pointer_105 (Nat.le_of_ble_eq_true rfl) (Nat.le_of_ble_eq_true rfl)
set_option maxRecDepth 100000 in
set_option maxHeartbeats 4000000 in
theorem l_X4_pointer_1 {K : gw_K} {Γ : gw_G} (C : gw_C K Γ cX4_pointer 7 RX4) (μ : gw_S) (τ : gw_S) (o : Nat → Int64) (v1 : Int32) (v2 : Int32) : ∀ (n : Nat) (v3 : Int32) (T : Int32 ⊕ (Int32)), gw_it (b_X4_pointer_1 μ v1 v2) n v3 = some T → (∀ x : Int32, T = .inl x → gw_J K Γ gr_X4_pointer 0 0 (gw_W Γ τ μ o) 118 [(0, .ref (gw_a Γ 132)), (1, .int v1), (2, .int v2), (3, .int x)] []) → (∀ r : Int32, T = .inr r → gw_E K Γ (gw_qi Γ r (gw_W Γ τ μ o)) 0 0 (some .int)) → gw_J K Γ gr_X4_pointer 0 0 (gw_W Γ τ μ o) 2 [(0, .ref (gw_a Γ 132)), (1, .int v1), (2, .int v2), (3, .int v3)] [] := by
  intro n
  induction n with
  | zero => intro v3 T  h; cases h
  | succ n ih =>
    intro v3 T  h k ke
    obtain ⟨q, hf, hr⟩ := gw_it_s h
    rw [b_X4_pointer_1] at hf
    refine gj_iload_n C 3 dX4_pointer_2 rfl ?_
    refine gj_aload_n C 0 dX4_pointer_3 rfl ?_
    refine g_X4_34 C  dX4_pointer_4 ?_
    refine gj_iload_n C 1 dX4_pointer_7 rfl ?_
    obtain ⟨g1, hf⟩ := gw_ifs hf
    refine gj_bld (j := 9) C (by decide) (gw_ibv g1) dX4_pointer_8 ?_
    refine gj_ic_ge C 118 dX4_pointer_9 (by decide) (fun c => ?_) (fun c => ?_)
    · replace hf := gw_ift hf c
      cases hf
      exact gj_pick [0, 1, 2, 3] _ rfl (k _ (gw_ir hr).symm )
    · replace hf := gw_iff hf c
      refine gj_aload_n C 0 dX4_pointer_12 rfl ?_
      refine g_X4_37 C  dX4_pointer_13 ?_
      refine gj_bipush (v := 6) C dX4_pointer_16 (by decide) ?_
      refine gj_iload_n C 1 dX4_pointer_18 rfl ?_
      refine gj_imul C dX4_pointer_19 ?_
      refine gj_iload_n C 3 dX4_pointer_20 rfl ?_
      refine gj_iadd C dX4_pointer_21 ?_
      obtain ⟨g2, hf⟩ := gw_ifs hf
      refine gj_bld (j := 10) C (by decide) (gw_ibv g2) dX4_pointer_22 ?_
      refine gj_istore C 4 [(4, .int (μ 10 (((6 : Int32) * v1) + v3).toNatClampNeg)), (0, .ref (gw_a Γ 132)), (1, .int v1), (2, .int v2), (3, .int v3)] dX4_pointer_23 (by decide) rfl ?_
      refine gj_aload_n C 1 dX4_pointer_25 rfl ?_
      refine gj_iload_n C 2 dX4_pointer_26 rfl ?_
      refine gj_iload C 0 dX4_pointer_27 rfl ?_
      refine gj_aload_n C 1 dX4_pointer_29 rfl ?_
      refine g_X4_31 C  dX4_pointer_30 ?_
      refine gj_iload_n C 2 dX4_pointer_33 rfl ?_
      obtain ⟨g3, hf⟩ := gw_ifs hf
      refine gj_bld (j := 8) C (by decide) (gw_ibv g3) dX4_pointer_34 ?_
      refine gj_iconst (v := 1) C dX4_pointer_35 (by decide) ?_
      refine gj_aload_n C 1 dX4_pointer_36 rfl ?_
      refine g_X4_40 C  dX4_pointer_37 ?_
      refine gj_iload_n C 2 dX4_pointer_40 rfl ?_
      obtain ⟨g4, hf⟩ := gw_ifs hf
      refine gj_bld (j := 11) C (by decide) (gw_ibv g4) dX4_pointer_41 ?_
      refine gj_ishl C dX4_pointer_42 ?_
      refine gj_iconst (v := -1) C dX4_pointer_43 (by decide) ?_
      refine gj_ixor C dX4_pointer_44 ?_
      refine gj_iand C dX4_pointer_45 ?_
      replace hf := gw_bnd hf
      obtain ⟨r5, hr5, hf⟩ := hf
      refine gj_cVi (As := [.int v1, .int (μ 10 (((6 : Int32) * v1) + v3).toNatClampNeg), .int ((μ 8 v1.toNatClampNeg) &&& (((1 : Int32) <<< ((μ 11 v1.toNatClampNeg) &&& 31)) ^^^ (-1 : Int32)))]) (rest := []) C cb_X4_118 (s_X4_obstacleWith (gw_l K) Γ τ μ o v1 (μ 10 (((6 : Int32) * v1) + v3).toNatClampNeg) ((μ 8 v1.toNatClampNeg) &&& (((1 : Int32) <<< ((μ 11 v1.toNatClampNeg) &&& 31)) ^^^ (-1 : Int32))) r5 hr5) rfl (Nat.le_of_ble_eq_true rfl) gw_atD rfl rfl dX4_pointer_46 (gw_rmk rfl) rfl ?_
      refine gj_if_ne C 56 dX4_pointer_49 (by decide) (fun c => ?_) (fun c => ?_)
      · replace hf := gw_iff hf c
        refine gj_iconst (v := 0) C dX4_pointer_56 (by decide) ?_
        refine gj_istore C 5 [(5, .int (0 : Int32)), (4, .int (μ 10 (((6 : Int32) * v1) + v3).toNatClampNeg)), (0, .ref (gw_a Γ 132)), (1, .int v1), (2, .int v2), (3, .int v3)] dX4_pointer_57 (by decide) rfl ?_
        refine gj_iconst (v := 0) C dX4_pointer_59 (by decide) ?_
        refine gj_istore C 6 [(6, .int (0 : Int32)), (5, .int (0 : Int32)), (4, .int (μ 10 (((6 : Int32) * v1) + v3).toNatClampNeg)), (0, .ref (gw_a Γ 132)), (1, .int v1), (2, .int v2), (3, .int v3)] dX4_pointer_60 (by decide) rfl ?_
        replace hf := gw_bnd hf
        obtain ⟨t8, ht8, hf⟩ := hf
        refine gj_pick [3, 4, 5, 6, 2, 1, 0] _ rfl (l_X4_pointer_2 C μ τ o v1 v2 v3 (μ 10 (((6 : Int32) * v1) + v3).toNatClampNeg) (0 : Int32) _ _ t8  ht8 (fun x9 e  => ?_) (fun r e => ?_))
        · replace hf := gw_xl hf e
          refine gj_iinc C 3 3 (v3 + 1) [(3, .int (v3 + 1)), (0, .ref (gw_a Γ 132)), (1, .int v1), (2, .int v2), (4, .int (μ 10 (((6 : Int32) * v1) + v3).toNatClampNeg)), (5, .int (0 : Int32)), (6, .int x9)] dX4_pointer_112 rfl rfl (by decide) rfl ?_
          refine gj_goto C 2 dX4_pointer_115 (by decide) ?_
          cases hf
          replace hr := gw_il hr
          exact gj_pick [1, 2, 3, 0] _ rfl (ih _ _  hr k ke)
        · replace hf := gw_xr hf e
          cases hf
          exact ke _ (gw_ir hr).symm
      · replace hf := gw_ift hf c
        refine gj_iconst (v := 1) C dX4_pointer_52 (by decide) ?_
        refine gj_goto C 57 dX4_pointer_53 (by decide) ?_
        refine gj_istore C 5 [(5, .int (1 : Int32)), (4, .int (μ 10 (((6 : Int32) * v1) + v3).toNatClampNeg)), (0, .ref (gw_a Γ 132)), (1, .int v1), (2, .int v2), (3, .int v3)] dX4_pointer_57 (by decide) rfl ?_
        refine gj_iconst (v := 0) C dX4_pointer_59 (by decide) ?_
        refine gj_istore C 6 [(6, .int (0 : Int32)), (5, .int (1 : Int32)), (4, .int (μ 10 (((6 : Int32) * v1) + v3).toNatClampNeg)), (0, .ref (gw_a Γ 132)), (1, .int v1), (2, .int v2), (3, .int v3)] dX4_pointer_60 (by decide) rfl ?_
        replace hf := gw_bnd hf
        obtain ⟨t10, ht10, hf⟩ := hf
        refine gj_pick [3, 4, 5, 6, 2, 1, 0] _ rfl (l_X4_pointer_2 C μ τ o v1 v2 v3 (μ 10 (((6 : Int32) * v1) + v3).toNatClampNeg) (1 : Int32) _ _ t10  ht10 (fun x11 e  => ?_) (fun r e => ?_))
        · replace hf := gw_xl hf e
          refine gj_iinc C 3 3 (v3 + 1) [(3, .int (v3 + 1)), (0, .ref (gw_a Γ 132)), (1, .int v1), (2, .int v2), (4, .int (μ 10 (((6 : Int32) * v1) + v3).toNatClampNeg)), (5, .int (1 : Int32)), (6, .int x11)] dX4_pointer_112 rfl rfl (by decide) rfl ?_
          refine gj_goto C 2 dX4_pointer_115 (by decide) ?_
          cases hf
          replace hr := gw_il hr
          exact gj_pick [1, 2, 3, 0] _ rfl (ih _ _  hr k ke)
        · replace hf := gw_xr hf e
          cases hf
          exact ke _ (gw_ir hr).symm
set_option maxRecDepth 100000 in
set_option maxHeartbeats 4000000 in
theorem s_X4_pointer (l : Launch) (Γ : gw_G) (τ μ : gw_S) (o : Nat → Int64) (a1 : Int32) (a2 : Int32) (r : Int32) (hf : f_X4_pointer μ a1 a2 = some r) : gw_M l yX4_pointer [.code yX4_pointer cX4_pointer 7 (some .int)] gr_X4_pointer 0 0 Γ [.ref (gw_a Γ 132), .int a1, .int a2] (gw_W Γ τ μ o) (gw_qi Γ r (gw_W Γ τ μ o)) := by
  refine gw_enter (by decide) (Nat.le_of_ble_eq_true rfl) (fun K C E => ?_)
  unfold f_X4_pointer at hf
  refine gj_iconst (v := 0) C dX4_pointer_0 (by decide) ?_
  refine gj_istore_n C 3 [(3, .int (0 : Int32)), (0, .ref (gw_a Γ 132)), (1, .int a1), (2, .int a2)] dX4_pointer_1 rfl (by decide) rfl ?_
  replace hf := gw_bnd hf
  obtain ⟨t12, ht12, hf⟩ := hf
  refine gj_pick [1, 2, 3, 0] _ rfl (l_X4_pointer_1 C μ τ o a1 a2 _ _ t12  ht12 (fun x13 e  => ?_) (fun r e => ?_))
  · replace hf := gw_xl hf e
    refine gj_iload_n C 1 dX4_pointer_118 rfl ?_
    cases hf
    exact gj_iret C E dX4_pointer_119 (Nat.le_of_ble_eq_true rfl) (Nat.le_of_ble_eq_true rfl)
  · replace hf := gw_xr hf e
    cases hf
    exact E
set_option maxRecDepth 100000 in
set_option maxHeartbeats 4000000 in
theorem s_X4_pointsTo (l : Launch) (Γ : gw_G) (τ μ : gw_S) (o : Nat → Int64) (a1 : Int32) (r : Int32 × gw_S) (hf : f_X4_pointsTo μ a1 = some r) : gw_M l yX4_pointsTo [.code yX4_pointsTo cX4_pointsTo 2 (some .int)] gr_X4_pointsTo 0 0 Γ [.ref (gw_a Γ 132), .int a1] (gw_W Γ τ μ o) (gw_qi Γ r.1 (gw_W Γ τ r.2 o)) := by
  refine gw_enter (by decide) (Nat.le_of_ble_eq_true rfl) (fun K C E => ?_)
  unfold f_X4_pointsTo at hf
  refine gj_aload_n C 0 dX4_pointsTo_0 rfl ?_
  refine gj_aload_n C 0 dX4_pointsTo_1 rfl ?_
  refine gj_iload_n C 1 dX4_pointsTo_2 rfl ?_
  replace hf := gw_bnd hf
  obtain ⟨r1, hr1, hf⟩ := hf
  refine gj_cVi (As := [.int a1]) (rest := [.ref (gw_a Γ 132)]) C cb_X4_77 (s_X4_isStudent (gw_l K) Γ τ μ o a1 r1 hr1) rfl (Nat.le_of_ble_eq_true rfl) gw_atD rfl rfl dX4_pointsTo_3 (gw_rmk rfl) rfl ?_
  refine gj_if_ne C 13 dX4_pointsTo_6 (by decide) (fun c => ?_) (fun c => ?_)
  · replace hf := gw_iff hf c
    refine gj_aload_n C 0 dX4_pointsTo_13 rfl ?_
    refine g_X4_40 C  dX4_pointsTo_14 ?_
    refine gj_iload_n C 1 dX4_pointsTo_17 rfl ?_
    obtain ⟨g2, hf⟩ := gw_ifs hf
    refine gj_bld (j := 11) C (by decide) (gw_ibv g2) dX4_pointsTo_18 ?_
    refine gj_iconst (v := -1) C dX4_pointsTo_19 (by decide) ?_
    refine gj_ic_ne C 27 dX4_pointsTo_20 (by decide) (fun c => ?_) (fun c => ?_)
    · replace hf := gw_iff hf c
      refine gj_iconst (v := 0) C dX4_pointsTo_27 (by decide) ?_
      refine p_X4_68 C  dX4_pointsTo_28 ?_
      refine gj_aload_n C 0 dX4_pointsTo_31 rfl ?_
      refine g_X4_68 C  (gw_up_s _ _ _ _) dX4_pointsTo_32 ?_
      refine gj_if_ne C 50 dX4_pointsTo_35 (by decide) (fun c => absurd (by decide) c) (fun _ => ?_)
      refine gj_aload_n C 0 dX4_pointsTo_38 rfl ?_
      refine gj_iload_n C 1 dX4_pointsTo_39 rfl ?_
      refine gj_aload_n C 0 dX4_pointsTo_40 rfl ?_
      replace hf := gw_bnd hf
      obtain ⟨r3, hr3, hf⟩ := hf
      refine gj_cVi (As := []) (rest := [.int a1, .ref (gw_a Γ 132)]) C cb_X4_156 (s_X4_participants (gw_l K) Γ τ (gw_up μ 0 18 (0 : Int32)) o  r3 hr3) rfl (Nat.le_of_ble_eq_true rfl) gw_atD rfl rfl dX4_pointsTo_41 (gw_rmk rfl) rfl ?_
      replace hf := gw_bnd hf
      obtain ⟨r4, hr4, hf⟩ := hf
      refine gj_cVi (As := [.int a1, .int r3]) (rest := []) C cb_X4_159 (s_X4_pointer (gw_l K) Γ τ (gw_up μ 0 18 (0 : Int32)) o a1 r3 r4 hr4) rfl (Nat.le_of_ble_eq_true rfl) gw_atD rfl rfl dX4_pointsTo_44 (gw_rmk rfl) rfl ?_
      refine gj_goto C 51 dX4_pointsTo_47 (by decide) ?_
      cases hf
      exact gj_iret C E dX4_pointsTo_51 (Nat.le_of_ble_eq_true rfl) (Nat.le_of_ble_eq_true rfl)
    · replace hf := gw_ift hf c
      refine gj_iconst (v := 2) C dX4_pointsTo_23 (by decide) ?_
      refine gj_goto C 28 dX4_pointsTo_24 (by decide) ?_
      refine p_X4_68 C  dX4_pointsTo_28 ?_
      refine gj_aload_n C 0 dX4_pointsTo_31 rfl ?_
      refine g_X4_68 C  (gw_up_s _ _ _ _) dX4_pointsTo_32 ?_
      refine gj_if_ne C 50 dX4_pointsTo_35 (by decide) (fun _ => ?_) (fun c => absurd c (by decide))
      refine gj_iconst (v := 0) C dX4_pointsTo_50 (by decide) ?_
      cases hf
      exact gj_iret C E dX4_pointsTo_51 (Nat.le_of_ble_eq_true rfl) (Nat.le_of_ble_eq_true rfl)
  · replace hf := gw_ift hf c
    refine gj_iconst (v := 1) C dX4_pointsTo_9 (by decide) ?_
    refine gj_goto C 28 dX4_pointsTo_10 (by decide) ?_
    refine p_X4_68 C  dX4_pointsTo_28 ?_
    refine gj_aload_n C 0 dX4_pointsTo_31 rfl ?_
    refine g_X4_68 C  (gw_up_s _ _ _ _) dX4_pointsTo_32 ?_
    refine gj_if_ne C 50 dX4_pointsTo_35 (by decide) (fun _ => ?_) (fun c => absurd c (by decide))
    refine gj_iconst (v := 0) C dX4_pointsTo_50 (by decide) ?_
    cases hf
    exact gj_iret C E dX4_pointsTo_51 (Nat.le_of_ble_eq_true rfl) (Nat.le_of_ble_eq_true rfl)
set_option maxRecDepth 100000 in
set_option maxHeartbeats 4000000 in
theorem l_X4_isOnCircle_1 {K : gw_K} {Γ : gw_G} (C : gw_C K Γ cX4_isOnCircle 4 RX4) (μ : gw_S) (τ : gw_S) (o : Nat → Int64) (v1 : Int32) : ∀ (n : Nat) (v2 : Int32) (v3 : Int32) (T : Int32 × Int32), gw_it (b_X4_isOnCircle_1 μ v1) n (v2, v3) = some T → (gw_J K Γ gr_X4_isOnCircle 0 0 (gw_W Γ τ μ o) 33 [(0, .ref (gw_a Γ 132)), (1, .int v1), (2, .int T.1), (3, .int T.2)] []) → gw_J K Γ gr_X4_isOnCircle 0 0 (gw_W Γ τ μ o) 9 [(0, .ref (gw_a Γ 132)), (1, .int v1), (2, .int v2), (3, .int v3)] [] := by
  intro n
  induction n with
  | zero => intro v2 v3 T  h; cases h
  | succ n ih =>
    intro v2 v3 T  h k
    obtain ⟨q, hf, hr⟩ := gw_it_s h
    rw [b_X4_isOnCircle_1] at hf
    refine gj_iload_n C 3 dX4_isOnCircle_9 rfl ?_
    refine gj_bipush (v := 16) C dX4_isOnCircle_10 (by decide) ?_
    refine gj_ic_ge C 33 dX4_isOnCircle_12 (by decide) (fun c => ?_) (fun c => ?_)
    · replace hf := gw_ift hf c
      cases hf
      cases gw_ir hr
      exact gj_pick [0, 1, 2, 3] _ rfl (k )
    · replace hf := gw_iff hf c
      refine gj_iload_n C 2 dX4_isOnCircle_15 rfl ?_
      refine gj_iload_n C 1 dX4_isOnCircle_16 rfl ?_
      refine gj_ic_eq C 33 dX4_isOnCircle_17 (by decide) (fun c => ?_) (fun c => ?_)
      · replace hf := gw_ift hf c
        cases hf
        cases gw_ir hr
        exact gj_pick [0, 1, 2, 3] _ rfl (k )
      · replace hf := gw_iff hf c
        refine gj_aload_n C 0 dX4_isOnCircle_20 rfl ?_
        refine g_X4_58 C  dX4_isOnCircle_21 ?_
        refine gj_iload_n C 2 dX4_isOnCircle_24 rfl ?_
        obtain ⟨g2, hf⟩ := gw_ifs hf
        refine gj_bld (j := 17) C (by decide) (gw_ibv g2) dX4_isOnCircle_25 ?_
        refine gj_istore_n C 2 [(2, .int (μ 17 v2.toNatClampNeg)), (0, .ref (gw_a Γ 132)), (1, .int v1), (3, .int v3)] dX4_isOnCircle_26 rfl (by decide) rfl ?_
        refine gj_iinc C 3 3 (v3 + 1) [(3, .int (v3 + 1)), (2, .int (μ 17 v2.toNatClampNeg)), (0, .ref (gw_a Γ 132)), (1, .int v1)] dX4_isOnCircle_27 rfl rfl (by decide) rfl ?_
        refine gj_goto C 9 dX4_isOnCircle_30 (by decide) ?_
        cases hf
        replace hr := gw_il hr
        exact gj_pick [2, 3, 1, 0] _ rfl (ih _ _ _  hr k)
set_option maxRecDepth 100000 in
set_option maxHeartbeats 4000000 in
theorem s_X4_isOnCircle (l : Launch) (Γ : gw_G) (τ μ : gw_S) (o : Nat → Int64) (a1 : Int32) (r : Int32) (hf : f_X4_isOnCircle μ a1 = some r) : gw_M l yX4_isOnCircle [.code yX4_isOnCircle cX4_isOnCircle 4 (some .boolean)] gr_X4_isOnCircle 0 0 Γ [.ref (gw_a Γ 132), .int a1] (gw_W Γ τ μ o) (gw_qi Γ r (gw_W Γ τ μ o)) := by
  refine gw_enter (by decide) (Nat.le_of_ble_eq_true rfl) (fun K C E => ?_)
  unfold f_X4_isOnCircle at hf
  refine gj_aload_n C 0 dX4_isOnCircle_0 rfl ?_
  refine g_X4_58 C  dX4_isOnCircle_1 ?_
  refine gj_iload_n C 1 dX4_isOnCircle_4 rfl ?_
  obtain ⟨g1, hf⟩ := gw_ifs hf
  refine gj_bld (j := 17) C (by decide) (gw_ibv g1) dX4_isOnCircle_5 ?_
  refine gj_istore_n C 2 [(2, .int (μ 17 a1.toNatClampNeg)), (0, .ref (gw_a Γ 132)), (1, .int a1)] dX4_isOnCircle_6 rfl (by decide) rfl ?_
  refine gj_iconst (v := 0) C dX4_isOnCircle_7 (by decide) ?_
  refine gj_istore_n C 3 [(3, .int (0 : Int32)), (2, .int (μ 17 a1.toNatClampNeg)), (0, .ref (gw_a Γ 132)), (1, .int a1)] dX4_isOnCircle_8 rfl (by decide) rfl ?_
  replace hf := gw_bnd hf
  obtain ⟨t3, ht3, hf⟩ := hf
  refine gj_pick [2, 3, 1, 0] _ rfl (l_X4_isOnCircle_1 C μ τ o a1 _ _ _ t3  ht3 (?_))
  refine gj_iload_n C 2 dX4_isOnCircle_33 rfl ?_
  refine gj_iload_n C 1 dX4_isOnCircle_34 rfl ?_
  refine gj_ic_ne C 42 dX4_isOnCircle_35 (by decide) (fun c => ?_) (fun c => ?_)
  · replace hf := gw_iff hf c
    refine gj_iconst (v := 0) C dX4_isOnCircle_42 (by decide) ?_
    cases hf
    exact gj_zret C E (by decide) dX4_isOnCircle_43 (Nat.le_of_ble_eq_true rfl) (Nat.le_of_ble_eq_true rfl)
  · replace hf := gw_ift hf c
    refine gj_iconst (v := 1) C dX4_isOnCircle_38 (by decide) ?_
    refine gj_goto C 43 dX4_isOnCircle_39 (by decide) ?_
    cases hf
    exact gj_zret C E (by decide) dX4_isOnCircle_43 (Nat.le_of_ble_eq_true rfl) (Nat.le_of_ble_eq_true rfl)
set_option maxRecDepth 100000 in
set_option maxHeartbeats 4000000 in
theorem l_X4_circles_1 {K : gw_K} {Γ : gw_G} (C : gw_C K Γ cX4_circles 4 RX4) (τ : gw_S) (o : Nat → Int64) (v1 : Int32) (v2 : Int32) : ∀ (n : Nat) (v3 : Int32) (μ : gw_S) (T : Int32 × gw_S), gw_it (b_X4_circles_1 v1 v2) n (v3, μ) = some T → (gw_J K Γ gr_X4_circles 0 0 (gw_W Γ τ T.2 o) 42 [(0, .ref (gw_a Γ 132)), (1, .int v1), (2, .int v2), (3, .int T.1)] []) → gw_J K Γ gr_X4_circles 0 0 (gw_W Γ τ μ o) 4 [(0, .ref (gw_a Γ 132)), (1, .int v1), (2, .int v2), (3, .int v3)] [] := by
  intro n
  induction n with
  | zero => intro v3 μ T  h; cases h
  | succ n ih =>
    intro v3 μ T  h k
    obtain ⟨q, hf, hr⟩ := gw_it_s h
    rw [b_X4_circles_1] at hf
    refine gj_iload_n C 3 dX4_circles_4 rfl ?_
    refine gj_aload_n C 0 dX4_circles_5 rfl ?_
    refine g_X4_74 C  rfl dX4_circles_6 ?_
    refine gj_ic_ge C 42 dX4_circles_9 (by decide) (fun c => ?_) (fun c => ?_)
    · replace hf := gw_ift hf c
      cases hf
      cases gw_ir hr
      exact gj_pick [0, 1, 2, 3] _ rfl (k )
    · replace hf := gw_iff hf c
      refine gj_aload_n C 0 dX4_circles_12 rfl ?_
      refine g_X4_58 C  dX4_circles_13 ?_
      refine gj_iload_n C 3 dX4_circles_16 rfl ?_
      refine gj_iload_n C 1 dX4_circles_17 rfl ?_
      refine gj_iload_n C 3 dX4_circles_18 rfl ?_
      replace hf := gw_bnd hf
      obtain ⟨r1, hr1, hf⟩ := hf
      refine gj_cSi (As := [.int v1, .int v3]) (rest := [.int v3, .ref (gw_a Γ 149)]) C cb_X4_84 (s_X4_has (gw_l K) Γ τ μ o v1 v3 r1 hr1) rfl (Nat.le_of_ble_eq_true rfl) dX4_circles_19 (gw_rmk rfl) rfl ?_
      refine gj_if_eq C 34 dX4_circles_22 (by decide) (fun c => ?_) (fun c => ?_)
      · replace hf := gw_ift hf c
        refine gj_iload_n C 3 dX4_circles_34 rfl ?_
        obtain ⟨g2, hf⟩ := gw_ifs hf
        refine gj_bst (j := 17) C (by decide) (gw_ibv g2) dX4_circles_35 ?_
        refine gj_iinc C 3 3 (v3 + 1) [(3, .int (v3 + 1)), (0, .ref (gw_a Γ 132)), (1, .int v1), (2, .int v2)] dX4_circles_36 rfl rfl (by decide) rfl ?_
        refine gj_goto C 4 dX4_circles_39 (by decide) ?_
        cases hf
        replace hr := gw_il hr
        exact gj_pick [1, 2, 3, 0] _ rfl (ih _ _ _  hr k)
      · replace hf := gw_iff hf c
        refine gj_aload_n C 0 dX4_circles_25 rfl ?_
        refine gj_iload_n C 3 dX4_circles_26 rfl ?_
        refine gj_iload_n C 1 dX4_circles_27 rfl ?_
        replace hf := gw_bnd hf
        obtain ⟨r3, hr3, hf⟩ := hf
        refine gj_cVi (As := [.int v3, .int v1]) (rest := [.int v3, .ref (gw_a Γ 149)]) C cb_X4_159 (s_X4_pointer (gw_l K) Γ τ μ o v3 v1 r3 hr3) rfl (Nat.le_of_ble_eq_true rfl) gw_atD rfl rfl dX4_circles_28 (gw_rmk rfl) rfl ?_
        refine gj_goto C 35 dX4_circles_31 (by decide) ?_
        obtain ⟨g4, hf⟩ := gw_ifs hf
        refine gj_bst (j := 17) C (by decide) (gw_ibv g4) dX4_circles_35 ?_
        refine gj_iinc C 3 3 (v3 + 1) [(3, .int (v3 + 1)), (0, .ref (gw_a Γ 132)), (1, .int v1), (2, .int v2)] dX4_circles_36 rfl rfl (by decide) rfl ?_
        refine gj_goto C 4 dX4_circles_39 (by decide) ?_
        cases hf
        replace hr := gw_il hr
        exact gj_pick [1, 2, 3, 0] _ rfl (ih _ _ _  hr k)
set_option maxRecDepth 100000 in
set_option maxHeartbeats 4000000 in
theorem l_X4_circles_2 {K : gw_K} {Γ : gw_G} (C : gw_C K Γ cX4_circles 4 RX4) (τ : gw_S) (o : Nat → Int64) (v1 : Int32) : ∀ (n : Nat) (v2 : Int32) (v3 : Int32) (μ : gw_S) (T : Int32 × Int32 × gw_S), gw_it (b_X4_circles_2 v1) n (v2, v3, μ) = some T → (gw_J K Γ gr_X4_circles 0 0 (gw_W Γ τ T.2.2 o) 94 [(0, .ref (gw_a Γ 132)), (1, .int v1), (2, .int T.1), (3, .int T.2.1)] []) → gw_J K Γ gr_X4_circles 0 0 (gw_W Γ τ μ o) 44 [(0, .ref (gw_a Γ 132)), (1, .int v1), (2, .int v2), (3, .int v3)] [] := by
  intro n
  induction n with
  | zero => intro v2 v3 μ T  h; cases h
  | succ n ih =>
    intro v2 v3 μ T  h k
    obtain ⟨q, hf, hr⟩ := gw_it_s h
    rw [b_X4_circles_2] at hf
    refine gj_iload_n C 3 dX4_circles_44 rfl ?_
    refine gj_aload_n C 0 dX4_circles_45 rfl ?_
    refine g_X4_74 C  rfl dX4_circles_46 ?_
    refine gj_ic_ge C 94 dX4_circles_49 (by decide) (fun c => ?_) (fun c => ?_)
    · replace hf := gw_ift hf c
      cases hf
      cases gw_ir hr
      exact gj_pick [0, 1, 2, 3] _ rfl (k )
    · replace hf := gw_iff hf c
      refine gj_iload_n C 1 dX4_circles_52 rfl ?_
      refine gj_iload_n C 3 dX4_circles_53 rfl ?_
      replace hf := gw_bnd hf
      obtain ⟨r6, hr6, hf⟩ := hf
      refine gj_cSi (As := [.int v1, .int v3]) (rest := []) C cb_X4_84 (s_X4_has (gw_l K) Γ τ μ o v1 v3 r6 hr6) rfl (Nat.le_of_ble_eq_true rfl) dX4_circles_54 (gw_rmk rfl) rfl ?_
      refine gj_if_eq C 88 dX4_circles_57 (by decide) (fun c => ?_) (fun c => ?_)
      · replace hf := gw_ift hf c
        refine gj_iinc C 3 3 (v3 + 1) [(3, .int (v3 + 1)), (0, .ref (gw_a Γ 132)), (1, .int v1), (2, .int v2)] dX4_circles_88 rfl rfl (by decide) rfl ?_
        refine gj_goto C 44 dX4_circles_91 (by decide) ?_
        cases hf
        replace hr := gw_il hr
        exact gj_pick [1, 2, 3, 0] _ rfl (ih _ _ _ _  hr k)
      · replace hf := gw_iff hf c
        refine gj_aload_n C 0 dX4_circles_60 rfl ?_
        refine gj_iload_n C 3 dX4_circles_61 rfl ?_
        replace hf := gw_bnd hf
        obtain ⟨r7, hr7, hf⟩ := hf
        refine gj_cVi (As := [.int v3]) (rest := []) C cb_X4_162 (s_X4_isOnCircle (gw_l K) Γ τ μ o v3 r7 hr7) rfl (Nat.le_of_ble_eq_true rfl) gw_atD rfl rfl dX4_circles_62 (gw_rmk rfl) rfl ?_
        refine gj_if_eq C 88 dX4_circles_65 (by decide) (fun c => ?_) (fun c => ?_)
        · replace hf := gw_ift hf c
          refine gj_iinc C 3 3 (v3 + 1) [(3, .int (v3 + 1)), (0, .ref (gw_a Γ 132)), (1, .int v1), (2, .int v2)] dX4_circles_88 rfl rfl (by decide) rfl ?_
          refine gj_goto C 44 dX4_circles_91 (by decide) ?_
          cases hf
          replace hr := gw_il hr
          exact gj_pick [1, 2, 3, 0] _ rfl (ih _ _ _ _  hr k)
        · replace hf := gw_iff hf c
          refine gj_aload_n C 0 dX4_circles_68 rfl ?_
          refine g_X4_61 C  dX4_circles_69 ?_
          refine gj_iload_n C 3 dX4_circles_72 rfl ?_
          refine gj_aload_n C 0 dX4_circles_73 rfl ?_
          refine g_X4_58 C  dX4_circles_74 ?_
          refine gj_iload_n C 3 dX4_circles_77 rfl ?_
          obtain ⟨g8, hf⟩ := gw_ifs hf
          refine gj_bld (j := 17) C (by decide) (gw_ibv g8) dX4_circles_78 ?_
          obtain ⟨g9, hf⟩ := gw_ifs hf
          refine gj_bst (j := 18) C (by decide) (gw_ibv g9) dX4_circles_79 ?_
          refine gj_iload_n C 2 dX4_circles_80 rfl ?_
          refine gj_iconst (v := 1) C dX4_circles_81 (by decide) ?_
          refine gj_iload_n C 3 dX4_circles_82 rfl ?_
          refine gj_ishl C dX4_circles_83 ?_
          refine gj_iconst (v := -1) C dX4_circles_84 (by decide) ?_
          refine gj_ixor C dX4_circles_85 ?_
          refine gj_iand C dX4_circles_86 ?_
          refine gj_istore_n C 2 [(2, .int (v2 &&& (((1 : Int32) <<< (v3 &&& 31)) ^^^ (-1 : Int32)))), (0, .ref (gw_a Γ 132)), (1, .int v1), (3, .int v3)] dX4_circles_87 rfl (by decide) rfl ?_
          refine gj_iinc C 3 3 (v3 + 1) [(3, .int (v3 + 1)), (2, .int (v2 &&& (((1 : Int32) <<< (v3 &&& 31)) ^^^ (-1 : Int32)))), (0, .ref (gw_a Γ 132)), (1, .int v1)] dX4_circles_88 rfl rfl (by decide) rfl ?_
          refine gj_goto C 44 dX4_circles_91 (by decide) ?_
          cases hf
          replace hr := gw_il hr
          exact gj_pick [2, 3, 1, 0] _ rfl (ih _ _ _ _  hr k)
set_option maxRecDepth 100000 in
set_option maxHeartbeats 4000000 in
theorem s_X4_circles (l : Launch) (Γ : gw_G) (τ μ : gw_S) (o : Nat → Int64) (a1 : Int32) (r : Int32 × gw_S) (hf : f_X4_circles μ a1 = some r) : gw_M l yX4_circles [.code yX4_circles cX4_circles 4 (some .int)] gr_X4_circles 0 0 Γ [.ref (gw_a Γ 132), .int a1] (gw_W Γ τ μ o) (gw_qi Γ r.1 (gw_W Γ τ r.2 o)) := by
  refine gw_enter (by decide) (Nat.le_of_ble_eq_true rfl) (fun K C E => ?_)
  unfold f_X4_circles at hf
  refine gj_iload_n C 1 dX4_circles_0 rfl ?_
  refine gj_istore_n C 2 [(2, .int a1), (0, .ref (gw_a Γ 132)), (1, .int a1)] dX4_circles_1 rfl (by decide) rfl ?_
  refine gj_iconst (v := 0) C dX4_circles_2 (by decide) ?_
  refine gj_istore_n C 3 [(3, .int (0 : Int32)), (2, .int a1), (0, .ref (gw_a Γ 132)), (1, .int a1)] dX4_circles_3 rfl (by decide) rfl ?_
  replace hf := gw_bnd hf
  obtain ⟨t5, ht5, hf⟩ := hf
  refine gj_pick [2, 3, 1, 0] _ rfl (l_X4_circles_1 C τ o a1 a1 _ _ _ t5  ht5 (?_))
  refine gj_iconst (v := 0) C dX4_circles_42 (by decide) ?_
  refine gj_istore_n C 3 [(3, .int (0 : Int32)), (0, .ref (gw_a Γ 132)), (1, .int a1), (2, .int a1)] dX4_circles_43 rfl (by decide) rfl ?_
  replace hf := gw_bnd hf
  obtain ⟨t10, ht10, hf⟩ := hf
  refine gj_pick [1, 2, 3, 0] _ rfl (l_X4_circles_2 C τ o a1 _ _ _ _ t10  ht10 (?_))
  refine gj_iload_n C 2 dX4_circles_94 rfl ?_
  cases hf
  exact gj_iret C E dX4_circles_95 (Nat.le_of_ble_eq_true rfl) (Nat.le_of_ble_eq_true rfl)
set_option maxRecDepth 100000 in
set_option maxHeartbeats 4000000 in
theorem l_X4_runExchange_1 {K : gw_K} {Γ : gw_G} (C : gw_C K Γ cX4_runExchange 4 RX4) (τ : gw_S) (o : Nat → Int64) : ∀ (n : Nat) (v1 : Int32) (μ : gw_S) (T : Int32 × gw_S), gw_it (b_X4_runExchange_1) n (v1, μ) = some T → (gw_J K Γ gr_X4_runExchange 0 0 (gw_W Γ τ T.2 o) 28 [(0, .ref (gw_a Γ 132)), (1, .int T.1)] []) → gw_J K Γ gr_X4_runExchange 0 0 (gw_W Γ τ μ o) 7 [(0, .ref (gw_a Γ 132)), (1, .int v1)] [] := by
  intro n
  induction n with
  | zero => intro v1 μ T  h; cases h
  | succ n ih =>
    intro v1 μ T  h k
    obtain ⟨q, hf, hr⟩ := gw_it_s h
    rw [b_X4_runExchange_1] at hf
    refine gj_iload_n C 1 dX4_runExchange_7 rfl ?_
    refine gj_aload_n C 0 dX4_runExchange_8 rfl ?_
    refine g_X4_74 C  rfl dX4_runExchange_9 ?_
    refine gj_ic_ge C 28 dX4_runExchange_12 (by decide) (fun c => ?_) (fun c => ?_)
    · replace hf := gw_ift hf c
      cases hf
      cases gw_ir hr
      exact gj_pick [0, 1] _ rfl (k )
    · replace hf := gw_iff hf c
      refine gj_aload_n C 0 dX4_runExchange_15 rfl ?_
      refine g_X4_61 C  dX4_runExchange_16 ?_
      refine gj_iload_n C 1 dX4_runExchange_19 rfl ?_
      refine gj_iload_n C 1 dX4_runExchange_20 rfl ?_
      obtain ⟨g1, hf⟩ := gw_ifs hf
      refine gj_bst (j := 18) C (by decide) (gw_ibv g1) dX4_runExchange_21 ?_
      refine gj_iinc C 1 1 (v1 + 1) [(1, .int (v1 + 1)), (0, .ref (gw_a Γ 132))] dX4_runExchange_22 rfl rfl (by decide) rfl ?_
      refine gj_goto C 7 dX4_runExchange_25 (by decide) ?_
      cases hf
      replace hr := gw_il hr
      exact gj_pick [1, 0] _ rfl (ih _ _ _  hr k)
set_option maxRecDepth 100000 in
set_option maxHeartbeats 4000000 in
theorem l_X4_runExchange_2 {K : gw_K} {Γ : gw_G} (C : gw_C K Γ cX4_runExchange 4 RX4) (τ : gw_S) (o : Nat → Int64) : ∀ (n : Nat) (v1 : Int32) (v2 : Int32) (μ : gw_S) (T : Int32 × Int32 × gw_S), gw_it (b_X4_runExchange_2) n (v1, v2, μ) = some T → (gw_J K Γ gr_X4_runExchange 0 0 (gw_W Γ τ T.2.2 o) 57 [(0, .ref (gw_a Γ 132)), (1, .int T.1), (2, .int T.2.1)] []) → gw_J K Γ gr_X4_runExchange 0 0 (gw_W Γ τ μ o) 35 [(0, .ref (gw_a Γ 132)), (1, .int v1), (2, .int v2)] [] := by
  intro n
  induction n with
  | zero => intro v1 v2 μ T  h; cases h
  | succ n ih =>
    intro v1 v2 μ T  h k
    obtain ⟨q, hf, hr⟩ := gw_it_s h
    rw [b_X4_runExchange_2] at hf
    refine gj_iload_n C 2 dX4_runExchange_35 rfl ?_
    refine gj_bipush (v := 16) C dX4_runExchange_36 (by decide) ?_
    refine gj_ic_ge C 57 dX4_runExchange_38 (by decide) (fun c => ?_) (fun c => ?_)
    · replace hf := gw_ift hf c
      cases hf
      cases gw_ir hr
      exact gj_pick [0, 1, 2] _ rfl (k )
    · replace hf := gw_iff hf c
      refine gj_iload_n C 1 dX4_runExchange_41 rfl ?_
      refine gj_if_eq C 57 dX4_runExchange_42 (by decide) (fun c => ?_) (fun c => ?_)
      · replace hf := gw_ift hf c
        cases hf
        cases gw_ir hr
        exact gj_pick [0, 1, 2] _ rfl (k )
      · replace hf := gw_iff hf c
        refine gj_aload_n C 0 dX4_runExchange_45 rfl ?_
        refine gj_iload_n C 1 dX4_runExchange_46 rfl ?_
        replace hf := gw_bnd hf
        obtain ⟨r4, hr4, hf⟩ := hf
        refine gj_cVi (As := [.int v1]) (rest := []) C cb_X4_165 (s_X4_circles (gw_l K) Γ τ μ o v1 r4 hr4) rfl (Nat.le_of_ble_eq_true rfl) gw_atD rfl rfl dX4_runExchange_47 (gw_rmk rfl) rfl ?_
        refine gj_istore_n C 1 [(1, .int r4.1), (0, .ref (gw_a Γ 132)), (2, .int v2)] dX4_runExchange_50 rfl (by decide) rfl ?_
        refine gj_iinc C 2 2 (v2 + 1) [(2, .int (v2 + 1)), (1, .int r4.1), (0, .ref (gw_a Γ 132))] dX4_runExchange_51 rfl rfl (by decide) rfl ?_
        refine gj_goto C 35 dX4_runExchange_54 (by decide) ?_
        cases hf
        replace hr := gw_il hr
        exact gj_pick [2, 1, 0] _ rfl (ih _ _ _ _  hr k)
set_option maxRecDepth 100000 in
set_option maxHeartbeats 4000000 in
theorem l_X4_runExchange_3 {K : gw_K} {Γ : gw_G} (C : gw_C K Γ cX4_runExchange 4 RX4) (τ : gw_S) (o : Nat → Int64) (v1 : Int32) (v2 : Int32) : ∀ (n : Nat) (v3 : Int32) (μ : gw_S) (T : Int32 × gw_S), gw_it (b_X4_runExchange_3 v1 v2) n (v3, μ) = some T → (gw_J K Γ gr_X4_runExchange 0 0 (gw_W Γ τ T.2 o) 106 [(0, .ref (gw_a Γ 132)), (1, .int v1), (2, .int v2), (3, .int T.1)] []) → gw_J K Γ gr_X4_runExchange 0 0 (gw_W Γ τ μ o) 61 [(0, .ref (gw_a Γ 132)), (1, .int v1), (2, .int v2), (3, .int v3)] [] := by
  intro n
  induction n with
  | zero => intro v3 μ T  h; cases h
  | succ n ih =>
    intro v3 μ T  h k
    obtain ⟨q, hf, hr⟩ := gw_it_s h
    rw [b_X4_runExchange_3] at hf
    refine gj_iload_n C 3 dX4_runExchange_61 rfl ?_
    refine gj_aload_n C 0 dX4_runExchange_62 rfl ?_
    refine g_X4_74 C  rfl dX4_runExchange_63 ?_
    refine gj_ic_ge C 106 dX4_runExchange_66 (by decide) (fun c => ?_) (fun c => ?_)
    · replace hf := gw_ift hf c
      cases hf
      cases gw_ir hr
      exact gj_pick [0, 1, 2, 3] _ rfl (k )
    · replace hf := gw_iff hf c
      refine gj_aload_n C 0 dX4_runExchange_69 rfl ?_
      refine g_X4_58 C  dX4_runExchange_70 ?_
      refine gj_iload_n C 3 dX4_runExchange_73 rfl ?_
      refine gj_aload_n C 0 dX4_runExchange_74 rfl ?_
      refine g_X4_61 C  dX4_runExchange_75 ?_
      refine gj_iload_n C 3 dX4_runExchange_78 rfl ?_
      obtain ⟨g6, hf⟩ := gw_ifs hf
      refine gj_bld (j := 18) C (by decide) (gw_ibv g6) dX4_runExchange_79 ?_
      refine gj_iload_n C 3 dX4_runExchange_80 rfl ?_
      refine gj_ic_ne C 88 dX4_runExchange_81 (by decide) (fun c => ?_) (fun c => ?_)
      · replace hf := gw_iff hf c
        refine gj_aload_n C 0 dX4_runExchange_88 rfl ?_
        refine g_X4_40 C  dX4_runExchange_89 ?_
        refine gj_aload_n C 0 dX4_runExchange_92 rfl ?_
        refine g_X4_61 C  dX4_runExchange_93 ?_
        refine gj_iload_n C 3 dX4_runExchange_96 rfl ?_
        obtain ⟨g7, hf⟩ := gw_ifs hf
        refine gj_bld (j := 18) C (by decide) (gw_ibv g7) dX4_runExchange_97 ?_
        obtain ⟨g8, hf⟩ := gw_ifs hf
        refine gj_bld (j := 11) C (by decide) (gw_ibv g8) dX4_runExchange_98 ?_
        obtain ⟨g9, hf⟩ := gw_ifs hf
        refine gj_bst (j := 17) C (by decide) (gw_ibv g9) dX4_runExchange_99 ?_
        refine gj_iinc C 3 3 (v3 + 1) [(3, .int (v3 + 1)), (0, .ref (gw_a Γ 132)), (1, .int v1), (2, .int v2)] dX4_runExchange_100 rfl rfl (by decide) rfl ?_
        refine gj_goto C 61 dX4_runExchange_103 (by decide) ?_
        cases hf
        replace hr := gw_il hr
        exact gj_pick [1, 2, 3, 0] _ rfl (ih _ _ _  hr k)
      · replace hf := gw_ift hf c
        refine gj_iconst (v := -1) C dX4_runExchange_84 (by decide) ?_
        refine gj_goto C 99 dX4_runExchange_85 (by decide) ?_
        obtain ⟨g10, hf⟩ := gw_ifs hf
        refine gj_bst (j := 17) C (by decide) (gw_ibv g10) dX4_runExchange_99 ?_
        refine gj_iinc C 3 3 (v3 + 1) [(3, .int (v3 + 1)), (0, .ref (gw_a Γ 132)), (1, .int v1), (2, .int v2)] dX4_runExchange_100 rfl rfl (by decide) rfl ?_
        refine gj_goto C 61 dX4_runExchange_103 (by decide) ?_
        cases hf
        replace hr := gw_il hr
        exact gj_pick [1, 2, 3, 0] _ rfl (ih _ _ _  hr k)
set_option maxRecDepth 100000 in
set_option maxHeartbeats 4000000 in
theorem l_X4_runExchange_4 {K : gw_K} {Γ : gw_G} (C : gw_C K Γ cX4_runExchange 4 RX4) (τ : gw_S) (o : Nat → Int64) (v1 : Int32) : ∀ (n : Nat) (v2 : Int32) (v3 : Int32) (μ : gw_S) (T : Int32 × Int32 × gw_S), gw_it (b_X4_runExchange_4 v1) n (v2, v3, μ) = some T → (gw_J K Γ gr_X4_runExchange 0 0 (gw_W Γ τ T.2.2 o) 157 [(0, .ref (gw_a Γ 132)), (1, .int v1), (2, .int T.1), (3, .int T.2.1)] []) → gw_J K Γ gr_X4_runExchange 0 0 (gw_W Γ τ μ o) 108 [(0, .ref (gw_a Γ 132)), (1, .int v1), (2, .int v2), (3, .int v3)] [] := by
  intro n
  induction n with
  | zero => intro v2 v3 μ T  h; cases h
  | succ n ih =>
    intro v2 v3 μ T  h k
    obtain ⟨q, hf, hr⟩ := gw_it_s h
    rw [b_X4_runExchange_4] at hf
    refine gj_iload_n C 3 dX4_runExchange_108 rfl ?_
    refine gj_aload_n C 0 dX4_runExchange_109 rfl ?_
    refine g_X4_74 C  rfl dX4_runExchange_110 ?_
    refine gj_ic_ge C 157 dX4_runExchange_113 (by decide) (fun c => ?_) (fun c => ?_)
    · replace hf := gw_ift hf c
      cases hf
      cases gw_ir hr
      exact gj_pick [0, 1, 2, 3] _ rfl (k )
    · replace hf := gw_iff hf c
      refine gj_aload_n C 0 dX4_runExchange_116 rfl ?_
      refine g_X4_58 C  dX4_runExchange_117 ?_
      refine gj_iload_n C 3 dX4_runExchange_120 rfl ?_
      obtain ⟨g12, hf⟩ := gw_ifs hf
      refine gj_bld (j := 17) C (by decide) (gw_ibv g12) dX4_runExchange_121 ?_
      refine gj_iconst (v := -1) C dX4_runExchange_122 (by decide) ?_
      refine gj_ic_eq C 151 dX4_runExchange_123 (by decide) (fun c => ?_) (fun c => ?_)
      · replace hf := gw_ift hf c
        refine gj_iinc C 3 3 (v3 + 1) [(3, .int (v3 + 1)), (0, .ref (gw_a Γ 132)), (1, .int v1), (2, .int v2)] dX4_runExchange_151 rfl rfl (by decide) rfl ?_
        refine gj_goto C 108 dX4_runExchange_154 (by decide) ?_
        cases hf
        replace hr := gw_il hr
        exact gj_pick [1, 2, 3, 0] _ rfl (ih _ _ _ _  hr k)
      · replace hf := gw_iff hf c
        refine gj_aload_n C 0 dX4_runExchange_126 rfl ?_
        refine gj_iload_n C 3 dX4_runExchange_127 rfl ?_
        refine gj_aload_n C 0 dX4_runExchange_128 rfl ?_
        refine g_X4_40 C  dX4_runExchange_129 ?_
        refine gj_iload_n C 3 dX4_runExchange_132 rfl ?_
        obtain ⟨g13, hf⟩ := gw_ifs hf
        refine gj_bld (j := 11) C (by decide) (gw_ibv g13) dX4_runExchange_133 ?_
        replace hf := gw_bnd hf
        obtain ⟨r14, hr14, hf⟩ := hf
        refine gj_cVv (As := [.int v3, .int (μ 11 v3.toNatClampNeg)]) (rest := []) C cb_X4_135 (s_X4_gives (gw_l K) Γ τ μ o v3 (μ 11 v3.toNatClampNeg) r14 hr14) rfl (Nat.le_of_ble_eq_true rfl) gw_atD rfl rfl dX4_runExchange_134 (gw_rmk rfl) rfl ?_
        refine gj_aload_n C 0 dX4_runExchange_137 rfl ?_
        refine gj_iload_n C 3 dX4_runExchange_138 rfl ?_
        refine gj_aload_n C 0 dX4_runExchange_139 rfl ?_
        refine g_X4_58 C  dX4_runExchange_140 ?_
        refine gj_iload_n C 3 dX4_runExchange_143 rfl ?_
        obtain ⟨g15, hf⟩ := gw_ifs hf
        refine gj_bld (j := 17) C (by decide) (gw_ibv g15) dX4_runExchange_144 ?_
        replace hf := gw_bnd hf
        obtain ⟨r16, hr16, hf⟩ := hf
        refine gj_cVv (As := [.int v3, .int (r14 17 v3.toNatClampNeg)]) (rest := []) C cb_X4_132 (s_X4_enrols (gw_l K) Γ τ r14 o v3 (r14 17 v3.toNatClampNeg) r16 hr16) rfl (Nat.le_of_ble_eq_true rfl) gw_atD rfl rfl dX4_runExchange_145 (gw_rmk rfl) rfl ?_
        refine gj_iinc C 2 2 (v2 + 1) [(2, .int (v2 + 1)), (0, .ref (gw_a Γ 132)), (1, .int v1), (3, .int v3)] dX4_runExchange_148 rfl rfl (by decide) rfl ?_
        refine gj_iinc C 3 3 (v3 + 1) [(3, .int (v3 + 1)), (2, .int (v2 + 1)), (0, .ref (gw_a Γ 132)), (1, .int v1)] dX4_runExchange_151 rfl rfl (by decide) rfl ?_
        refine gj_goto C 108 dX4_runExchange_154 (by decide) ?_
        cases hf
        replace hr := gw_il hr
        exact gj_pick [2, 3, 1, 0] _ rfl (ih _ _ _ _  hr k)
set_option maxRecDepth 100000 in
set_option maxHeartbeats 4000000 in
theorem s_X4_runExchange (l : Launch) (Γ : gw_G) (τ μ : gw_S) (o : Nat → Int64) (r : Int32 × gw_S) (hf : f_X4_runExchange μ = some r) : gw_M l yX4_runExchange [.code yX4_runExchange cX4_runExchange 4 (some .int)] gr_X4_runExchange 0 0 Γ [.ref (gw_a Γ 132)] (gw_W Γ τ μ o) (gw_qi Γ r.1 (gw_W Γ τ r.2 o)) := by
  refine gw_enter (by decide) (Nat.le_of_ble_eq_true rfl) (fun K C E => ?_)
  unfold f_X4_runExchange at hf
  refine gj_aload_n C 0 dX4_runExchange_0 rfl ?_
  refine gj_iconst (v := 0) C dX4_runExchange_1 (by decide) ?_
  refine p_X4_68 C  dX4_runExchange_2 ?_
  refine gj_iconst (v := 0) C dX4_runExchange_5 (by decide) ?_
  refine gj_istore_n C 1 [(1, .int (0 : Int32)), (0, .ref (gw_a Γ 132))] dX4_runExchange_6 rfl (by decide) rfl ?_
  replace hf := gw_bnd hf
  obtain ⟨t2, ht2, hf⟩ := hf
  refine gj_pick [1, 0] _ rfl (l_X4_runExchange_1 C τ o _ _ _ t2  ht2 (?_))
  refine gj_aload_n C 0 dX4_runExchange_28 rfl ?_
  replace hf := gw_bnd hf
  obtain ⟨r3, hr3, hf⟩ := hf
  refine gj_cVi (As := []) (rest := []) C cb_X4_156 (s_X4_participants (gw_l K) Γ τ t2.2 o  r3 hr3) rfl (Nat.le_of_ble_eq_true rfl) gw_atD rfl rfl dX4_runExchange_29 (gw_rmk rfl) rfl ?_
  refine gj_istore_n C 1 [(1, .int r3), (0, .ref (gw_a Γ 132))] dX4_runExchange_32 rfl (by decide) rfl ?_
  refine gj_iconst (v := 0) C dX4_runExchange_33 (by decide) ?_
  refine gj_istore_n C 2 [(2, .int (0 : Int32)), (1, .int r3), (0, .ref (gw_a Γ 132))] dX4_runExchange_34 rfl (by decide) rfl ?_
  replace hf := gw_bnd hf
  obtain ⟨t5, ht5, hf⟩ := hf
  refine gj_pick [2, 1, 0] _ rfl (l_X4_runExchange_2 C τ o _ _ _ _ t5  ht5 (?_))
  refine gj_iconst (v := 0) C dX4_runExchange_57 (by decide) ?_
  refine gj_istore_n C 2 [(2, .int (0 : Int32)), (0, .ref (gw_a Γ 132)), (1, .int t5.1)] dX4_runExchange_58 rfl (by decide) rfl ?_
  refine gj_iconst (v := 0) C dX4_runExchange_59 (by decide) ?_
  refine gj_istore_n C 3 [(3, .int (0 : Int32)), (2, .int (0 : Int32)), (0, .ref (gw_a Γ 132)), (1, .int t5.1)] dX4_runExchange_60 rfl (by decide) rfl ?_
  replace hf := gw_bnd hf
  obtain ⟨t11, ht11, hf⟩ := hf
  refine gj_pick [2, 3, 1, 0] _ rfl (l_X4_runExchange_3 C τ o t5.1 (0 : Int32) _ _ _ t11  ht11 (?_))
  refine gj_iconst (v := 0) C dX4_runExchange_106 (by decide) ?_
  refine gj_istore_n C 3 [(3, .int (0 : Int32)), (0, .ref (gw_a Γ 132)), (1, .int t5.1), (2, .int (0 : Int32))] dX4_runExchange_107 rfl (by decide) rfl ?_
  replace hf := gw_bnd hf
  obtain ⟨t17, ht17, hf⟩ := hf
  refine gj_pick [1, 2, 3, 0] _ rfl (l_X4_runExchange_4 C τ o t5.1 _ _ _ _ t17  ht17 (?_))
  refine gj_aload_n C 0 dX4_runExchange_157 rfl ?_
  replace hf := gw_bnd hf
  obtain ⟨r18, hr18, hf⟩ := hf
  refine gj_cVv (As := []) (rest := []) C cb_X4_123 (s_X4_offers (gw_l K) Γ τ t17.2.2 o  r18 hr18) rfl (Nat.le_of_ble_eq_true rfl) gw_atD rfl rfl dX4_runExchange_158 (gw_rmk rfl) rfl ?_
  refine gj_iload_n C 2 dX4_runExchange_161 rfl ?_
  cases hf
  exact gj_iret C E dX4_runExchange_162 (Nat.le_of_ble_eq_true rfl) (Nat.le_of_ble_eq_true rfl)
